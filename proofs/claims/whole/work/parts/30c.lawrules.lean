/-! the law's own judgement: room_1, its own end; x cells of y slots made so far -/
theorem dL_ret : ret = some FieldType.boolean := rfl
abbrev m_law : bm_I := (yL_law, cL_law, 7, ret)
/-- what is known of the law's own start -/
def bm_ab (L : bm_L) (args : Array Value) (s : State) : Prop := (∃ b, args = #[Value.ref b]) ∧ L.1.stackTraces = false ∧ (∀ w ∈ lw_tbl, w.before args s = true) ∧ (Jvm.Cond.and given_1 narrow_1).before args s = true
def bm_VL (L : bm_L) (n pc : Nat) (ls : List (Nat × Value)) (st : List Value) (M : bm_M) (x y : Nat) : Prop :=
  ∀ (p : Program) (e : Env) (s : State) (m : MethodId) (args : Array Value) (below : List Frame) (meth : Method) (c : Code) (D : va_G) (cA : Nat → ClassId) (A : Nat → Prop) (ζ : Nat → Nat), bm_F L m_law D cA A ζ p s m args meth c → bm_ab L args s → A = (fun q : Nat => s.heap.size ≤ q) →
    ∀ (α : Nat → Nat) (H : Heap) (locs : List Loc) (lsA : Array Slot), (∀ k, 1000 ≤ k → α k = ζ k) → va_P D vwCl (bm_ws cA α n M) H → va_D A (bm_ws cA α n M) → va_S A s.heap H locs → lv_has lsA 7 (bm_ls α ls) →
    W p L.1 e room_1 s m args below meth c H locs x y (lw_Z below args s) (F0 m pc lsA (st.map (bm_re α)))
section BML
variable {L : bm_L} {n pc cx cy : Nat} {ls : List (Nat × Value)} {st : List Value} {M : bm_M}
theorem bl_iconst {z : Int} {v : Int32} (hd : decode m_law.2.1 pc = .ok (.iconst z, 1)) (hv : Int32.ofInt z = v) (k : bm_VL L n (pc + 1) ls (.int v :: st) M cx cy) : bm_VL L n pc ls (st) M cx cy := by
  intro p e s m args below meth c D cA A ζ hF hab hAA α H locs lsA a2 hP hD hS hl
  have ⟨hx, hb, hml, hown, hts, hr, hlk, hnm, hK, hA, hG⟩ := hF
  exact lv_iconst hx hb hd hv (k p e s m args below meth c D cA A ζ hF hab hAA α H locs lsA a2 hP hD hS hl)
theorem bl_bipush {z : Int} {v : Int32} (hd : decode m_law.2.1 pc = .ok (.bipush z, 2)) (hv : (Int8.ofInt z).toInt32 = v) (k : bm_VL L n (pc + 2) ls (.int v :: st) M cx cy) : bm_VL L n pc ls (st) M cx cy := by
  intro p e s m args below meth c D cA A ζ hF hab hAA α H locs lsA a2 hP hD hS hl
  have ⟨hx, hb, hml, hown, hts, hr, hlk, hnm, hK, hA, hG⟩ := hF
  exact lv_bipush hx hb hd hv (k p e s m args below meth c D cA A ζ hF hab hAA α H locs lsA a2 hP hD hS hl)
theorem bl_iadd {x y : Int32} (hd : decode m_law.2.1 pc = .ok (.iadd, 1))  (k : bm_VL L n (pc + 1) ls (.int (x + y) :: st) M cx cy) : bm_VL L n pc ls (.int y :: .int x :: st) M cx cy := by
  intro p e s m args below meth c D cA A ζ hF hab hAA α H locs lsA a2 hP hD hS hl
  have ⟨hx, hb, hml, hown, hts, hr, hlk, hnm, hK, hA, hG⟩ := hF
  exact lv_iadd hx hb hd  (k p e s m args below meth c D cA A ζ hF hab hAA α H locs lsA a2 hP hD hS hl)
theorem bl_isub {x y : Int32} (hd : decode m_law.2.1 pc = .ok (.isub, 1))  (k : bm_VL L n (pc + 1) ls (.int (x - y) :: st) M cx cy) : bm_VL L n pc ls (.int y :: .int x :: st) M cx cy := by
  intro p e s m args below meth c D cA A ζ hF hab hAA α H locs lsA a2 hP hD hS hl
  have ⟨hx, hb, hml, hown, hts, hr, hlk, hnm, hK, hA, hG⟩ := hF
  exact lv_isub hx hb hd  (k p e s m args below meth c D cA A ζ hF hab hAA α H locs lsA a2 hP hD hS hl)
theorem bl_iand {x y : Int32} (hd : decode m_law.2.1 pc = .ok (.iand, 1))  (k : bm_VL L n (pc + 1) ls (.int (x &&& y) :: st) M cx cy) : bm_VL L n pc ls (.int y :: .int x :: st) M cx cy := by
  intro p e s m args below meth c D cA A ζ hF hab hAA α H locs lsA a2 hP hD hS hl
  have ⟨hx, hb, hml, hown, hts, hr, hlk, hnm, hK, hA, hG⟩ := hF
  exact lv_iand hx hb hd  (k p e s m args below meth c D cA A ζ hF hab hAA α H locs lsA a2 hP hD hS hl)
theorem bl_i2l {x : Int32} (hd : decode m_law.2.1 pc = .ok (.i2l, 1))  (k : bm_VL L n (pc + 1) ls (.long x.toInt64 :: st) M cx cy) : bm_VL L n pc ls (.int x :: st) M cx cy := by
  intro p e s m args below meth c D cA A ζ hF hab hAA α H locs lsA a2 hP hD hS hl
  have ⟨hx, hb, hml, hown, hts, hr, hlk, hnm, hK, hA, hG⟩ := hF
  exact lv_i2l hx hb hd rfl (k p e s m args below meth c D cA A ζ hF hab hAA α H locs lsA a2 hP hD hS hl)
theorem bl_lcmp {x y : Int64} (hd : decode m_law.2.1 pc = .ok (.lcmp, 1))  (k : bm_VL L n (pc + 1) ls (.int (lg_cmp x y) :: st) M cx cy) : bm_VL L n pc ls (.long y :: .long x :: st) M cx cy := by
  intro p e s m args below meth c D cA A ζ hF hab hAA α H locs lsA a2 hP hD hS hl
  have ⟨hx, hb, hml, hown, hts, hr, hlk, hnm, hK, hA, hG⟩ := hF
  exact W.lcmp hx hb hd  (k p e s m args below meth c D cA A ζ hF hab hAA α H locs lsA a2 hP hD hS hl)
theorem bl_dup {v : Value} (hd : decode m_law.2.1 pc = .ok (.dup, 1)) (hv : v.category = 1) (k : bm_VL L n (pc + 1) ls (v :: v :: st) M cx cy) : bm_VL L n pc ls (v :: st) M cx cy := by
  intro p e s m args below meth c D cA A ζ hF hab hAA α H locs lsA a2 hP hD hS hl
  have ⟨hx, hb, hml, hown, hts, hr, hlk, hnm, hK, hA, hG⟩ := hF
  exact lv_dup hx hb hd (by rw [bm_re_cat]; exact hv) (k p e s m args below meth c D cA A ζ hF hab hAA α H locs lsA a2 hP hD hS hl)
theorem bl_iload_n {z : Fin 4} {x : Int32} (hd : decode m_law.2.1 pc = .ok (.iload_n z, 1)) (j : Nat) (hj : ls[j]? = some ((z : Nat), .int x)) (k : bm_VL L n (pc + 1) ls (.int x :: st) M cx cy) : bm_VL L n pc ls st M cx cy := by
  intro p e s m args below meth c D cA A ζ hF hab hAA α H locs lsA a2 hP hD hS hl
  have ⟨hx, hb, hml, hown, hts, hr, hlk, hnm, hK, hA, hG⟩ := hF
  exact lv_iload_n hx hb hd rfl (bm_lv hl hj) (k p e s m args below meth c D cA A ζ hF hab hAA α H locs lsA a2 hP hD hS hl)
theorem bl_iload {i : Nat} {x : Int32} (hd : decode m_law.2.1 pc = .ok (.iload i, 2)) (j : Nat) (hj : ls[j]? = some (i, .int x)) (k : bm_VL L n (pc + 2) ls (.int x :: st) M cx cy) : bm_VL L n pc ls st M cx cy := by
  intro p e s m args below meth c D cA A ζ hF hab hAA α H locs lsA a2 hP hD hS hl
  have ⟨hx, hb, hml, hown, hts, hr, hlk, hnm, hK, hA, hG⟩ := hF
  exact lv_iload hx hb hd (bm_lv hl hj) (k p e s m args below meth c D cA A ζ hF hab hAA α H locs lsA a2 hP hD hS hl)
theorem bl_aload_n {z : Fin 4} {x : Nat} (hd : decode m_law.2.1 pc = .ok (.aload_n z, 1)) (j : Nat) (hj : ls[j]? = some ((z : Nat), .ref x)) (k : bm_VL L n (pc + 1) ls (.ref x :: st) M cx cy) : bm_VL L n pc ls st M cx cy := by
  intro p e s m args below meth c D cA A ζ hF hab hAA α H locs lsA a2 hP hD hS hl
  have ⟨hx, hb, hml, hown, hts, hr, hlk, hnm, hK, hA, hG⟩ := hF
  exact lv_aload_n hx hb hd rfl (bm_lv hl hj) (k p e s m args below meth c D cA A ζ hF hab hAA α H locs lsA a2 hP hD hS hl)
theorem bl_istore {i : Nat} {x : Int32} {ls1 : List (Nat × Value)} (hd : decode m_law.2.1 pc = .ok (.istore i, 2)) (hi : i < m_law.2.2.1) (hok : bm_ok1 i ls = true) (hs : bm_set i (.int x) ls = ls1) (k : bm_VL L n (pc + 2) ls1 st M cx cy) : bm_VL L n pc ls (.int x :: st) M cx cy := by
  subst hs
  intro p e s m args below meth c D cA A ζ hF hab hAA α H locs lsA a2 hP hD hS hl
  have ⟨hx, hb, hml, hown, hts, hr, hlk, hnm, hK, hA, hG⟩ := hF
  exact lv_istore hx hb hd hl hi rfl (fun lsB hlB => k p e s m args below meth c D cA A ζ hF hab hAA α H locs lsB a2 hP hD hS (bm_set_has hok hlB))
theorem bl_astore_n {z : Fin 4} {x : Nat} {ls1 : List (Nat × Value)} (hd : decode m_law.2.1 pc = .ok (.astore_n z, 1)) (hi : (z : Nat) < m_law.2.2.1) (hok : bm_ok1 (z : Nat) ls = true) (hs : bm_set (z : Nat) (.ref x) ls = ls1) (k : bm_VL L n (pc + 1) ls1 st M cx cy) : bm_VL L n pc ls (.ref x :: st) M cx cy := by
  subst hs
  intro p e s m args below meth c D cA A ζ hF hab hAA α H locs lsA a2 hP hD hS hl
  have ⟨hx, hb, hml, hown, hts, hr, hlk, hnm, hK, hA, hG⟩ := hF
  exact lv_astore_n hx hb hd rfl hl hi rfl (fun lsB hlB => k p e s m args below meth c D cA A ζ hF hab hAA α H locs lsB a2 hP hD hS (bm_set_has hok hlB))
theorem bl_iinc {i j : Nat} {z : Int} {x v : Int32} {ls1 : List (Nat × Value)} (hd : decode m_law.2.1 pc = .ok (.iinc i z, 3)) (hj : ls[j]? = some (i, .int x)) (hv : x + Int32.ofInt z = v) (hi : i < m_law.2.2.1) (hok : bm_ok1 i ls = true) (hs : bm_set i (.int v) ls = ls1) (k : bm_VL L n (pc + 3) ls1 st M cx cy) : bm_VL L n pc ls st M cx cy := by
  subst hs
  intro p e s m args below meth c D cA A ζ hF hab hAA α H locs lsA a2 hP hD hS hl
  have ⟨hx, hb, hml, hown, hts, hr, hlk, hnm, hK, hA, hG⟩ := hF
  exact lv_iinc (k := j) hx hb hd hl (by simp only [bm_ls, List.getElem?_map, hj]; rfl) hv hi rfl (fun lsB hlB => k p e s m args below meth c D cA A ζ hF hab hAA α H locs lsB a2 hP hD hS (bm_set_has hok hlB))
theorem bl_goto {off : Int} {tgt : Nat} (hd : decode m_law.2.1 pc = .ok (.goto off, 3)) (ht : (pc : Int) + off = (tgt : Int)) (k : bm_VL L n tgt ls st M cx cy) : bm_VL L n pc ls st M cx cy := by
  intro p e s m args below meth c D cA A ζ hF hab hAA α H locs lsA a2 hP hD hS hl
  have ⟨hx, hb, hml, hown, hts, hr, hlk, hnm, hK, hA, hG⟩ := hF
  exact lv_goto hx hb hd ht (k p e s m args below meth c D cA A ζ hF hab hAA α H locs lsA a2 hP hD hS hl)
theorem bl_icmp_eq {x y : Int32} {off : Int} {tgt : Nat} (hd : decode m_law.2.1 pc = .ok (.if_icmp .eq off, 3)) (ht : (pc : Int) + off = (tgt : Int)) (kt : x = y → bm_VL L n tgt ls st M cx cy) (kf : ¬ x = y → bm_VL L n (pc + 3) ls st M cx cy) : bm_VL L n pc ls (.int y :: .int x :: st) M cx cy := by
  intro p e s m args below meth c D cA A ζ hF hab hAA α H locs lsA a2 hP hD hS hl
  have ⟨hx, hb, hml, hown, hts, hr, hlk, hnm, hK, hA, hG⟩ := hF
  exact lv_icmp_eq hx hb hd ht (fun h => kt h p e s m args below meth c D cA A ζ hF hab hAA α H locs lsA a2 hP hD hS hl) (fun h => kf h p e s m args below meth c D cA A ζ hF hab hAA α H locs lsA a2 hP hD hS hl)
theorem bl_icmp_ne {x y : Int32} {off : Int} {tgt : Nat} (hd : decode m_law.2.1 pc = .ok (.if_icmp .ne off, 3)) (ht : (pc : Int) + off = (tgt : Int)) (kt : ¬ x = y → bm_VL L n tgt ls st M cx cy) (kf : x = y → bm_VL L n (pc + 3) ls st M cx cy) : bm_VL L n pc ls (.int y :: .int x :: st) M cx cy := by
  intro p e s m args below meth c D cA A ζ hF hab hAA α H locs lsA a2 hP hD hS hl
  have ⟨hx, hb, hml, hown, hts, hr, hlk, hnm, hK, hA, hG⟩ := hF
  exact lv_icmp_ne hx hb hd ht (fun h => kt h p e s m args below meth c D cA A ζ hF hab hAA α H locs lsA a2 hP hD hS hl) (fun h => kf h p e s m args below meth c D cA A ζ hF hab hAA α H locs lsA a2 hP hD hS hl)
theorem bl_icmp_gt {x y : Int32} {off : Int} {tgt : Nat} (hd : decode m_law.2.1 pc = .ok (.if_icmp .gt off, 3)) (ht : (pc : Int) + off = (tgt : Int)) (kt : y < x → bm_VL L n tgt ls st M cx cy) (kf : ¬ y < x → bm_VL L n (pc + 3) ls st M cx cy) : bm_VL L n pc ls (.int y :: .int x :: st) M cx cy := by
  intro p e s m args below meth c D cA A ζ hF hab hAA α H locs lsA a2 hP hD hS hl
  have ⟨hx, hb, hml, hown, hts, hr, hlk, hnm, hK, hA, hG⟩ := hF
  exact lv_icmp_gt hx hb hd ht (fun h => kt h p e s m args below meth c D cA A ζ hF hab hAA α H locs lsA a2 hP hD hS hl) (fun h => kf h p e s m args below meth c D cA A ζ hF hab hAA α H locs lsA a2 hP hD hS hl)
theorem bl_if_ne {x : Int32} {off : Int} {tgt : Nat} (hd : decode m_law.2.1 pc = .ok (.ifCond .ne off, 3)) (ht : (pc : Int) + off = (tgt : Int)) (kt : ¬ x = 0 → bm_VL L n tgt ls st M cx cy) (kf : x = 0 → bm_VL L n (pc + 3) ls st M cx cy) : bm_VL L n pc ls (.int x :: st) M cx cy := by
  intro p e s m args below meth c D cA A ζ hF hab hAA α H locs lsA a2 hP hD hS hl
  have ⟨hx, hb, hml, hown, hts, hr, hlk, hnm, hK, hA, hG⟩ := hF
  exact lv_if_ne hx hb hd ht (fun h => kt h p e s m args below meth c D cA A ζ hF hab hAA α H locs lsA a2 hP hD hS hl) (fun h => kf h p e s m args below meth c D cA A ζ hF hab hAA α H locs lsA a2 hP hD hS hl)
theorem bl_if_eq {x : Int32} {off : Int} {tgt : Nat} (hd : decode m_law.2.1 pc = .ok (.ifCond .eq off, 3)) (ht : (pc : Int) + off = (tgt : Int)) (kt : x = 0 → bm_VL L n tgt ls st M cx cy) (kf : ¬ x = 0 → bm_VL L n (pc + 3) ls st M cx cy) : bm_VL L n pc ls (.int x :: st) M cx cy := by
  intro p e s m args below meth c D cA A ζ hF hab hAA α H locs lsA a2 hP hD hS hl
  have ⟨hx, hb, hml, hown, hts, hr, hlk, hnm, hK, hA, hG⟩ := hF
  exact lv_if_eq hx hb hd ht (fun h => kt h p e s m args below meth c D cA A ζ hF hab hAA α H locs lsA a2 hP hD hS hl) (fun h => kf h p e s m args below meth c D cA A ζ hF hab hAA α H locs lsA a2 hP hD hS hl)
theorem bl_tableIn {dflt lo hi : Int} {offs : Array Int} {len : Nat} {x : Int32} {off : Int} {tgt : Nat} (hd : decode m_law.2.1 pc = .ok (.tableswitch dflt lo hi offs, len)) (h1 : ¬ x.toInt < lo) (h2 : ¬ hi < x.toInt) (ho : offs[(x.toInt - lo).toNat]? = some off) (ht : (pc : Int) + off = (tgt : Int)) (k : bm_VL L n tgt ls st M cx cy) : bm_VL L n pc ls (.int x :: st) M cx cy := by
  intro p e s m args below meth c D cA A ζ hF hab hAA α H locs lsA a2 hP hD hS hl
  have ⟨hx, hb, hml, hown, hts, hr, hlk, hnm, hK, hA, hG⟩ := hF
  exact lv_tableIn hx hb hd h1 h2 ho ht (k p e s m args below meth c D cA A ζ hF hab hAA α H locs lsA a2 hP hD hS hl)
theorem bl_tableOut {dflt lo hi : Int} {offs : Array Int} {len : Nat} {x : Int32} {tgt : Nat} (hd : decode m_law.2.1 pc = .ok (.tableswitch dflt lo hi offs, len)) (h : x.toInt < lo ∨ hi < x.toInt) (ht : (pc : Int) + dflt = (tgt : Int)) (k : bm_VL L n tgt ls st M cx cy) : bm_VL L n pc ls (.int x :: st) M cx cy := by
  intro p e s m args below meth c D cA A ζ hF hab hAA α H locs lsA a2 hP hD hS hl
  have ⟨hx, hb, hml, hown, hts, hr, hlk, hnm, hK, hA, hG⟩ := hF
  exact lv_tableOut hx hb hd h ht (k p e s m args below meth c D cA A ζ hF hab hAA α H locs lsA a2 hP hD hS hl)
theorem bl_slen {v : Int32} (hd : decode m_law.2.1 pc = .ok (.arraylength, 1)) (hv : Int32.ofNat L.2.1 = v) (k : bm_VL L n (pc + 1) ls (.int v :: st) M cx cy) : bm_VL L n pc ls (.ref 1400 :: st) M cx cy := by
  intro p e s m args below meth c D cA A ζ hF hab hAA α H locs lsA a2 hP hD hS hl
  have ⟨hx, hb, hml, hown, hts, hr, hlk, hnm, hK, hA, hG⟩ := hF
  have h2 := (k p e s m args below meth c D cA A ζ hF hab hAA α H locs lsA a2 hP hD hS hl)
  show W _ _ _ _ _ _ _ _ _ _ _ _ _ _ _ (F0 m pc lsA (.ref (α 1400) :: _))
  rw [a2 1400 (by omega)]
  exact va_tlen hx hb hG.2.2.2.2.2.2.2.2.1 hS hv hd h2
theorem bl_sald {i : Int32} (hd : decode m_law.2.1 pc = .ok (.iaload, 1)) (hi : vp_in i L.2.1) (k : bm_VL L n (pc + 1) ls (.int (L.2.2 i.toNatClampNeg) :: st) M cx cy) : bm_VL L n pc ls (.int i :: .ref 1400 :: st) M cx cy := by
  intro p e s m args below meth c D cA A ζ hF hab hAA α H locs lsA a2 hP hD hS hl
  have ⟨hx, hb, hml, hown, hts, hr, hlk, hnm, hK, hA, hG⟩ := hF
  have h2 := (k p e s m args below meth c D cA A ζ hF hab hAA α H locs lsA a2 hP hD hS hl)
  show W _ _ _ _ _ _ _ _ _ _ _ _ _ _ _ (F0 m pc lsA (.int i :: .ref (α 1400) :: _))
  rw [a2 1400 (by omega)]
  exact va_ti hx hb hG.2.2.2.2.2.2.2.2.1 hS hi rfl hd h2
theorem bl_lald {i : Int32} {ob len : Nat} (hd : decode m_law.2.1 pc = .ok (.laload, 1)) (hs : bm_SH ob = .inr (2, len)) (ho : ob < n) (hi : vp_in i len) (k : bm_VL L n (pc + 1) ls (.long (M.2.1 ob i.toNatClampNeg) :: st) M cx cy) : bm_VL L n pc ls (.int i :: .ref ob :: st) M cx cy := by
  intro p e s m args below meth c D cA A ζ hF hab hAA α H locs lsA a2 hP hD hS hl
  have ⟨hx, hb, hml, hown, hts, hr, hlk, hnm, hK, hA, hG⟩ := hF
  exact va_lald hx hb hK hP ob 2 (bm_ws_arr ho hs) (bm_tys_at cA (by omega)) hi hd (k p e s m args below meth c D cA A ζ hF hab hAA α H locs lsA a2 hP hD hS hl)
theorem bl_ls {ls1 : List (Nat × Value)} (ks : List Nat) (hp : lv_pick ls ks = ls1) (k : bm_VL L n pc ls1 st M cx cy) : bm_VL L n pc ls st M cx cy := by
  intro p e s m args below meth c D cA A ζ hF hab hAA α H locs lsA a2 hP hD hS hl
  refine k p e s m args below meth c D cA A ζ hF hab hAA α H locs lsA a2 hP hD hS ?_
  subst hp
  refine ⟨hl.1, hl.2.1, fun q hq => hl.2.2 q ?_⟩
  obtain ⟨w, hw, rfl⟩ := List.mem_map.mp hq
  obtain ⟨j, -, hj⟩ := List.mem_filterMap.mp hw
  exact List.mem_map.mpr ⟨w, List.mem_of_getElem? hj, rfl⟩
/-- the law's end -/
theorem bl_ret (hd : decode m_law.2.1 pc = .ok (.ireturn, 1)) (hcx : cx ≤ 601024) (hcy : cy ≤ 7293034) : bm_VL L n pc ls [.int 1] M cx cy := by
  intro p e s m args below meth c D cA A ζ hF hab hAA α H locs lsA a2 hP hD hS hl
  have ⟨hx, hb, hml, hown, hts, hr, hlk, hnm, hK, hA, hG⟩ := hF
  obtain ⟨⟨b, rfl⟩, -⟩ := hab
  subst hAA
  refine va_forget (fun q hq => hS.2.2 q hq) ?_
  refine W.widen hcx hcy ?_
  exact lw_ret hx hb hr hlk hd
theorem bl_roomok {d n1 n2 : Nat} (mi2 : bm_I) (hd : d ≤ 1000) (h : mi2.2.2.1 ≤ 45) : (bm_rm d n1 n2).frames + 1 ≤ room_1.frames ∧ 8 + (mi2.2.2.1 + 11) + (bm_rm d n1 n2).locals ≤ room_1.locals := by
  refine ⟨?_, ?_⟩
  · show d + 1 ≤ 2048
    omega
  · show 8 + (mi2.2.2.1 + 11) + 64 * d ≤ 84000
    omega
theorem bl_callV {d i na b ci : Nat} {mi2 : bm_I} {As stk : List Value} {M1 : bm_M} {w : Value} (hd1 : d ≤ 1000) (hbn : b < n) (hs : bm_SH b = .inl ci) (hci : ∃ T N, vwCl[ci]? = some (mi2.1.cls, T, N)) (hd : decode m_law.2.1 pc = .ok (.invokevirtual i, 3)) (hm : bm_mc m_law.1.cls 0 i mi2 na) (hC : bm_C L mi2 d n n (.ref b :: As) M (fun r M' => r = some w ∧ M' = M1)) (hst : stk = As.reverse ++ .ref b :: st) (hna : As.length = na) (hwt : (st.map fun v => v.category).sum ≤ 8) (hcx : cx ≤ 601024) (hcy : cy ≤ 7293034) (k : bm_VL L n (pc + 3) ls (w :: st) M1 cx cy) : bm_VL L n pc ls stk M cx cy := by
  subst hst
  intro p e s m args below meth c D cA A ζ hF hab hAA α H locs lsA a2 hP hD hS hl
  have ⟨hx, hb, hml, hown, hts, hr, hlk, hnm, hK, hA, hG⟩ := hF
  rw [bm_stk]
  obtain ⟨hm, hini, hco, hcl, h45⟩ := hm
  have hz1 : n - n = 0 := Nat.sub_self n
  have hz2 : bm_sl n - bm_sl n = 0 := Nat.sub_self _
  refine bm_call (n1 := n) (n2 := n) (M1 := M) (A := A) (va_runV (bytes := mi2.2.1) (maxL := mi2.2.2.1) (ret := mi2.2.2.2) (C := mi2.1.cls) (As := As.map (bm_re α)) (rest := st.map (bm_re α)) (b := α b) ⟨hx, hb, hml, hown, hts⟩ (hC D cA ζ α H.size a2)
    ⟨callB_of na hts (bm_wgood hco) rfl rfl rfl (hts _ hini) (hts _ hm.1) hcl (bl_roomok mi2 hd1 h45), hts _ hm.2.1, hts _ hm.2.2⟩ ⟨bm_blind, by obtain ⟨T, N, hc⟩ := hci; exact va_recv hK hP hc (bm_ws_obj hbn hs), bm_pre (.ref b :: As) hP hD hS hA hK hG⟩ rfl (by rw [List.length_map]; exact hna) hl.1 rfl (lv_room (bm_wt hwt)) hd ⟨by rw [hz1]; exact hcx, by rw [hz2]; exact hcy⟩) hS (bm_AA (D := D) hD hS hA) (fun α2 r M2 H1 locs1 b1 b2 hq hP1 hD1 hS1 => ?_)
  have hα : α2 = α := by funext q; exact b1 q (by omega)
  subst hα
  obtain ⟨rfl, rfl⟩ := hq
  rw [hz1, hz2]
  exact k p e s m args below meth c D cA A ζ hF hab hAA α2 H1 locs1 lsA a2 hP1 hD1 hS1 hl
theorem bl_callI {d i na n2 b : Nat} {mi2 : bm_I} {As stk : List Value} {M1 : bm_M} (hd1 : d ≤ 1000) (hd : decode m_law.2.1 pc = .ok (.invokespecial i, 3)) (hm : bm_mc m_law.1.cls 3 i mi2 na) (hC : bm_C L mi2 d n n2 (.ref b :: As) M (fun r M' => r = none ∧ M' = M1)) (hst : stk = As.reverse ++ .ref b :: st) (hna : As.length = na) (hwt : (st.map fun v => v.category).sum ≤ 8) (hn2 : n ≤ n2) (hcx : cx + (n2 - n) ≤ 601024) (hcy : cy + (bm_sl n2 - bm_sl n) ≤ 7293034) (h1 : ls.all (fun q => bm_nr n n2 q.2) = true) (h2 : st.all (bm_nr n n2) = true) (k : bm_VL L n2 (pc + 3) ls st M1 (cx + (n2 - n)) (cy + (bm_sl n2 - bm_sl n))) : bm_VL L n pc ls stk M cx cy := by
  subst hst
  intro p e s m args below meth c D cA A ζ hF hab hAA α H locs lsA a2 hP hD hS hl
  have ⟨hx, hb, hml, hown, hts, hr, hlk, hnm, hK, hA, hG⟩ := hF
  rw [bm_stk]
  obtain ⟨hm, hini, hco, hcl, h45⟩ := hm
  have hrn : mi2.2.2.2 = none := hm.2.2.2
  refine bm_call (n1 := n) (n2 := n2) (M1 := M) (A := A) (va_runI (bytes := mi2.2.1) (maxL := mi2.2.2.1) (As := As.map (bm_re α)) (rest := st.map (bm_re α)) (b := α b) ⟨hx, hb, hml, hown, hts⟩ (hC D cA ζ α H.size a2)
    ⟨callB_of na hts (bm_wgood hco) (by rw [bm_w, hrn]) rfl rfl (hts _ hini) (hts _ hm.1) hcl (bl_roomok mi2 hd1 h45), hm.2.2.1, hts _ hm.2.1⟩ ⟨bm_blind, bm_pre (.ref b :: As) hP hD hS hA hK hG⟩ rfl (by rw [List.length_map]; exact hna) hl.1 rfl (lv_room (bm_wt hwt)) hd ⟨hcx, hcy⟩) hS (bm_AA (D := D) hD hS hA) (fun α2 r M2 H1 locs1 b1 b2 hq hP1 hD1 hS1 => ?_)
  obtain ⟨rfl, rfl⟩ := hq
  have h3 := k p e s m args below meth c D cA A ζ hF hab hAA α2 H1 locs1 lsA b2 hP1 hD1 hS1 (by rw [bm_nr_ls b1 h1]; exact hl)
  rw [bm_nr_st b1 h2] at h3
  exact h3
theorem bl_new {i ci : Nat} (hd : decode m_law.2.1 pc = .ok (.new i, 3)) (hc : bm_nw m_law.1.cls i ci) (hs : bm_SH n = .inl ci) (hw : bm_wf n M) (hn2 : n < 1000) (h1 : ls.all (fun q => bm_nr n (n + 1) q.2) = true) (h2 : st.all (bm_nr n (n + 1)) = true) (hcx : cx + 1 ≤ 601024) (hcy : cy + bm_sz n ≤ 7293034) (k : bm_VL L (n + 1) (pc + 3) ls (.ref n :: st) (bm_z M n) (cx + 1) (cy + bm_sz n)) : bm_VL L n pc ls st M cx cy := by
  intro p e s m args below meth c D cA A ζ hF hab hAA α H locs lsA a2 hP hD hS hl
  have ⟨hx, hb, hml, hown, hts, hr, hlk, hnm, hK, hA, hG⟩ := hF
  obtain ⟨C, T, N, hcl, hN, h12, hin, hty, hlink, hinst, hini⟩ := hc
  have hsz : bm_sz n = N := by unfold bm_sz; rw [hs]; exact hN
  rw [hsz] at hcy
  refine va_new (c0 := c) (ci := ci) (fs := bm_fs α (bm_z M n) n ci) hx hb hts hin (bm_ty ci) hty hown (hts _ hlink) (hts _ hinst) (hts _ hini) hK hP hD hS hA hcl (fun j hj => ?_) hcx hcy hd (fun q H1 hP1 hD1 hS1 => ?_)
  · rw [bm_dv (α := α) (M := M) (n := n) (k := j) (bm_nofl ci h12 j (by omega))]
    simp [vp_V, bm_fs, hN, hj]
  have hoff := bm_up_off (α := α) (n := n) (q := q)
  have he : bm_ws cA α n M ++ [(q, .inr (ci, bm_fs α (bm_z M n) n ci))] = bm_ws cA (bm_up α n q) (n + 1) (bm_z M n) := by
    rw [bm_ws_new hw hn2, bm_cell, hs]
  rw [he] at hP1 hD1
  rw [← bm_nr_st hoff h2]
  rw [hsz] at k
  have h3 := k p e s m args below meth c D cA A ζ hF hab hAA (bm_up α n q) H1 locs lsA (fun k hk => by rw [hoff k (by omega)]; exact a2 k hk) hP1 hD1 hS1 (by rw [bm_nr_ls hoff h1]; exact hl)
  have e4 : bm_re (bm_up α n q) (.ref n) = .ref q := by simp [bm_re, bm_up]
  rw [List.map_cons, e4] at h3
  exact h3
set_option maxRecDepth 100000 in
theorem bl_newa2 {z : Int32} {len : Nat} (hd : decode m_law.2.1 pc = .ok (.newarray .long, 2)) (hs : bm_SH n = .inr (2, len)) (hz : ¬ z < 0) (hzl : z.toNatClampNeg = len) (hl9 : len < 100000) (hw : bm_wf n M) (hn2 : n < 1000) (h1 : ls.all (fun q => bm_nr n (n + 1) q.2) = true) (h2 : st.all (bm_nr n (n + 1)) = true) (hcx : cx + 1 ≤ 601024) (hcy : cy + bm_sz n ≤ 7293034) (k : bm_VL L (n + 1) (pc + 2) ls (.ref n :: st) (bm_z M n) (cx + 1) (cy + bm_sz n)) : bm_VL L n pc ls (.int z :: st) M cx cy := by
  intro p e s m args below meth c D cA A ζ hF hab hAA α H locs lsA a2 hP hD hS hl
  have ⟨hx, hb, hml, hown, hts, hr, hlk, hnm, hK, hA, hG⟩ := hF
  have hsz : bm_sz n = len := by unfold bm_sz; rw [hs]
  rw [hsz] at hcy
  refine va_newa (atype := .long) (ty := .long) (a0 := (len, .inr (.inl ((bm_z M n).2.1 n)))) hx hb (hts _ bm_arrc2) rfl hK hP hD hS hA (fun cB => ?_) hz hzl ?_ hcx hcy hd (fun q cB H1 hK1 hP1 hD1 hS1 => ?_)
  · rw [vp_cell_l]
    congr 1
    funext j
    simp [bm_z, defaultValue]
  · have hb8 : componentBytes .long ≤ 8 := by decide
    have := Nat.mul_le_mul (Nat.le_of_lt hl9) hb8
    omega
  have hcb : cB = cA 2 := by
    have g1 := (hK1.2 7 (cB, .long) (by rw [List.getElem?_append_right (by simp [bm_tys])]; simp [bm_tys])).2
    have g2 := (hK.2 2 _ (bm_tys_at cA (by omega))).2
    exact Option.some.inj (g1.symm.trans g2)
  subst hcb
  have hoff := bm_up_off (α := α) (n := n) (q := q)
  have he : bm_ws cA α n M ++ [(q, .inl (cA 2, len, .inr (.inl ((bm_z M n).2.1 n))))] = bm_ws cA (bm_up α n q) (n + 1) (bm_z M n) := by
    rw [bm_ws_new hw hn2, bm_cell, hs]
    try rfl
  rw [he] at hP1 hD1
  rw [← bm_nr_st hoff h2]
  rw [hsz] at k
  have h3 := k p e s m args below meth c D cA A ζ hF hab hAA (bm_up α n q) H1 locs lsA (fun k hk => by rw [hoff k (by omega)]; exact a2 k hk) hP1 hD1 hS1 (by rw [bm_nr_ls hoff h1]; exact hl)
  have e4 : bm_re (bm_up α n q) (.ref n) = .ref q := by simp [bm_re, bm_up]
  rw [List.map_cons, e4] at h3
  exact h3
end BML
