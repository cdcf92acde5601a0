theorem bm_ms_min : Cond.static Lib.Math.min.name ∈ bm_T := bm_Tin (i := 802) (by decide +kernel) (by decide +kernel)
theorem bm_mcd_min : Cond.code Lib.Math.min.name Lib.Math.min.code 2 (some .int) ∈ bm_T := bm_Tin (i := 803) (by decide +kernel) (by decide +kernel)
theorem bm_ms_max : Cond.static Lib.Math.max.name ∈ bm_T := bm_Tin (i := 975) (by decide +kernel) (by decide +kernel)
theorem bm_mcd_max : Cond.code Lib.Math.max.name Lib.Math.max.code 2 (some .int) ∈ bm_T := bm_Tin (i := 976) (by decide +kernel) (by decide +kernel)
theorem bm_ms_abs : Cond.static Lib.Math.abs.name ∈ bm_T := bm_Tin (i := 1021) (by decide +kernel) (by decide +kernel)
theorem bm_mcd_abs : Cond.code Lib.Math.abs.name Lib.Math.abs.code 1 (some .int) ∈ bm_T := bm_Tin (i := 1022) (by decide +kernel) (by decide +kernel)
theorem bm_mini : Cond.initialized "java/lang/Math" ∈ bm_T := bm_Tin (i := 129) (by decide +kernel) (by decide +kernel)
theorem bm_sini : Cond.initialized "java/lang/System" ∈ bm_T := bm_Tin (i := 124) (by decide +kernel) (by decide +kernel)
theorem bm_snat : Cond.native arraycopyName ∈ bm_T := bm_Tin (i := 716) (by decide +kernel) (by decide +kernel)
theorem bm_sstat : Cond.static arraycopyName ∈ bm_T := bm_Tin (i := 715) (by decide +kernel) (by decide +kernel)
section BMC
variable {L : bm_L} {mi : bm_I} {d n0 nE n pc : Nat} {ls : List (Nat × Value)} {st : List Value} {M : bm_M} {Q : Option Value → bm_M → Prop}
/-- behind a call -/
theorem bm_call {p : Program} {l : Launch} {e : Env} {R : Room} {s : State} {m : MethodId} {args : Array Value} {below : List Frame} {meth : Method} {c : Code} {H : Heap} {locs : List Loc} {cells slots mc ms : Nat} {Qz : State → Prop} {lsA : Array Slot} {st0 rest : List Value} {D : va_G} {cA : Nat → ClassId} {A A1 : Nat → Prop} {ζ α : Nat → Nat} {n1 n2 : Nat} {M1 : bm_M} {Q2 : Option Value → bm_M → Prop} {aa : Array Value}
    (hr : va_Run p l e R s m args below meth c H locs cells slots mc ms (F0 m pc lsA st0) rest (bm_Q D cA A1 ζ α n1 n2 Q2 aa) A1) (hS : va_S A s.heap H locs) (hA1 : ∀ q, A1 q → A q)
    (kk : ∀ (α2 : Nat → Nat) (r : Option Value) (M2 : bm_M) (H1 : Heap) (locs1 : List Loc), (∀ k, (k < n1 ∨ n2 ≤ k) → α2 k = α k) → (∀ k, 1000 ≤ k → α2 k = ζ k) → Q2 r M2 → va_P D vwCl (bm_ws cA α2 n2 M2) H1 → va_D A (bm_ws cA α2 n2 M2) → va_S A s.heap H1 locs1 →
      W p l e R s m args below meth c H1 locs1 (cells + mc) (slots + ms) Qz (F0 m (pc + 3) lsA ((r.map (bm_re α2)).toList ++ rest))) : W p l e R s m args below meth c H locs cells slots Qz (F0 m pc lsA st0) := by
  intro T hT X
  obtain ⟨v, st₀, t, T', Lc, h0, X', hL, e1, e2, ⟨⟨α2, r, M2, b1, b2, hq, hv, hP2, hD2⟩, hz, hk⟩, stp⟩ := hr T hT X
  cases hv
  rw [h0] at hz hk
  obtain ⟨t2, c1, c2⟩ := kk α2 r M2 T'.heap (locs ++ Lc) b1 b2 hq (by rw [e1]; exact hP2) (hD2.weaken (fun _ _ _ h => hA1 _ h))
    ⟨Nat.le_trans hS.1 (by rw [e1]; exact hz), fun q h1 h2 => by rw [e1, hk q (Nat.lt_of_lt_of_le h1 hS.1) (fun z => h2 (hA1 q z))]; exact hS.2.1 q h1 h2, fun q hq => by
      rcases List.mem_append.mp hq with h | h
      · exact hS.2.2 q h
      · exact hA1 _ (hL q h)⟩ T' rfl X'
  exact ⟨t2, stp t2 c1, c2⟩
def bm_Pc (L : bm_L) (D : va_G) (cA : Nat → ClassId) (ζ α : Nat → Nat) (sz n1 : Nat) (as : List Value) (M1 : bm_M) : Array Value → State → Prop := va_Pc (as.map (bm_re α)) (fun U => U.heap.size = sz ∧ va_P D vwCl (bm_ws cA α n1 M1) U.heap ∧ va_K D vwCl (bm_tys cA) U ∧ va_D (fun _ => True) (bm_ws cA α n1 M1) ∧ bm_G L.2 ζ (va_A (bm_ws cA α n1 M1) sz) U U.heap)
theorem bm_blind {D : va_G} {cA : Nat → ClassId} {ζ α : Nat → Nat} {sz n1 : Nat} {as : List Value} {M1 : bm_M} : FrameBlind (bm_Pc L D cA ζ α sz n1 as M1) := fun a U g mk q => by
  obtain ⟨q0, q1, qP, qK, qD, qG⟩ := q
  exact ⟨q0, q1, qP, va_K.moved (u := U) (U := U.calling g mk a) (Vm.Alike.refl U.vm) qK, qD, bm_G.warm (s := U) (U := U.calling g mk a) (State.WarmedH.refl U) qG⟩
theorem bm_AA {D : va_G} {cA : Nat → ClassId} {A : Nat → Prop} {α : Nat → Nat} {s : State} {H : Heap} {locs : List Loc} (hD : va_D A (bm_ws cA α n M)) (hS : va_S A s.heap H locs) (hA : ∀ q, s.heap.size ≤ q → A q) : ∀ q, va_A (bm_ws cA α n M) H.size q → A q := by
  intro q h
  rcases h with ⟨k, e, h⟩ | h
  · exact hD.2 k (q, e) h
  · exact hA q (Nat.le_trans hS.1 h)
theorem bm_pre {D : va_G} {cA : Nat → ClassId} {A : Nat → Prop} {ζ α : Nat → Nat} {s : State} {H : Heap} {locs : List Loc} (as : List Value) (hP : va_P D vwCl (bm_ws cA α n M) H) (hD : va_D A (bm_ws cA α n M)) (hS : va_S A s.heap H locs) (hA : ∀ q, s.heap.size ≤ q → A q) (hK : va_K D vwCl (bm_tys cA) s) (hG : bm_G L.2 ζ A s s.heap) :
    ∀ U : State, U.heap = H → s.WarmedH U.vm → bm_Pc L D cA ζ α H.size n as M (as.map (bm_re α)).toArray U := fun U hU hW =>
  ⟨rfl, by rw [hU], by rw [hU]; exact hP, va_K.moved hW.alike hK, hD.weaken (fun _ _ _ _ => trivial), by rw [hU]; exact ((hG.kept hS.2.1).narrow (bm_AA (D := D) hD hS hA)).warm hW⟩
theorem bm_room {n2 : Nat} (mi2 : bm_I) (h : mi2.2.2.1 ≤ 45) : (bm_rm d n n2).frames + 1 ≤ (bm_rm (d + 1) n0 nE).frames ∧ 8 + (mi2.2.2.1 + 11) + (bm_rm d n n2).locals ≤ (bm_rm (d + 1) n0 nE).locals := by
  refine ⟨Nat.le_refl _, ?_⟩
  show 8 + (mi2.2.2.1 + 11) + 64 * d ≤ 64 * (d + 1)
  omega
theorem bm_fit {n2 : Nat} (h0 : n0 ≤ n) (h1 : n ≤ n2) (h2 : n2 ≤ nE) : (n - n0) + (n2 - n) ≤ (bm_rm (d + 1) n0 nE).cells ∧ (bm_sl n - bm_sl n0) + (bm_sl n2 - bm_sl n) ≤ (bm_rm (d + 1) n0 nE).slots := by
  have a := bm_sl_mono h0
  have b := bm_sl_mono h1
  have c := bm_sl_mono h2
  refine ⟨?_, ?_⟩
  · show n - n0 + (n2 - n) ≤ nE - n0
    omega
  · show bm_sl n - bm_sl n0 + (bm_sl n2 - bm_sl n) ≤ bm_sl nE - bm_sl n0
    omega
theorem bm_sum {n2 : Nat} (h0 : n0 ≤ n) (h1 : n ≤ n2) : (n - n0) + (n2 - n) = n2 - n0 ∧ (bm_sl n - bm_sl n0) + (bm_sl n2 - bm_sl n) = bm_sl n2 - bm_sl n0 := by
  have a := bm_sl_mono h0
  have b := bm_sl_mono h1
  omega
theorem bm_wt {α : Nat → Nat} {rest : List Value} (h : (rest.map fun v => v.category).sum ≤ 8) : ((rest.map (bm_re α)).map fun v => v.category).sum ≤ 8 := by
  rw [List.map_map]
  have : ((fun v : Value => v.category) ∘ bm_re α) = fun v => v.category := by funext v; exact bm_re_cat α v
  rw [this]
  exact h
theorem bm_stk {α : Nat → Nat} {As rest : List Value} : (As.reverse ++ rest).map (bm_re α) = (As.map (bm_re α)).reverse ++ rest.map (bm_re α) := by
  rw [List.map_append, List.map_reverse]
theorem bv_callV {i na n2 : Nat} {mi2 : bm_I} {As : List Value} {stk : List Value} {Q2 : Option Value → bm_M → Prop} {b ci : Nat} (hbn : b < n) (hs : bm_SH b = .inl ci) (hci : ∃ T N, vwCl[ci]? = some (mi2.1.cls, T, N)) (hd : decode mi.2.1 pc = .ok (.invokevirtual i, 3)) (hm : bm_mc mi.1.cls 0 i mi2 na) (hC : bm_C L mi2 d n n (.ref b :: As) M Q2) (hst : stk = As.reverse ++ .ref b :: st) (hna : As.length = na) (hwt : (st.map fun v => v.category).sum ≤ 8) (hnE : n ≤ nE) (k : ∀ r M2, Q2 r M2 → bm_V L mi (d + 1) n0 nE n (pc + 3) ls (r.toList ++ st) M2 Q) : bm_V L mi (d + 1) n0 nE n pc ls stk M Q := by
  subst hst

  intro hn p e s m args below meth c D cA A ζ α0 hF α H locs lsA a1 a2 hP hD hS hl
  have ⟨hx, hb, hml, hown, hts, hr, hlk, hnm, hK, hA, hG⟩ := hF
  rw [bm_stk]
  obtain ⟨hm, hini, hco, hcl, h45⟩ := hm
  refine bm_call (n1 := n) (n2 := n) (M1 := M) (A := A) (va_runV (bytes := mi2.2.1) (maxL := mi2.2.2.1) (ret := mi2.2.2.2) (C := mi2.1.cls) (As := As.map (bm_re α)) (rest := st.map (bm_re α)) (b := α b) ⟨hx, hb, hml, hown, hts⟩ (hC D cA ζ α H.size a2)
    ⟨callB_of na hts (bm_wgood hco) rfl rfl rfl (hts _ hini) (hts _ hm.1) hcl (bm_room mi2 h45), hts _ hm.2.1, hts _ hm.2.2⟩ ⟨bm_blind, by obtain ⟨T, N, hc⟩ := hci; exact va_recv hK hP hc (bm_ws_obj hbn hs), bm_pre (.ref b :: As) hP hD hS hA hK hG⟩ rfl (by rw [List.length_map]; exact hna) hl.1 rfl (lv_room (bm_wt hwt)) hd (bm_fit hn (Nat.le_refl n) hnE)) hS (bm_AA (D := D) hD hS hA) (fun α2 r M2 H1 locs1 b1 b2 hq hP1 hD1 hS1 => ?_)
  have hα : α2 = α := by funext q; exact b1 q (by omega)
  subst hα
  have hsum := bm_sum (n2 := n) hn (Nat.le_refl n)
  rw [hsum.1, hsum.2]
  have h3 := k r M2 hq hn p e s m args below meth c D cA A ζ α0 hF α2 H1 locs1 lsA a1 a2 hP1 hD1 hS1 hl
  cases r <;> exact h3
theorem bm_ol_ge {q : String × Nat} (h : q ∈ bm_ol) : 1000 ≤ q.2 := by
  simp only [bm_ol, List.mem_append, List.mem_map] at h
  rcases h with (⟨i, -, rfl⟩ | ⟨i, -, rfl⟩) | ⟨i, -, rfl⟩
  · exact Nat.le_add_right 1000 i
  · exact Nat.le_trans (by decide : 1000 ≤ 1200) (Nat.le_add_right 1200 i)
  · exact Nat.le_trans (by decide : 1000 ≤ 1240) (Nat.le_add_right 1240 i)
theorem bv_callX {i na n2 : Nat} {mi2 : bm_I} {As : List Value} {stk : List Value} {Q2 : Option Value → bm_M → Prop} {x : Nat} {C : String} (hq : (C, x) ∈ bm_ol) (hcC : mi2.1.cls = C) (hd : decode mi.2.1 pc = .ok (.invokevirtual i, 3)) (hm : bm_mc mi.1.cls 0 i mi2 na) (hC : bm_C L mi2 d n n (.ref x :: As) M Q2) (hst : stk = As.reverse ++ .ref x :: st) (hna : As.length = na) (hwt : (st.map fun v => v.category).sum ≤ 8) (hnE : n ≤ nE) (k : ∀ r M2, Q2 r M2 → bm_V L mi (d + 1) n0 nE n (pc + 3) ls (r.toList ++ st) M2 Q) : bm_V L mi (d + 1) n0 nE n pc ls stk M Q := by
  subst hst

  intro hn p e s m args below meth c D cA A ζ α0 hF α H locs lsA a1 a2 hP hD hS hl
  have ⟨hx, hb, hml, hown, hts, hr, hlk, hnm, hK, hA, hG⟩ := hF
  rw [bm_stk]
  obtain ⟨hm, hini, hco, hcl, h45⟩ := hm
  refine bm_call (n1 := n) (n2 := n) (M1 := M) (A := A) (va_runV (bytes := mi2.2.1) (maxL := mi2.2.2.1) (ret := mi2.2.2.2) (C := mi2.1.cls) (As := As.map (bm_re α)) (rest := st.map (bm_re α)) (b := α x) ⟨hx, hb, hml, hown, hts⟩ (hC D cA ζ α H.size a2)
    ⟨callB_of na hts (bm_wgood hco) rfl rfl rfl (hts _ hini) (hts _ hm.1) hcl (bm_room mi2 h45), hts _ hm.2.1, hts _ hm.2.2⟩ ⟨bm_blind, by
      obtain ⟨cell, g1, g2, g3, -⟩ := (hG.2.2.2.1 _ hq).kept hS.2.1
      exact ⟨cell, by rw [a2 x (bm_ol_ge hq)]; exact g1, g2, by rw [hcC]; exact g3⟩, bm_pre (.ref x :: As) hP hD hS hA hK hG⟩ rfl (by rw [List.length_map]; exact hna) hl.1 rfl (lv_room (bm_wt hwt)) hd (bm_fit hn (Nat.le_refl n) hnE)) hS (bm_AA (D := D) hD hS hA) (fun α2 r M2 H1 locs1 b1 b2 hq hP1 hD1 hS1 => ?_)
  have hα : α2 = α := by funext q; exact b1 q (by omega)
  subst hα
  have hsum := bm_sum (n2 := n) hn (Nat.le_refl n)
  rw [hsum.1, hsum.2]
  have h3 := k r M2 hq hn p e s m args below meth c D cA A ζ α0 hF α2 H1 locs1 lsA a1 a2 hP1 hD1 hS1 hl
  cases r <;> exact h3
theorem bv_callS {i na n2 : Nat} {mi2 : bm_I} {As : List Value} {stk : List Value} {Q2 : Option Value → bm_M → Prop} (hd : decode mi.2.1 pc = .ok (.invokestatic i, 3)) (hm : bm_mc mi.1.cls 1 i mi2 na) (hC : bm_C L mi2 d n n As M Q2) (hst : stk = As.reverse ++ st) (hna : As.length = na) (hwt : (st.map fun v => v.category).sum ≤ 8) (hnE : n ≤ nE) (k : ∀ r M2, Q2 r M2 → bm_V L mi (d + 1) n0 nE n (pc + 3) ls (r.toList ++ st) M2 Q) : bm_V L mi (d + 1) n0 nE n pc ls stk M Q := by
  subst hst

  intro hn p e s m args below meth c D cA A ζ α0 hF α H locs lsA a1 a2 hP hD hS hl
  have ⟨hx, hb, hml, hown, hts, hr, hlk, hnm, hK, hA, hG⟩ := hF
  rw [bm_stk]
  obtain ⟨hm, hini, hco, hcl, h45⟩ := hm
  refine bm_call (n1 := n) (n2 := n) (M1 := M) (A := A) (va_runS (bytes := mi2.2.1) (maxL := mi2.2.2.1) (ret := mi2.2.2.2) (As := As.map (bm_re α)) (rest := st.map (bm_re α)) ⟨hx, hb, hml, hown, hts⟩ (hC D cA ζ α H.size a2)
    ⟨callB_of na hts (bm_wgood hco) rfl rfl rfl (hts _ hini) (hts _ hm.1) hcl (bm_room mi2 h45), hts _ hm.2⟩ ⟨bm_blind, bm_pre As hP hD hS hA hK hG⟩ rfl (by rw [List.length_map]; exact hna) hl.1 rfl (lv_room (bm_wt hwt)) hd (bm_fit hn (Nat.le_refl n) hnE)) hS (bm_AA (D := D) hD hS hA) (fun α2 r M2 H1 locs1 b1 b2 hq hP1 hD1 hS1 => ?_)
  have hα : α2 = α := by funext q; exact b1 q (by omega)
  subst hα
  have hsum := bm_sum (n2 := n) hn (Nat.le_refl n)
  rw [hsum.1, hsum.2]
  have h3 := k r M2 hq hn p e s m args below meth c D cA A ζ α0 hF α2 H1 locs1 lsA a1 a2 hP1 hD1 hS1 hl
  cases r <;> exact h3
theorem bv_callSN {i na n2 : Nat} {mi2 : bm_I} {As : List Value} {stk : List Value} {Q2 : Option Value → bm_M → Prop} (hd : decode mi.2.1 pc = .ok (.invokestatic i, 3)) (hm : bm_mc mi.1.cls 2 i mi2 na) (hC : bm_C L mi2 d n n As M Q2) (hst : stk = As.reverse ++ st) (hna : As.length = na) (hwt : (st.map fun v => v.category).sum ≤ 8) (hnE : n ≤ nE) (k : ∀ r M2, Q2 r M2 → bm_V L mi (d + 1) n0 nE n (pc + 3) ls (r.toList ++ st) M2 Q) : bm_V L mi (d + 1) n0 nE n pc ls stk M Q := by
  subst hst

  intro hn p e s m args below meth c D cA A ζ α0 hF α H locs lsA a1 a2 hP hD hS hl
  have ⟨hx, hb, hml, hown, hts, hr, hlk, hnm, hK, hA, hG⟩ := hF
  rw [bm_stk]
  obtain ⟨hm, hini, hco, hcl, h45⟩ := hm
  refine bm_call (n1 := n) (n2 := n) (M1 := M) (A := A) (va_runSN (host := hm.1.choose) (bytes := mi2.2.1) (maxL := mi2.2.2.1) (ret := mi2.2.2.2) (As := As.map (bm_re α)) (rest := st.map (bm_re α)) ⟨hx, hb, hml, hown, hts⟩ (hC D cA ζ α H.size a2)
    ⟨va_cnB na hts (bm_wgood hco) rfl rfl rfl (hG.1 _ hm.1.choose_spec) (hts _ hini) hcl (bm_room mi2 h45), hts _ hm.2, trivial⟩ ⟨bm_blind, bm_pre As hP hD hS hA hK hG⟩ rfl (by rw [List.length_map]; exact hna) hl.1 rfl (lv_room (bm_wt hwt)) hd (bm_fit hn (Nat.le_refl n) hnE)) hS (bm_AA (D := D) hD hS hA) (fun α2 r M2 H1 locs1 b1 b2 hq hP1 hD1 hS1 => ?_)
  have hα : α2 = α := by funext q; exact b1 q (by omega)
  subst hα
  have hsum := bm_sum (n2 := n) hn (Nat.le_refl n)
  rw [hsum.1, hsum.2]
  have h3 := k r M2 hq hn p e s m args below meth c D cA A ζ α0 hF α2 H1 locs1 lsA a1 a2 hP1 hD1 hS1 hl
  cases r <;> exact h3
theorem bv_mmin {i : Nat} {x y : Int32} (hd : decode mi.2.1 pc = .ok (.invokestatic i, 3)) (hm : Cond.methodLink mi.1.cls i Lib.Math.min.name ∈ bm_T) (hwt : (st.map fun v => v.category).sum ≤ 8) (hnE : n ≤ nE) (k : bm_V L mi (d + 1) n0 nE n (pc + 3) ls (.int (if y < x then y else x) :: st) M Q) : bm_V L mi (d + 1) n0 nE n pc ls (.int y :: .int x :: st) M Q := by
  intro hn p e s m args below meth c D cA A ζ α0 hF α H locs lsA a1 a2 hP hD hS hl
  have ⟨hx, hb, hml, hown, hts, hr, hlk, hnm, hK, hA, hG⟩ := hF
  have hf := bm_fit (d := d) (n2 := n) hn (Nat.le_refl n) hnE
  rw [Nat.sub_self, Nat.sub_self] at hf
  have hw2 := bm_wt (α := α) hwt
  exact va_mmin hx hb (hml.trans hl.1.symm) hown (hts _ hm) (hts _ bm_ms_min) (hts _ bm_mini) (hts _ bm_mcd_min) (by show 1 ≤ d + 1; omega) (by show _ + 13 ≤ 64 * (d + 1); omega) hf.1 hf.2 hd (k hn p e s m args below meth c D cA A ζ α0 hF α H locs lsA a1 a2 hP hD hS hl)
theorem bv_mmax {i : Nat} {x y : Int32} (hd : decode mi.2.1 pc = .ok (.invokestatic i, 3)) (hm : Cond.methodLink mi.1.cls i Lib.Math.max.name ∈ bm_T) (hwt : (st.map fun v => v.category).sum ≤ 8) (hnE : n ≤ nE) (k : bm_V L mi (d + 1) n0 nE n (pc + 3) ls (.int (if x < y then y else x) :: st) M Q) : bm_V L mi (d + 1) n0 nE n pc ls (.int y :: .int x :: st) M Q := by
  intro hn p e s m args below meth c D cA A ζ α0 hF α H locs lsA a1 a2 hP hD hS hl
  have ⟨hx, hb, hml, hown, hts, hr, hlk, hnm, hK, hA, hG⟩ := hF
  have hf := bm_fit (d := d) (n2 := n) hn (Nat.le_refl n) hnE
  rw [Nat.sub_self, Nat.sub_self] at hf
  have hw2 := bm_wt (α := α) hwt
  exact va_mmax hx hb (hml.trans hl.1.symm) hown (hts _ hm) (hts _ bm_ms_max) (hts _ bm_mini) (hts _ bm_mcd_max) (by show 1 ≤ d + 1; omega) (by show _ + 13 ≤ 64 * (d + 1); omega) hf.1 hf.2 hd (k hn p e s m args below meth c D cA A ζ α0 hF α H locs lsA a1 a2 hP hD hS hl)
theorem bv_mabs {i : Nat} {x : Int32} (hd : decode mi.2.1 pc = .ok (.invokestatic i, 3)) (hm : Cond.methodLink mi.1.cls i Lib.Math.abs.name ∈ bm_T) (hwt : (st.map fun v => v.category).sum ≤ 8) (hnE : n ≤ nE) (k : bm_V L mi (d + 1) n0 nE n (pc + 3) ls (.int (if 0 ≤ x then x else 0 - x) :: st) M Q) : bm_V L mi (d + 1) n0 nE n pc ls (.int x :: st) M Q := by
  intro hn p e s m args below meth c D cA A ζ α0 hF α H locs lsA a1 a2 hP hD hS hl
  have ⟨hx, hb, hml, hown, hts, hr, hlk, hnm, hK, hA, hG⟩ := hF
  have hf := bm_fit (d := d) (n2 := n) hn (Nat.le_refl n) hnE
  rw [Nat.sub_self, Nat.sub_self] at hf
  have hw2 := bm_wt (α := α) hwt
  exact va_mabs hx hb (hml.trans hl.1.symm) hown (hts _ hm) (hts _ bm_ms_abs) (hts _ bm_mini) (hts _ bm_mcd_abs) (by show 1 ≤ d + 1; omega) (by show _ + 13 ≤ 64 * (d + 1); omega) hf.1 hf.2 hd (k hn p e s m args below meth c D cA A ζ α0 hF α H locs lsA a1 a2 hP hD hS hl)
def bm_cI (M : bm_M) (a b sp dp z : Nat) : bm_M := (fun o j => if o = b then va_cpy (M.1 a) (M.1 b) sp dp z j else M.1 o j, M.2)
def bm_cL (M : bm_M) (a b sp dp z : Nat) : bm_M := (M.1, (fun o j => if o = b then va_cpy (M.2.1 a) (M.2.1 b) sp dp z j else M.2.1 o j), M.2.2)
theorem bm_cI_off {cA : Nat → ClassId} {α : Nat → Nat} {M : bm_M} {a b sp dp z : Nat} : ∀ j, j ≠ b → bm_cell cA α (bm_cI M a b sp dp z) j = bm_cell cA α M j := fun j hj => bm_cell_congr (by funext q; simp [bm_cI, hj]) rfl rfl rfl
theorem bm_cL_off {cA : Nat → ClassId} {α : Nat → Nat} {M : bm_M} {a b sp dp z : Nat} : ∀ j, j ≠ b → bm_cell cA α (bm_cL M a b sp dp z) j = bm_cell cA α M j := fun j hj => bm_cell_congr rfl (by funext q; simp [bm_cL, hj]) rfl rfl
theorem bv_copyI {i a b la lb : Nat} {sp dp z : Int32} (hd : decode mi.2.1 pc = .ok (.invokestatic i, 3)) (hm : Cond.methodLink mi.1.cls i arraycopyName ∈ bm_T) (ha : bm_SH a = .inr (0, la)) (han : a < n) (hbs : bm_SH b = .inr (0, lb)) (hbn : b < n) (h1 : ¬ sp < 0) (h2 : ¬ dp < 0) (h3 : ¬ z < 0) (h4 : sp.toNatClampNeg + z.toNatClampNeg ≤ la) (h5 : dp.toNatClampNeg + z.toNatClampNeg ≤ lb) (hwt : (st.map fun v => v.category).sum ≤ 8) (k : bm_V L mi (d + 1) n0 nE n (pc + 3) ls st (bm_cI M a b sp.toNatClampNeg dp.toNatClampNeg z.toNatClampNeg) Q) : bm_V L mi (d + 1) n0 nE n pc ls (.int z :: .int dp :: .ref b :: .int sp :: .ref a :: st) M Q := by
  intro hn p e s m args below meth c D cA A ζ α0 hF α H locs lsA a1 a2 hP hD hS hl
  have ⟨hx, hb, hml, hown, hts, hr, hlk, hnm, hK, hA, hG⟩ := hF
  have hw2 := bm_wt (α := α) hwt
  refine va_copyi hx hb (hml.trans hl.1.symm) hown (hts _ hm) (hts _ bm_snat) (hts _ bm_sstat) (hts _ bm_sini) hK hP hD hS a b 0 0 (bm_ws_arr han ha) (bm_ws_arr hbn hbs) (bm_tys_at cA (by omega)) (bm_tys_at cA (by omega)) rfl h1 h2 h3 h4 h5 (fun _ _ => rfl) (by show 1 ≤ d + 1; omega) ?_ hd (fun H1 locs1 hP1 hD1 hS1 => ?_)
  · have hz : nativeFrameWords "java/lang/System" "arraycopy" 5 + 11 ≤ 56 := by decide +kernel
    show _ ≤ 64 * (d + 1)
    omega
  have he := bm_ws_set (cA := cA) (α := α) (n := n) (o := b) (M := M) (M' := bm_cI M a b sp.toNatClampNeg dp.toNatClampNeg z.toNatClampNeg) (e := .inl (cA 0, lb, .inl (va_cpy (M.1 a) (M.1 b) sp.toNatClampNeg dp.toNatClampNeg z.toNatClampNeg))) (by
    rw [bm_cell, hbs]
    show _ = Sum.inl (cA 0, lb, bm_arr α (bm_cI M a b sp.toNatClampNeg dp.toNatClampNeg z.toNatClampNeg) b 0)
    congr 3
    simp only [bm_arr]
    congr 1
    first | (funext q; simp [bm_cI]) | (congr 1; funext q; simp [bm_cI])) bm_cI_off
  rw [he] at hP1 hD1
  exact k hn p e s m args below meth c D cA A ζ α0 hF α H1 locs1 lsA a1 a2 hP1 hD1 hS1 hl
theorem bv_copyL {i a b la lb : Nat} {sp dp z : Int32} (hd : decode mi.2.1 pc = .ok (.invokestatic i, 3)) (hm : Cond.methodLink mi.1.cls i arraycopyName ∈ bm_T) (ha : bm_SH a = .inr (2, la)) (han : a < n) (hbs : bm_SH b = .inr (2, lb)) (hbn : b < n) (h1 : ¬ sp < 0) (h2 : ¬ dp < 0) (h3 : ¬ z < 0) (h4 : sp.toNatClampNeg + z.toNatClampNeg ≤ la) (h5 : dp.toNatClampNeg + z.toNatClampNeg ≤ lb) (hwt : (st.map fun v => v.category).sum ≤ 8) (k : bm_V L mi (d + 1) n0 nE n (pc + 3) ls st (bm_cL M a b sp.toNatClampNeg dp.toNatClampNeg z.toNatClampNeg) Q) : bm_V L mi (d + 1) n0 nE n pc ls (.int z :: .int dp :: .ref b :: .int sp :: .ref a :: st) M Q := by
  intro hn p e s m args below meth c D cA A ζ α0 hF α H locs lsA a1 a2 hP hD hS hl
  have ⟨hx, hb, hml, hown, hts, hr, hlk, hnm, hK, hA, hG⟩ := hF
  have hw2 := bm_wt (α := α) hwt
  refine va_copyl hx hb (hml.trans hl.1.symm) hown (hts _ hm) (hts _ bm_snat) (hts _ bm_sstat) (hts _ bm_sini) hK hP hD hS a b 2 2 (bm_ws_arr han ha) (bm_ws_arr hbn hbs) (bm_tys_at cA (by omega)) (bm_tys_at cA (by omega)) rfl h1 h2 h3 h4 h5 (fun _ _ => rfl) (by show 1 ≤ d + 1; omega) ?_ hd (fun H1 locs1 hP1 hD1 hS1 => ?_)
  · have hz : nativeFrameWords "java/lang/System" "arraycopy" 5 + 11 ≤ 56 := by decide +kernel
    show _ ≤ 64 * (d + 1)
    omega
  have he := bm_ws_set (cA := cA) (α := α) (n := n) (o := b) (M := M) (M' := bm_cL M a b sp.toNatClampNeg dp.toNatClampNeg z.toNatClampNeg) (e := .inl (cA 2, lb, .inr (.inl (va_cpy (M.2.1 a) (M.2.1 b) sp.toNatClampNeg dp.toNatClampNeg z.toNatClampNeg)))) (by
    rw [bm_cell, hbs]
    show _ = Sum.inl (cA 2, lb, bm_arr α (bm_cL M a b sp.toNatClampNeg dp.toNatClampNeg z.toNatClampNeg) b 2)
    congr 3
    simp only [bm_arr]
    congr 1
    first | (funext q; simp [bm_cL]) | (congr 1; funext q; simp [bm_cL])) bm_cL_off
  rw [he] at hP1 hD1
  exact k hn p e s m args below meth c D cA A ζ α0 hF α H1 locs1 lsA a1 a2 hP1 hD1 hS1 hl
end BMC
