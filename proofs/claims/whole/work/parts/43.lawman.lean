/-! the law's man: it calls, and catches -/
abbrev m_Lman : bm_I := (yL_man, cL_man, 5, some .int)
abbrev bx_hh : List (Nat × Nat × Nat × Nat) := [(0, 10, 13, 13)]
def bx_wL : List Cond := Cond.codeWith yL_man cL_man 5 (some .int) bx_hh :: bm_T
theorem bx_cw : Cond.codeWith yL_man cL_man 5 (some .int) bx_hh ∈ bm_T := List.mem_filter.mpr ⟨by decide +kernel, by decide +kernel⟩
theorem bx_ml : Cond.methodLink RL 38 yL_man ∈ bm_T := List.mem_filter.mpr ⟨by decide +kernel, by decide +kernel⟩
theorem bx_ms : Cond.static yL_man ∈ bm_T := List.mem_filter.mpr ⟨by decide +kernel, by decide +kernel⟩
theorem bx_mi : Cond.initialized RL ∈ bm_T := List.mem_filter.mpr ⟨by decide +kernel, by decide +kernel⟩
theorem bx_Tg {w : Cond} (h : w ∈ bm_T) : w ∈ bm_T ∧ ((w.onTables && w.keeps) = true ∨ ∃ ty, w = .arrayClass ty) := ⟨h, good_of_word (List.mem_filter.mp h).2⟩
theorem bx_good : GoodIn bm_T (va_wsS RL 38 yL_man bx_wL) := fun w hw => by
  refine bx_Tg ?_
  unfold va_wsS bx_wL at hw
  rcases List.mem_append.mp hw with h | h
  · rcases List.mem_cons.mp h with rfl | h
    · exact bx_ml
    · rcases List.mem_cons.mp h with rfl | h
      · exact bx_ms
      · rcases List.mem_cons.mp h with rfl | h
        · exact bx_mi
        · cases h
  · rcases List.mem_cons.mp h with rfl | h
    · exact bx_cw
    · exact h
theorem dL_man_0 : decode cL_man 0 = .ok (.aload_n 3, 1) := by decide +kernel
theorem dL_man_1 : decode cL_man 1 = .ok (.iconst 0, 1) := by decide +kernel
theorem dL_man_2 : decode cL_man 2 = .ok (.aload_n 0, 1) := by decide +kernel
theorem dL_man_3 : decode cL_man 3 = .ok (.iload_n 1, 1) := by decide +kernel
theorem dL_man_4 : decode cL_man 4 = .ok (.iload_n 2, 1) := by decide +kernel
theorem dL_man_5 : decode cL_man 5 = .ok (.invokevirtual 7, 3) := by decide +kernel
theorem dL_man_8 : decode cL_man 8 = .ok (.i2l, 1) := by decide +kernel
theorem dL_man_9 : decode cL_man 9 = .ok (.lastore, 1) := by decide +kernel
theorem dL_man_10 : decode cL_man 10 = .ok (.goto 7, 3) := by decide +kernel
theorem dL_man_13 : decode cL_man 13 = .ok (.astore 4, 2) := by decide +kernel
theorem dL_man_15 : decode cL_man 15 = .ok (.iconst 1, 1) := by decide +kernel
theorem dL_man_16 : decode cL_man 16 = .ok (.ireturn, 1) := by decide +kernel
theorem dL_man_17 : decode cL_man 17 = .ok (.iconst 0, 1) := by decide +kernel
theorem dL_man_18 : decode cL_man 18 = .ok (.ireturn, 1) := by decide +kernel
theorem mcl_7 : bm_mc RL 0 7 m_X11_man 2 := ⟨⟨List.mem_filter.mpr ⟨by decide +kernel, by decide +kernel⟩, List.mem_filter.mpr ⟨by decide +kernel, by decide +kernel⟩, List.mem_filter.mpr ⟨by decide +kernel, by decide +kernel⟩⟩, List.mem_filter.mpr ⟨by decide +kernel, by decide +kernel⟩, List.mem_filter.mpr ⟨by decide +kernel, by decide +kernel⟩, ⟨by decide +kernel, by decide +kernel, by decide +kernel⟩, by decide⟩
theorem mcl_43 : bm_mc RL 0 43 m_X12_man 2 := ⟨⟨List.mem_filter.mpr ⟨by decide +kernel, by decide +kernel⟩, List.mem_filter.mpr ⟨by decide +kernel, by decide +kernel⟩, List.mem_filter.mpr ⟨by decide +kernel, by decide +kernel⟩⟩, List.mem_filter.mpr ⟨by decide +kernel, by decide +kernel⟩, List.mem_filter.mpr ⟨by decide +kernel, by decide +kernel⟩, ⟨by decide +kernel, by decide +kernel, by decide +kernel⟩, by decide⟩
theorem mcl_44 : bm_mc RL 0 44 m_X12_thrown 0 := ⟨⟨List.mem_filter.mpr ⟨by decide +kernel, by decide +kernel⟩, List.mem_filter.mpr ⟨by decide +kernel, by decide +kernel⟩, List.mem_filter.mpr ⟨by decide +kernel, by decide +kernel⟩⟩, List.mem_filter.mpr ⟨by decide +kernel, by decide +kernel⟩, List.mem_filter.mpr ⟨by decide +kernel, by decide +kernel⟩, ⟨by decide +kernel, by decide +kernel, by decide +kernel⟩, by decide⟩
theorem bx_ofWH {l : Launch} {y : MethodName} {ws ws' : List Cond} {rm : Room} {Pc : Array Value → State → Prop} {Qc : Array Value → State → Outcome → State → Prop} {mc ms : Nat} {free : Addr → Prop} {cc : ByteArray} {maxL : Nat} {ret : Option FieldType} {hh : List (Nat × Nat × Nat × Nat)}
    (hy : plainName y.cls = true) (hw : ws = Cond.codeWith y cc maxL ret hh :: ws')
    (body : ∀ p e s m args below meth c s₁, BodyLoose p l y (headSpec ws rm) cc maxL ret e s m args below meth c s₁ → c.maxLocals = maxL → Pc args s →
      W p l e (headSpec ws rm).room s m args below meth c s.heap [] 0 0 (MQ below Qc args s mc ms free) (entryFrame m args maxL)) : Met l y ws rm Pc Qc mc ms free := by
  refine MetFree.of_bodyS (code := cc) (maxLocals := maxL) (ret := ret) hy ?_ ?_
  · intro args s m h hn
    obtain ⟨m9, meth, c, hn9, h1, h2, h3, h4, -, h5, h6, -⟩ := Cond.codeWith_spec (atoms_spec (ws := ws) h _ (by rw [hw]; exact List.mem_cons_self))
    cases hn.symm.trans hn9
    exact ⟨meth, c, h1, h2, h3, h4, h5, h6⟩
  · intro p e s m args below meth c s₁ B hml hP _
    have hh0 : s₁.heap = s.heap := by rw [B.state]; rfl
    obtain ⟨t, a1, o, b1, b2, b3⟩ := body p e s m args below meth c s₁ B hml hP s₁ hh0 (Stand.of_body B)
    exact ⟨t, o, a1, b1, b2, ⟨b3.1, b3.2⟩⟩
set_option maxHeartbeats 4000000 in
set_option maxRecDepth 100000 in
theorem bx_lmanN {L : bm_L} {I : bm_TI} {J : bm_TJ} {R W9 : bm_TR} {a1 a2 v : Int32} (hR : bm_RR R) (h : f_X11_man I a1 a2 = some v) (D : va_G) (cA : Nat → ClassId) (ζ α : Nat → Nat) (sz : Nat) (hζ : ∀ k, 1000 ≤ k → α k = ζ k) : Met L.1 yL_man bx_wL (bm_rm 8 182 182) (bx_P L D cA ζ α sz [.ref 0, .int a1, .int a2, .ref 181] (I, J, R, W9)) (bm_Q D cA (va_A (bm_ws cA α 182 (I, J, R, W9)) sz) ζ α 182 182 (fun r M' => r = some (.int 0) ∧ M' = (I, bm_uJ J 181 0 v.toInt64, R, W9))) 0 0 (va_A (bm_ws cA α 182 (I, J, R, W9)) sz) := by
  refine bx_ofWH (cc := cL_man) (maxL := 5) (ret := some .int) (hh := bx_hh) (by decide) rfl ?_
  intro p e s m args below meth c s₁ B hml hv
  obtain ⟨rfl, hsz, hP, hK, hD0, hG, hX⟩ := hv
  subst hsz
  have hts : ∀ w ∈ bx_wL, w.before _ s = true := atoms_spec (ws := bx_wL) B.pre
  have hl := lv_entry (([.ref 0, .int a1, .int a2, .ref 181] : List Value).map (bm_re α)) (n := 5) (by rw [bm_sl_len]; exact Nat.le_of_ble_eq_true rfl)
  rw [bm_en_ls] at hl
  rw [lg_entry_eq]
  have hF : bm_F L m_Lman D cA (va_A (bm_ws cA α 182 (I, J, R, W9)) s.heap.size) ζ p s m (([.ref 0, .int a1, .int a2, .ref 181] : List Value).map (bm_re α)).toArray meth c := ⟨B.exec, B.bytes, hml, findClass_of_methodNamed B.named, fun w hw => hts w (List.mem_cons_of_mem _ hw), B.returns, B.notSynchronized, (name_of_methodNamed B.named B.method).1, hK, fun q hq => Or.inr hq, hG⟩
  have hV : bm_V L m_Lman 8 182 182 182 0 [(0, .ref 0), (1, .int a1), (2, .int a2), (3, .ref 181)] [] (I, J, R, W9) (fun r M' => r = some (.int 0) ∧ M' = (I, bm_uJ J 181 0 v.toInt64, R, W9)) := by
    refine bv_aload_n dL_man_0 3 rfl ?_
    refine bv_iconst (v := 0) dL_man_1 (by decide) ?_
    refine bv_aload_n dL_man_2 0 rfl ?_
    refine bv_iload_n dL_man_3 1 rfl ?_
    refine bv_iload_n dL_man_4 2 rfl ?_
    refine bw_callV (As := [.int a1, .int a2]) (by decide) okL_0 ⟨_, _, rfl⟩ dL_man_5 mcl_7 (c_X11_man (d := 5) (by decide) hR h) rfl rfl (by decide) ?_
    refine bv_i2l dL_man_8 ?_
    refine bv_last (o := 181) (len := 1) dL_man_9 rfl (by decide) (vp_in_nI (n := 0) (by decide) (by decide)) ?_
    refine bv_goto (tgt := 17) dL_man_10 (by decide) ?_
    refine bv_iconst (v := 0) dL_man_17 (by decide) ?_
    exact bv_iret (x := 0) dL_man_18 rfl ⟨rfl, rfl⟩
  have h1 := hV (Nat.le_refl _) p e s m _ below meth c D cA _ ζ α hF α s.heap [] _ (fun _ _ => rfl) hζ hP (hD0.self (sz := s.heap.size)) va_S.rf hl
  rw [Nat.sub_self, Nat.sub_self] at h1
  exact h1
set_option maxHeartbeats 4000000 in
set_option maxRecDepth 100000 in
theorem bx_lmanT {L : bm_L} (hst : L.1.stackTraces = false) {I : bm_TI} {J : bm_TJ} {R W9 : bm_TR} {a1 a2 : Int32} (hR : bm_RR R) (hxm : xm_t I a1 a2) (D : va_G) (cA : Nat → ClassId) (ζ α : Nat → Nat) (sz : Nat) (hζ : ∀ k, 1000 ≤ k → α k = ζ k) : Met L.1 yL_man bx_wL (bx_rm 10) (bx_P L D cA ζ α sz [.ref 0, .int a1, .int a2, .ref 181] (I, J, R, W9)) (bm_Q D cA (va_A (bm_ws cA α 182 (I, J, R, W9)) sz) ζ α 182 182 (fun r M' => r = some (.int 1) ∧ M' = (I, J, R, W9))) 1 6 (va_A (bm_ws cA α 182 (I, J, R, W9)) sz) := by
  refine bx_ofWH (cc := cL_man) (maxL := 5) (ret := some .int) (hh := bx_hh) (by decide) rfl ?_
  intro p e s m args below meth c s₁ B hml hv
  obtain ⟨rfl, hsz, hP, hK, hD0, hG, hX⟩ := hv
  subst hsz
  have hts0 : ∀ w ∈ bx_wL, w.before _ s = true := atoms_spec (ws := bx_wL) B.pre
  have hts : ∀ w ∈ bm_T, w.before _ s = true := fun w hw => hts0 w (List.mem_cons_of_mem _ hw)
  have htab : c.exceptionTable.toList = [] ++ (⟨0, 10, 13, 13⟩ : ExceptionTableEntry) :: [] := vx_table (x := yL_man) B (hts _ bx_cw)
  have hl := lv_entry (([.ref 0, .int a1, .int a2, .ref 181] : List Value).map (bm_re α)) (n := 5) (by rw [bm_sl_len]; exact Nat.le_of_ble_eq_true rfl)
  rw [bm_en_ls] at hl
  rw [lg_entry_eq]
  have hx := B.exec
  have hb := B.bytes
  have hown := findClass_of_methodNamed B.named
  have hlk := B.notSynchronized
  have hret := B.returns
  have hMan := bx_man (L := L) hst (J := J) (W9 := W9) hR hxm D cA ζ α s.heap.size hζ
  generalize hA0 : va_A (bm_ws cA α 182 (I, J, R, W9)) s.heap.size = A at hG hX hMan ⊢
  have hA : ∀ q, s.heap.size ≤ q → A q := fun q hq => by rw [← hA0]; exact Or.inr hq
  have hD : va_D A (bm_ws cA α 182 (I, J, R, W9)) := by rw [← hA0]; exact hD0.self (sz := s.heap.size)
  have hS : va_S A s.heap s.heap [] := va_S.rf
  generalize hLS : ((lg_sl (([.ref 0, .int a1, .int a2, .ref 181] : List Value).map (bm_re α)) ++ List.replicate (5 - (lg_sl (([.ref 0, .int a1, .int a2, .ref 181] : List Value).map (bm_re α))).length) Slot.unset).toArray) = lsA at hl ⊢
  have hl' : lv_has lsA 5 (bm_ls α [(0, .ref 0), (1, .int a1), (2, .int a2), (3, .ref 181)]) := hl
  have g0 : lsA[0]? = some (.val (.ref (α 0))) := bm_lv (j := 0) hl' rfl
  have g1 : lsA[1]? = some (.val (.int a1)) := bm_lv (j := 1) hl' rfl
  have g2 : lsA[2]? = some (.val (.int a2)) := bm_lv (j := 2) hl' rfl
  have g3 : lsA[3]? = some (.val (.ref (α 181))) := bm_lv (j := 3) hl' rfl
  refine lv_aload_n hx hb dL_man_0 rfl g3 ?_
  refine lv_iconst (v := 0) hx hb dL_man_1 (by decide) ?_
  refine lv_aload_n hx hb dL_man_2 rfl g0 ?_
  refine lv_iload_n hx hb dL_man_3 rfl g1 ?_
  refine lv_iload_n hx hb dL_man_4 rfl g2 ?_
  obtain ⟨hm, hini, hco, hcl, h45⟩ := mcl_7
  have hpre : ∀ U : State, U.heap = s.heap → s.WarmedH U.vm → bx_P L D cA ζ α s.heap.size [.ref 0, .int a1, .int a2] (I, J, R, W9) (([.ref 0, .int a1, .int a2] : List Value).map (bm_re α)).toArray U := bx_pre [.ref 0, .int a1, .int a2] hP hD hS hA hK hG hX
  intro T hT X
  rcases vx_runV (bytes := cX11_man) (maxL := 3) (ret := some .int) (C := RX11) (As := [.int a1, .int a2]) (rest := [.int 0, .ref (α 181)]) (b := α 0) (g := F0 m 5 lsA [.int a2, .int a1, .ref (α 0), .int 0, .ref (α 181)]) (cells := 0) (slots := 0) (locs := []) (H := s.heap) (R := bx_rm 10) (nL := 5) (cc := cL_man) (own := RL) (Ts := bm_T) (index := 7) (n := 2) ⟨hx, hb, hml, hown, hts⟩ hMan
    ⟨callB_of 2 hts (bm_wgood (mi := m_X11_man) hco) rfl rfl rfl (hts _ hini) (hts _ hm.1) hcl ⟨Nat.le_of_ble_eq_true rfl, Nat.le_of_ble_eq_true rfl⟩, hts _ hm.2.1, hts _ hm.2.2⟩ ⟨bx_blind, va_recv (q := (RX11, TX11, 17)) hK hP rfl (bm_ws_obj (o := 0) (by decide) rfl), hpre⟩ rfl rfl hl'.1 rfl (lv_room (Nat.le_of_ble_eq_true rfl)) dL_man_5 ⟨Nat.le_refl _, Nat.le_refl _⟩ T hT X with ⟨v, st₀, t, T', Lc, h0, X', hL, e1, e2, hq, stp⟩ | ⟨q, st₀, t, T', Lc, E, ce, h0, X', hL, e1, e2, ⟨rfl, hP2, hD2, hF2⟩, hce, hcv, hcls, stp⟩
  · exact absurd hq id
  · have hS2 : va_S A s.heap T'.heap ([] ++ Lc) := by
      obtain ⟨f1, f2⟩ := hF2
      rw [h0] at f1 f2
      exact ⟨by rw [e1]; exact f1, fun q h1 h2 => by rw [e1]; exact f2 q h1 h2, fun z hz => hL z hz⟩
    have hq9 : ∀ t9 : State, t9.heap = T'.heap → s.WarmedH t9.vm → bm_Q D cA A ζ α 182 182 (fun r M' => r = some (.int 1) ∧ M' = (I, J, R, W9)) (([.ref 0, .int a1, .int a2, .ref 181] : List Value).map (bm_re α)).toArray s (.returned (some (.int 1))) t9 := fun t9 ht _ => ⟨⟨α, some (.int 1), (I, J, R, W9), fun _ _ => rfl, hζ, ⟨rfl, rfl⟩, rfl, by rw [ht, e1]; exact hP2, hD⟩, hS2.F ht⟩
    have kk : W p L.1 e (bx_rm 10) s m (([.ref 0, .int a1, .int a2, .ref 181] : List Value).map (bm_re α)).toArray below meth c T'.heap ([] ++ Lc) 1 6 (MQ below (bm_Q D cA A ζ α 182 182 (fun r M' => r = some (.int 1) ∧ M' = (I, J, R, W9))) (([.ref 0, .int a1, .int a2, .ref 181] : List Value).map (bm_re α)).toArray s 1 6 A) (F0 m 13 lsA [.ref q]) := by
      refine lv_astore (nL := 5) hx hb dL_man_13 hl' (by decide) rfl (fun ls' hl2 => ?_)
      refine lv_iconst (v := 1) hx hb dL_man_15 (by decide) ?_
      exact W.iret hx hb hret hq9 (fun z hz => hS2.2.2 z hz) dL_man_16 hlk
    obtain ⟨t2, c1, c2⟩ := vx_catch (own := RL) (name := bx_NS) (E := bx_NS) (pc := 5) (ls := lsA) (rest := [.int 0, .ref (α 181)]) hown [] ⟨0, 10, 13, 13⟩ [] htab (fun z hz => nomatch hz) rfl (by decide) (hts _ bx_cL) (bx_warm (bx_ok _ bx_ca) (State.WarmedH.refl s) (hX.1 _ bx_ca)) (by rw [e1]; exact hce) hcv hcls kk T' rfl X'
    exact ⟨t2, stp.trans c1, c2⟩
