/-! man: the throw, its catch -/
abbrev bx_tx : String := "no such man, or nothing such of him"
/-- what a throw rests on -/
def bx_X (A : Nat → Prop) (U : State) (H : Heap) : Prop := (∀ w ∈ bx_TW, w.before #[] U = true) ∧ vx_Zq Bundle.tN "UNASSIGNED_STACK" Bundle.steD A U H ∧ vx_Zq Bundle.tN "SUPPRESSED_SENTINEL" Bundle.listD A U H ∧ ∃ sa, vk_R RX11 153 bx_tx sa U
theorem bx_Xwarm {A : Nat → Prop} {s U : State} {H : Heap} (hW : s.WarmedH U.vm) (h : bx_X A s H) : bx_X A U H := by
  obtain ⟨h1, h2, h3, sa, h4⟩ := h
  exact ⟨fun w hw => bx_warm (bx_ok w hw) hW (h1 w hw), vx_Zq.moved hW.alike h2, vx_Zq.moved hW.alike h3, sa, vk_R.warm hW h4⟩
theorem bx_Xkept {A : Nat → Prop} {U : State} {H H1 : Heap} (h : bx_X A U H) (hq : ∀ a : Nat, a < H.size → ¬ A a → H1[a]? = H[a]?) : bx_X A U H1 := ⟨h.1, h.2.1.kept hq, h.2.2.1.kept hq, h.2.2.2⟩
theorem bx_Xnarrow {A B : Nat → Prop} {U : State} {H : Heap} (h : bx_X A U H) (hAB : ∀ q, B q → A q) : bx_X B U H := ⟨h.1, h.2.1.narrow hAB, h.2.2.1.narrow hAB, h.2.2.2⟩
theorem bx_rU : Cond.isRef (.static Bundle.tN "UNASSIGNED_STACK" Bundle.steD) ∈ flatC (Jvm.Cond.and given_1 narrow_1) := by decide +kernel
theorem bx_rN : Cond.isRef (.static Bundle.tN "SUPPRESSED_SENTINEL" Bundle.listD) ∈ flatC (Jvm.Cond.and given_1 narrow_1) := by decide +kernel
theorem bx_of {L : bm_L} {args : Array Value} {s : State} (h : bm_ab L args s) : bx_X (fun q : Nat => s.heap.size ≤ q) s s.heap := by
  obtain ⟨-, -, hts, hgv⟩ := h
  have hs := flat_of_before _ hgv
  have hA : ∀ a : Nat, a < s.heap.size → ¬ s.heap.size ≤ a := fun a ha => Nat.not_le.mpr ha
  refine ⟨fun w hw => bx_warm (bx_ok w hw) (State.WarmedH.refl s) (hts w (bx_in w hw)), vx_Zqof (hts _ bx_lU) (hts _ bx_iT) (hs _ bx_rU) hA, vx_Zqof (hts _ bx_lN) (hts _ bx_iT) (hs _ bx_rN) hA, ?_⟩
  have h1 := hts _ bx_str
  have hcur : ∃ cur, s.vm.findClass RX11 = some cur := by
    have h1 := h1
    simp only [Cond.before, Cond.holds, Cond.value] at h1
    cases hc : s.vm.findClass RX11 with
    | none => simp [hc] at h1
    | some cur => exact ⟨cur, rfl⟩
  obtain ⟨cur, hcur⟩ := hcur
  obtain ⟨-, -, -, a, -, -, -, -, -, hev⟩ := Cond.stringRef_spec hcur h1
  exact ⟨a, vk_R.of (A := args) h1 hev⟩
/-- ahead of a call of man -/
def bx_P (L : bm_L) (D : va_G) (cA : Nat → ClassId) (ζ α : Nat → Nat) (sz : Nat) (as : List Value) (M : bm_M) : Array Value → State → Prop := va_Pc (as.map (bm_re α)) (fun U => U.heap.size = sz ∧ va_P D vwCl (bm_ws cA α 182 M) U.heap ∧ va_K D vwCl (bm_tys cA) U ∧ va_D (fun _ => True) (bm_ws cA α 182 M) ∧ bm_G L.2 ζ (va_A (bm_ws cA α 182 M) sz) U U.heap ∧ bx_X (va_A (bm_ws cA α 182 M) sz) U U.heap)
theorem bx_blind {L : bm_L} {D : va_G} {cA : Nat → ClassId} {ζ α : Nat → Nat} {sz : Nat} {as : List Value} {M : bm_M} : FrameBlind (bx_P L D cA ζ α sz as M) := fun a U g mk q => by
  obtain ⟨q0, q1, qP, qK, qD, qG, qX⟩ := q
  exact ⟨q0, q1, qP, va_K.moved (u := U) (U := U.calling g mk a) (Vm.Alike.refl U.vm) qK, qD, bm_G.warm (s := U) (U := U.calling g mk a) (State.WarmedH.refl U) qG, bx_Xwarm (s := U) (U := U.calling g mk a) (State.WarmedH.refl U) qX⟩
theorem bx_pre {L : bm_L} {D : va_G} {cA : Nat → ClassId} {A : Nat → Prop} {ζ α : Nat → Nat} {s : State} {H : Heap} {locs : List Loc} {M : bm_M} (as : List Value) (hP : va_P D vwCl (bm_ws cA α 182 M) H) (hD : va_D A (bm_ws cA α 182 M)) (hS : va_S A s.heap H locs) (hA : ∀ q, s.heap.size ≤ q → A q) (hK : va_K D vwCl (bm_tys cA) s) (hG : bm_G L.2 ζ A s s.heap) (hX : bx_X A s s.heap) :
    ∀ U : State, U.heap = H → s.WarmedH U.vm → bx_P L D cA ζ α H.size as M (as.map (bm_re α)).toArray U := fun U hU hW =>
  ⟨rfl, by rw [hU], by rw [hU]; exact hP, va_K.moved hW.alike hK, hD.weaken (fun _ _ _ _ => trivial), by rw [hU]; exact ((hG.kept hS.2.1).narrow (bm_AA (D := D) hD hS hA)).warm hW, by rw [hU]; exact bx_Xwarm hW (bx_Xnarrow (bx_Xkept hX hS.2.1) (bm_AA (D := D) hD hS hA))⟩
/-- room for d frames and one exception -/
def bx_rm (d : Nat) : Room := { frames := d, cells := 1, slots := 6, locals := 64 * d }
/-- what has been thrown -/
def bx_C (D : va_G) (cA : Nat → ClassId) (A : Nat → Prop) (α : Nat → Nat) (M : bm_M) : String → State → State → Prop := fun E st t => E = bx_NS ∧ va_P D vwCl (bm_ws cA α 182 M) t.heap ∧ va_D A (bm_ws cA α 182 M) ∧ va_F A st t
theorem dX11_man_21 : decode cX11_man 21 = .ok (.dup, 1) := by decide +kernel
theorem dX11_man_22 : decode cX11_man 22 = .ok (.ldc 153, 2) := by decide +kernel
theorem dX11_man_24 : decode cX11_man 24 = .ok (.invokespecial 155, 3) := by decide +kernel
theorem dX11_man_27 : decode cX11_man 27 = .ok (.athrow, 1) := by decide +kernel
theorem bx_lt {D : va_G} {cl : List vw_C} {ws : va_W} {H : Heap} (h : va_P D cl ws H) {k : Nat} {q : Nat × va_E} (hk : ws[k]? = some q) : q.1 < H.size := vx_lt h hk
set_option maxHeartbeats 4000000 in
set_option maxRecDepth 100000 in
theorem bx_man {L : bm_L} (hst : L.1.stackTraces = false) {I : bm_TI} {J : bm_TJ} {R W9 : bm_TR} {a1 a2 : Int32} (hR : bm_RR R) (hxm : xm_t I a1 a2) (D : va_G) (cA : Nat → ClassId) (ζ α : Nat → Nat) (sz : Nat) (hζ : ∀ k, 1000 ≤ k → α k = ζ k) : vx_Met L.1 yX11_man (bm_w m_X11_man) (bx_rm 8) (bx_P L D cA ζ α sz [.ref 0, .int a1, .int a2] (I, J, R, W9)) (fun _ _ _ _ => False) (bx_C D cA (va_A (bm_ws cA α 182 (I, J, R, W9)) sz) α (I, J, R, W9)) 1 6 (va_A (bm_ws cA α 182 (I, J, R, W9)) sz) := by
  refine vx_ofW (cc := cX11_man) (maxL := 3) (ret := some .int) (by decide) rfl ?_
  intro p e s m args below meth c s₁ B hml htab hv
  obtain ⟨rfl, hsz, hP, hK, hD0, hG, hX⟩ := hv
  subst hsz
  have hts0 : ∀ w ∈ bm_w m_X11_man, w.before _ s = true := atoms_spec (ws := bm_w m_X11_man) B.pre
  have hts : ∀ w ∈ bm_T, w.before _ s = true := fun w hw => hts0 w (List.mem_cons_of_mem _ hw)
  have hl := lv_entry (([.ref 0, .int a1, .int a2] : List Value).map (bm_re α)) (n := 3) (by rw [bm_sl_len]; exact Nat.le_of_ble_eq_true rfl)
  rw [bm_en_ls] at hl
  rw [lg_entry_eq]
  generalize hA0 : va_A (bm_ws cA α 182 (I, J, R, W9)) s.heap.size = A at hG hX ⊢
  have hA : ∀ q, s.heap.size ≤ q → A q := fun q hq => by rw [← hA0]; exact Or.inr hq
  have hD : va_D A (bm_ws cA α 182 (I, J, R, W9)) := by rw [← hA0]; exact hD0.self (sz := s.heap.size)
  have hx := B.exec
  have hb := B.bytes
  have hown := findClass_of_methodNamed B.named
  have hlk := B.notSynchronized
  have hS : va_S A s.heap s.heap [] := va_S.rf
  generalize hLS : ((lg_sl (([.ref 0, .int a1, .int a2] : List Value).map (bm_re α)) ++ List.replicate (3 - (lg_sl (([.ref 0, .int a1, .int a2] : List Value).map (bm_re α))).length) Slot.unset).toArray) = lsA at hl ⊢
  have hl' : lv_has lsA 3 (bm_ls α [(0, .ref 0), (1, .int a1), (2, .int a2)]) := hl
  have g0 : lsA[0]? = some (.val (.ref (α 0))) := bm_lv (j := 0) hl' rfl
  have g1 : lsA[1]? = some (.val (.int a1)) := bm_lv (j := 1) hl' rfl
  have g2 : lsA[2]? = some (.val (.int a2)) := bm_lv (j := 2) hl' rfl
  -- the throw
  have thr : ∀ (H : Heap) (locs : List Loc), va_P D vwCl (bm_ws cA α 182 (I, J, R, W9)) H → va_S A s.heap H locs → W p L.1 e (bx_rm 8) s m (([.ref 0, .int a1, .int a2] : List Value).map (bm_re α)).toArray below meth c H locs 0 0 (vx_MQ below (fun _ _ _ _ => False) (bx_C D cA A α (I, J, R, W9)) (([.ref 0, .int a1, .int a2] : List Value).map (bm_re α)).toArray s 1 6 A) (F0 m 18 lsA []) := by
    intro H locs hPH hSH
    obtain ⟨hX1, hX2, hX3, sa, hX4⟩ := hX
    refine bx_throwS (cc := cX11_man) (own := RX11) (cls := bx_NS) (Yn := bx_RT) (text := bx_tx) (names := bx_up) (ik := 151) (is := 153) (ic := 155) (sa := sa) (A := A) hx hb hst hown (by decide) (by decide) (by decide) (hts _ bx_cl) (hts _ bx_ini) hX4 (fun w hw => bx_warm (bx_ok w hw) (State.WarmedH.refl s) (hX1 w hw)) bx_ot hX2 hX3 hSH (hl'.1.trans hml.symm) dX11_man_18 dX11_man_21 dX11_man_22 dX11_man_24 dX11_man_27 (fun x hx' => absurd (htab x hx') id) (Nat.le_of_ble_eq_true rfl) (Nat.le_of_ble_eq_true rfl) (Nat.le_refl _) (Nat.le_refl _) hlk (fun t _ ht1 ht2 => ⟨rfl, hPH.kept (fun k q hk => ht2 _ (bx_lt hPH hk)), hD, Nat.le_trans hSH.1 ht1, fun q hq1 hq2 => (ht2 q (Nat.lt_of_lt_of_le hq1 hSH.1)).trans (hSH.2.1 q hq1 hq2)⟩) (fun z hz => hSH.2.2 z hz) (Nat.le_refl _) (Nat.le_refl _)
  refine lv_aload_n hx hb dX11_man_0 rfl g0 ?_
  refine lv_iload_n hx hb dX11_man_1 rfl g1 ?_
  obtain ⟨hm, hini, hco, hcl, h45⟩ := mc_11_147
  obtain ⟨vb, hvb⟩ : ∃ vb, f_X11_isMan I a1 = some vb := by
    rcases hxm with h | ⟨h, _⟩
    · exact ⟨_, h⟩
    · exact ⟨_, h⟩
  refine bm_call (n1 := 182) (n2 := 182) (M1 := (I, J, R, W9)) (A := A) (va_runV (bytes := cX11_isMan) (maxL := 2) (ret := some .boolean) (C := RX11) (As := [.int a1]) (rest := []) (b := α 0) ⟨hx, hb, hml, hown, hts⟩ (c_X11_isMan (lc := L) (d := 1) (n := 182) (J := J) (W := W9) (by decide) hR hvb D cA ζ α s.heap.size hζ)
    ⟨callB_of 1 hts (bm_wgood (mi := m_X11_isMan) hco) rfl rfl rfl (hts _ hini) (hts _ hm.1) hcl ⟨Nat.le_of_ble_eq_true rfl, Nat.le_of_ble_eq_true rfl⟩, hts _ hm.2.1, hts _ hm.2.2⟩ ⟨bm_blind, va_recv (q := (RX11, TX11, 17)) hK hP rfl (bm_ws_obj (o := 0) (by decide) rfl), bm_pre [.ref 0, .int a1] hP hD hS hA hK hG⟩ rfl rfl hl'.1 rfl (lv_room (Nat.zero_le _)) dX11_man_2 ⟨Nat.le_of_ble_eq_true rfl, Nat.le_of_ble_eq_true rfl⟩) hS (bm_AA (D := D) hD hS hA) (fun α2 r M2 H1 locs1 b1 b2 hq hP1 hD1 hS1 => ?_)
  have hα : α2 = α := by funext q; exact b1 q (by omega)
  subst hα
  obtain ⟨rfl, rfl⟩ := hq
  show W p L.1 e (bx_rm 8) s m (([.ref 0, .int a1, .int a2] : List Value).map (bm_re α2)).toArray below meth c H1 locs1 0 0 _ (F0 m 5 lsA [.int (bm_bi vb)])
  rcases hxm with h | ⟨h, h2⟩
  · obtain rfl : vb = false := Option.some.inj (hvb.symm.trans h)
    exact lv_if_eq (tgt := 18) hx hb dX11_man_5 (by decide) (fun _ => thr H1 locs1 hP1 hS1) (fun q => absurd rfl q)
  · obtain rfl : vb = true := Option.some.inj (hvb.symm.trans h)
    refine lv_if_eq (tgt := 18) hx hb dX11_man_5 (by decide) (fun q => absurd q (by decide)) (fun _ => ?_)
    refine lv_iload_n hx hb dX11_man_8 rfl g2 ?_
    refine lv_if_lt (tgt := 18) hx hb dX11_man_9 (by decide) (fun _ => thr H1 locs1 hP1 hS1) (fun q => ?_)
    refine lv_iload_n hx hb dX11_man_12 rfl g2 ?_
    refine lv_bipush (v := 9) hx hb dX11_man_13 (by decide) ?_
    refine lv_icmp_le (tgt := 28) hx hb dX11_man_15 (by decide) (fun q9 => ?_) (fun _ => thr H1 locs1 hP1 hS1)
    rcases h2 with h2 | h2
    · exact absurd h2 q
    · exact absurd q9 h2
