/-! the words of a throw -/
abbrev bx_NS : String := "java/util/NoSuchElementException"
abbrev bx_RT : String := "java/lang/RuntimeException"
abbrev bx_up : List String := ["java/lang/Exception"]
def bx_TW : List Cond := bx_atS RX11 155 bx_NS bx_RT bx_up
theorem bx_in : ∀ w ∈ bx_TW, w ∈ lw_tbl := by decide +kernel
theorem bx_ok : ∀ w ∈ bx_TW, (w.onTables && w.keepsFace) = true := by decide +kernel
theorem bx_ot : ∀ w ∈ Cond.classLink RX11 151 bx_NS :: Cond.initialized bx_NS :: bx_TW, vx_ot w = true := by decide +kernel
theorem bx_warm {w : Cond} {args a' : Array Value} {s U : State} (hw : (w.onTables && w.keepsFace) = true) (hW : s.WarmedH U.vm) (h : w.before args s = true) : w.before a' U = true := by
  rw [Bool.and_eq_true] at hw
  exact va_tabs hw.1 (rfl : (s.setVm U.vm).vm = U.vm) (Cond.before_shiftedFace (State.Shifted.of_warmed hW) _ hw.2 h)
theorem bx_tr {l : Launch} (h : l.flags = flags0) : l.stackTraces = false := by
  unfold Launch.stackTraces
  rw [h]
  decide +kernel
theorem bx_cl : Cond.classLink RX11 151 bx_NS ∈ bm_T := List.mem_filter.mpr ⟨by decide +kernel, by decide +kernel⟩
theorem bx_ini : Cond.initialized bx_NS ∈ bm_T := List.mem_filter.mpr ⟨by decide +kernel, by decide +kernel⟩
theorem bx_str : Cond.stringRef RX11 153 "no such man, or nothing such of him" ∈ lw_tbl := by decide +kernel
theorem bx_lU : Cond.laysStatic Bundle.tN "UNASSIGNED_STACK" Bundle.steD ∈ lw_tbl := by decide +kernel
theorem bx_lN : Cond.laysStatic Bundle.tN "SUPPRESSED_SENTINEL" Bundle.listD ∈ lw_tbl := by decide +kernel
theorem bx_iT : Cond.initialized Bundle.tN ∈ lw_tbl := by decide +kernel
theorem bx_cL : Cond.classLink RL 13 bx_NS ∈ bm_T := List.mem_filter.mpr ⟨by decide +kernel, by decide +kernel⟩
theorem bx_ca : Cond.castable bx_NS bx_NS ∈ bx_TW := by decide +kernel
