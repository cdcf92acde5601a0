/-! the good words of the tables: every method's word list is its own code and these -/
def bm_T : List Cond := lw_tbl.filter goodWord
theorem bm_Tin {i : Nat} {w : Cond} (h : lw_tbl[i]? = some w) (g : goodWord w = true) : w ∈ bm_T := List.mem_filter.mpr ⟨List.mem_of_getElem? h, g⟩
theorem bm_Tw {ws : List Cond} (h : ∀ w ∈ ws, w ∈ lw_tbl) (g : ws.all goodWord = true) : ∀ w ∈ ws, w ∈ bm_T := fun w hw => List.mem_filter.mpr ⟨h w hw, List.all_eq_true.mp g w hw⟩
theorem bm_Tg {w : Cond} (h : w ∈ bm_T) : (w.onTables && w.keeps) = true ∨ ∃ ty, w = .arrayClass ty := good_of_word (List.mem_filter.mp h).2
/-- a method: name, code, locals, what it returns -/
abbrev bm_I : Type := MethodName × ByteArray × Nat × Option FieldType
def bm_w (mi : bm_I) : List Cond := Cond.code mi.1 mi.2.1 mi.2.2.1 mi.2.2.2 :: bm_T
theorem bm_wgood {mi : bm_I} (h : Cond.code mi.1 mi.2.1 mi.2.2.1 mi.2.2.2 ∈ bm_T) : GoodIn bm_T (bm_w mi) := fun w hw => by
  rcases List.mem_cons.mp hw with rfl | hw
  · exact ⟨h, bm_Tg h⟩
  · exact ⟨hw, bm_Tg hw⟩
/-- the memory: ints, longs, references (R: written by constructors alone), constants of the enum (W), by cell and slot -/
abbrev bm_M : Type := (Nat → Nat → Int32) × (Nat → Nat → Int64) × (Nat → Nat → Option Nat) × (Nat → Nat → Option Nat)
def bm_re (α : Nat → Nat) (v : Value) : Value := match v with
  | .ref k => .ref (α k)
  | w => w
theorem bm_re_cat (α : Nat → Nat) (v : Value) : (bm_re α v).category = v.category := by cases v <;> rfl
def bm_ls (α : Nat → Nat) (ls : List (Nat × Value)) : List (Nat × Value) := ls.map (fun q => (q.1, bm_re α q.2))
/-! the cells' shapes, in the order in which they are made: an object of a class, or an array (kind of its elements, length) -/
def bm_shl : List (Nat ⊕ (Nat × Nat)) := [.inl 10, .inl 9, .inr (0, 940), .inl 5, .inl 0, .inr (2, 8), .inr (0, 8), .inr (0, 8), .inr (0, 8), .inr (0, 8), .inr (2, 7), .inr (0, 7), .inr (0, 7), .inr (0, 4), .inr (0, 4), .inl 0, .inr (2, 8), .inr (0, 8), .inr (0, 8), .inr (0, 8), .inr (0, 8), .inr (2, 7), .inr (0, 7), .inr (0, 7), .inr (0, 4), .inr (0, 4), .inl 8, .inr (0, 8), .inr (0, 8), .inr (0, 8), .inr (0, 8), .inr (0, 8), .inr (0, 8), .inl 8, .inr (0, 8), .inr (0, 8), .inr (0, 8), .inr (0, 8), .inr (0, 8), .inr (0, 8), .inl 4, .inr (5, 8), .inl 8, .inr (0, 8), .inr (0, 8), .inr (0, 8), .inr (0, 8), .inr (0, 8), .inr (0, 8), .inl 8, .inr (0, 8), .inr (0, 8), .inr (0, 8), .inr (0, 8), .inr (0, 8), .inr (0, 8), .inl 8, .inr (0, 8), .inr (0, 8), .inr (0, 8), .inr (0, 8), .inr (0, 8), .inr (0, 8), .inl 8, .inr (0, 8), .inr (0, 8), .inr (0, 8), .inr (0, 8), .inr (0, 8), .inr (0, 8), .inl 8, .inr (0, 8), .inr (0, 8), .inr (0, 8), .inr (0, 8), .inr (0, 8), .inr (0, 8), .inl 8, .inr (0, 8), .inr (0, 8), .inr (0, 8), .inr (0, 8), .inr (0, 8), .inr (0, 8), .inl 8, .inr (0, 8), .inr (0, 8), .inr (0, 8), .inr (0, 8), .inr (0, 8), .inr (0, 8), .inl 8, .inr (0, 8), .inr (0, 8), .inr (0, 8), .inr (0, 8), .inr (0, 8), .inr (0, 8), .inr (6, 2), .inl 3, .inl 0, .inr (2, 8), .inr (0, 8), .inr (0, 8), .inr (0, 8), .inr (0, 8), .inr (2, 7), .inr (0, 7), .inr (0, 7), .inr (0, 4), .inr (0, 4), .inl 8, .inr (0, 8), .inr (0, 8), .inr (0, 8), .inr (0, 8), .inr (0, 8), .inr (0, 8), .inl 7, .inr (4, 40), .inr (0, 40), .inr (0, 40), .inr (0, 40), .inl 3, .inl 0, .inr (2, 8), .inr (0, 8), .inr (0, 8), .inr (0, 8), .inr (0, 8), .inr (2, 7), .inr (0, 7), .inr (0, 7), .inr (0, 4), .inr (0, 4), .inl 8, .inr (0, 8), .inr (0, 8), .inr (0, 8), .inr (0, 8), .inr (0, 8), .inr (0, 8), .inl 7, .inr (4, 40), .inr (0, 40), .inr (0, 40), .inr (0, 40), .inl 1, .inr (0, 40), .inr (0, 40), .inr (0, 40), .inl 7, .inr (4, 40), .inr (0, 40), .inr (0, 40), .inr (0, 40), .inl 7, .inr (4, 40), .inr (0, 40), .inr (0, 40), .inr (0, 40), .inl 2, .inl 6, .inr (0, 64), .inl 11, .inr (1, 940), .inr (0, 287), .inr (0, 61), .inr (0, 135), .inr (2, 30), .inr (2, 34), .inr (0, 8), .inr (0, 360), .inr (0, 45), .inr (1, 48), .inr (0, 4), .inr (0, 45), .inr (3, 45), .inr (0, 574), .inr (2, 30), .inr (3, 2), .inr (2, 1)]
def bm_SH (k : Nat) : Nat ⊕ (Nat × Nat) := bm_shl.getD k (.inl 99)
def bm_ty (ci : Nat) : Nat → FieldType := match ci with
  | 0 => tyX0
  | 1 => tyX1
  | 2 => tyX2
  | 3 => tyX3
  | 4 => tyX4
  | 5 => tyX5
  | 6 => tyX6
  | 7 => tyX7
  | 8 => tyX8
  | 9 => tyX9
  | 10 => tyX11
  | _ => tyX12
def bm_N (ci : Nat) : Nat := match ci with
  | 0 => 17
  | 1 => 8
  | 2 => 2
  | 3 => 4
  | 4 => 3
  | 5 => 11
  | 6 => 2
  | 7 => 6
  | 8 => 13
  | 9 => 2
  | 10 => 17
  | 11 => 47
  | _ => 0
def bm_at (t : Nat) : FieldType := match t with
  | 0 => .int
  | 1 => .byte
  | 2 => .long
  | 3 => .boolean
  | 4 => .object "BrowArmy$Word"
  | 5 => .object "BrowArmy$State"
  | _ => .object "BrowArmy$Image"
def bm_sz (k : Nat) : Nat := match bm_SH k with
  | .inl ci => bm_N ci
  | .inr q => q.2
def bm_sl (n : Nat) : Nat := match n with
  | 0 => 0
  | k + 1 => bm_sl k + bm_sz k
theorem bm_sl_mono {a b : Nat} (h : a ≤ b) : bm_sl a ≤ bm_sl b := by
  induction h with
  | refl => exact Nat.le_refl _
  | step _ ih => exact Nat.le_trans ih (Nat.le_add_right _ _)
def bm_fv (α : Nat → Nat) (M : bm_M) (o : Nat) (ty : FieldType) (k : Nat) : Value := match ty with
  | .long => .long (M.2.1 o k)
  | .object C => if C = "BrowArmy$Word" then va_rf ((M.2.2.2 o k).map α) else va_rf ((M.2.2.1 o k).map α)
  | .array _ => va_rf ((M.2.2.1 o k).map α)
  | _ => .int (M.1 o k)
def bm_arr (α : Nat → Nat) (M : bm_M) (o t : Nat) : (Nat → Int32) ⊕ (Nat → Int64) ⊕ (Nat → UInt32) ⊕ (Nat → UInt64) ⊕ (Nat → Option Nat) := match t with
  | 0 => .inl (M.1 o)
  | 1 => .inl (M.1 o)
  | 2 => .inr (.inl (M.2.1 o))
  | 3 => .inl (M.1 o)
  | 4 => .inr (.inr (.inr (.inr (fun j => (M.2.2.2 o j).map α))))
  | _ => .inr (.inr (.inr (.inr (fun j => (M.2.2.1 o j).map α))))
def bm_fs (α : Nat → Nat) (M : bm_M) (o ci : Nat) : List Value := (List.range (bm_N ci)).map (fun k => bm_fv α M o (bm_ty ci k) k)
def bm_cell (cA : Nat → ClassId) (α : Nat → Nat) (M : bm_M) (o : Nat) : va_E := match bm_SH o with
  | .inl ci => .inr (ci, bm_fs α M o ci)
  | .inr q => .inl (cA q.1, q.2, bm_arr α M o q.1)
def bm_ws (cA : Nat → ClassId) (α : Nat → Nat) (n : Nat) (M : bm_M) : va_W := (List.range n).map (fun o => (α o, bm_cell cA α M o))
def bm_tys (cA : Nat → ClassId) : List (ClassId × FieldType) := (List.range 7).map (fun t => (cA t, bm_at t))
theorem bm_tys_at (cA : Nat → ClassId) {t : Nat} (h : t < 7) : (bm_tys cA)[t]? = some (cA t, bm_at t) := by simp [bm_tys, h]
theorem bm_ws_at (cA : Nat → ClassId) (α : Nat → Nat) {n o : Nat} (M : bm_M) (h : o < n) : (bm_ws cA α n M)[o]? = some (α o, bm_cell cA α M o) := by simp [bm_ws, h]
theorem bm_ws_obj {cA : Nat → ClassId} {α : Nat → Nat} {n o ci : Nat} {M : bm_M} (h : o < n) (hs : bm_SH o = .inl ci) : (bm_ws cA α n M)[o]? = some (α o, .inr (ci, bm_fs α M o ci)) := by
  rw [bm_ws_at cA α M h, bm_cell, hs]
theorem bm_ws_arr {cA : Nat → ClassId} {α : Nat → Nat} {n o t len : Nat} {M : bm_M} (h : o < n) (hs : bm_SH o = .inr (t, len)) : (bm_ws cA α n M)[o]? = some (α o, .inl (cA t, len, bm_arr α M o t)) := by
  rw [bm_ws_at cA α M h, bm_cell, hs]
theorem bm_fs_at {α : Nat → Nat} {M : bm_M} {o ci k : Nat} (h : k < bm_N ci) : (bm_fs α M o ci)[k]? = some (bm_fv α M o (bm_ty ci k) k) := by simp [bm_fs, h]
theorem bm_ws_len (cA : Nat → ClassId) (α : Nat → Nat) (n : Nat) (M : bm_M) : (bm_ws cA α n M).length = n := by simp [bm_ws]
/-- one cell changed -/
theorem bm_ws_set {cA : Nat → ClassId} {α : Nat → Nat} {n o : Nat} {M M' : bm_M} {e : va_E} (he : e = bm_cell cA α M' o) (ho : ∀ k, k ≠ o → bm_cell cA α M' k = bm_cell cA α M k) : (bm_ws cA α n M).set o (α o, e) = bm_ws cA α n M' := by
  subst he
  apply List.ext_getElem?
  intro i
  rw [List.getElem?_set]
  by_cases hi : i < n
  · by_cases h : o = i
    · subst h
      simp [bm_ws, hi]
    · rw [if_neg h, bm_ws_at _ _ _ hi, bm_ws_at _ _ _ hi, ho i (fun q => h q.symm)]
  · by_cases h : o = i
    · subst h
      simp [bm_ws, hi]
    · rw [if_neg h]
      simp [bm_ws, hi]
/-- writes -/
def bm_sI (M : bm_M) (o k : Nat) (v : Int32) : bm_M := (fun a b => if a = o then (if b = k then v else M.1 a b) else M.1 a b, M.2)
def bm_sL (M : bm_M) (o k : Nat) (v : Int64) : bm_M := (M.1, (fun a b => if a = o then (if b = k then v else M.2.1 a b) else M.2.1 a b), M.2.2)
def bm_sR (M : bm_M) (o k : Nat) (v : Option Nat) : bm_M := (M.1, M.2.1, (fun a b => if a = o then (if b = k then v else M.2.2.1 a b) else M.2.2.1 a b), M.2.2.2)
def bm_sW (M : bm_M) (o k : Nat) (v : Option Nat) : bm_M := (M.1, M.2.1, M.2.2.1, fun a b => if a = o then (if b = k then v else M.2.2.2 a b) else M.2.2.2 a b)
theorem bm_cell_congr {cA : Nat → ClassId} {α : Nat → Nat} {M M' : bm_M} {o : Nat} (h1 : M'.1 o = M.1 o) (h2 : M'.2.1 o = M.2.1 o) (h3 : M'.2.2.1 o = M.2.2.1 o) (h4 : M'.2.2.2 o = M.2.2.2 o) : bm_cell cA α M' o = bm_cell cA α M o := by
  have ha : ∀ t, bm_arr α M' o t = bm_arr α M o t := by intro t; unfold bm_arr; rw [h1, h2, h3, h4]
  have hf : ∀ ci, bm_fs α M' o ci = bm_fs α M o ci := by
    intro ci; unfold bm_fs
    apply List.map_congr_left
    intro k _
    unfold bm_fv; rw [h1, h2, h3, h4]
  unfold bm_cell
  split
  · rw [hf]
  · rw [ha]
theorem bm_sI_off {cA : Nat → ClassId} {α : Nat → Nat} {M : bm_M} {o k : Nat} {v : Int32} : ∀ j, j ≠ o → bm_cell cA α (bm_sI M o k v) j = bm_cell cA α M j := fun j hj => bm_cell_congr (by funext b; simp [bm_sI, hj]) rfl rfl rfl
theorem bm_sL_off {cA : Nat → ClassId} {α : Nat → Nat} {M : bm_M} {o k : Nat} {v : Int64} : ∀ j, j ≠ o → bm_cell cA α (bm_sL M o k v) j = bm_cell cA α M j := fun j hj => bm_cell_congr rfl (by funext b; simp [bm_sL, hj]) rfl rfl
theorem bm_sR_off {cA : Nat → ClassId} {α : Nat → Nat} {M : bm_M} {o k : Nat} {v : Option Nat} : ∀ j, j ≠ o → bm_cell cA α (bm_sR M o k v) j = bm_cell cA α M j := fun j hj => bm_cell_congr rfl rfl (by funext b; simp [bm_sR, hj]) rfl
theorem bm_sW_off {cA : Nat → ClassId} {α : Nat → Nat} {M : bm_M} {o k : Nat} {v : Option Nat} : ∀ j, j ≠ o → bm_cell cA α (bm_sW M o k v) j = bm_cell cA α M j := fun j hj => bm_cell_congr rfl rfl rfl (by funext b; simp [bm_sW, hj])
/-- a field's kind: 0 an int (or smaller), 1 a long, 2 a reference, 4 a constant of the enum -/
def bm_fk (ty : FieldType) : Nat := match ty with
  | .long => 1
  | .object C => if C = "BrowArmy$Word" then 4 else 2
  | .array _ => 2
  | .float => 3
  | .double => 3
  | _ => 0
theorem bm_fv_I {α : Nat → Nat} {M : bm_M} {o k : Nat} {ty : FieldType} (h : bm_fk ty = 0) : bm_fv α M o ty k = .int (M.1 o k) := by
  cases ty with
  | object C => simp only [bm_fk] at h; split at h <;> cases h
  | _ => first | rfl | (simp [bm_fk] at h)
theorem bm_fv_L {α : Nat → Nat} {M : bm_M} {o k : Nat} {ty : FieldType} (h : bm_fk ty = 1) : bm_fv α M o ty k = .long (M.2.1 o k) := by
  cases ty with
  | object C => simp only [bm_fk] at h; split at h <;> cases h
  | _ => first | rfl | (simp [bm_fk] at h)
theorem bm_fv_R {α : Nat → Nat} {M : bm_M} {o k : Nat} {ty : FieldType} (h : bm_fk ty = 2) : bm_fv α M o ty k = va_rf ((M.2.2.1 o k).map α) := by
  cases ty with
  | object C =>
    simp only [bm_fk] at h
    split at h
    · cases h
    · rename_i hc
      simp only [bm_fv, hc, if_false]
  | _ => first | rfl | (simp [bm_fk] at h)
theorem bm_fv_W {α : Nat → Nat} {M : bm_M} {o k : Nat} {ty : FieldType} (h : bm_fk ty = 4) : bm_fv α M o ty k = va_rf ((M.2.2.2 o k).map α) := by
  cases ty with
  | object C =>
    simp only [bm_fk] at h
    split at h
    · rename_i hc
      simp only [bm_fv, hc, if_true]
    · cases h
  | _ => first | rfl | (simp [bm_fk] at h)
theorem bm_fs_sI {α : Nat → Nat} {M : bm_M} {o ci k : Nat} {v : Int32} (h : bm_fk (bm_ty ci k) = 0) : (bm_fs α M o ci).set k (.int v) = bm_fs α (bm_sI M o k v) o ci := by
  apply List.ext_getElem?
  intro i
  rw [List.getElem?_set]
  by_cases hi : i < bm_N ci
  · rw [bm_fs_at hi]
    by_cases hk : k = i
    · subst hk
      simp [bm_fs, hi, bm_fv_I h, bm_sI]
    · rw [if_neg hk, bm_fs_at hi]
      have hk' : ¬ i = k := fun q => hk q.symm
      congr 1
      unfold bm_fv
      split <;> (try split) <;> simp [bm_sI, hk']
  · by_cases hk : k = i
    · subst hk; simp [bm_fs, hi]
    · simp [hk, bm_fs, hi]
theorem bm_fs_sL {α : Nat → Nat} {M : bm_M} {o ci k : Nat} {v : Int64} (h : bm_fk (bm_ty ci k) = 1) : (bm_fs α M o ci).set k (.long v) = bm_fs α (bm_sL M o k v) o ci := by
  apply List.ext_getElem?
  intro i
  rw [List.getElem?_set]
  by_cases hi : i < bm_N ci
  · rw [bm_fs_at hi]
    by_cases hk : k = i
    · subst hk
      simp [bm_fs, hi, bm_fv_L h, bm_sL]
    · rw [if_neg hk, bm_fs_at hi]
      have hk' : ¬ i = k := fun q => hk q.symm
      congr 1
      unfold bm_fv
      split <;> (try split) <;> simp [bm_sL, hk']
  · by_cases hk : k = i
    · subst hk; simp [bm_fs, hi]
    · simp [hk, bm_fs, hi]
theorem bm_fs_sR {α : Nat → Nat} {M : bm_M} {o ci k : Nat} {v : Option Nat} (h : bm_fk (bm_ty ci k) = 2) : (bm_fs α M o ci).set k (va_rf (v.map α)) = bm_fs α (bm_sR M o k v) o ci := by
  apply List.ext_getElem?
  intro i
  rw [List.getElem?_set]
  by_cases hi : i < bm_N ci
  · rw [bm_fs_at hi]
    by_cases hk : k = i
    · subst hk
      simp [bm_fs, hi, bm_fv_R h, bm_sR]
    · rw [if_neg hk, bm_fs_at hi]
      have hk' : ¬ i = k := fun q => hk q.symm
      congr 1
      unfold bm_fv
      split <;> (try split) <;> simp [bm_sR, hk']
  · by_cases hk : k = i
    · subst hk; simp [bm_fs, hi]
    · simp [hk, bm_fs, hi]
theorem bm_fs_sW {α : Nat → Nat} {M : bm_M} {o ci k : Nat} {v : Option Nat} (h : bm_fk (bm_ty ci k) = 4) : (bm_fs α M o ci).set k (va_rf (v.map α)) = bm_fs α (bm_sW M o k v) o ci := by
  apply List.ext_getElem?
  intro i
  rw [List.getElem?_set]
  by_cases hi : i < bm_N ci
  · rw [bm_fs_at hi]
    by_cases hk : k = i
    · subst hk
      simp [bm_fs, hi, bm_fv_W h, bm_sW]
    · rw [if_neg hk, bm_fs_at hi]
      have hk' : ¬ i = k := fun q => hk q.symm
      congr 1
      unfold bm_fv
      split <;> (try split) <;> simp [bm_sW, hk']
  · by_cases hk : k = i
    · subst hk; simp [bm_fs, hi]
    · simp [hk, bm_fs, hi]
theorem iwX0 : ∀ w ∈ wsX00, w ∈ bm_T := bm_Tw inX0 (by decide +kernel)
theorem iwX1 : ∀ w ∈ wsX10, w ∈ bm_T := bm_Tw inX1 (by decide +kernel)
theorem iwX2 : ∀ w ∈ wsX20, w ∈ bm_T := bm_Tw inX2 (by decide +kernel)
theorem iwX3 : ∀ w ∈ wsX30, w ∈ bm_T := bm_Tw inX3 (by decide +kernel)
theorem iwX4 : ∀ w ∈ wsX40, w ∈ bm_T := bm_Tw inX4 (by decide +kernel)
theorem iwX5 : ∀ w ∈ wsX50, w ∈ bm_T := bm_Tw inX5 (by decide +kernel)
theorem iwX6 : ∀ w ∈ wsX60, w ∈ bm_T := bm_Tw inX6 (by decide +kernel)
theorem iwX7 : ∀ w ∈ wsX70, w ∈ bm_T := bm_Tw inX7 (by decide +kernel)
theorem iwX8 : ∀ w ∈ wsX80, w ∈ bm_T := bm_Tw inX8 (by decide +kernel)
theorem iwX9 : ∀ w ∈ wsX90, w ∈ bm_T := bm_Tw inX9 (by decide +kernel)
theorem iwX11 : ∀ w ∈ wsX110, w ∈ bm_T := bm_Tw inX11 (by decide +kernel)
theorem iwX12 : ∀ w ∈ wsX120, w ∈ bm_T := bm_Tw inX12 (by decide +kernel)
def bm_nl : List Cond := [(Cond.methodLinkNest "BrowArmy" (11 : Nat) ({ cls := "BrowArmy$Tape", name := "<init>", desc := "()V" } : MethodName) "BrowArmy"),
  (Cond.methodLinkNest "BrowArmy" (27 : Nat) ({ cls := "BrowArmy$Army", name := "<init>", desc := "()V" } : MethodName) "BrowArmy"),
  (Cond.methodLinkNest "BrowArmy$Image" (9 : Nat) ({ cls := "BrowArmy$Army", name := "<init>", desc := "()V" } : MethodName) "BrowArmy"),
  (Cond.methodLinkNest "BrowArmy$Image" (27 : Nat) ({ cls := "BrowArmy$Sentence", name := "<init>", desc := "()V" } : MethodName) "BrowArmy"),
  (Cond.methodLinkNest "BrowArmy" (63 : Nat) ({ cls := "BrowArmy$Book", name := "<init>", desc := "()V" } : MethodName) "BrowArmy"),
  (Cond.methodLinkNest "BrowArmy" (70 : Nat) ({ cls := "BrowArmy$Sentence", name := "<init>", desc := "()V" } : MethodName) "BrowArmy"),
  (Cond.methodLinkNest "BrowArmy" (80 : Nat) ({ cls := "BrowArmy$Guess", name := "<init>", desc := "()V" } : MethodName) "BrowArmy"),
  (Cond.methodLinkNest "BrowArmy" (87 : Nat) ({ cls := "BrowArmy$Report", name := "<init>", desc := "()V" } : MethodName) "BrowArmy"),
  (Cond.methodLinkNest "BrowArmy$State" (70 : Nat) ({ cls := "BrowArmy", name := "bit", desc := "(II)I" } : MethodName) "BrowArmy"),
  (Cond.methodLinkNest "BrowArmy$State" (86 : Nat) ({ cls := "BrowArmy", name := "far", desc := "(IIII)I" } : MethodName) "BrowArmy"),
  (Cond.methodLinkNest "BrowArmy$Guess" (54 : Nat) ({ cls := "BrowArmy", name := "bit", desc := "(II)I" } : MethodName) "BrowArmy"),
  (Cond.methodLinkNest "BrowArmy$Report" (61 : Nat) ({ cls := "BrowArmy", name := "bit", desc := "(II)I" } : MethodName) "BrowArmy"),
  (Cond.methodLinkNest "BrowArmy$Sentence" (169 : Nat) ({ cls := "BrowArmy", name := "bit", desc := "(II)I" } : MethodName) "BrowArmy")]
/-- the field f of class ci, by entry i of the class own; fin: it is final -/
def bm_fo (own : String) (i ci f : Nat) (fin : Bool) : Prop := ∃ (C : String) (T : u_T) (N : Nat), vwCl[ci]? = some (C, T, N) ∧ bm_N ci = N ∧ f < N ∧ (T f).2.2.2 = fin ∧ Cond.fieldLink own i (T f).1 (T f).2.1 (T f).2.2.1 ∈ bm_T ∧ (∀ w ∈ u_ws C T N, w ∈ bm_T) ∧ (∀ k, k < N → parseFieldDescriptor (T k).2.2.1 = some (bm_ty ci k)) ∧ (∀ a, a < N → ∀ b, b < N → a ≠ b → (T a).2.1 ≠ (T b).2.1) ∧ (T f).1 = C
/-- what a call takes of the tables: 0 virtual, 1 static, 2 static of a nest mate, 3 a constructor, 4 a nest mate's constructor -/
def bm_mc (own : String) (kind i : Nat) (mi2 : bm_I) (na : Nat) : Prop :=
  (match kind with
    | 0 => Cond.methodLink own i mi2.1 ∈ bm_T ∧ Cond.instanceMethod mi2.1 ∈ bm_T ∧ Cond.selects mi2.1.cls mi2.1 mi2.1 ∈ bm_T
    | 1 => Cond.methodLink own i mi2.1 ∈ bm_T ∧ Cond.static mi2.1 ∈ bm_T
    | 2 => (∃ h, Cond.methodLinkNest own i mi2.1 h ∈ bm_nl) ∧ Cond.static mi2.1 ∈ bm_T
    | 3 => Cond.methodLink own i mi2.1 ∈ bm_T ∧ Cond.instanceMethod mi2.1 ∈ bm_T ∧ mi2.1.name = "<init>" ∧ mi2.2.2.2 = none
    | _ => (∃ h, Cond.methodLinkNest own i mi2.1 h ∈ bm_nl) ∧ Cond.instanceMethod mi2.1 ∈ bm_T ∧ mi2.1.name = "<init>" ∧ mi2.2.2.2 = none) ∧
  Cond.initialized mi2.1.cls ∈ bm_T ∧ Cond.code mi2.1 mi2.2.1 mi2.2.2.1 mi2.2.2.2 ∈ bm_T ∧ (mi2.1.cls ≠ "java/lang/invoke/MethodHandle" ∧ mi2.1.cls ≠ "java/lang/invoke/VarHandle" ∧ (parseMethodDescriptor mi2.1.desc).map (fun d => d.parameters.length) = some na) ∧ mi2.2.2.1 ≤ 45
