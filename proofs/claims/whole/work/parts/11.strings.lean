def RJ0 : String := "java/lang/String"
def RJ1 : String := "java/lang/StringLatin1"
def RJ3 : String := "jdk/internal/util/Preconditions"
abbrev cJ0_length_8abf5 : ByteArray := prog_23_method_54_code
def yJ0_length_8abf5 : MethodName := ⟨RJ0, "length", "()I"⟩
abbrev m_J0_length_8abf5 : bm_I := (yJ0_length_8abf5, cJ0_length_8abf5, 1, some .int)
theorem dJ0_length_8abf5_0 : decode cJ0_length_8abf5 0 = .ok (.aload_n 0, 1) := by decide +kernel
theorem dJ0_length_8abf5_1 : decode cJ0_length_8abf5 1 = .ok (.getfield 9, 3) := by decide +kernel
theorem dJ0_length_8abf5_4 : decode cJ0_length_8abf5 4 = .ok (.arraylength, 1) := by decide +kernel
theorem dJ0_length_8abf5_5 : decode cJ0_length_8abf5 5 = .ok (.aload_n 0, 1) := by decide +kernel
theorem dJ0_length_8abf5_6 : decode cJ0_length_8abf5 6 = .ok (.invokevirtual 335, 3) := by decide +kernel
theorem dJ0_length_8abf5_9 : decode cJ0_length_8abf5 9 = .ok (.ishr, 1) := by decide +kernel
theorem dJ0_length_8abf5_10 : decode cJ0_length_8abf5 10 = .ok (.ireturn, 1) := by decide +kernel
abbrev cJ0_coder_7d493 : ByteArray := prog_23_method_152_code
def yJ0_coder_7d493 : MethodName := ⟨RJ0, "coder", "()B"⟩
abbrev m_J0_coder_7d493 : bm_I := (yJ0_coder_7d493, cJ0_coder_7d493, 1, some .byte)
theorem dJ0_coder_7d493_0 : decode cJ0_coder_7d493 0 = .ok (.getstatic 38, 3) := by decide +kernel
theorem dJ0_coder_7d493_3 : decode cJ0_coder_7d493 3 = .ok (.ifCond .eq 10, 3) := by decide +kernel
theorem dJ0_coder_7d493_6 : decode cJ0_coder_7d493 6 = .ok (.aload_n 0, 1) := by decide +kernel
theorem dJ0_coder_7d493_7 : decode cJ0_coder_7d493 7 = .ok (.getfield 15, 3) := by decide +kernel
theorem dJ0_coder_7d493_10 : decode cJ0_coder_7d493 10 = .ok (.goto 4, 3) := by decide +kernel
theorem dJ0_coder_7d493_13 : decode cJ0_coder_7d493 13 = .ok (.iconst 1, 1) := by decide +kernel
theorem dJ0_coder_7d493_14 : decode cJ0_coder_7d493 14 = .ok (.ireturn, 1) := by decide +kernel
abbrev cJ0_charAt_5068e : ByteArray := prog_23_method_56_code
def yJ0_charAt_5068e : MethodName := ⟨RJ0, "charAt", "(I)C"⟩
abbrev m_J0_charAt_5068e : bm_I := (yJ0_charAt_5068e, cJ0_charAt_5068e, 2, some .char)
theorem dJ0_charAt_5068e_0 : decode cJ0_charAt_5068e 0 = .ok (.aload_n 0, 1) := by decide +kernel
theorem dJ0_charAt_5068e_1 : decode cJ0_charAt_5068e 1 = .ok (.invokevirtual 492, 3) := by decide +kernel
theorem dJ0_charAt_5068e_4 : decode cJ0_charAt_5068e 4 = .ok (.ifCond .eq 12, 3) := by decide +kernel
theorem dJ0_charAt_5068e_7 : decode cJ0_charAt_5068e 7 = .ok (.aload_n 0, 1) := by decide +kernel
theorem dJ0_charAt_5068e_8 : decode cJ0_charAt_5068e 8 = .ok (.getfield 9, 3) := by decide +kernel
theorem dJ0_charAt_5068e_11 : decode cJ0_charAt_5068e 11 = .ok (.iload_n 1, 1) := by decide +kernel
theorem dJ0_charAt_5068e_12 : decode cJ0_charAt_5068e 12 = .ok (.invokestatic 495, 3) := by decide +kernel
theorem dJ0_charAt_5068e_15 : decode cJ0_charAt_5068e 15 = .ok (.ireturn, 1) := by decide +kernel
theorem dJ0_charAt_5068e_16 : decode cJ0_charAt_5068e 16 = .ok (.aload_n 0, 1) := by decide +kernel
theorem dJ0_charAt_5068e_17 : decode cJ0_charAt_5068e 17 = .ok (.getfield 9, 3) := by decide +kernel
theorem dJ0_charAt_5068e_20 : decode cJ0_charAt_5068e 20 = .ok (.iload_n 1, 1) := by decide +kernel
theorem dJ0_charAt_5068e_21 : decode cJ0_charAt_5068e 21 = .ok (.invokestatic 498, 3) := by decide +kernel
theorem dJ0_charAt_5068e_24 : decode cJ0_charAt_5068e 24 = .ok (.ireturn, 1) := by decide +kernel
abbrev cJ0_isLatin1_aae02 : ByteArray := prog_23_method_154_code
def yJ0_isLatin1_aae02 : MethodName := ⟨RJ0, "isLatin1", "()Z"⟩
abbrev m_J0_isLatin1_aae02 : bm_I := (yJ0_isLatin1_aae02, cJ0_isLatin1_aae02, 1, some .boolean)
theorem dJ0_isLatin1_aae02_0 : decode cJ0_isLatin1_aae02 0 = .ok (.getstatic 38, 3) := by decide +kernel
theorem dJ0_isLatin1_aae02_3 : decode cJ0_isLatin1_aae02 3 = .ok (.ifCond .eq 14, 3) := by decide +kernel
theorem dJ0_isLatin1_aae02_6 : decode cJ0_isLatin1_aae02 6 = .ok (.aload_n 0, 1) := by decide +kernel
theorem dJ0_isLatin1_aae02_7 : decode cJ0_isLatin1_aae02 7 = .ok (.getfield 15, 3) := by decide +kernel
theorem dJ0_isLatin1_aae02_10 : decode cJ0_isLatin1_aae02 10 = .ok (.ifCond .ne 7, 3) := by decide +kernel
theorem dJ0_isLatin1_aae02_13 : decode cJ0_isLatin1_aae02 13 = .ok (.iconst 1, 1) := by decide +kernel
theorem dJ0_isLatin1_aae02_14 : decode cJ0_isLatin1_aae02 14 = .ok (.goto 4, 3) := by decide +kernel
theorem dJ0_isLatin1_aae02_17 : decode cJ0_isLatin1_aae02 17 = .ok (.iconst 0, 1) := by decide +kernel
theorem dJ0_isLatin1_aae02_18 : decode cJ0_isLatin1_aae02 18 = .ok (.ireturn, 1) := by decide +kernel
abbrev cJ0_checkIndex_df160 : ByteArray := prog_23_method_155_code
def yJ0_checkIndex_df160 : MethodName := ⟨RJ0, "checkIndex", "(II)V"⟩
abbrev m_J0_checkIndex_df160 : bm_I := (yJ0_checkIndex_df160, cJ0_checkIndex_df160, 2, none)
theorem dJ0_checkIndex_df160_0 : decode cJ0_checkIndex_df160 0 = .ok (.iload_n 0, 1) := by decide +kernel
theorem dJ0_checkIndex_df160_1 : decode cJ0_checkIndex_df160 1 = .ok (.iload_n 1, 1) := by decide +kernel
theorem dJ0_checkIndex_df160_2 : decode cJ0_checkIndex_df160 2 = .ok (.getstatic 1053, 3) := by decide +kernel
theorem dJ0_checkIndex_df160_5 : decode cJ0_checkIndex_df160 5 = .ok (.invokestatic 1059, 3) := by decide +kernel
theorem dJ0_checkIndex_df160_8 : decode cJ0_checkIndex_df160 8 = .ok (.pop, 1) := by decide +kernel
theorem dJ0_checkIndex_df160_9 : decode cJ0_checkIndex_df160 9 = .ok (.return_, 1) := by decide +kernel
abbrev cJ1_charAt_3b067 : ByteArray := prog_24_method_2_code
def yJ1_charAt_3b067 : MethodName := ⟨RJ1, "charAt", "([BI)C"⟩
abbrev m_J1_charAt_3b067 : bm_I := (yJ1_charAt_3b067, cJ1_charAt_3b067, 2, some .char)
theorem dJ1_charAt_3b067_0 : decode cJ1_charAt_3b067 0 = .ok (.iload_n 1, 1) := by decide +kernel
theorem dJ1_charAt_3b067_1 : decode cJ1_charAt_3b067 1 = .ok (.aload_n 0, 1) := by decide +kernel
theorem dJ1_charAt_3b067_2 : decode cJ1_charAt_3b067 2 = .ok (.arraylength, 1) := by decide +kernel
theorem dJ1_charAt_3b067_3 : decode cJ1_charAt_3b067 3 = .ok (.invokestatic 9, 3) := by decide +kernel
theorem dJ1_charAt_3b067_6 : decode cJ1_charAt_3b067 6 = .ok (.aload_n 0, 1) := by decide +kernel
theorem dJ1_charAt_3b067_7 : decode cJ1_charAt_3b067 7 = .ok (.iload_n 1, 1) := by decide +kernel
theorem dJ1_charAt_3b067_8 : decode cJ1_charAt_3b067 8 = .ok (.baload, 1) := by decide +kernel
theorem dJ1_charAt_3b067_9 : decode cJ1_charAt_3b067 9 = .ok (.sipush 255, 3) := by decide +kernel
theorem dJ1_charAt_3b067_12 : decode cJ1_charAt_3b067 12 = .ok (.iand, 1) := by decide +kernel
theorem dJ1_charAt_3b067_13 : decode cJ1_charAt_3b067 13 = .ok (.i2c, 1) := by decide +kernel
theorem dJ1_charAt_3b067_14 : decode cJ1_charAt_3b067 14 = .ok (.ireturn, 1) := by decide +kernel
abbrev cJ3_checkIndex_8e157 : ByteArray := prog_31_method_11_code
def yJ3_checkIndex_8e157 : MethodName := ⟨RJ3, "checkIndex", "(IILjava/util/function/BiFunction;)I"⟩
abbrev m_J3_checkIndex_8e157 : bm_I := (yJ3_checkIndex_8e157, cJ3_checkIndex_8e157, 3, some .int)
theorem dJ3_checkIndex_8e157_0 : decode cJ3_checkIndex_8e157 0 = .ok (.iload_n 0, 1) := by decide +kernel
theorem dJ3_checkIndex_8e157_1 : decode cJ3_checkIndex_8e157 1 = .ok (.ifCond .lt 8, 3) := by decide +kernel
theorem dJ3_checkIndex_8e157_4 : decode cJ3_checkIndex_8e157 4 = .ok (.iload_n 0, 1) := by decide +kernel
theorem dJ3_checkIndex_8e157_5 : decode cJ3_checkIndex_8e157 5 = .ok (.iload_n 1, 1) := by decide +kernel
theorem dJ3_checkIndex_8e157_6 : decode cJ3_checkIndex_8e157 6 = .ok (.if_icmp .lt 10, 3) := by decide +kernel
theorem dJ3_checkIndex_8e157_9 : decode cJ3_checkIndex_8e157 9 = .ok (.aload_n 2, 1) := by decide +kernel
theorem dJ3_checkIndex_8e157_10 : decode cJ3_checkIndex_8e157 10 = .ok (.iload_n 0, 1) := by decide +kernel
theorem dJ3_checkIndex_8e157_11 : decode cJ3_checkIndex_8e157 11 = .ok (.iload_n 1, 1) := by decide +kernel
theorem dJ3_checkIndex_8e157_12 : decode cJ3_checkIndex_8e157 12 = .ok (.invokestatic 95, 3) := by decide +kernel
theorem dJ3_checkIndex_8e157_15 : decode cJ3_checkIndex_8e157 15 = .ok (.athrow, 1) := by decide +kernel
theorem dJ3_checkIndex_8e157_16 : decode cJ3_checkIndex_8e157 16 = .ok (.iload_n 0, 1) := by decide +kernel
theorem dJ3_checkIndex_8e157_17 : decode cJ3_checkIndex_8e157 17 = .ok (.ireturn, 1) := by decide +kernel
theorem fw_J0_38 : Cond.fieldLink "java/lang/String" 38 "java/lang/String" "COMPACT_STRINGS" "Z" ∈ bm_T := bm_Tin (i := 1062) (by decide +kernel) (by decide +kernel)
theorem fw_J0_9 : Cond.fieldLink "java/lang/String" 9 "java/lang/String" "value" "[B" ∈ bm_T := bm_Tin (i := 2067) (by decide +kernel) (by decide +kernel)
theorem fw_J0_15 : Cond.fieldLink "java/lang/String" 15 "java/lang/String" "coder" "B" ∈ bm_T := bm_Tin (i := 2068) (by decide +kernel) (by decide +kernel)
theorem fw_J0_1053 : Cond.fieldLink "java/lang/String" 1053 "jdk/internal/util/Preconditions" "SIOOBE_FORMATTER" "Ljava/util/function/BiFunction;" ∈ bm_T := bm_Tin (i := 1078) (by decide +kernel) (by decide +kernel)
theorem mc_J0_335 : bm_mc RJ0 0 335 m_J0_coder_7d493 0 := ⟨⟨bm_Tin (i := 1058) (by decide +kernel) (by decide +kernel), bm_Tin (i := 1059) (by decide +kernel) (by decide +kernel), bm_Tin (i := 1060) (by decide +kernel) (by decide +kernel)⟩, bm_Tin (i := 131) (by decide +kernel) (by decide +kernel), bm_Tin (i := 1061) (by decide +kernel) (by decide +kernel), ⟨by decide +kernel, by decide +kernel, by decide +kernel⟩, by decide⟩
theorem mc_J0_492 : bm_mc RJ0 0 492 m_J0_isLatin1_aae02 0 := ⟨⟨bm_Tin (i := 1068) (by decide +kernel) (by decide +kernel), bm_Tin (i := 1069) (by decide +kernel) (by decide +kernel), bm_Tin (i := 1070) (by decide +kernel) (by decide +kernel)⟩, bm_Tin (i := 131) (by decide +kernel) (by decide +kernel), bm_Tin (i := 1071) (by decide +kernel) (by decide +kernel), ⟨by decide +kernel, by decide +kernel, by decide +kernel⟩, by decide⟩
theorem mc_J0_495 : bm_mc RJ0 1 495 m_J1_charAt_3b067 2 := ⟨⟨bm_Tin (i := 1072) (by decide +kernel) (by decide +kernel), bm_Tin (i := 1073) (by decide +kernel) (by decide +kernel)⟩, bm_Tin (i := 132) (by decide +kernel) (by decide +kernel), bm_Tin (i := 1074) (by decide +kernel) (by decide +kernel), ⟨by decide +kernel, by decide +kernel, by decide +kernel⟩, by decide⟩
theorem mc_J1_9 : bm_mc RJ1 1 9 m_J0_checkIndex_df160 2 := ⟨⟨bm_Tin (i := 1075) (by decide +kernel) (by decide +kernel), bm_Tin (i := 1076) (by decide +kernel) (by decide +kernel)⟩, bm_Tin (i := 131) (by decide +kernel) (by decide +kernel), bm_Tin (i := 1077) (by decide +kernel) (by decide +kernel), ⟨by decide +kernel, by decide +kernel, by decide +kernel⟩, by decide⟩
theorem mc_J0_1059 : bm_mc RJ0 1 1059 m_J3_checkIndex_8e157 3 := ⟨⟨bm_Tin (i := 1080) (by decide +kernel) (by decide +kernel), bm_Tin (i := 1081) (by decide +kernel) (by decide +kernel)⟩, bm_Tin (i := 133) (by decide +kernel) (by decide +kernel), bm_Tin (i := 1082) (by decide +kernel) (by decide +kernel), ⟨by decide +kernel, by decide +kernel, by decide +kernel⟩, by decide⟩
theorem mc_6_83 : bm_mc RX6 0 83 m_J0_length_8abf5 0 := ⟨⟨bm_Tin (i := 1054) (by decide +kernel) (by decide +kernel), bm_Tin (i := 1055) (by decide +kernel) (by decide +kernel), bm_Tin (i := 1056) (by decide +kernel) (by decide +kernel)⟩, bm_Tin (i := 131) (by decide +kernel) (by decide +kernel), bm_Tin (i := 1057) (by decide +kernel) (by decide +kernel), ⟨by decide +kernel, by decide +kernel, by decide +kernel⟩, by decide⟩
theorem mc_6_88 : bm_mc RX6 0 88 m_J0_charAt_5068e 1 := ⟨⟨bm_Tin (i := 1064) (by decide +kernel) (by decide +kernel), bm_Tin (i := 1065) (by decide +kernel) (by decide +kernel), bm_Tin (i := 1066) (by decide +kernel) (by decide +kernel)⟩, bm_Tin (i := 131) (by decide +kernel) (by decide +kernel), bm_Tin (i := 1067) (by decide +kernel) (by decide +kernel), ⟨by decide +kernel, by decide +kernel, by decide +kernel⟩, by decide⟩
/-- a String constant of ours -/
def bm_is (x : Nat) : Bool := (decide (1200 ≤ x) && decide (x < 1234)) || (decide (1240 ≤ x) && decide (x < 1244))
def bm_tx (x : Nat) : List Int32 := bm_str.getD (x - 1200) []
theorem bm_is_of {x : Nat} (h : bm_is x = true) : ∃ i, i < 44 ∧ x = 1200 + i ∧ (i < 34 ∨ 40 ≤ i) := by
  simp only [bm_is, Bool.or_eq_true, Bool.and_eq_true, decide_eq_true_eq] at h
  exact ⟨x - 1200, by omega, by omega, by omega⟩
theorem bm_is_ol {x : Nat} (h : bm_is x = true) : ("java/lang/String", x) ∈ bm_ol := by
  obtain ⟨i, hi, rfl, h2⟩ := bm_is_of h
  rcases h2 with h2 | h2
  · exact List.mem_append_left _ (List.mem_append_right _ (List.mem_map.mpr ⟨i, List.mem_range.mpr h2, rfl⟩))
  · exact List.mem_append_right _ (List.mem_map.mpr ⟨i - 40, List.mem_range.mpr (by omega), by rw [show 1240 + (i - 40) = 1200 + i by omega]⟩)
theorem bm_is_co {x : Nat} (h : bm_is x = true) : (x, "java/lang/String", "coder", "B", Value.int 0) ∈ bm_xl := by
  obtain ⟨i, hi, rfl, -⟩ := bm_is_of h
  exact List.mem_append_left _ (List.mem_append_right _ (List.mem_map.mpr ⟨i, List.mem_range.mpr hi, rfl⟩))
theorem bm_is_va {x : Nat} (h : bm_is x = true) : (x, "java/lang/String", "value", "[B", Value.ref (x + 100)) ∈ bm_xl := by
  obtain ⟨i, hi, rfl, -⟩ := bm_is_of h
  rw [show 1200 + i + 100 = 1300 + i by omega]
  exact List.mem_append_right _ (List.mem_map.mpr ⟨i, List.mem_range.mpr hi, rfl⟩)
theorem bm_is_tl {x : Nat} (h : bm_is x = true) : (x + 100, FieldType.byte, (bm_tx x).length, fun j => Value.int ((bm_tx x).getD j 0)) ∈ bm_tl := by
  obtain ⟨i, hi, rfl, -⟩ := bm_is_of h
  rw [show 1200 + i + 100 = 1300 + i by omega]
  unfold bm_tx
  rw [show 1200 + i - 1200 = i by omega]
  exact List.mem_cons_of_mem _ (List.mem_map.mpr ⟨i, List.mem_range.mpr hi, rfl⟩)
theorem bm_is_ge {x : Nat} (h : bm_is x = true) : 1000 ≤ x := by
  obtain ⟨i, hi, rfl, -⟩ := bm_is_of h
  omega
theorem bm_str_ok : ∀ i, i < 44 → ∀ b ∈ bm_str.getD i [], (b &&& 255).toUInt32.toUInt16.toUInt32.toInt32 = b := by decide +kernel
theorem bm_str_nar : ∀ i, i < 44 → ∀ b ∈ bm_str.getD i [], b.toUInt32.toUInt16.toUInt32.toInt32 = b := by decide +kernel
theorem bm_str_le : ∀ i, i < 44 → (bm_str.getD i []).length < 50 := by decide +kernel
def f_strlen (_ : bm_M) (x : Nat) : Option Int32 := if bm_is x = true then some (bm_ishr (Int32.ofNat (bm_tx x).length) 0) else none
def f_strat (_ : bm_M) (x : Nat) (i : Int32) : Option Int32 := if (bm_is x && (decide (¬ i < 0) && decide (i.toNatClampNeg < (bm_tx x).length))) = true then some ((bm_tx x).getD i.toNatClampNeg 0) else none
theorem c_strlen_is {M : bm_M} {x : Nat} {v : Int32} (h : f_strlen M x = some v) : bm_is x = true := (bu_g h).1
theorem c_strat_is {M : bm_M} {x : Nat} {i v : Int32} (h : f_strat M x i = some v) : bm_is x = true := by
  have h1 := (bu_g h).1
  simp only [Bool.and_eq_true] at h1
  exact h1.1
theorem c_coder {L : bm_L} {d n : Nat} {M : bm_M} {x : Nat} (hx : bm_is x = true) : bm_C L m_J0_coder_7d493 d n n [.ref x] M (fun r M' => r = some (.int 0) ∧ M' = M) := by
  refine bm_C.ofV (by decide) (Nat.le_of_ble_eq_true rfl) ?_
  show bm_V L m_J0_coder_7d493 d n n n 0 [(0, .ref x)] [] M _
  refine bv_gets (v := .int 1) dJ0_coder_7d493_0 fw_J0_38 (List.mem_of_getElem? (i := 35) rfl) (fun q h => by cases h) ?_
  refine bv_if_eq (tgt := 13) dJ0_coder_7d493_3 (by decide) (fun cc => absurd cc (by decide)) (fun _ => ?_)
  refine bv_aload_n dJ0_coder_7d493_6 0 rfl ?_
  refine bv_getX (v := .int 0) dJ0_coder_7d493_7 fw_J0_15 (bm_is_ge hx) (bm_is_co hx) (fun q h => by cases h) ?_
  refine bv_goto (tgt := 14) dJ0_coder_7d493_10 (by decide) ?_
  exact bv_zret (ty := .byte) dJ0_coder_7d493_14 rfl rfl ⟨rfl, rfl⟩
theorem c_isLatin1 {L : bm_L} {d n : Nat} {M : bm_M} {x : Nat} (hx : bm_is x = true) : bm_C L m_J0_isLatin1_aae02 d n n [.ref x] M (fun r M' => r = some (.int 1) ∧ M' = M) := by
  refine bm_C.ofV (by decide) (Nat.le_of_ble_eq_true rfl) ?_
  show bm_V L m_J0_isLatin1_aae02 d n n n 0 [(0, .ref x)] [] M _
  refine bv_gets (v := .int 1) dJ0_isLatin1_aae02_0 fw_J0_38 (List.mem_of_getElem? (i := 35) rfl) (fun q h => by cases h) ?_
  refine bv_if_eq (tgt := 17) dJ0_isLatin1_aae02_3 (by decide) (fun cc => absurd cc (by decide)) (fun _ => ?_)
  refine bv_aload_n dJ0_isLatin1_aae02_6 0 rfl ?_
  refine bv_getX (v := .int 0) dJ0_isLatin1_aae02_7 fw_J0_15 (bm_is_ge hx) (bm_is_co hx) (fun q h => by cases h) ?_
  refine bv_if_ne (tgt := 17) dJ0_isLatin1_aae02_10 (by decide) (fun cc => absurd rfl cc) (fun _ => ?_)
  refine bv_iconst (v := 1) dJ0_isLatin1_aae02_13 (by decide) ?_
  refine bv_goto (tgt := 18) dJ0_isLatin1_aae02_14 (by decide) ?_
  exact bv_zret (ty := .boolean) dJ0_isLatin1_aae02_18 rfl rfl ⟨rfl, rfl⟩
theorem c_strlen {L : bm_L} {d n : Nat} {M : bm_M} {x : Nat} {v : Int32} (hN : 181 ≤ n) (h : f_strlen M x = some v) : bm_C L m_J0_length_8abf5 (d + 4) n n [.ref x] M (fun r M' => r = some (.int v) ∧ M' = M) := by
  obtain ⟨hx, h⟩ := bu_g h
  obtain rfl := Option.some.inj h
  refine bm_C.ofV (by decide) (Nat.le_of_ble_eq_true rfl) ?_
  show bm_V L m_J0_length_8abf5 (d + 4) n n n 0 [(0, .ref x)] [] M _
  refine bv_aload_n dJ0_length_8abf5_0 0 rfl ?_
  refine bv_getX (v := .ref (x + 100)) dJ0_length_8abf5_1 fw_J0_9 (bm_is_ge hx) (bm_is_va hx) (fun q h => by injection h with h; subst h; exact Nat.le_trans (bm_is_ge hx) (Nat.le_add_right x 100)) ?_
  refine bv_xlen dJ0_length_8abf5_4 (Nat.le_trans (bm_is_ge hx) (Nat.le_add_right x 100)) (bm_is_tl hx) rfl ?_
  refine bv_aload_n dJ0_length_8abf5_5 0 rfl ?_
  refine bw_callX (C := "java/lang/String") (As := []) (bm_is_ol hx) rfl dJ0_length_8abf5_6 mc_J0_335 (c_coder hx) rfl rfl (Nat.le_of_ble_eq_true rfl) ?_
  refine bv_ishr dJ0_length_8abf5_9 ?_
  exact bv_iret dJ0_length_8abf5_10 rfl ⟨rfl, rfl⟩
theorem c_prec {L : bm_L} {d n : Nat} {M : bm_M} {i z : Int32} {q : Option Nat} (h1 : ¬ i < 0) (h2 : i < z) : bm_C L m_J3_checkIndex_8e157 d n n [.int i, .int z, va_rf q] M (fun r M' => r = some (.int i) ∧ M' = M) := by
  refine bm_C.ofV (by decide) (by cases q <;> exact Nat.le_of_ble_eq_true rfl) ?_
  rw [show bm_en 0 [.int i, .int z, va_rf q] = [(0, .int i), (1, .int z), (2, va_rf q)] from by cases q <;> rfl]
  refine bv_iload_n dJ3_checkIndex_8e157_0 0 rfl ?_
  refine bv_if_lt (tgt := 9) dJ3_checkIndex_8e157_1 (by decide) (fun cc => absurd cc h1) (fun _ => ?_)
  refine bv_iload_n dJ3_checkIndex_8e157_4 0 rfl ?_
  refine bv_iload_n dJ3_checkIndex_8e157_5 1 rfl ?_
  refine bv_icmp_lt (tgt := 16) dJ3_checkIndex_8e157_6 (by decide) (fun _ => ?_) (fun cc => absurd h2 cc)
  refine bv_iload_n dJ3_checkIndex_8e157_16 0 rfl ?_
  exact bv_iret dJ3_checkIndex_8e157_17 rfl ⟨rfl, rfl⟩
theorem c_chki {L : bm_L} {d n : Nat} {M : bm_M} {i z : Int32} (h1 : ¬ i < 0) (h2 : i < z) : bm_C L m_J0_checkIndex_df160 (d + 1) n n [.int i, .int z] M (fun r M' => r = none ∧ M' = M) := by
  refine bm_C.ofV (by decide) (Nat.le_of_ble_eq_true rfl) ?_
  show bm_V L m_J0_checkIndex_df160 (d + 1) n n n 0 [(0, .int i), (1, .int z)] [] M _
  refine bv_iload_n dJ0_checkIndex_df160_0 0 rfl ?_
  refine bv_iload_n dJ0_checkIndex_df160_1 1 rfl ?_
  refine bv_getsq dJ0_checkIndex_df160_2 fw_J0_1053 (fun q _ => ?_)
  refine bw_callS (As := [.int i, .int z, va_rf q]) dJ0_checkIndex_df160_5 mc_J0_1059 (c_prec h1 h2) rfl rfl (by decide) ?_
  refine bv_pop dJ0_checkIndex_df160_8 rfl ?_
  exact bv_vret dJ0_checkIndex_df160_9 rfl ⟨rfl, rfl⟩
theorem bm_ofNat_lt {i : Int32} {z : Nat} (hz : z < 1000) (h1 : ¬ i < 0) (h2 : i.toNatClampNeg < z) : i < Int32.ofNat z := by
  have h0 : (0 : Int) ≤ i.toInt := by
    have := Int32.not_lt.mp h1
    simpa using Int32.le_iff_toInt_le.mp this
  rw [Int32.lt_iff_toInt_lt, Int32.toInt_ofNat_of_lt (by omega)]
  have : i.toNatClampNeg = i.toInt.toNat := rfl
  omega
theorem c_lat {L : bm_L} {d n : Nat} {M : bm_M} {x : Nat} {i : Int32} (hx : bm_is x = true) (h1 : ¬ i < 0) (h2 : i.toNatClampNeg < (bm_tx x).length) : bm_C L m_J1_charAt_3b067 (d + 2) n n [.ref (x + 100), .int i] M (fun r M' => r = some (.int ((bm_tx x).getD i.toNatClampNeg 0)) ∧ M' = M) := by
  obtain ⟨j, hj, hxj, -⟩ := bm_is_of hx
  have hle : (bm_tx x).length < 50 := by
    unfold bm_tx
    rw [hxj, show 1200 + j - 1200 = j by omega]
    exact bm_str_le j hj
  have hb : (((bm_tx x).getD i.toNatClampNeg 0) &&& 255).toUInt32.toUInt16.toUInt32.toInt32 = (bm_tx x).getD i.toNatClampNeg 0 := by
    have hm : (bm_tx x).getD i.toNatClampNeg 0 ∈ bm_tx x := by
      rw [List.getD_eq_getElem?_getD, List.getElem?_eq_getElem h2]
      exact List.getElem_mem h2
    revert hm
    unfold bm_tx
    rw [hxj, show 1200 + j - 1200 = j by omega]
    exact bm_str_ok j hj _
  have hb2 : ((bm_tx x).getD i.toNatClampNeg 0).toUInt32.toUInt16.toUInt32.toInt32 = (bm_tx x).getD i.toNatClampNeg 0 := by
    have hm : (bm_tx x).getD i.toNatClampNeg 0 ∈ bm_tx x := by
      rw [List.getD_eq_getElem?_getD, List.getElem?_eq_getElem h2]
      exact List.getElem_mem h2
    revert hm
    unfold bm_tx
    rw [hxj, show 1200 + j - 1200 = j by omega]
    exact bm_str_nar j hj _
  refine bm_C.ofV (by decide) (Nat.le_of_ble_eq_true rfl) ?_
  show bm_V L m_J1_charAt_3b067 (d + 2) n n n 0 [(0, .ref (x + 100)), (1, .int i)] [] M _
  have hge : 1000 ≤ x + 100 := Nat.le_trans (bm_is_ge hx) (Nat.le_add_right x 100)
  refine bv_iload_n dJ1_charAt_3b067_0 1 rfl ?_
  refine bv_aload_n dJ1_charAt_3b067_1 0 rfl ?_
  refine bv_xlen dJ1_charAt_3b067_2 hge (bm_is_tl hx) rfl ?_
  refine bw_callSv (As := [.int i, .int (Int32.ofNat (bm_tx x).length)]) dJ1_charAt_3b067_3 mc_J1_9 (c_chki (d := d) h1 (bm_ofNat_lt (by omega) h1 h2)) rfl rfl (by decide) ?_
  refine bv_aload_n dJ1_charAt_3b067_6 0 rfl ?_
  refine bv_iload_n dJ1_charAt_3b067_7 1 rfl ?_
  refine bv_xbald dJ1_charAt_3b067_8 hge (bm_is_tl hx) (fun q => by rcases q with q | q; exact h1 q; omega) rfl ?_
  refine bv_sipush (v := 255) dJ1_charAt_3b067_9 (by decide) ?_
  refine bv_iand dJ1_charAt_3b067_12 ?_
  refine bv_i2c dJ1_charAt_3b067_13 ?_
  rw [hb]
  refine bv_zret (ty := .char) dJ1_charAt_3b067_14 rfl ?_ ⟨rfl, rfl⟩
  exact congrArg Value.int hb2
theorem c_strat {L : bm_L} {d n : Nat} {M : bm_M} {x : Nat} {i v : Int32} (hN : 181 ≤ n) (h : f_strat M x i = some v) : bm_C L m_J0_charAt_5068e (d + 4) n n [.ref x, .int i] M (fun r M' => r = some (.int v) ∧ M' = M) := by
  obtain ⟨hc, h⟩ := bu_g h
  obtain rfl := Option.some.inj h
  simp only [Bool.and_eq_true, decide_eq_true_eq] at hc
  obtain ⟨hx, h1, h2⟩ := hc
  refine bm_C.ofV (by decide) (Nat.le_of_ble_eq_true rfl) ?_
  show bm_V L m_J0_charAt_5068e (d + 4) n n n 0 [(0, .ref x), (1, .int i)] [] M _
  refine bv_aload_n dJ0_charAt_5068e_0 0 rfl ?_
  refine bw_callX (C := "java/lang/String") (As := []) (bm_is_ol hx) rfl dJ0_charAt_5068e_1 mc_J0_492 (c_isLatin1 hx) rfl rfl (by decide) ?_
  refine bv_if_eq (tgt := 16) dJ0_charAt_5068e_4 (by decide) (fun cc => absurd cc (by decide)) (fun _ => ?_)
  refine bv_aload_n dJ0_charAt_5068e_7 0 rfl ?_
  refine bv_getX (v := .ref (x + 100)) dJ0_charAt_5068e_8 fw_J0_9 (bm_is_ge hx) (bm_is_va hx) (fun q h => by injection h with h; subst h; exact Nat.le_trans (bm_is_ge hx) (Nat.le_add_right x 100)) ?_
  refine bv_iload_n dJ0_charAt_5068e_11 1 rfl ?_
  refine bw_callS (As := [.ref (x + 100), .int i]) dJ0_charAt_5068e_12 mc_J0_495 (c_lat (d := d + 1) hx h1 h2) rfl rfl (by decide) ?_
  refine bv_zret (ty := .char) dJ0_charAt_5068e_15 rfl ?_ ⟨rfl, rfl⟩
  obtain ⟨j, hj, hxj, -⟩ := bm_is_of hx
  have hb2 : ((bm_tx x).getD i.toNatClampNeg 0).toUInt32.toUInt16.toUInt32.toInt32 = (bm_tx x).getD i.toNatClampNeg 0 := by
    have hm : (bm_tx x).getD i.toNatClampNeg 0 ∈ bm_tx x := by
      rw [List.getD_eq_getElem?_getD, List.getElem?_eq_getElem h2]
      exact List.getElem_mem h2
    revert hm
    unfold bm_tx
    rw [hxj, show 1200 + j - 1200 = j by omega]
    exact bm_str_nar j hj _
  exact congrArg Value.int hb2
