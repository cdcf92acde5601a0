def RJ6 : String := "java/lang/Integer"
abbrev cJ6_compare_7cf53 : ByteArray := prog_20_method_40_code
def yJ6_compare_7cf53 : MethodName := ⟨RJ6, "compare", "(II)I"⟩
abbrev cJ6_bitCount_0f7a4 : ByteArray := prog_20_method_49_code
def yJ6_bitCount_0f7a4 : MethodName := ⟨RJ6, "bitCount", "(I)I"⟩
theorem dX0_copyFrom_0 : decode cX0_copyFrom 0 = .ok (.aload_n 1, 1) := by decide +kernel
theorem dX0_copyFrom_1 : decode cX0_copyFrom 1 = .ok (.getfield 9, 3) := by decide +kernel
theorem dX0_copyFrom_4 : decode cX0_copyFrom 4 = .ok (.iconst 0, 1) := by decide +kernel
theorem dX0_copyFrom_5 : decode cX0_copyFrom 5 = .ok (.aload_n 0, 1) := by decide +kernel
theorem dX0_copyFrom_6 : decode cX0_copyFrom 6 = .ok (.getfield 9, 3) := by decide +kernel
theorem dX0_copyFrom_9 : decode cX0_copyFrom 9 = .ok (.iconst 0, 1) := by decide +kernel
theorem dX0_copyFrom_10 : decode cX0_copyFrom 10 = .ok (.bipush 8, 2) := by decide +kernel
theorem dX0_copyFrom_12 : decode cX0_copyFrom 12 = .ok (.invokestatic 50, 3) := by decide +kernel
theorem dX0_copyFrom_15 : decode cX0_copyFrom 15 = .ok (.aload_n 1, 1) := by decide +kernel
theorem dX0_copyFrom_16 : decode cX0_copyFrom 16 = .ok (.getfield 15, 3) := by decide +kernel
theorem dX0_copyFrom_19 : decode cX0_copyFrom 19 = .ok (.iconst 0, 1) := by decide +kernel
theorem dX0_copyFrom_20 : decode cX0_copyFrom 20 = .ok (.aload_n 0, 1) := by decide +kernel
theorem dX0_copyFrom_21 : decode cX0_copyFrom 21 = .ok (.getfield 15, 3) := by decide +kernel
theorem dX0_copyFrom_24 : decode cX0_copyFrom 24 = .ok (.iconst 0, 1) := by decide +kernel
theorem dX0_copyFrom_25 : decode cX0_copyFrom 25 = .ok (.bipush 8, 2) := by decide +kernel
theorem dX0_copyFrom_27 : decode cX0_copyFrom 27 = .ok (.invokestatic 50, 3) := by decide +kernel
theorem dX0_copyFrom_30 : decode cX0_copyFrom 30 = .ok (.aload_n 1, 1) := by decide +kernel
theorem dX0_copyFrom_31 : decode cX0_copyFrom 31 = .ok (.getfield 19, 3) := by decide +kernel
theorem dX0_copyFrom_34 : decode cX0_copyFrom 34 = .ok (.iconst 0, 1) := by decide +kernel
theorem dX0_copyFrom_35 : decode cX0_copyFrom 35 = .ok (.aload_n 0, 1) := by decide +kernel
theorem dX0_copyFrom_36 : decode cX0_copyFrom 36 = .ok (.getfield 19, 3) := by decide +kernel
theorem dX0_copyFrom_39 : decode cX0_copyFrom 39 = .ok (.iconst 0, 1) := by decide +kernel
theorem dX0_copyFrom_40 : decode cX0_copyFrom 40 = .ok (.bipush 8, 2) := by decide +kernel
theorem dX0_copyFrom_42 : decode cX0_copyFrom 42 = .ok (.invokestatic 50, 3) := by decide +kernel
theorem dX0_copyFrom_45 : decode cX0_copyFrom 45 = .ok (.aload_n 1, 1) := by decide +kernel
theorem dX0_copyFrom_46 : decode cX0_copyFrom 46 = .ok (.getfield 22, 3) := by decide +kernel
theorem dX0_copyFrom_49 : decode cX0_copyFrom 49 = .ok (.iconst 0, 1) := by decide +kernel
theorem dX0_copyFrom_50 : decode cX0_copyFrom 50 = .ok (.aload_n 0, 1) := by decide +kernel
theorem dX0_copyFrom_51 : decode cX0_copyFrom 51 = .ok (.getfield 22, 3) := by decide +kernel
theorem dX0_copyFrom_54 : decode cX0_copyFrom 54 = .ok (.iconst 0, 1) := by decide +kernel
theorem dX0_copyFrom_55 : decode cX0_copyFrom 55 = .ok (.bipush 8, 2) := by decide +kernel
theorem dX0_copyFrom_57 : decode cX0_copyFrom 57 = .ok (.invokestatic 50, 3) := by decide +kernel
theorem dX0_copyFrom_60 : decode cX0_copyFrom 60 = .ok (.aload_n 1, 1) := by decide +kernel
theorem dX0_copyFrom_61 : decode cX0_copyFrom 61 = .ok (.getfield 25, 3) := by decide +kernel
theorem dX0_copyFrom_64 : decode cX0_copyFrom 64 = .ok (.iconst 0, 1) := by decide +kernel
theorem dX0_copyFrom_65 : decode cX0_copyFrom 65 = .ok (.aload_n 0, 1) := by decide +kernel
theorem dX0_copyFrom_66 : decode cX0_copyFrom 66 = .ok (.getfield 25, 3) := by decide +kernel
theorem dX0_copyFrom_69 : decode cX0_copyFrom 69 = .ok (.iconst 0, 1) := by decide +kernel
theorem dX0_copyFrom_70 : decode cX0_copyFrom 70 = .ok (.bipush 8, 2) := by decide +kernel
theorem dX0_copyFrom_72 : decode cX0_copyFrom 72 = .ok (.invokestatic 50, 3) := by decide +kernel
theorem dX0_copyFrom_75 : decode cX0_copyFrom 75 = .ok (.aload_n 1, 1) := by decide +kernel
theorem dX0_copyFrom_76 : decode cX0_copyFrom 76 = .ok (.getfield 28, 3) := by decide +kernel
theorem dX0_copyFrom_79 : decode cX0_copyFrom 79 = .ok (.iconst 0, 1) := by decide +kernel
theorem dX0_copyFrom_80 : decode cX0_copyFrom 80 = .ok (.aload_n 0, 1) := by decide +kernel
theorem dX0_copyFrom_81 : decode cX0_copyFrom 81 = .ok (.getfield 28, 3) := by decide +kernel
theorem dX0_copyFrom_84 : decode cX0_copyFrom 84 = .ok (.iconst 0, 1) := by decide +kernel
theorem dX0_copyFrom_85 : decode cX0_copyFrom 85 = .ok (.bipush 7, 2) := by decide +kernel
theorem dX0_copyFrom_87 : decode cX0_copyFrom 87 = .ok (.invokestatic 50, 3) := by decide +kernel
theorem dX0_copyFrom_90 : decode cX0_copyFrom 90 = .ok (.aload_n 1, 1) := by decide +kernel
theorem dX0_copyFrom_91 : decode cX0_copyFrom 91 = .ok (.getfield 31, 3) := by decide +kernel
theorem dX0_copyFrom_94 : decode cX0_copyFrom 94 = .ok (.iconst 0, 1) := by decide +kernel
theorem dX0_copyFrom_95 : decode cX0_copyFrom 95 = .ok (.aload_n 0, 1) := by decide +kernel
theorem dX0_copyFrom_96 : decode cX0_copyFrom 96 = .ok (.getfield 31, 3) := by decide +kernel
theorem dX0_copyFrom_99 : decode cX0_copyFrom 99 = .ok (.iconst 0, 1) := by decide +kernel
theorem dX0_copyFrom_100 : decode cX0_copyFrom 100 = .ok (.bipush 7, 2) := by decide +kernel
theorem dX0_copyFrom_102 : decode cX0_copyFrom 102 = .ok (.invokestatic 50, 3) := by decide +kernel
theorem dX0_copyFrom_105 : decode cX0_copyFrom 105 = .ok (.aload_n 1, 1) := by decide +kernel
theorem dX0_copyFrom_106 : decode cX0_copyFrom 106 = .ok (.getfield 34, 3) := by decide +kernel
theorem dX0_copyFrom_109 : decode cX0_copyFrom 109 = .ok (.iconst 0, 1) := by decide +kernel
theorem dX0_copyFrom_110 : decode cX0_copyFrom 110 = .ok (.aload_n 0, 1) := by decide +kernel
theorem dX0_copyFrom_111 : decode cX0_copyFrom 111 = .ok (.getfield 34, 3) := by decide +kernel
theorem dX0_copyFrom_114 : decode cX0_copyFrom 114 = .ok (.iconst 0, 1) := by decide +kernel
theorem dX0_copyFrom_115 : decode cX0_copyFrom 115 = .ok (.bipush 7, 2) := by decide +kernel
theorem dX0_copyFrom_117 : decode cX0_copyFrom 117 = .ok (.invokestatic 50, 3) := by decide +kernel
theorem dX0_copyFrom_120 : decode cX0_copyFrom 120 = .ok (.aload_n 1, 1) := by decide +kernel
theorem dX0_copyFrom_121 : decode cX0_copyFrom 121 = .ok (.getfield 37, 3) := by decide +kernel
theorem dX0_copyFrom_124 : decode cX0_copyFrom 124 = .ok (.iconst 0, 1) := by decide +kernel
theorem dX0_copyFrom_125 : decode cX0_copyFrom 125 = .ok (.aload_n 0, 1) := by decide +kernel
theorem dX0_copyFrom_126 : decode cX0_copyFrom 126 = .ok (.getfield 37, 3) := by decide +kernel
theorem dX0_copyFrom_129 : decode cX0_copyFrom 129 = .ok (.iconst 0, 1) := by decide +kernel
theorem dX0_copyFrom_130 : decode cX0_copyFrom 130 = .ok (.iconst 4, 1) := by decide +kernel
theorem dX0_copyFrom_131 : decode cX0_copyFrom 131 = .ok (.invokestatic 50, 3) := by decide +kernel
theorem dX0_copyFrom_134 : decode cX0_copyFrom 134 = .ok (.aload_n 1, 1) := by decide +kernel
theorem dX0_copyFrom_135 : decode cX0_copyFrom 135 = .ok (.getfield 40, 3) := by decide +kernel
theorem dX0_copyFrom_138 : decode cX0_copyFrom 138 = .ok (.iconst 0, 1) := by decide +kernel
theorem dX0_copyFrom_139 : decode cX0_copyFrom 139 = .ok (.aload_n 0, 1) := by decide +kernel
theorem dX0_copyFrom_140 : decode cX0_copyFrom 140 = .ok (.getfield 40, 3) := by decide +kernel
theorem dX0_copyFrom_143 : decode cX0_copyFrom 143 = .ok (.iconst 0, 1) := by decide +kernel
theorem dX0_copyFrom_144 : decode cX0_copyFrom 144 = .ok (.iconst 4, 1) := by decide +kernel
theorem dX0_copyFrom_145 : decode cX0_copyFrom 145 = .ok (.invokestatic 50, 3) := by decide +kernel
theorem dX0_copyFrom_148 : decode cX0_copyFrom 148 = .ok (.aload_n 0, 1) := by decide +kernel
theorem dX0_copyFrom_149 : decode cX0_copyFrom 149 = .ok (.aload_n 1, 1) := by decide +kernel
theorem dX0_copyFrom_150 : decode cX0_copyFrom 150 = .ok (.getfield 56, 3) := by decide +kernel
theorem dX0_copyFrom_153 : decode cX0_copyFrom 153 = .ok (.putfield 56, 3) := by decide +kernel
theorem dX0_copyFrom_156 : decode cX0_copyFrom 156 = .ok (.aload_n 0, 1) := by decide +kernel
theorem dX0_copyFrom_157 : decode cX0_copyFrom 157 = .ok (.aload_n 1, 1) := by decide +kernel
theorem dX0_copyFrom_158 : decode cX0_copyFrom 158 = .ok (.getfield 59, 3) := by decide +kernel
theorem dX0_copyFrom_161 : decode cX0_copyFrom 161 = .ok (.putfield 59, 3) := by decide +kernel
theorem dX0_copyFrom_164 : decode cX0_copyFrom 164 = .ok (.aload_n 0, 1) := by decide +kernel
theorem dX0_copyFrom_165 : decode cX0_copyFrom 165 = .ok (.aload_n 1, 1) := by decide +kernel
theorem dX0_copyFrom_166 : decode cX0_copyFrom 166 = .ok (.getfield 62, 3) := by decide +kernel
theorem dX0_copyFrom_169 : decode cX0_copyFrom 169 = .ok (.putfield 62, 3) := by decide +kernel
theorem dX0_copyFrom_172 : decode cX0_copyFrom 172 = .ok (.aload_n 0, 1) := by decide +kernel
theorem dX0_copyFrom_173 : decode cX0_copyFrom 173 = .ok (.aload_n 1, 1) := by decide +kernel
theorem dX0_copyFrom_174 : decode cX0_copyFrom 174 = .ok (.getfield 65, 3) := by decide +kernel
theorem dX0_copyFrom_177 : decode cX0_copyFrom 177 = .ok (.putfield 65, 3) := by decide +kernel
theorem dX0_copyFrom_180 : decode cX0_copyFrom 180 = .ok (.aload_n 0, 1) := by decide +kernel
theorem dX0_copyFrom_181 : decode cX0_copyFrom 181 = .ok (.aload_n 1, 1) := by decide +kernel
theorem dX0_copyFrom_182 : decode cX0_copyFrom 182 = .ok (.getfield 68, 3) := by decide +kernel
theorem dX0_copyFrom_185 : decode cX0_copyFrom 185 = .ok (.putfield 68, 3) := by decide +kernel
theorem dX0_copyFrom_188 : decode cX0_copyFrom 188 = .ok (.aload_n 0, 1) := by decide +kernel
theorem dX0_copyFrom_189 : decode cX0_copyFrom 189 = .ok (.aload_n 1, 1) := by decide +kernel
theorem dX0_copyFrom_190 : decode cX0_copyFrom 190 = .ok (.getfield 43, 3) := by decide +kernel
theorem dX0_copyFrom_193 : decode cX0_copyFrom 193 = .ok (.putfield 43, 3) := by decide +kernel
theorem dX0_copyFrom_196 : decode cX0_copyFrom 196 = .ok (.aload_n 0, 1) := by decide +kernel
theorem dX0_copyFrom_197 : decode cX0_copyFrom 197 = .ok (.aload_n 1, 1) := by decide +kernel
theorem dX0_copyFrom_198 : decode cX0_copyFrom 198 = .ok (.getfield 47, 3) := by decide +kernel
theorem dX0_copyFrom_201 : decode cX0_copyFrom 201 = .ok (.putfield 47, 3) := by decide +kernel
theorem dX0_copyFrom_204 : decode cX0_copyFrom 204 = .ok (.return_, 1) := by decide +kernel
theorem dX5_isBlank_0 : decode cX5_isBlank 0 = .ok (.iload_n 0, 1) := by decide +kernel
theorem dX5_isBlank_1 : decode cX5_isBlank 1 = .ok (.bipush 32, 2) := by decide +kernel
theorem dX5_isBlank_3 : decode cX5_isBlank 3 = .ok (.if_icmp .eq 9, 3) := by decide +kernel
theorem dX5_isBlank_6 : decode cX5_isBlank 6 = .ok (.iload_n 0, 1) := by decide +kernel
theorem dX5_isBlank_7 : decode cX5_isBlank 7 = .ok (.bipush 10, 2) := by decide +kernel
theorem dX5_isBlank_9 : decode cX5_isBlank 9 = .ok (.if_icmp .ne 7, 3) := by decide +kernel
theorem dX5_isBlank_12 : decode cX5_isBlank 12 = .ok (.iconst 1, 1) := by decide +kernel
theorem dX5_isBlank_13 : decode cX5_isBlank 13 = .ok (.goto 4, 3) := by decide +kernel
theorem dX5_isBlank_16 : decode cX5_isBlank 16 = .ok (.iconst 0, 1) := by decide +kernel
theorem dX5_isBlank_17 : decode cX5_isBlank 17 = .ok (.ireturn, 1) := by decide +kernel
theorem dX5_isDigit_0 : decode cX5_isDigit 0 = .ok (.iload_n 0, 1) := by decide +kernel
theorem dX5_isDigit_1 : decode cX5_isDigit 1 = .ok (.bipush 48, 2) := by decide +kernel
theorem dX5_isDigit_3 : decode cX5_isDigit 3 = .ok (.if_icmp .lt 13, 3) := by decide +kernel
theorem dX5_isDigit_6 : decode cX5_isDigit 6 = .ok (.iload_n 0, 1) := by decide +kernel
theorem dX5_isDigit_7 : decode cX5_isDigit 7 = .ok (.bipush 57, 2) := by decide +kernel
theorem dX5_isDigit_9 : decode cX5_isDigit 9 = .ok (.if_icmp .gt 7, 3) := by decide +kernel
theorem dX5_isDigit_12 : decode cX5_isDigit 12 = .ok (.iconst 1, 1) := by decide +kernel
theorem dX5_isDigit_13 : decode cX5_isDigit 13 = .ok (.goto 4, 3) := by decide +kernel
theorem dX5_isDigit_16 : decode cX5_isDigit 16 = .ok (.iconst 0, 1) := by decide +kernel
theorem dX5_isDigit_17 : decode cX5_isDigit 17 = .ok (.ireturn, 1) := by decide +kernel
theorem dX5_isLetter_0 : decode cX5_isLetter 0 = .ok (.iload_n 0, 1) := by decide +kernel
theorem dX5_isLetter_1 : decode cX5_isLetter 1 = .ok (.bipush 97, 2) := by decide +kernel
theorem dX5_isLetter_3 : decode cX5_isLetter 3 = .ok (.if_icmp .lt 13, 3) := by decide +kernel
theorem dX5_isLetter_6 : decode cX5_isLetter 6 = .ok (.iload_n 0, 1) := by decide +kernel
theorem dX5_isLetter_7 : decode cX5_isLetter 7 = .ok (.bipush 122, 2) := by decide +kernel
theorem dX5_isLetter_9 : decode cX5_isLetter 9 = .ok (.if_icmp .gt 7, 3) := by decide +kernel
theorem dX5_isLetter_12 : decode cX5_isLetter 12 = .ok (.iconst 1, 1) := by decide +kernel
theorem dX5_isLetter_13 : decode cX5_isLetter 13 = .ok (.goto 4, 3) := by decide +kernel
theorem dX5_isLetter_16 : decode cX5_isLetter 16 = .ok (.iconst 0, 1) := by decide +kernel
theorem dX5_isLetter_17 : decode cX5_isLetter 17 = .ok (.ireturn, 1) := by decide +kernel
theorem dX10_named_0 : decode cX10_named 0 = .ok (.iconst 0, 1) := by decide +kernel
theorem dX10_named_1 : decode cX10_named 1 = .ok (.istore_n 2, 1) := by decide +kernel
theorem dX10_named_2 : decode cX10_named 2 = .ok (.iload_n 2, 1) := by decide +kernel
theorem dX10_named_3 : decode cX10_named 3 = .ok (.getstatic 160, 3) := by decide +kernel
theorem dX10_named_6 : decode cX10_named 6 = .ok (.arraylength, 1) := by decide +kernel
theorem dX10_named_7 : decode cX10_named 7 = .ok (.if_icmp .ge 28, 3) := by decide +kernel
theorem dX10_named_10 : decode cX10_named 10 = .ok (.getstatic 160, 3) := by decide +kernel
theorem dX10_named_13 : decode cX10_named 13 = .ok (.iload_n 2, 1) := by decide +kernel
theorem dX10_named_14 : decode cX10_named 14 = .ok (.aaload, 1) := by decide +kernel
theorem dX10_named_15 : decode cX10_named 15 = .ok (.getfield 135, 3) := by decide +kernel
theorem dX10_named_18 : decode cX10_named 18 = .ok (.lload_n 0, 1) := by decide +kernel
theorem dX10_named_19 : decode cX10_named 19 = .ok (.lcmp, 1) := by decide +kernel
theorem dX10_named_20 : decode cX10_named 20 = .ok (.ifCond .ne 9, 3) := by decide +kernel
theorem dX10_named_23 : decode cX10_named 23 = .ok (.getstatic 160, 3) := by decide +kernel
theorem dX10_named_26 : decode cX10_named 26 = .ok (.iload_n 2, 1) := by decide +kernel
theorem dX10_named_27 : decode cX10_named 27 = .ok (.aaload, 1) := by decide +kernel
theorem dX10_named_28 : decode cX10_named 28 = .ok (.areturn, 1) := by decide +kernel
theorem dX10_named_29 : decode cX10_named 29 = .ok (.iinc 2 1, 3) := by decide +kernel
theorem dX10_named_32 : decode cX10_named 32 = .ok (.goto (-30), 3) := by decide +kernel
theorem dX10_named_35 : decode cX10_named 35 = .ok (.aconst_null, 1) := by decide +kernel
theorem dX10_named_36 : decode cX10_named 36 = .ok (.areturn, 1) := by decide +kernel
theorem dX10_packLetter_0 : decode cX10_packLetter 0 = .ok (.lload_n 0, 1) := by decide +kernel
theorem dX10_packLetter_1 : decode cX10_packLetter 1 = .ok (.iconst 5, 1) := by decide +kernel
theorem dX10_packLetter_2 : decode cX10_packLetter 2 = .ok (.lshl, 1) := by decide +kernel
theorem dX10_packLetter_3 : decode cX10_packLetter 3 = .ok (.iload_n 2, 1) := by decide +kernel
theorem dX10_packLetter_4 : decode cX10_packLetter 4 = .ok (.bipush 97, 2) := by decide +kernel
theorem dX10_packLetter_6 : decode cX10_packLetter 6 = .ok (.isub, 1) := by decide +kernel
theorem dX10_packLetter_7 : decode cX10_packLetter 7 = .ok (.iconst 1, 1) := by decide +kernel
theorem dX10_packLetter_8 : decode cX10_packLetter 8 = .ok (.iadd, 1) := by decide +kernel
theorem dX10_packLetter_9 : decode cX10_packLetter 9 = .ok (.i2l, 1) := by decide +kernel
theorem dX10_packLetter_10 : decode cX10_packLetter 10 = .ok (.lor, 1) := by decide +kernel
theorem dX10_packLetter_11 : decode cX10_packLetter 11 = .ok (.lreturn, 1) := by decide +kernel
theorem dX5_readRun_0 : decode cX5_readRun 0 = .ok (.aload_n 0, 1) := by decide +kernel
theorem dX5_readRun_1 : decode cX5_readRun 1 = .ok (.getfield 19, 3) := by decide +kernel
theorem dX5_readRun_4 : decode cX5_readRun 4 = .ok (.istore_n 1, 1) := by decide +kernel
theorem dX5_readRun_5 : decode cX5_readRun 5 = .ok (.iconst 0, 1) := by decide +kernel
theorem dX5_readRun_6 : decode cX5_readRun 6 = .ok (.istore_n 2, 1) := by decide +kernel
theorem dX5_readRun_7 : decode cX5_readRun 7 = .ok (.aload_n 0, 1) := by decide +kernel
theorem dX5_readRun_8 : decode cX5_readRun 8 = .ok (.lconst 0, 1) := by decide +kernel
theorem dX5_readRun_9 : decode cX5_readRun 9 = .ok (.putfield 66, 3) := by decide +kernel
theorem dX5_readRun_12 : decode cX5_readRun 12 = .ok (.aload_n 0, 1) := by decide +kernel
theorem dX5_readRun_13 : decode cX5_readRun 13 = .ok (.iconst 0, 1) := by decide +kernel
theorem dX5_readRun_14 : decode cX5_readRun 14 = .ok (.putfield 70, 3) := by decide +kernel
theorem dX5_readRun_17 : decode cX5_readRun 17 = .ok (.aload_n 0, 1) := by decide +kernel
theorem dX5_readRun_18 : decode cX5_readRun 18 = .ok (.getfield 19, 3) := by decide +kernel
theorem dX5_readRun_21 : decode cX5_readRun 21 = .ok (.aload_n 0, 1) := by decide +kernel
theorem dX5_readRun_22 : decode cX5_readRun 22 = .ok (.getfield 9, 3) := by decide +kernel
theorem dX5_readRun_25 : decode cX5_readRun 25 = .ok (.getfield 31, 3) := by decide +kernel
theorem dX5_readRun_28 : decode cX5_readRun 28 = .ok (.if_icmp .ge 106, 3) := by decide +kernel
theorem dX5_readRun_31 : decode cX5_readRun 31 = .ok (.aload_n 0, 1) := by decide +kernel
theorem dX5_readRun_32 : decode cX5_readRun 32 = .ok (.getfield 9, 3) := by decide +kernel
theorem dX5_readRun_35 : decode cX5_readRun 35 = .ok (.getfield 36, 3) := by decide +kernel
theorem dX5_readRun_38 : decode cX5_readRun 38 = .ok (.aload_n 0, 1) := by decide +kernel
theorem dX5_readRun_39 : decode cX5_readRun 39 = .ok (.getfield 19, 3) := by decide +kernel
theorem dX5_readRun_42 : decode cX5_readRun 42 = .ok (.iaload, 1) := by decide +kernel
theorem dX5_readRun_43 : decode cX5_readRun 43 = .ok (.invokestatic 57, 3) := by decide +kernel
theorem dX5_readRun_46 : decode cX5_readRun 46 = .ok (.ifCond .ne 21, 3) := by decide +kernel
theorem dX5_readRun_49 : decode cX5_readRun 49 = .ok (.aload_n 0, 1) := by decide +kernel
theorem dX5_readRun_50 : decode cX5_readRun 50 = .ok (.getfield 9, 3) := by decide +kernel
theorem dX5_readRun_53 : decode cX5_readRun 53 = .ok (.getfield 36, 3) := by decide +kernel
theorem dX5_readRun_56 : decode cX5_readRun 56 = .ok (.aload_n 0, 1) := by decide +kernel
theorem dX5_readRun_57 : decode cX5_readRun 57 = .ok (.getfield 19, 3) := by decide +kernel
theorem dX5_readRun_60 : decode cX5_readRun 60 = .ok (.iaload, 1) := by decide +kernel
theorem dX5_readRun_61 : decode cX5_readRun 61 = .ok (.invokestatic 60, 3) := by decide +kernel
theorem dX5_readRun_64 : decode cX5_readRun 64 = .ok (.ifCond .eq 70, 3) := by decide +kernel
theorem dX5_readRun_67 : decode cX5_readRun 67 = .ok (.aload_n 0, 1) := by decide +kernel
theorem dX5_readRun_68 : decode cX5_readRun 68 = .ok (.getfield 9, 3) := by decide +kernel
theorem dX5_readRun_71 : decode cX5_readRun 71 = .ok (.getfield 36, 3) := by decide +kernel
theorem dX5_readRun_74 : decode cX5_readRun 74 = .ok (.aload_n 0, 1) := by decide +kernel
theorem dX5_readRun_75 : decode cX5_readRun 75 = .ok (.getfield 19, 3) := by decide +kernel
theorem dX5_readRun_78 : decode cX5_readRun 78 = .ok (.iaload, 1) := by decide +kernel
theorem dX5_readRun_79 : decode cX5_readRun 79 = .ok (.istore_n 3, 1) := by decide +kernel
theorem dX5_readRun_80 : decode cX5_readRun 80 = .ok (.iload_n 3, 1) := by decide +kernel
theorem dX5_readRun_81 : decode cX5_readRun 81 = .ok (.invokestatic 57, 3) := by decide +kernel
theorem dX5_readRun_84 : decode cX5_readRun 84 = .ok (.ifCond .eq 21, 3) := by decide +kernel
theorem dX5_readRun_87 : decode cX5_readRun 87 = .ok (.iinc 2 1, 3) := by decide +kernel
theorem dX5_readRun_90 : decode cX5_readRun 90 = .ok (.aload_n 0, 1) := by decide +kernel
theorem dX5_readRun_91 : decode cX5_readRun 91 = .ok (.aload_n 0, 1) := by decide +kernel
theorem dX5_readRun_92 : decode cX5_readRun 92 = .ok (.getfield 66, 3) := by decide +kernel
theorem dX5_readRun_95 : decode cX5_readRun 95 = .ok (.iload_n 3, 1) := by decide +kernel
theorem dX5_readRun_96 : decode cX5_readRun 96 = .ok (.invokestatic 73, 3) := by decide +kernel
theorem dX5_readRun_99 : decode cX5_readRun 99 = .ok (.putfield 66, 3) := by decide +kernel
theorem dX5_readRun_102 : decode cX5_readRun 102 = .ok (.goto 19, 3) := by decide +kernel
theorem dX5_readRun_105 : decode cX5_readRun 105 = .ok (.aload_n 0, 1) := by decide +kernel
theorem dX5_readRun_106 : decode cX5_readRun 106 = .ok (.bipush 10, 2) := by decide +kernel
theorem dX5_readRun_108 : decode cX5_readRun 108 = .ok (.aload_n 0, 1) := by decide +kernel
theorem dX5_readRun_109 : decode cX5_readRun 109 = .ok (.getfield 70, 3) := by decide +kernel
theorem dX5_readRun_112 : decode cX5_readRun 112 = .ok (.imul, 1) := by decide +kernel
theorem dX5_readRun_113 : decode cX5_readRun 113 = .ok (.iload_n 3, 1) := by decide +kernel
theorem dX5_readRun_114 : decode cX5_readRun 114 = .ok (.iadd, 1) := by decide +kernel
theorem dX5_readRun_115 : decode cX5_readRun 115 = .ok (.bipush 48, 2) := by decide +kernel
theorem dX5_readRun_117 : decode cX5_readRun 117 = .ok (.isub, 1) := by decide +kernel
theorem dX5_readRun_118 : decode cX5_readRun 118 = .ok (.putfield 70, 3) := by decide +kernel
theorem dX5_readRun_121 : decode cX5_readRun 121 = .ok (.aload_n 0, 1) := by decide +kernel
theorem dX5_readRun_122 : decode cX5_readRun 122 = .ok (.dup, 1) := by decide +kernel
theorem dX5_readRun_123 : decode cX5_readRun 123 = .ok (.getfield 19, 3) := by decide +kernel
theorem dX5_readRun_126 : decode cX5_readRun 126 = .ok (.iconst 1, 1) := by decide +kernel
theorem dX5_readRun_127 : decode cX5_readRun 127 = .ok (.iadd, 1) := by decide +kernel
theorem dX5_readRun_128 : decode cX5_readRun 128 = .ok (.putfield 19, 3) := by decide +kernel
theorem dX5_readRun_131 : decode cX5_readRun 131 = .ok (.goto (-114), 3) := by decide +kernel
theorem dX5_readRun_134 : decode cX5_readRun 134 = .ok (.aload_n 0, 1) := by decide +kernel
theorem dX5_readRun_135 : decode cX5_readRun 135 = .ok (.getfield 19, 3) := by decide +kernel
theorem dX5_readRun_138 : decode cX5_readRun 138 = .ok (.iload_n 1, 1) := by decide +kernel
theorem dX5_readRun_139 : decode cX5_readRun 139 = .ok (.isub, 1) := by decide +kernel
theorem dX5_readRun_140 : decode cX5_readRun 140 = .ok (.istore_n 3, 1) := by decide +kernel
theorem dX5_readRun_141 : decode cX5_readRun 141 = .ok (.iload_n 2, 1) := by decide +kernel
theorem dX5_readRun_142 : decode cX5_readRun 142 = .ok (.iload_n 3, 1) := by decide +kernel
theorem dX5_readRun_143 : decode cX5_readRun 143 = .ok (.if_icmp .ne 39, 3) := by decide +kernel
theorem dX5_readRun_146 : decode cX5_readRun 146 = .ok (.iload_n 3, 1) := by decide +kernel
theorem dX5_readRun_147 : decode cX5_readRun 147 = .ok (.bipush 7, 2) := by decide +kernel
theorem dX5_readRun_149 : decode cX5_readRun 149 = .ok (.if_icmp .gt 33, 3) := by decide +kernel
theorem dX5_readRun_152 : decode cX5_readRun 152 = .ok (.aload_n 0, 1) := by decide +kernel
theorem dX5_readRun_153 : decode cX5_readRun 153 = .ok (.aload_n 0, 1) := by decide +kernel
theorem dX5_readRun_154 : decode cX5_readRun 154 = .ok (.getfield 66, 3) := by decide +kernel
theorem dX5_readRun_157 : decode cX5_readRun 157 = .ok (.invokestatic 79, 3) := by decide +kernel
theorem dX5_readRun_160 : decode cX5_readRun 160 = .ok (.putfield 44, 3) := by decide +kernel
theorem dX5_readRun_163 : decode cX5_readRun 163 = .ok (.aload_n 0, 1) := by decide +kernel
theorem dX5_readRun_164 : decode cX5_readRun 164 = .ok (.aload_n 0, 1) := by decide +kernel
theorem dX5_readRun_165 : decode cX5_readRun 165 = .ok (.getfield 44, 3) := by decide +kernel
theorem dX5_readRun_168 : decode cX5_readRun 168 = .ok (.ifnonnull 7, 3) := by decide +kernel
theorem dX5_readRun_171 : decode cX5_readRun 171 = .ok (.iconst 5, 1) := by decide +kernel
theorem dX5_readRun_172 : decode cX5_readRun 172 = .ok (.goto 4, 3) := by decide +kernel
theorem dX5_readRun_175 : decode cX5_readRun 175 = .ok (.iconst 4, 1) := by decide +kernel
theorem dX5_readRun_176 : decode cX5_readRun 176 = .ok (.putfield 54, 3) := by decide +kernel
theorem dX5_readRun_179 : decode cX5_readRun 179 = .ok (.goto 21, 3) := by decide +kernel
theorem dX5_readRun_182 : decode cX5_readRun 182 = .ok (.aload_n 0, 1) := by decide +kernel
theorem dX5_readRun_183 : decode cX5_readRun 183 = .ok (.iload_n 2, 1) := by decide +kernel
theorem dX5_readRun_184 : decode cX5_readRun 184 = .ok (.ifCond .ne 12, 3) := by decide +kernel
theorem dX5_readRun_187 : decode cX5_readRun 187 = .ok (.iload_n 3, 1) := by decide +kernel
theorem dX5_readRun_188 : decode cX5_readRun 188 = .ok (.iconst 3, 1) := by decide +kernel
theorem dX5_readRun_189 : decode cX5_readRun 189 = .ok (.if_icmp .gt 7, 3) := by decide +kernel
theorem dX5_readRun_192 : decode cX5_readRun 192 = .ok (.iconst 3, 1) := by decide +kernel
theorem dX5_readRun_193 : decode cX5_readRun 193 = .ok (.goto 4, 3) := by decide +kernel
theorem dX5_readRun_196 : decode cX5_readRun 196 = .ok (.iconst 1, 1) := by decide +kernel
theorem dX5_readRun_197 : decode cX5_readRun 197 = .ok (.putfield 54, 3) := by decide +kernel
theorem dX5_readRun_200 : decode cX5_readRun 200 = .ok (.return_, 1) := by decide +kernel
theorem dX5_advance_0 : decode cX5_advance 0 = .ok (.aload_n 0, 1) := by decide +kernel
theorem dX5_advance_1 : decode cX5_advance 1 = .ok (.getfield 19, 3) := by decide +kernel
theorem dX5_advance_4 : decode cX5_advance 4 = .ok (.aload_n 0, 1) := by decide +kernel
theorem dX5_advance_5 : decode cX5_advance 5 = .ok (.getfield 9, 3) := by decide +kernel
theorem dX5_advance_8 : decode cX5_advance 8 = .ok (.getfield 31, 3) := by decide +kernel
theorem dX5_advance_11 : decode cX5_advance 11 = .ok (.if_icmp .ge 34, 3) := by decide +kernel
theorem dX5_advance_14 : decode cX5_advance 14 = .ok (.aload_n 0, 1) := by decide +kernel
theorem dX5_advance_15 : decode cX5_advance 15 = .ok (.getfield 9, 3) := by decide +kernel
theorem dX5_advance_18 : decode cX5_advance 18 = .ok (.getfield 36, 3) := by decide +kernel
theorem dX5_advance_21 : decode cX5_advance 21 = .ok (.aload_n 0, 1) := by decide +kernel
theorem dX5_advance_22 : decode cX5_advance 22 = .ok (.getfield 19, 3) := by decide +kernel
theorem dX5_advance_25 : decode cX5_advance 25 = .ok (.iaload, 1) := by decide +kernel
theorem dX5_advance_26 : decode cX5_advance 26 = .ok (.invokestatic 40, 3) := by decide +kernel
theorem dX5_advance_29 : decode cX5_advance 29 = .ok (.ifCond .eq 16, 3) := by decide +kernel
theorem dX5_advance_32 : decode cX5_advance 32 = .ok (.aload_n 0, 1) := by decide +kernel
theorem dX5_advance_33 : decode cX5_advance 33 = .ok (.dup, 1) := by decide +kernel
theorem dX5_advance_34 : decode cX5_advance 34 = .ok (.getfield 19, 3) := by decide +kernel
theorem dX5_advance_37 : decode cX5_advance 37 = .ok (.iconst 1, 1) := by decide +kernel
theorem dX5_advance_38 : decode cX5_advance 38 = .ok (.iadd, 1) := by decide +kernel
theorem dX5_advance_39 : decode cX5_advance 39 = .ok (.putfield 19, 3) := by decide +kernel
theorem dX5_advance_42 : decode cX5_advance 42 = .ok (.goto (-42), 3) := by decide +kernel
theorem dX5_advance_45 : decode cX5_advance 45 = .ok (.aload_n 0, 1) := by decide +kernel
theorem dX5_advance_46 : decode cX5_advance 46 = .ok (.aconst_null, 1) := by decide +kernel
theorem dX5_advance_47 : decode cX5_advance 47 = .ok (.putfield 44, 3) := by decide +kernel
theorem dX5_advance_50 : decode cX5_advance 50 = .ok (.aload_n 0, 1) := by decide +kernel
theorem dX5_advance_51 : decode cX5_advance 51 = .ok (.iconst 0, 1) := by decide +kernel
theorem dX5_advance_52 : decode cX5_advance 52 = .ok (.putfield 48, 3) := by decide +kernel
theorem dX5_advance_55 : decode cX5_advance 55 = .ok (.aload_n 0, 1) := by decide +kernel
theorem dX5_advance_56 : decode cX5_advance 56 = .ok (.aload_n 0, 1) := by decide +kernel
theorem dX5_advance_57 : decode cX5_advance 57 = .ok (.getfield 19, 3) := by decide +kernel
theorem dX5_advance_60 : decode cX5_advance 60 = .ok (.putfield 51, 3) := by decide +kernel
theorem dX5_advance_63 : decode cX5_advance 63 = .ok (.aload_n 0, 1) := by decide +kernel
theorem dX5_advance_64 : decode cX5_advance 64 = .ok (.getfield 9, 3) := by decide +kernel
theorem dX5_advance_67 : decode cX5_advance 67 = .ok (.getfield 31, 3) := by decide +kernel
theorem dX5_advance_70 : decode cX5_advance 70 = .ok (.aload_n 0, 1) := by decide +kernel
theorem dX5_advance_71 : decode cX5_advance 71 = .ok (.getfield 15, 3) := by decide +kernel
theorem dX5_advance_74 : decode cX5_advance 74 = .ok (.if_icmp .le 30, 3) := by decide +kernel
theorem dX5_advance_77 : decode cX5_advance 77 = .ok (.aload_n 0, 1) := by decide +kernel
theorem dX5_advance_78 : decode cX5_advance 78 = .ok (.getfield 19, 3) := by decide +kernel
theorem dX5_advance_81 : decode cX5_advance 81 = .ok (.aload_n 0, 1) := by decide +kernel
theorem dX5_advance_82 : decode cX5_advance 82 = .ok (.getfield 15, 3) := by decide +kernel
theorem dX5_advance_85 : decode cX5_advance 85 = .ok (.if_icmp .lt 19, 3) := by decide +kernel
theorem dX5_advance_88 : decode cX5_advance 88 = .ok (.aload_n 0, 1) := by decide +kernel
theorem dX5_advance_89 : decode cX5_advance 89 = .ok (.iconst 1, 1) := by decide +kernel
theorem dX5_advance_90 : decode cX5_advance 90 = .ok (.putfield 54, 3) := by decide +kernel
theorem dX5_advance_93 : decode cX5_advance 93 = .ok (.aload_n 0, 1) := by decide +kernel
theorem dX5_advance_94 : decode cX5_advance 94 = .ok (.aload_n 0, 1) := by decide +kernel
theorem dX5_advance_95 : decode cX5_advance 95 = .ok (.getfield 15, 3) := by decide +kernel
theorem dX5_advance_98 : decode cX5_advance 98 = .ok (.putfield 51, 3) := by decide +kernel
theorem dX5_advance_101 : decode cX5_advance 101 = .ok (.goto 99, 3) := by decide +kernel
theorem dX5_advance_104 : decode cX5_advance 104 = .ok (.aload_n 0, 1) := by decide +kernel
theorem dX5_advance_105 : decode cX5_advance 105 = .ok (.getfield 19, 3) := by decide +kernel
theorem dX5_advance_108 : decode cX5_advance 108 = .ok (.aload_n 0, 1) := by decide +kernel
theorem dX5_advance_109 : decode cX5_advance 109 = .ok (.getfield 9, 3) := by decide +kernel
theorem dX5_advance_112 : decode cX5_advance 112 = .ok (.getfield 31, 3) := by decide +kernel
theorem dX5_advance_115 : decode cX5_advance 115 = .ok (.if_icmp .lt 11, 3) := by decide +kernel
theorem dX5_advance_118 : decode cX5_advance 118 = .ok (.aload_n 0, 1) := by decide +kernel
theorem dX5_advance_119 : decode cX5_advance 119 = .ok (.iconst 0, 1) := by decide +kernel
theorem dX5_advance_120 : decode cX5_advance 120 = .ok (.putfield 54, 3) := by decide +kernel
theorem dX5_advance_123 : decode cX5_advance 123 = .ok (.goto 77, 3) := by decide +kernel
theorem dX5_advance_126 : decode cX5_advance 126 = .ok (.aload_n 0, 1) := by decide +kernel
theorem dX5_advance_127 : decode cX5_advance 127 = .ok (.getfield 9, 3) := by decide +kernel
theorem dX5_advance_130 : decode cX5_advance 130 = .ok (.getfield 36, 3) := by decide +kernel
theorem dX5_advance_133 : decode cX5_advance 133 = .ok (.aload_n 0, 1) := by decide +kernel
theorem dX5_advance_134 : decode cX5_advance 134 = .ok (.getfield 19, 3) := by decide +kernel
theorem dX5_advance_137 : decode cX5_advance 137 = .ok (.iaload, 1) := by decide +kernel
theorem dX5_advance_138 : decode cX5_advance 138 = .ok (.invokestatic 57, 3) := by decide +kernel
theorem dX5_advance_141 : decode cX5_advance 141 = .ok (.ifCond .ne 21, 3) := by decide +kernel
theorem dX5_advance_144 : decode cX5_advance 144 = .ok (.aload_n 0, 1) := by decide +kernel
theorem dX5_advance_145 : decode cX5_advance 145 = .ok (.getfield 9, 3) := by decide +kernel
theorem dX5_advance_148 : decode cX5_advance 148 = .ok (.getfield 36, 3) := by decide +kernel
theorem dX5_advance_151 : decode cX5_advance 151 = .ok (.aload_n 0, 1) := by decide +kernel
theorem dX5_advance_152 : decode cX5_advance 152 = .ok (.getfield 19, 3) := by decide +kernel
theorem dX5_advance_155 : decode cX5_advance 155 = .ok (.iaload, 1) := by decide +kernel
theorem dX5_advance_156 : decode cX5_advance 156 = .ok (.invokestatic 60, 3) := by decide +kernel
theorem dX5_advance_159 : decode cX5_advance 159 = .ok (.ifCond .eq 10, 3) := by decide +kernel
theorem dX5_advance_162 : decode cX5_advance 162 = .ok (.aload_n 0, 1) := by decide +kernel
theorem dX5_advance_163 : decode cX5_advance 163 = .ok (.invokevirtual 63, 3) := by decide +kernel
theorem dX5_advance_166 : decode cX5_advance 166 = .ok (.goto 34, 3) := by decide +kernel
theorem dX5_advance_169 : decode cX5_advance 169 = .ok (.aload_n 0, 1) := by decide +kernel
theorem dX5_advance_170 : decode cX5_advance 170 = .ok (.iconst 2, 1) := by decide +kernel
theorem dX5_advance_171 : decode cX5_advance 171 = .ok (.putfield 54, 3) := by decide +kernel
theorem dX5_advance_174 : decode cX5_advance 174 = .ok (.aload_n 0, 1) := by decide +kernel
theorem dX5_advance_175 : decode cX5_advance 175 = .ok (.aload_n 0, 1) := by decide +kernel
theorem dX5_advance_176 : decode cX5_advance 176 = .ok (.getfield 9, 3) := by decide +kernel
theorem dX5_advance_179 : decode cX5_advance 179 = .ok (.getfield 36, 3) := by decide +kernel
theorem dX5_advance_182 : decode cX5_advance 182 = .ok (.aload_n 0, 1) := by decide +kernel
theorem dX5_advance_183 : decode cX5_advance 183 = .ok (.getfield 19, 3) := by decide +kernel
theorem dX5_advance_186 : decode cX5_advance 186 = .ok (.iaload, 1) := by decide +kernel
theorem dX5_advance_187 : decode cX5_advance 187 = .ok (.putfield 48, 3) := by decide +kernel
theorem dX5_advance_190 : decode cX5_advance 190 = .ok (.aload_n 0, 1) := by decide +kernel
theorem dX5_advance_191 : decode cX5_advance 191 = .ok (.dup, 1) := by decide +kernel
theorem dX5_advance_192 : decode cX5_advance 192 = .ok (.getfield 19, 3) := by decide +kernel
theorem dX5_advance_195 : decode cX5_advance 195 = .ok (.iconst 1, 1) := by decide +kernel
theorem dX5_advance_196 : decode cX5_advance 196 = .ok (.iadd, 1) := by decide +kernel
theorem dX5_advance_197 : decode cX5_advance 197 = .ok (.putfield 19, 3) := by decide +kernel
theorem dX5_advance_200 : decode cX5_advance 200 = .ok (.return_, 1) := by decide +kernel
theorem dX5_refuse_0 : decode cX5_refuse 0 = .ok (.aload_n 0, 1) := by decide +kernel
theorem dX5_refuse_1 : decode cX5_refuse 1 = .ok (.iload_n 1, 1) := by decide +kernel
theorem dX5_refuse_2 : decode cX5_refuse 2 = .ok (.putfield 22, 3) := by decide +kernel
theorem dX5_refuse_5 : decode cX5_refuse 5 = .ok (.aload_n 0, 1) := by decide +kernel
theorem dX5_refuse_6 : decode cX5_refuse 6 = .ok (.aload_n 0, 1) := by decide +kernel
theorem dX5_refuse_7 : decode cX5_refuse 7 = .ok (.getfield 51, 3) := by decide +kernel
theorem dX5_refuse_10 : decode cX5_refuse 10 = .ok (.putfield 25, 3) := by decide +kernel
theorem dX5_refuse_13 : decode cX5_refuse 13 = .ok (.iconst 0, 1) := by decide +kernel
theorem dX5_refuse_14 : decode cX5_refuse 14 = .ok (.ireturn, 1) := by decide +kernel
theorem dX5_refuseNumber_0 : decode cX5_refuseNumber 0 = .ok (.aload_n 0, 1) := by decide +kernel
theorem dX5_refuseNumber_1 : decode cX5_refuseNumber 1 = .ok (.iload_n 1, 1) := by decide +kernel
theorem dX5_refuseNumber_2 : decode cX5_refuseNumber 2 = .ok (.putfield 22, 3) := by decide +kernel
theorem dX5_refuseNumber_5 : decode cX5_refuseNumber 5 = .ok (.aload_n 0, 1) := by decide +kernel
theorem dX5_refuseNumber_6 : decode cX5_refuseNumber 6 = .ok (.aload_n 0, 1) := by decide +kernel
theorem dX5_refuseNumber_7 : decode cX5_refuseNumber 7 = .ok (.getfield 51, 3) := by decide +kernel
theorem dX5_refuseNumber_10 : decode cX5_refuseNumber 10 = .ok (.putfield 25, 3) := by decide +kernel
theorem dX5_refuseNumber_13 : decode cX5_refuseNumber 13 = .ok (.iconst (-1), 1) := by decide +kernel
theorem dX5_refuseNumber_14 : decode cX5_refuseNumber 14 = .ok (.ireturn, 1) := by decide +kernel
theorem dX5_numberHere_0 : decode cX5_numberHere 0 = .ok (.aload_n 0, 1) := by decide +kernel
theorem dX5_numberHere_1 : decode cX5_numberHere 1 = .ok (.getfield 54, 3) := by decide +kernel
theorem dX5_numberHere_4 : decode cX5_numberHere 4 = .ok (.iconst 3, 1) := by decide +kernel
theorem dX5_numberHere_5 : decode cX5_numberHere 5 = .ok (.if_icmp .eq 9, 3) := by decide +kernel
theorem dX5_numberHere_8 : decode cX5_numberHere 8 = .ok (.aload_n 0, 1) := by decide +kernel
theorem dX5_numberHere_9 : decode cX5_numberHere 9 = .ok (.iconst 1, 1) := by decide +kernel
theorem dX5_numberHere_10 : decode cX5_numberHere 10 = .ok (.invokevirtual 86, 3) := by decide +kernel
theorem dX5_numberHere_13 : decode cX5_numberHere 13 = .ok (.ireturn, 1) := by decide +kernel
theorem dX5_numberHere_14 : decode cX5_numberHere 14 = .ok (.aload_n 0, 1) := by decide +kernel
theorem dX5_numberHere_15 : decode cX5_numberHere 15 = .ok (.getfield 70, 3) := by decide +kernel
theorem dX5_numberHere_18 : decode cX5_numberHere 18 = .ok (.iload_n 1, 1) := by decide +kernel
theorem dX5_numberHere_19 : decode cX5_numberHere 19 = .ok (.if_icmp .lt 11, 3) := by decide +kernel
theorem dX5_numberHere_22 : decode cX5_numberHere 22 = .ok (.aload_n 0, 1) := by decide +kernel
theorem dX5_numberHere_23 : decode cX5_numberHere 23 = .ok (.getfield 70, 3) := by decide +kernel
theorem dX5_numberHere_26 : decode cX5_numberHere 26 = .ok (.iload_n 2, 1) := by decide +kernel
theorem dX5_numberHere_27 : decode cX5_numberHere 27 = .ok (.if_icmp .le 11, 3) := by decide +kernel
theorem dX5_numberHere_30 : decode cX5_numberHere 30 = .ok (.aload_n 0, 1) := by decide +kernel
theorem dX5_numberHere_31 : decode cX5_numberHere 31 = .ok (.iconst 2, 1) := by decide +kernel
theorem dX5_numberHere_32 : decode cX5_numberHere 32 = .ok (.invokevirtual 86, 3) := by decide +kernel
theorem dX5_numberHere_35 : decode cX5_numberHere 35 = .ok (.goto 7, 3) := by decide +kernel
theorem dX5_numberHere_38 : decode cX5_numberHere 38 = .ok (.aload_n 0, 1) := by decide +kernel
theorem dX5_numberHere_39 : decode cX5_numberHere 39 = .ok (.getfield 70, 3) := by decide +kernel
theorem dX5_numberHere_42 : decode cX5_numberHere 42 = .ok (.ireturn, 1) := by decide +kernel
theorem dX5_takeNumber_0 : decode cX5_takeNumber 0 = .ok (.aload_n 0, 1) := by decide +kernel
theorem dX5_takeNumber_1 : decode cX5_takeNumber 1 = .ok (.iload_n 1, 1) := by decide +kernel
theorem dX5_takeNumber_2 : decode cX5_takeNumber 2 = .ok (.iload_n 2, 1) := by decide +kernel
theorem dX5_takeNumber_3 : decode cX5_takeNumber 3 = .ok (.invokevirtual 90, 3) := by decide +kernel
theorem dX5_takeNumber_6 : decode cX5_takeNumber 6 = .ok (.istore_n 3, 1) := by decide +kernel
theorem dX5_takeNumber_7 : decode cX5_takeNumber 7 = .ok (.iload_n 3, 1) := by decide +kernel
theorem dX5_takeNumber_8 : decode cX5_takeNumber 8 = .ok (.iconst (-1), 1) := by decide +kernel
theorem dX5_takeNumber_9 : decode cX5_takeNumber 9 = .ok (.if_icmp .eq 7, 3) := by decide +kernel
theorem dX5_takeNumber_12 : decode cX5_takeNumber 12 = .ok (.aload_n 0, 1) := by decide +kernel
theorem dX5_takeNumber_13 : decode cX5_takeNumber 13 = .ok (.invokevirtual 28, 3) := by decide +kernel
theorem dX5_takeNumber_16 : decode cX5_takeNumber 16 = .ok (.iload_n 3, 1) := by decide +kernel
theorem dX5_takeNumber_17 : decode cX5_takeNumber 17 = .ok (.ireturn, 1) := by decide +kernel
theorem dX0_readFoe_0 : decode cX0_readFoe 0 = .ok (.aload_n 0, 1) := by decide +kernel
theorem dX0_readFoe_1 : decode cX0_readFoe 1 = .ok (.getfield 68, 3) := by decide +kernel
theorem dX0_readFoe_4 : decode cX0_readFoe 4 = .ok (.iconst 4, 1) := by decide +kernel
theorem dX0_readFoe_5 : decode cX0_readFoe 5 = .ok (.if_icmp .lt 9, 3) := by decide +kernel
theorem dX0_readFoe_8 : decode cX0_readFoe 8 = .ok (.aload_n 1, 1) := by decide +kernel
theorem dX0_readFoe_9 : decode cX0_readFoe 9 = .ok (.iconst 4, 1) := by decide +kernel
theorem dX0_readFoe_10 : decode cX0_readFoe 10 = .ok (.invokevirtual 124, 3) := by decide +kernel
theorem dX0_readFoe_13 : decode cX0_readFoe 13 = .ok (.ireturn, 1) := by decide +kernel
theorem dX0_readFoe_14 : decode cX0_readFoe 14 = .ok (.aload_n 1, 1) := by decide +kernel
theorem dX0_readFoe_15 : decode cX0_readFoe 15 = .ok (.invokevirtual 127, 3) := by decide +kernel
theorem dX0_readFoe_18 : decode cX0_readFoe 18 = .ok (.aload_n 0, 1) := by decide +kernel
theorem dX0_readFoe_19 : decode cX0_readFoe 19 = .ok (.getfield 37, 3) := by decide +kernel
theorem dX0_readFoe_22 : decode cX0_readFoe 22 = .ok (.aload_n 0, 1) := by decide +kernel
theorem dX0_readFoe_23 : decode cX0_readFoe 23 = .ok (.getfield 68, 3) := by decide +kernel
theorem dX0_readFoe_26 : decode cX0_readFoe 26 = .ok (.aload_n 1, 1) := by decide +kernel
theorem dX0_readFoe_27 : decode cX0_readFoe 27 = .ok (.iconst 0, 1) := by decide +kernel
theorem dX0_readFoe_28 : decode cX0_readFoe 28 = .ok (.bipush 30, 2) := by decide +kernel
theorem dX0_readFoe_30 : decode cX0_readFoe 30 = .ok (.invokevirtual 137, 3) := by decide +kernel
theorem dX0_readFoe_33 : decode cX0_readFoe 33 = .ok (.iastore, 1) := by decide +kernel
theorem dX0_readFoe_34 : decode cX0_readFoe 34 = .ok (.aload_n 0, 1) := by decide +kernel
theorem dX0_readFoe_35 : decode cX0_readFoe 35 = .ok (.getfield 37, 3) := by decide +kernel
theorem dX0_readFoe_38 : decode cX0_readFoe 38 = .ok (.aload_n 0, 1) := by decide +kernel
theorem dX0_readFoe_39 : decode cX0_readFoe 39 = .ok (.getfield 68, 3) := by decide +kernel
theorem dX0_readFoe_42 : decode cX0_readFoe 42 = .ok (.iaload, 1) := by decide +kernel
theorem dX0_readFoe_43 : decode cX0_readFoe 43 = .ok (.iconst (-1), 1) := by decide +kernel
theorem dX0_readFoe_44 : decode cX0_readFoe 44 = .ok (.if_icmp .ne 5, 3) := by decide +kernel
theorem dX0_readFoe_47 : decode cX0_readFoe 47 = .ok (.iconst 0, 1) := by decide +kernel
theorem dX0_readFoe_48 : decode cX0_readFoe 48 = .ok (.ireturn, 1) := by decide +kernel
theorem dX0_readFoe_49 : decode cX0_readFoe 49 = .ok (.aload_n 0, 1) := by decide +kernel
theorem dX0_readFoe_50 : decode cX0_readFoe 50 = .ok (.getfield 40, 3) := by decide +kernel
theorem dX0_readFoe_53 : decode cX0_readFoe 53 = .ok (.aload_n 0, 1) := by decide +kernel
theorem dX0_readFoe_54 : decode cX0_readFoe 54 = .ok (.getfield 68, 3) := by decide +kernel
theorem dX0_readFoe_57 : decode cX0_readFoe 57 = .ok (.aload_n 1, 1) := by decide +kernel
theorem dX0_readFoe_58 : decode cX0_readFoe 58 = .ok (.iconst 0, 1) := by decide +kernel
theorem dX0_readFoe_59 : decode cX0_readFoe 59 = .ok (.bipush 30, 2) := by decide +kernel
theorem dX0_readFoe_61 : decode cX0_readFoe 61 = .ok (.invokevirtual 137, 3) := by decide +kernel
theorem dX0_readFoe_64 : decode cX0_readFoe 64 = .ok (.iastore, 1) := by decide +kernel
theorem dX0_readFoe_65 : decode cX0_readFoe 65 = .ok (.aload_n 0, 1) := by decide +kernel
theorem dX0_readFoe_66 : decode cX0_readFoe 66 = .ok (.getfield 40, 3) := by decide +kernel
theorem dX0_readFoe_69 : decode cX0_readFoe 69 = .ok (.aload_n 0, 1) := by decide +kernel
theorem dX0_readFoe_70 : decode cX0_readFoe 70 = .ok (.getfield 68, 3) := by decide +kernel
theorem dX0_readFoe_73 : decode cX0_readFoe 73 = .ok (.iaload, 1) := by decide +kernel
theorem dX0_readFoe_74 : decode cX0_readFoe 74 = .ok (.iconst (-1), 1) := by decide +kernel
theorem dX0_readFoe_75 : decode cX0_readFoe 75 = .ok (.if_icmp .ne 5, 3) := by decide +kernel
theorem dX0_readFoe_78 : decode cX0_readFoe 78 = .ok (.iconst 0, 1) := by decide +kernel
theorem dX0_readFoe_79 : decode cX0_readFoe 79 = .ok (.ireturn, 1) := by decide +kernel
theorem dX0_readFoe_80 : decode cX0_readFoe 80 = .ok (.aload_n 0, 1) := by decide +kernel
theorem dX0_readFoe_81 : decode cX0_readFoe 81 = .ok (.dup, 1) := by decide +kernel
theorem dX0_readFoe_82 : decode cX0_readFoe 82 = .ok (.getfield 68, 3) := by decide +kernel
theorem dX0_readFoe_85 : decode cX0_readFoe 85 = .ok (.iconst 1, 1) := by decide +kernel
theorem dX0_readFoe_86 : decode cX0_readFoe 86 = .ok (.iadd, 1) := by decide +kernel
theorem dX0_readFoe_87 : decode cX0_readFoe 87 = .ok (.putfield 68, 3) := by decide +kernel
theorem dX0_readFoe_90 : decode cX0_readFoe 90 = .ok (.iconst 1, 1) := by decide +kernel
theorem dX0_readFoe_91 : decode cX0_readFoe 91 = .ok (.ireturn, 1) := by decide +kernel
theorem dX0_manNamed_0 : decode cX0_manNamed 0 = .ok (.iconst 0, 1) := by decide +kernel
theorem dX0_manNamed_1 : decode cX0_manNamed 1 = .ok (.istore_n 3, 1) := by decide +kernel
theorem dX0_manNamed_2 : decode cX0_manNamed 2 = .ok (.iload_n 3, 1) := by decide +kernel
theorem dX0_manNamed_3 : decode cX0_manNamed 3 = .ok (.aload_n 0, 1) := by decide +kernel
theorem dX0_manNamed_4 : decode cX0_manNamed 4 = .ok (.getfield 56, 3) := by decide +kernel
theorem dX0_manNamed_7 : decode cX0_manNamed 7 = .ok (.if_icmp .ge 22, 3) := by decide +kernel
theorem dX0_manNamed_10 : decode cX0_manNamed 10 = .ok (.aload_n 0, 1) := by decide +kernel
theorem dX0_manNamed_11 : decode cX0_manNamed 11 = .ok (.getfield 9, 3) := by decide +kernel
theorem dX0_manNamed_14 : decode cX0_manNamed 14 = .ok (.iload_n 3, 1) := by decide +kernel
theorem dX0_manNamed_15 : decode cX0_manNamed 15 = .ok (.laload, 1) := by decide +kernel
theorem dX0_manNamed_16 : decode cX0_manNamed 16 = .ok (.lload_n 1, 1) := by decide +kernel
theorem dX0_manNamed_17 : decode cX0_manNamed 17 = .ok (.lcmp, 1) := by decide +kernel
theorem dX0_manNamed_18 : decode cX0_manNamed 18 = .ok (.ifCond .ne 5, 3) := by decide +kernel
theorem dX0_manNamed_21 : decode cX0_manNamed 21 = .ok (.iload_n 3, 1) := by decide +kernel
theorem dX0_manNamed_22 : decode cX0_manNamed 22 = .ok (.ireturn, 1) := by decide +kernel
theorem dX0_manNamed_23 : decode cX0_manNamed 23 = .ok (.iinc 3 1, 3) := by decide +kernel
theorem dX0_manNamed_26 : decode cX0_manNamed 26 = .ok (.goto (-24), 3) := by decide +kernel
theorem dX0_manNamed_29 : decode cX0_manNamed 29 = .ok (.iconst (-1), 1) := by decide +kernel
theorem dX0_manNamed_30 : decode cX0_manNamed 30 = .ok (.ireturn, 1) := by decide +kernel
theorem dX0_orderNamed_0 : decode cX0_orderNamed 0 = .ok (.iconst 0, 1) := by decide +kernel
theorem dX0_orderNamed_1 : decode cX0_orderNamed 1 = .ok (.istore_n 3, 1) := by decide +kernel
theorem dX0_orderNamed_2 : decode cX0_orderNamed 2 = .ok (.iload_n 3, 1) := by decide +kernel
theorem dX0_orderNamed_3 : decode cX0_orderNamed 3 = .ok (.aload_n 0, 1) := by decide +kernel
theorem dX0_orderNamed_4 : decode cX0_orderNamed 4 = .ok (.getfield 65, 3) := by decide +kernel
theorem dX0_orderNamed_7 : decode cX0_orderNamed 7 = .ok (.if_icmp .ge 22, 3) := by decide +kernel
theorem dX0_orderNamed_10 : decode cX0_orderNamed 10 = .ok (.aload_n 0, 1) := by decide +kernel
theorem dX0_orderNamed_11 : decode cX0_orderNamed 11 = .ok (.getfield 28, 3) := by decide +kernel
theorem dX0_orderNamed_14 : decode cX0_orderNamed 14 = .ok (.iload_n 3, 1) := by decide +kernel
theorem dX0_orderNamed_15 : decode cX0_orderNamed 15 = .ok (.laload, 1) := by decide +kernel
theorem dX0_orderNamed_16 : decode cX0_orderNamed 16 = .ok (.lload_n 1, 1) := by decide +kernel
theorem dX0_orderNamed_17 : decode cX0_orderNamed 17 = .ok (.lcmp, 1) := by decide +kernel
theorem dX0_orderNamed_18 : decode cX0_orderNamed 18 = .ok (.ifCond .ne 5, 3) := by decide +kernel
theorem dX0_orderNamed_21 : decode cX0_orderNamed 21 = .ok (.iload_n 3, 1) := by decide +kernel
theorem dX0_orderNamed_22 : decode cX0_orderNamed 22 = .ok (.ireturn, 1) := by decide +kernel
theorem dX0_orderNamed_23 : decode cX0_orderNamed 23 = .ok (.iinc 3 1, 3) := by decide +kernel
theorem dX0_orderNamed_26 : decode cX0_orderNamed 26 = .ok (.goto (-24), 3) := by decide +kernel
theorem dX0_orderNamed_29 : decode cX0_orderNamed 29 = .ok (.iconst (-1), 1) := by decide +kernel
theorem dX0_orderNamed_30 : decode cX0_orderNamed 30 = .ok (.ireturn, 1) := by decide +kernel
theorem dX0_isNewName_0 : decode cX0_isNewName 0 = .ok (.aload_n 1, 1) := by decide +kernel
theorem dX0_isNewName_1 : decode cX0_isNewName 1 = .ok (.getfield 71, 3) := by decide +kernel
theorem dX0_isNewName_4 : decode cX0_isNewName 4 = .ok (.iconst 5, 1) := by decide +kernel
theorem dX0_isNewName_5 : decode cX0_isNewName 5 = .ok (.if_icmp .eq 9, 3) := by decide +kernel
theorem dX0_isNewName_8 : decode cX0_isNewName 8 = .ok (.aload_n 1, 1) := by decide +kernel
theorem dX0_isNewName_9 : decode cX0_isNewName 9 = .ok (.iconst 1, 1) := by decide +kernel
theorem dX0_isNewName_10 : decode cX0_isNewName 10 = .ok (.invokevirtual 124, 3) := by decide +kernel
theorem dX0_isNewName_13 : decode cX0_isNewName 13 = .ok (.ireturn, 1) := by decide +kernel
theorem dX0_isNewName_14 : decode cX0_isNewName 14 = .ok (.aload_n 0, 1) := by decide +kernel
theorem dX0_isNewName_15 : decode cX0_isNewName 15 = .ok (.aload_n 1, 1) := by decide +kernel
theorem dX0_isNewName_16 : decode cX0_isNewName 16 = .ok (.getfield 133, 3) := by decide +kernel
theorem dX0_isNewName_19 : decode cX0_isNewName 19 = .ok (.invokevirtual 168, 3) := by decide +kernel
theorem dX0_isNewName_22 : decode cX0_isNewName 22 = .ok (.iconst (-1), 1) := by decide +kernel
theorem dX0_isNewName_23 : decode cX0_isNewName 23 = .ok (.if_icmp .ne 15, 3) := by decide +kernel
theorem dX0_isNewName_26 : decode cX0_isNewName 26 = .ok (.aload_n 0, 1) := by decide +kernel
theorem dX0_isNewName_27 : decode cX0_isNewName 27 = .ok (.aload_n 1, 1) := by decide +kernel
theorem dX0_isNewName_28 : decode cX0_isNewName 28 = .ok (.getfield 133, 3) := by decide +kernel
theorem dX0_isNewName_31 : decode cX0_isNewName 31 = .ok (.invokevirtual 172, 3) := by decide +kernel
theorem dX0_isNewName_34 : decode cX0_isNewName 34 = .ok (.iconst (-1), 1) := by decide +kernel
theorem dX0_isNewName_35 : decode cX0_isNewName 35 = .ok (.if_icmp .eq 9, 3) := by decide +kernel
theorem dX0_isNewName_38 : decode cX0_isNewName 38 = .ok (.aload_n 1, 1) := by decide +kernel
theorem dX0_isNewName_39 : decode cX0_isNewName 39 = .ok (.iconst 3, 1) := by decide +kernel
theorem dX0_isNewName_40 : decode cX0_isNewName 40 = .ok (.invokevirtual 124, 3) := by decide +kernel
theorem dX0_isNewName_43 : decode cX0_isNewName 43 = .ok (.ireturn, 1) := by decide +kernel
theorem dX0_isNewName_44 : decode cX0_isNewName 44 = .ok (.iconst 1, 1) := by decide +kernel
theorem dX0_isNewName_45 : decode cX0_isNewName 45 = .ok (.ireturn, 1) := by decide +kernel
theorem dX0_readMan_0 : decode cX0_readMan 0 = .ok (.aload_n 0, 1) := by decide +kernel
theorem dX0_readMan_1 : decode cX0_readMan 1 = .ok (.getfield 56, 3) := by decide +kernel
theorem dX0_readMan_4 : decode cX0_readMan 4 = .ok (.bipush 8, 2) := by decide +kernel
theorem dX0_readMan_6 : decode cX0_readMan 6 = .ok (.if_icmp .lt 9, 3) := by decide +kernel
theorem dX0_readMan_9 : decode cX0_readMan 9 = .ok (.aload_n 1, 1) := by decide +kernel
theorem dX0_readMan_10 : decode cX0_readMan 10 = .ok (.iconst 4, 1) := by decide +kernel
theorem dX0_readMan_11 : decode cX0_readMan 11 = .ok (.invokevirtual 124, 3) := by decide +kernel
theorem dX0_readMan_14 : decode cX0_readMan 14 = .ok (.ireturn, 1) := by decide +kernel
theorem dX0_readMan_15 : decode cX0_readMan 15 = .ok (.aload_n 1, 1) := by decide +kernel
theorem dX0_readMan_16 : decode cX0_readMan 16 = .ok (.invokevirtual 127, 3) := by decide +kernel
theorem dX0_readMan_19 : decode cX0_readMan 19 = .ok (.aload_n 0, 1) := by decide +kernel
theorem dX0_readMan_20 : decode cX0_readMan 20 = .ok (.aload_n 1, 1) := by decide +kernel
theorem dX0_readMan_21 : decode cX0_readMan 21 = .ok (.invokevirtual 130, 3) := by decide +kernel
theorem dX0_readMan_24 : decode cX0_readMan 24 = .ok (.ifCond .ne 5, 3) := by decide +kernel
theorem dX0_readMan_27 : decode cX0_readMan 27 = .ok (.iconst 0, 1) := by decide +kernel
theorem dX0_readMan_28 : decode cX0_readMan 28 = .ok (.ireturn, 1) := by decide +kernel
theorem dX0_readMan_29 : decode cX0_readMan 29 = .ok (.aload_n 0, 1) := by decide +kernel
theorem dX0_readMan_30 : decode cX0_readMan 30 = .ok (.getfield 9, 3) := by decide +kernel
theorem dX0_readMan_33 : decode cX0_readMan 33 = .ok (.aload_n 0, 1) := by decide +kernel
theorem dX0_readMan_34 : decode cX0_readMan 34 = .ok (.getfield 56, 3) := by decide +kernel
theorem dX0_readMan_37 : decode cX0_readMan 37 = .ok (.aload_n 1, 1) := by decide +kernel
theorem dX0_readMan_38 : decode cX0_readMan 38 = .ok (.getfield 133, 3) := by decide +kernel
theorem dX0_readMan_41 : decode cX0_readMan 41 = .ok (.lastore, 1) := by decide +kernel
theorem dX0_readMan_42 : decode cX0_readMan 42 = .ok (.aload_n 1, 1) := by decide +kernel
theorem dX0_readMan_43 : decode cX0_readMan 43 = .ok (.invokevirtual 127, 3) := by decide +kernel
theorem dX0_readMan_46 : decode cX0_readMan 46 = .ok (.aload_n 0, 1) := by decide +kernel
theorem dX0_readMan_47 : decode cX0_readMan 47 = .ok (.getfield 15, 3) := by decide +kernel
theorem dX0_readMan_50 : decode cX0_readMan 50 = .ok (.aload_n 0, 1) := by decide +kernel
theorem dX0_readMan_51 : decode cX0_readMan 51 = .ok (.getfield 56, 3) := by decide +kernel
theorem dX0_readMan_54 : decode cX0_readMan 54 = .ok (.aload_n 1, 1) := by decide +kernel
theorem dX0_readMan_55 : decode cX0_readMan 55 = .ok (.iconst 0, 1) := by decide +kernel
theorem dX0_readMan_56 : decode cX0_readMan 56 = .ok (.bipush 30, 2) := by decide +kernel
theorem dX0_readMan_58 : decode cX0_readMan 58 = .ok (.invokevirtual 137, 3) := by decide +kernel
theorem dX0_readMan_61 : decode cX0_readMan 61 = .ok (.iastore, 1) := by decide +kernel
theorem dX0_readMan_62 : decode cX0_readMan 62 = .ok (.aload_n 0, 1) := by decide +kernel
theorem dX0_readMan_63 : decode cX0_readMan 63 = .ok (.getfield 15, 3) := by decide +kernel
theorem dX0_readMan_66 : decode cX0_readMan 66 = .ok (.aload_n 0, 1) := by decide +kernel
theorem dX0_readMan_67 : decode cX0_readMan 67 = .ok (.getfield 56, 3) := by decide +kernel
theorem dX0_readMan_70 : decode cX0_readMan 70 = .ok (.iaload, 1) := by decide +kernel
theorem dX0_readMan_71 : decode cX0_readMan 71 = .ok (.iconst (-1), 1) := by decide +kernel
theorem dX0_readMan_72 : decode cX0_readMan 72 = .ok (.if_icmp .ne 5, 3) := by decide +kernel
theorem dX0_readMan_75 : decode cX0_readMan 75 = .ok (.iconst 0, 1) := by decide +kernel
theorem dX0_readMan_76 : decode cX0_readMan 76 = .ok (.ireturn, 1) := by decide +kernel
theorem dX0_readMan_77 : decode cX0_readMan 77 = .ok (.aload_n 0, 1) := by decide +kernel
theorem dX0_readMan_78 : decode cX0_readMan 78 = .ok (.getfield 19, 3) := by decide +kernel
theorem dX0_readMan_81 : decode cX0_readMan 81 = .ok (.aload_n 0, 1) := by decide +kernel
theorem dX0_readMan_82 : decode cX0_readMan 82 = .ok (.getfield 56, 3) := by decide +kernel
theorem dX0_readMan_85 : decode cX0_readMan 85 = .ok (.aload_n 1, 1) := by decide +kernel
theorem dX0_readMan_86 : decode cX0_readMan 86 = .ok (.iconst 0, 1) := by decide +kernel
theorem dX0_readMan_87 : decode cX0_readMan 87 = .ok (.bipush 30, 2) := by decide +kernel
theorem dX0_readMan_89 : decode cX0_readMan 89 = .ok (.invokevirtual 137, 3) := by decide +kernel
theorem dX0_readMan_92 : decode cX0_readMan 92 = .ok (.iastore, 1) := by decide +kernel
theorem dX0_readMan_93 : decode cX0_readMan 93 = .ok (.aload_n 0, 1) := by decide +kernel
theorem dX0_readMan_94 : decode cX0_readMan 94 = .ok (.getfield 19, 3) := by decide +kernel
theorem dX0_readMan_97 : decode cX0_readMan 97 = .ok (.aload_n 0, 1) := by decide +kernel
theorem dX0_readMan_98 : decode cX0_readMan 98 = .ok (.getfield 56, 3) := by decide +kernel
theorem dX0_readMan_101 : decode cX0_readMan 101 = .ok (.iaload, 1) := by decide +kernel
theorem dX0_readMan_102 : decode cX0_readMan 102 = .ok (.iconst (-1), 1) := by decide +kernel
theorem dX0_readMan_103 : decode cX0_readMan 103 = .ok (.if_icmp .ne 5, 3) := by decide +kernel
theorem dX0_readMan_106 : decode cX0_readMan 106 = .ok (.iconst 0, 1) := by decide +kernel
theorem dX0_readMan_107 : decode cX0_readMan 107 = .ok (.ireturn, 1) := by decide +kernel
theorem dX0_readMan_108 : decode cX0_readMan 108 = .ok (.aload_n 0, 1) := by decide +kernel
theorem dX0_readMan_109 : decode cX0_readMan 109 = .ok (.getfield 22, 3) := by decide +kernel
theorem dX0_readMan_112 : decode cX0_readMan 112 = .ok (.aload_n 0, 1) := by decide +kernel
theorem dX0_readMan_113 : decode cX0_readMan 113 = .ok (.getfield 56, 3) := by decide +kernel
theorem dX0_readMan_116 : decode cX0_readMan 116 = .ok (.aload_n 1, 1) := by decide +kernel
theorem dX0_readMan_117 : decode cX0_readMan 117 = .ok (.iconst 0, 1) := by decide +kernel
theorem dX0_readMan_118 : decode cX0_readMan 118 = .ok (.bipush 9, 2) := by decide +kernel
theorem dX0_readMan_120 : decode cX0_readMan 120 = .ok (.invokevirtual 137, 3) := by decide +kernel
theorem dX0_readMan_123 : decode cX0_readMan 123 = .ok (.iastore, 1) := by decide +kernel
theorem dX0_readMan_124 : decode cX0_readMan 124 = .ok (.aload_n 0, 1) := by decide +kernel
theorem dX0_readMan_125 : decode cX0_readMan 125 = .ok (.getfield 22, 3) := by decide +kernel
theorem dX0_readMan_128 : decode cX0_readMan 128 = .ok (.aload_n 0, 1) := by decide +kernel
theorem dX0_readMan_129 : decode cX0_readMan 129 = .ok (.getfield 56, 3) := by decide +kernel
theorem dX0_readMan_132 : decode cX0_readMan 132 = .ok (.iaload, 1) := by decide +kernel
theorem dX0_readMan_133 : decode cX0_readMan 133 = .ok (.iconst (-1), 1) := by decide +kernel
theorem dX0_readMan_134 : decode cX0_readMan 134 = .ok (.if_icmp .ne 5, 3) := by decide +kernel
theorem dX0_readMan_137 : decode cX0_readMan 137 = .ok (.iconst 0, 1) := by decide +kernel
theorem dX0_readMan_138 : decode cX0_readMan 138 = .ok (.ireturn, 1) := by decide +kernel
theorem dX0_readMan_139 : decode cX0_readMan 139 = .ok (.aload_n 1, 1) := by decide +kernel
theorem dX0_readMan_140 : decode cX0_readMan 140 = .ok (.getfield 84, 3) := by decide +kernel
theorem dX0_readMan_143 : decode cX0_readMan 143 = .ok (.getstatic 141, 3) := by decide +kernel
theorem dX0_readMan_146 : decode cX0_readMan 146 = .ok (.if_acmp .ne 22, 3) := by decide +kernel
theorem dX0_readMan_149 : decode cX0_readMan 149 = .ok (.aload_n 0, 1) := by decide +kernel
theorem dX0_readMan_150 : decode cX0_readMan 150 = .ok (.dup, 1) := by decide +kernel
theorem dX0_readMan_151 : decode cX0_readMan 151 = .ok (.getfield 59, 3) := by decide +kernel
theorem dX0_readMan_154 : decode cX0_readMan 154 = .ok (.iconst 1, 1) := by decide +kernel
theorem dX0_readMan_155 : decode cX0_readMan 155 = .ok (.aload_n 0, 1) := by decide +kernel
theorem dX0_readMan_156 : decode cX0_readMan 156 = .ok (.getfield 56, 3) := by decide +kernel
theorem dX0_readMan_159 : decode cX0_readMan 159 = .ok (.ishl, 1) := by decide +kernel
theorem dX0_readMan_160 : decode cX0_readMan 160 = .ok (.ior, 1) := by decide +kernel
theorem dX0_readMan_161 : decode cX0_readMan 161 = .ok (.putfield 59, 3) := by decide +kernel
theorem dX0_readMan_164 : decode cX0_readMan 164 = .ok (.aload_n 1, 1) := by decide +kernel
theorem dX0_readMan_165 : decode cX0_readMan 165 = .ok (.invokevirtual 127, 3) := by decide +kernel
theorem dX0_readMan_168 : decode cX0_readMan 168 = .ok (.aload_n 1, 1) := by decide +kernel
theorem dX0_readMan_169 : decode cX0_readMan 169 = .ok (.getfield 84, 3) := by decide +kernel
theorem dX0_readMan_172 : decode cX0_readMan 172 = .ok (.getstatic 144, 3) := by decide +kernel
theorem dX0_readMan_175 : decode cX0_readMan 175 = .ok (.if_acmp .ne 22, 3) := by decide +kernel
theorem dX0_readMan_178 : decode cX0_readMan 178 = .ok (.aload_n 0, 1) := by decide +kernel
theorem dX0_readMan_179 : decode cX0_readMan 179 = .ok (.dup, 1) := by decide +kernel
theorem dX0_readMan_180 : decode cX0_readMan 180 = .ok (.getfield 62, 3) := by decide +kernel
theorem dX0_readMan_183 : decode cX0_readMan 183 = .ok (.iconst 1, 1) := by decide +kernel
theorem dX0_readMan_184 : decode cX0_readMan 184 = .ok (.aload_n 0, 1) := by decide +kernel
theorem dX0_readMan_185 : decode cX0_readMan 185 = .ok (.getfield 56, 3) := by decide +kernel
theorem dX0_readMan_188 : decode cX0_readMan 188 = .ok (.ishl, 1) := by decide +kernel
theorem dX0_readMan_189 : decode cX0_readMan 189 = .ok (.ior, 1) := by decide +kernel
theorem dX0_readMan_190 : decode cX0_readMan 190 = .ok (.putfield 62, 3) := by decide +kernel
theorem dX0_readMan_193 : decode cX0_readMan 193 = .ok (.aload_n 1, 1) := by decide +kernel
theorem dX0_readMan_194 : decode cX0_readMan 194 = .ok (.invokevirtual 127, 3) := by decide +kernel
theorem dX0_readMan_197 : decode cX0_readMan 197 = .ok (.aload_n 0, 1) := by decide +kernel
theorem dX0_readMan_198 : decode cX0_readMan 198 = .ok (.getfield 25, 3) := by decide +kernel
theorem dX0_readMan_201 : decode cX0_readMan 201 = .ok (.aload_n 0, 1) := by decide +kernel
theorem dX0_readMan_202 : decode cX0_readMan 202 = .ok (.getfield 56, 3) := by decide +kernel
theorem dX0_readMan_205 : decode cX0_readMan 205 = .ok (.iconst (-1), 1) := by decide +kernel
theorem dX0_readMan_206 : decode cX0_readMan 206 = .ok (.iastore, 1) := by decide +kernel
theorem dX0_readMan_207 : decode cX0_readMan 207 = .ok (.aload_n 0, 1) := by decide +kernel
theorem dX0_readMan_208 : decode cX0_readMan 208 = .ok (.dup, 1) := by decide +kernel
theorem dX0_readMan_209 : decode cX0_readMan 209 = .ok (.getfield 56, 3) := by decide +kernel
theorem dX0_readMan_212 : decode cX0_readMan 212 = .ok (.iconst 1, 1) := by decide +kernel
theorem dX0_readMan_213 : decode cX0_readMan 213 = .ok (.iadd, 1) := by decide +kernel
theorem dX0_readMan_214 : decode cX0_readMan 214 = .ok (.putfield 56, 3) := by decide +kernel
theorem dX0_readMan_217 : decode cX0_readMan 217 = .ok (.iconst 1, 1) := by decide +kernel
theorem dX0_readMan_218 : decode cX0_readMan 218 = .ok (.ireturn, 1) := by decide +kernel
theorem dX0_readOnce_0 : decode cX0_readOnce 0 = .ok (.iload_n 1, 1) := by decide +kernel
theorem dX0_readOnce_1 : decode cX0_readOnce 1 = .ok (.iconst (-1), 1) := by decide +kernel
theorem dX0_readOnce_2 : decode cX0_readOnce 2 = .ok (.if_icmp .eq 9, 3) := by decide +kernel
theorem dX0_readOnce_5 : decode cX0_readOnce 5 = .ok (.aload_n 0, 1) := by decide +kernel
theorem dX0_readOnce_6 : decode cX0_readOnce 6 = .ok (.iconst 3, 1) := by decide +kernel
theorem dX0_readOnce_7 : decode cX0_readOnce 7 = .ok (.invokevirtual 165, 3) := by decide +kernel
theorem dX0_readOnce_10 : decode cX0_readOnce 10 = .ok (.ireturn, 1) := by decide +kernel
theorem dX0_readOnce_11 : decode cX0_readOnce 11 = .ok (.aload_n 0, 1) := by decide +kernel
theorem dX0_readOnce_12 : decode cX0_readOnce 12 = .ok (.invokevirtual 127, 3) := by decide +kernel
theorem dX0_readOnce_15 : decode cX0_readOnce 15 = .ok (.aload_n 0, 1) := by decide +kernel
theorem dX0_readOnce_16 : decode cX0_readOnce 16 = .ok (.iconst 1, 1) := by decide +kernel
theorem dX0_readOnce_17 : decode cX0_readOnce 17 = .ok (.iload_n 2, 1) := by decide +kernel
theorem dX0_readOnce_18 : decode cX0_readOnce 18 = .ok (.invokevirtual 137, 3) := by decide +kernel
theorem dX0_readOnce_21 : decode cX0_readOnce 21 = .ok (.ireturn, 1) := by decide +kernel
theorem dX0_orderOf_0 : decode cX0_orderOf 0 = .ok (.iconst 0, 1) := by decide +kernel
theorem dX0_orderOf_1 : decode cX0_orderOf 1 = .ok (.istore_n 3, 1) := by decide +kernel
theorem dX0_orderOf_2 : decode cX0_orderOf 2 = .ok (.iload_n 3, 1) := by decide +kernel
theorem dX0_orderOf_3 : decode cX0_orderOf 3 = .ok (.aload_n 0, 1) := by decide +kernel
theorem dX0_orderOf_4 : decode cX0_orderOf 4 = .ok (.getfield 65, 3) := by decide +kernel
theorem dX0_orderOf_7 : decode cX0_orderOf 7 = .ok (.if_icmp .ge 31, 3) := by decide +kernel
theorem dX0_orderOf_10 : decode cX0_orderOf 10 = .ok (.aload_n 0, 1) := by decide +kernel
theorem dX0_orderOf_11 : decode cX0_orderOf 11 = .ok (.getfield 31, 3) := by decide +kernel
theorem dX0_orderOf_14 : decode cX0_orderOf 14 = .ok (.iload_n 3, 1) := by decide +kernel
theorem dX0_orderOf_15 : decode cX0_orderOf 15 = .ok (.iaload, 1) := by decide +kernel
theorem dX0_orderOf_16 : decode cX0_orderOf 16 = .ok (.iload_n 1, 1) := by decide +kernel
theorem dX0_orderOf_17 : decode cX0_orderOf 17 = .ok (.if_icmp .ne 15, 3) := by decide +kernel
theorem dX0_orderOf_20 : decode cX0_orderOf 20 = .ok (.aload_n 0, 1) := by decide +kernel
theorem dX0_orderOf_21 : decode cX0_orderOf 21 = .ok (.getfield 34, 3) := by decide +kernel
theorem dX0_orderOf_24 : decode cX0_orderOf 24 = .ok (.iload_n 3, 1) := by decide +kernel
theorem dX0_orderOf_25 : decode cX0_orderOf 25 = .ok (.iaload, 1) := by decide +kernel
theorem dX0_orderOf_26 : decode cX0_orderOf 26 = .ok (.iload_n 2, 1) := by decide +kernel
theorem dX0_orderOf_27 : decode cX0_orderOf 27 = .ok (.if_icmp .ne 5, 3) := by decide +kernel
theorem dX0_orderOf_30 : decode cX0_orderOf 30 = .ok (.iload_n 3, 1) := by decide +kernel
theorem dX0_orderOf_31 : decode cX0_orderOf 31 = .ok (.ireturn, 1) := by decide +kernel
theorem dX0_orderOf_32 : decode cX0_orderOf 32 = .ok (.iinc 3 1, 3) := by decide +kernel
theorem dX0_orderOf_35 : decode cX0_orderOf 35 = .ok (.goto (-33), 3) := by decide +kernel
theorem dX0_orderOf_38 : decode cX0_orderOf 38 = .ok (.iconst (-1), 1) := by decide +kernel
theorem dX0_orderOf_39 : decode cX0_orderOf 39 = .ok (.ireturn, 1) := by decide +kernel
theorem dX5_wordHere_0 : decode cX5_wordHere 0 = .ok (.aload_n 0, 1) := by decide +kernel
theorem dX5_wordHere_1 : decode cX5_wordHere 1 = .ok (.getfield 44, 3) := by decide +kernel
theorem dX5_wordHere_4 : decode cX5_wordHere 4 = .ok (.ifnull 24, 3) := by decide +kernel
theorem dX5_wordHere_7 : decode cX5_wordHere 7 = .ok (.aload_n 0, 1) := by decide +kernel
theorem dX5_wordHere_8 : decode cX5_wordHere 8 = .ok (.getfield 44, 3) := by decide +kernel
theorem dX5_wordHere_11 : decode cX5_wordHere 11 = .ok (.getfield 94, 3) := by decide +kernel
theorem dX5_wordHere_14 : decode cX5_wordHere 14 = .ok (.iload_n 1, 1) := by decide +kernel
theorem dX5_wordHere_15 : decode cX5_wordHere 15 = .ok (.if_icmp .ne 13, 3) := by decide +kernel
theorem dX5_wordHere_18 : decode cX5_wordHere 18 = .ok (.aload_n 0, 1) := by decide +kernel
theorem dX5_wordHere_19 : decode cX5_wordHere 19 = .ok (.getfield 44, 3) := by decide +kernel
theorem dX5_wordHere_22 : decode cX5_wordHere 22 = .ok (.getfield 97, 3) := by decide +kernel
theorem dX5_wordHere_25 : decode cX5_wordHere 25 = .ok (.goto 8, 3) := by decide +kernel
theorem dX5_wordHere_28 : decode cX5_wordHere 28 = .ok (.aload_n 0, 1) := by decide +kernel
theorem dX5_wordHere_29 : decode cX5_wordHere 29 = .ok (.iconst 1, 1) := by decide +kernel
theorem dX5_wordHere_30 : decode cX5_wordHere 30 = .ok (.invokevirtual 86, 3) := by decide +kernel
theorem dX5_wordHere_33 : decode cX5_wordHere 33 = .ok (.ireturn, 1) := by decide +kernel
theorem dX5_takeWord_0 : decode cX5_takeWord 0 = .ok (.aload_n 0, 1) := by decide +kernel
theorem dX5_takeWord_1 : decode cX5_takeWord 1 = .ok (.iload_n 1, 1) := by decide +kernel
theorem dX5_takeWord_2 : decode cX5_takeWord 2 = .ok (.invokevirtual 98, 3) := by decide +kernel
theorem dX5_takeWord_5 : decode cX5_takeWord 5 = .ok (.istore_n 2, 1) := by decide +kernel
theorem dX5_takeWord_6 : decode cX5_takeWord 6 = .ok (.iload_n 2, 1) := by decide +kernel
theorem dX5_takeWord_7 : decode cX5_takeWord 7 = .ok (.iconst (-1), 1) := by decide +kernel
theorem dX5_takeWord_8 : decode cX5_takeWord 8 = .ok (.if_icmp .eq 7, 3) := by decide +kernel
theorem dX5_takeWord_11 : decode cX5_takeWord 11 = .ok (.aload_n 0, 1) := by decide +kernel
theorem dX5_takeWord_12 : decode cX5_takeWord 12 = .ok (.invokevirtual 28, 3) := by decide +kernel
theorem dX5_takeWord_15 : decode cX5_takeWord 15 = .ok (.iload_n 2, 1) := by decide +kernel
theorem dX5_takeWord_16 : decode cX5_takeWord 16 = .ok (.ireturn, 1) := by decide +kernel
theorem dX0_readOrder_0 : decode cX0_readOrder 0 = .ok (.aload_n 0, 1) := by decide +kernel
theorem dX0_readOrder_1 : decode cX0_readOrder 1 = .ok (.getfield 65, 3) := by decide +kernel
theorem dX0_readOrder_4 : decode cX0_readOrder 4 = .ok (.bipush 7, 2) := by decide +kernel
theorem dX0_readOrder_6 : decode cX0_readOrder 6 = .ok (.if_icmp .lt 9, 3) := by decide +kernel
theorem dX0_readOrder_9 : decode cX0_readOrder 9 = .ok (.aload_n 1, 1) := by decide +kernel
theorem dX0_readOrder_10 : decode cX0_readOrder 10 = .ok (.iconst 4, 1) := by decide +kernel
theorem dX0_readOrder_11 : decode cX0_readOrder 11 = .ok (.invokevirtual 124, 3) := by decide +kernel
theorem dX0_readOrder_14 : decode cX0_readOrder 14 = .ok (.ireturn, 1) := by decide +kernel
theorem dX0_readOrder_15 : decode cX0_readOrder 15 = .ok (.aload_n 1, 1) := by decide +kernel
theorem dX0_readOrder_16 : decode cX0_readOrder 16 = .ok (.invokevirtual 127, 3) := by decide +kernel
theorem dX0_readOrder_19 : decode cX0_readOrder 19 = .ok (.aload_n 0, 1) := by decide +kernel
theorem dX0_readOrder_20 : decode cX0_readOrder 20 = .ok (.aload_n 1, 1) := by decide +kernel
theorem dX0_readOrder_21 : decode cX0_readOrder 21 = .ok (.invokevirtual 130, 3) := by decide +kernel
theorem dX0_readOrder_24 : decode cX0_readOrder 24 = .ok (.ifCond .ne 5, 3) := by decide +kernel
theorem dX0_readOrder_27 : decode cX0_readOrder 27 = .ok (.iconst 0, 1) := by decide +kernel
theorem dX0_readOrder_28 : decode cX0_readOrder 28 = .ok (.ireturn, 1) := by decide +kernel
theorem dX0_readOrder_29 : decode cX0_readOrder 29 = .ok (.aload_n 0, 1) := by decide +kernel
theorem dX0_readOrder_30 : decode cX0_readOrder 30 = .ok (.getfield 28, 3) := by decide +kernel
theorem dX0_readOrder_33 : decode cX0_readOrder 33 = .ok (.aload_n 0, 1) := by decide +kernel
theorem dX0_readOrder_34 : decode cX0_readOrder 34 = .ok (.getfield 65, 3) := by decide +kernel
theorem dX0_readOrder_37 : decode cX0_readOrder 37 = .ok (.aload_n 1, 1) := by decide +kernel
theorem dX0_readOrder_38 : decode cX0_readOrder 38 = .ok (.getfield 133, 3) := by decide +kernel
theorem dX0_readOrder_41 : decode cX0_readOrder 41 = .ok (.lastore, 1) := by decide +kernel
theorem dX0_readOrder_42 : decode cX0_readOrder 42 = .ok (.aload_n 1, 1) := by decide +kernel
theorem dX0_readOrder_43 : decode cX0_readOrder 43 = .ok (.invokevirtual 127, 3) := by decide +kernel
theorem dX0_readOrder_46 : decode cX0_readOrder 46 = .ok (.aload_n 0, 1) := by decide +kernel
theorem dX0_readOrder_47 : decode cX0_readOrder 47 = .ok (.getfield 31, 3) := by decide +kernel
theorem dX0_readOrder_50 : decode cX0_readOrder 50 = .ok (.aload_n 0, 1) := by decide +kernel
theorem dX0_readOrder_51 : decode cX0_readOrder 51 = .ok (.getfield 65, 3) := by decide +kernel
theorem dX0_readOrder_54 : decode cX0_readOrder 54 = .ok (.aload_n 1, 1) := by decide +kernel
theorem dX0_readOrder_55 : decode cX0_readOrder 55 = .ok (.iconst 1, 1) := by decide +kernel
theorem dX0_readOrder_56 : decode cX0_readOrder 56 = .ok (.invokevirtual 155, 3) := by decide +kernel
theorem dX0_readOrder_59 : decode cX0_readOrder 59 = .ok (.iastore, 1) := by decide +kernel
theorem dX0_readOrder_60 : decode cX0_readOrder 60 = .ok (.aload_n 0, 1) := by decide +kernel
theorem dX0_readOrder_61 : decode cX0_readOrder 61 = .ok (.getfield 31, 3) := by decide +kernel
theorem dX0_readOrder_64 : decode cX0_readOrder 64 = .ok (.aload_n 0, 1) := by decide +kernel
theorem dX0_readOrder_65 : decode cX0_readOrder 65 = .ok (.getfield 65, 3) := by decide +kernel
theorem dX0_readOrder_68 : decode cX0_readOrder 68 = .ok (.iaload, 1) := by decide +kernel
theorem dX0_readOrder_69 : decode cX0_readOrder 69 = .ok (.iconst (-1), 1) := by decide +kernel
theorem dX0_readOrder_70 : decode cX0_readOrder 70 = .ok (.if_icmp .ne 5, 3) := by decide +kernel
theorem dX0_readOrder_73 : decode cX0_readOrder 73 = .ok (.iconst 0, 1) := by decide +kernel
theorem dX0_readOrder_74 : decode cX0_readOrder 74 = .ok (.ireturn, 1) := by decide +kernel
theorem dX0_readOrder_75 : decode cX0_readOrder 75 = .ok (.aload_n 0, 1) := by decide +kernel
theorem dX0_readOrder_76 : decode cX0_readOrder 76 = .ok (.getfield 34, 3) := by decide +kernel
theorem dX0_readOrder_79 : decode cX0_readOrder 79 = .ok (.aload_n 0, 1) := by decide +kernel
theorem dX0_readOrder_80 : decode cX0_readOrder 80 = .ok (.getfield 65, 3) := by decide +kernel
theorem dX0_readOrder_83 : decode cX0_readOrder 83 = .ok (.aload_n 1, 1) := by decide +kernel
theorem dX0_readOrder_84 : decode cX0_readOrder 84 = .ok (.iconst 1, 1) := by decide +kernel
theorem dX0_readOrder_85 : decode cX0_readOrder 85 = .ok (.invokevirtual 159, 3) := by decide +kernel
theorem dX0_readOrder_88 : decode cX0_readOrder 88 = .ok (.iastore, 1) := by decide +kernel
theorem dX0_readOrder_89 : decode cX0_readOrder 89 = .ok (.aload_n 0, 1) := by decide +kernel
theorem dX0_readOrder_90 : decode cX0_readOrder 90 = .ok (.getfield 34, 3) := by decide +kernel
theorem dX0_readOrder_93 : decode cX0_readOrder 93 = .ok (.aload_n 0, 1) := by decide +kernel
theorem dX0_readOrder_94 : decode cX0_readOrder 94 = .ok (.getfield 65, 3) := by decide +kernel
theorem dX0_readOrder_97 : decode cX0_readOrder 97 = .ok (.iaload, 1) := by decide +kernel
theorem dX0_readOrder_98 : decode cX0_readOrder 98 = .ok (.iconst (-1), 1) := by decide +kernel
theorem dX0_readOrder_99 : decode cX0_readOrder 99 = .ok (.if_icmp .ne 5, 3) := by decide +kernel
theorem dX0_readOrder_102 : decode cX0_readOrder 102 = .ok (.iconst 0, 1) := by decide +kernel
theorem dX0_readOrder_103 : decode cX0_readOrder 103 = .ok (.ireturn, 1) := by decide +kernel
theorem dX0_readOrder_104 : decode cX0_readOrder 104 = .ok (.aload_n 0, 1) := by decide +kernel
theorem dX0_readOrder_105 : decode cX0_readOrder 105 = .ok (.aload_n 0, 1) := by decide +kernel
theorem dX0_readOrder_106 : decode cX0_readOrder 106 = .ok (.getfield 31, 3) := by decide +kernel
theorem dX0_readOrder_109 : decode cX0_readOrder 109 = .ok (.aload_n 0, 1) := by decide +kernel
theorem dX0_readOrder_110 : decode cX0_readOrder 110 = .ok (.getfield 65, 3) := by decide +kernel
theorem dX0_readOrder_113 : decode cX0_readOrder 113 = .ok (.iaload, 1) := by decide +kernel
theorem dX0_readOrder_114 : decode cX0_readOrder 114 = .ok (.aload_n 0, 1) := by decide +kernel
theorem dX0_readOrder_115 : decode cX0_readOrder 115 = .ok (.getfield 34, 3) := by decide +kernel
theorem dX0_readOrder_118 : decode cX0_readOrder 118 = .ok (.aload_n 0, 1) := by decide +kernel
theorem dX0_readOrder_119 : decode cX0_readOrder 119 = .ok (.getfield 65, 3) := by decide +kernel
theorem dX0_readOrder_122 : decode cX0_readOrder 122 = .ok (.iaload, 1) := by decide +kernel
theorem dX0_readOrder_123 : decode cX0_readOrder 123 = .ok (.invokevirtual 162, 3) := by decide +kernel
theorem dX0_readOrder_126 : decode cX0_readOrder 126 = .ok (.iconst (-1), 1) := by decide +kernel
theorem dX0_readOrder_127 : decode cX0_readOrder 127 = .ok (.if_icmp .eq 9, 3) := by decide +kernel
theorem dX0_readOrder_130 : decode cX0_readOrder 130 = .ok (.aload_n 1, 1) := by decide +kernel
theorem dX0_readOrder_131 : decode cX0_readOrder 131 = .ok (.iconst 3, 1) := by decide +kernel
theorem dX0_readOrder_132 : decode cX0_readOrder 132 = .ok (.invokevirtual 124, 3) := by decide +kernel
theorem dX0_readOrder_135 : decode cX0_readOrder 135 = .ok (.ireturn, 1) := by decide +kernel
theorem dX0_readOrder_136 : decode cX0_readOrder 136 = .ok (.aload_n 0, 1) := by decide +kernel
theorem dX0_readOrder_137 : decode cX0_readOrder 137 = .ok (.dup, 1) := by decide +kernel
theorem dX0_readOrder_138 : decode cX0_readOrder 138 = .ok (.getfield 65, 3) := by decide +kernel
theorem dX0_readOrder_141 : decode cX0_readOrder 141 = .ok (.iconst 1, 1) := by decide +kernel
theorem dX0_readOrder_142 : decode cX0_readOrder 142 = .ok (.iadd, 1) := by decide +kernel
theorem dX0_readOrder_143 : decode cX0_readOrder 143 = .ok (.putfield 65, 3) := by decide +kernel
theorem dX0_readOrder_146 : decode cX0_readOrder 146 = .ok (.aload_n 1, 1) := by decide +kernel
theorem dX0_readOrder_147 : decode cX0_readOrder 147 = .ok (.invokevirtual 127, 3) := by decide +kernel
theorem dX0_readOrder_150 : decode cX0_readOrder 150 = .ok (.iconst 1, 1) := by decide +kernel
theorem dX0_readOrder_151 : decode cX0_readOrder 151 = .ok (.ireturn, 1) := by decide +kernel
theorem dX0_isUnder_0 : decode cX0_isUnder 0 = .ok (.aload_n 0, 1) := by decide +kernel
theorem dX0_isUnder_1 : decode cX0_isUnder 1 = .ok (.getfield 25, 3) := by decide +kernel
theorem dX0_isUnder_4 : decode cX0_isUnder 4 = .ok (.iload_n 1, 1) := by decide +kernel
theorem dX0_isUnder_5 : decode cX0_isUnder 5 = .ok (.iaload, 1) := by decide +kernel
theorem dX0_isUnder_6 : decode cX0_isUnder 6 = .ok (.istore_n 3, 1) := by decide +kernel
theorem dX0_isUnder_7 : decode cX0_isUnder 7 = .ok (.iconst 0, 1) := by decide +kernel
theorem dX0_isUnder_8 : decode cX0_isUnder 8 = .ok (.istore 4, 2) := by decide +kernel
theorem dX0_isUnder_10 : decode cX0_isUnder 10 = .ok (.iload 4, 2) := by decide +kernel
theorem dX0_isUnder_12 : decode cX0_isUnder 12 = .ok (.bipush 8, 2) := by decide +kernel
theorem dX0_isUnder_14 : decode cX0_isUnder 14 = .ok (.if_icmp .ge 28, 3) := by decide +kernel
theorem dX0_isUnder_17 : decode cX0_isUnder 17 = .ok (.iload_n 3, 1) := by decide +kernel
theorem dX0_isUnder_18 : decode cX0_isUnder 18 = .ok (.iconst (-1), 1) := by decide +kernel
theorem dX0_isUnder_19 : decode cX0_isUnder 19 = .ok (.if_icmp .eq 23, 3) := by decide +kernel
theorem dX0_isUnder_22 : decode cX0_isUnder 22 = .ok (.iload_n 3, 1) := by decide +kernel
theorem dX0_isUnder_23 : decode cX0_isUnder 23 = .ok (.iload_n 2, 1) := by decide +kernel
theorem dX0_isUnder_24 : decode cX0_isUnder 24 = .ok (.if_icmp .ne 5, 3) := by decide +kernel
theorem dX0_isUnder_27 : decode cX0_isUnder 27 = .ok (.iconst 1, 1) := by decide +kernel
theorem dX0_isUnder_28 : decode cX0_isUnder 28 = .ok (.ireturn, 1) := by decide +kernel
theorem dX0_isUnder_29 : decode cX0_isUnder 29 = .ok (.aload_n 0, 1) := by decide +kernel
theorem dX0_isUnder_30 : decode cX0_isUnder 30 = .ok (.getfield 25, 3) := by decide +kernel
theorem dX0_isUnder_33 : decode cX0_isUnder 33 = .ok (.iload_n 3, 1) := by decide +kernel
theorem dX0_isUnder_34 : decode cX0_isUnder 34 = .ok (.iaload, 1) := by decide +kernel
theorem dX0_isUnder_35 : decode cX0_isUnder 35 = .ok (.istore_n 3, 1) := by decide +kernel
theorem dX0_isUnder_36 : decode cX0_isUnder 36 = .ok (.iinc 4 1, 3) := by decide +kernel
theorem dX0_isUnder_39 : decode cX0_isUnder 39 = .ok (.goto (-29), 3) := by decide +kernel
theorem dX0_isUnder_42 : decode cX0_isUnder 42 = .ok (.iconst 0, 1) := by decide +kernel
theorem dX0_isUnder_43 : decode cX0_isUnder 43 = .ok (.ireturn, 1) := by decide +kernel
theorem dX5_manHere_0 : decode cX5_manHere 0 = .ok (.aload_n 0, 1) := by decide +kernel
theorem dX5_manHere_1 : decode cX5_manHere 1 = .ok (.getfield 54, 3) := by decide +kernel
theorem dX5_manHere_4 : decode cX5_manHere 4 = .ok (.iconst 5, 1) := by decide +kernel
theorem dX5_manHere_5 : decode cX5_manHere 5 = .ok (.if_icmp .eq 9, 3) := by decide +kernel
theorem dX5_manHere_8 : decode cX5_manHere 8 = .ok (.aload_n 0, 1) := by decide +kernel
theorem dX5_manHere_9 : decode cX5_manHere 9 = .ok (.iconst 1, 1) := by decide +kernel
theorem dX5_manHere_10 : decode cX5_manHere 10 = .ok (.invokevirtual 86, 3) := by decide +kernel
theorem dX5_manHere_13 : decode cX5_manHere 13 = .ok (.ireturn, 1) := by decide +kernel
theorem dX5_manHere_14 : decode cX5_manHere 14 = .ok (.aload_n 1, 1) := by decide +kernel
theorem dX5_manHere_15 : decode cX5_manHere 15 = .ok (.aload_n 0, 1) := by decide +kernel
theorem dX5_manHere_16 : decode cX5_manHere 16 = .ok (.getfield 66, 3) := by decide +kernel
theorem dX5_manHere_19 : decode cX5_manHere 19 = .ok (.invokevirtual 101, 3) := by decide +kernel
theorem dX5_manHere_22 : decode cX5_manHere 22 = .ok (.istore_n 2, 1) := by decide +kernel
theorem dX5_manHere_23 : decode cX5_manHere 23 = .ok (.iload_n 2, 1) := by decide +kernel
theorem dX5_manHere_24 : decode cX5_manHere 24 = .ok (.iconst (-1), 1) := by decide +kernel
theorem dX5_manHere_25 : decode cX5_manHere 25 = .ok (.if_icmp .ne 11, 3) := by decide +kernel
theorem dX5_manHere_28 : decode cX5_manHere 28 = .ok (.aload_n 0, 1) := by decide +kernel
theorem dX5_manHere_29 : decode cX5_manHere 29 = .ok (.iconst 3, 1) := by decide +kernel
theorem dX5_manHere_30 : decode cX5_manHere 30 = .ok (.invokevirtual 86, 3) := by decide +kernel
theorem dX5_manHere_33 : decode cX5_manHere 33 = .ok (.goto 4, 3) := by decide +kernel
theorem dX5_manHere_36 : decode cX5_manHere 36 = .ok (.iload_n 2, 1) := by decide +kernel
theorem dX5_manHere_37 : decode cX5_manHere 37 = .ok (.ireturn, 1) := by decide +kernel
theorem dX0_readUnder_0 : decode cX0_readUnder 0 = .ok (.aload_n 1, 1) := by decide +kernel
theorem dX0_readUnder_1 : decode cX0_readUnder 1 = .ok (.invokevirtual 127, 3) := by decide +kernel
theorem dX0_readUnder_4 : decode cX0_readUnder 4 = .ok (.aload_n 1, 1) := by decide +kernel
theorem dX0_readUnder_5 : decode cX0_readUnder 5 = .ok (.aload_n 0, 1) := by decide +kernel
theorem dX0_readUnder_6 : decode cX0_readUnder 6 = .ok (.invokevirtual 147, 3) := by decide +kernel
theorem dX0_readUnder_9 : decode cX0_readUnder 9 = .ok (.istore_n 2, 1) := by decide +kernel
theorem dX0_readUnder_10 : decode cX0_readUnder 10 = .ok (.iload_n 2, 1) := by decide +kernel
theorem dX0_readUnder_11 : decode cX0_readUnder 11 = .ok (.iconst (-1), 1) := by decide +kernel
theorem dX0_readUnder_12 : decode cX0_readUnder 12 = .ok (.if_icmp .ne 5, 3) := by decide +kernel
theorem dX0_readUnder_15 : decode cX0_readUnder 15 = .ok (.iconst 0, 1) := by decide +kernel
theorem dX0_readUnder_16 : decode cX0_readUnder 16 = .ok (.ireturn, 1) := by decide +kernel
theorem dX0_readUnder_17 : decode cX0_readUnder 17 = .ok (.aload_n 0, 1) := by decide +kernel
theorem dX0_readUnder_18 : decode cX0_readUnder 18 = .ok (.getfield 25, 3) := by decide +kernel
theorem dX0_readUnder_21 : decode cX0_readUnder 21 = .ok (.iload_n 2, 1) := by decide +kernel
theorem dX0_readUnder_22 : decode cX0_readUnder 22 = .ok (.iaload, 1) := by decide +kernel
theorem dX0_readUnder_23 : decode cX0_readUnder 23 = .ok (.iconst (-1), 1) := by decide +kernel
theorem dX0_readUnder_24 : decode cX0_readUnder 24 = .ok (.if_icmp .eq 9, 3) := by decide +kernel
theorem dX0_readUnder_27 : decode cX0_readUnder 27 = .ok (.aload_n 1, 1) := by decide +kernel
theorem dX0_readUnder_28 : decode cX0_readUnder 28 = .ok (.iconst 3, 1) := by decide +kernel
theorem dX0_readUnder_29 : decode cX0_readUnder 29 = .ok (.invokevirtual 124, 3) := by decide +kernel
theorem dX0_readUnder_32 : decode cX0_readUnder 32 = .ok (.ireturn, 1) := by decide +kernel
theorem dX0_readUnder_33 : decode cX0_readUnder 33 = .ok (.aload_n 1, 1) := by decide +kernel
theorem dX0_readUnder_34 : decode cX0_readUnder 34 = .ok (.invokevirtual 127, 3) := by decide +kernel
theorem dX0_readUnder_37 : decode cX0_readUnder 37 = .ok (.aload_n 1, 1) := by decide +kernel
theorem dX0_readUnder_38 : decode cX0_readUnder 38 = .ok (.aload_n 0, 1) := by decide +kernel
theorem dX0_readUnder_39 : decode cX0_readUnder 39 = .ok (.invokevirtual 147, 3) := by decide +kernel
theorem dX0_readUnder_42 : decode cX0_readUnder 42 = .ok (.istore_n 3, 1) := by decide +kernel
theorem dX0_readUnder_43 : decode cX0_readUnder 43 = .ok (.iload_n 3, 1) := by decide +kernel
theorem dX0_readUnder_44 : decode cX0_readUnder 44 = .ok (.iconst (-1), 1) := by decide +kernel
theorem dX0_readUnder_45 : decode cX0_readUnder 45 = .ok (.if_icmp .ne 5, 3) := by decide +kernel
theorem dX0_readUnder_48 : decode cX0_readUnder 48 = .ok (.iconst 0, 1) := by decide +kernel
theorem dX0_readUnder_49 : decode cX0_readUnder 49 = .ok (.ireturn, 1) := by decide +kernel
theorem dX0_readUnder_50 : decode cX0_readUnder 50 = .ok (.iload_n 3, 1) := by decide +kernel
theorem dX0_readUnder_51 : decode cX0_readUnder 51 = .ok (.iload_n 2, 1) := by decide +kernel
theorem dX0_readUnder_52 : decode cX0_readUnder 52 = .ok (.if_icmp .eq 12, 3) := by decide +kernel
theorem dX0_readUnder_55 : decode cX0_readUnder 55 = .ok (.aload_n 0, 1) := by decide +kernel
theorem dX0_readUnder_56 : decode cX0_readUnder 56 = .ok (.iload_n 3, 1) := by decide +kernel
theorem dX0_readUnder_57 : decode cX0_readUnder 57 = .ok (.iload_n 2, 1) := by decide +kernel
theorem dX0_readUnder_58 : decode cX0_readUnder 58 = .ok (.invokevirtual 151, 3) := by decide +kernel
theorem dX0_readUnder_61 : decode cX0_readUnder 61 = .ok (.ifCond .eq 9, 3) := by decide +kernel
theorem dX0_readUnder_64 : decode cX0_readUnder 64 = .ok (.aload_n 1, 1) := by decide +kernel
theorem dX0_readUnder_65 : decode cX0_readUnder 65 = .ok (.iconst 3, 1) := by decide +kernel
theorem dX0_readUnder_66 : decode cX0_readUnder 66 = .ok (.invokevirtual 124, 3) := by decide +kernel
theorem dX0_readUnder_69 : decode cX0_readUnder 69 = .ok (.ireturn, 1) := by decide +kernel
theorem dX0_readUnder_70 : decode cX0_readUnder 70 = .ok (.aload_n 0, 1) := by decide +kernel
theorem dX0_readUnder_71 : decode cX0_readUnder 71 = .ok (.getfield 25, 3) := by decide +kernel
theorem dX0_readUnder_74 : decode cX0_readUnder 74 = .ok (.iload_n 2, 1) := by decide +kernel
theorem dX0_readUnder_75 : decode cX0_readUnder 75 = .ok (.iload_n 3, 1) := by decide +kernel
theorem dX0_readUnder_76 : decode cX0_readUnder 76 = .ok (.iastore, 1) := by decide +kernel
theorem dX0_readUnder_77 : decode cX0_readUnder 77 = .ok (.aload_n 1, 1) := by decide +kernel
theorem dX0_readUnder_78 : decode cX0_readUnder 78 = .ok (.invokevirtual 127, 3) := by decide +kernel
theorem dX0_readUnder_81 : decode cX0_readUnder 81 = .ok (.iconst 1, 1) := by decide +kernel
theorem dX0_readUnder_82 : decode cX0_readUnder 82 = .ok (.ireturn, 1) := by decide +kernel
theorem dX0_readLine_0 : decode cX0_readLine 0 = .ok (.aload_n 1, 1) := by decide +kernel
theorem dX0_readLine_1 : decode cX0_readLine 1 = .ok (.getfield 84, 3) := by decide +kernel
theorem dX0_readLine_4 : decode cX0_readLine 4 = .ok (.astore_n 2, 1) := by decide +kernel
theorem dX0_readLine_5 : decode cX0_readLine 5 = .ok (.aload_n 2, 1) := by decide +kernel
theorem dX0_readLine_6 : decode cX0_readLine 6 = .ok (.getstatic 88, 3) := by decide +kernel
theorem dX0_readLine_9 : decode cX0_readLine 9 = .ok (.if_acmp .ne 9, 3) := by decide +kernel
theorem dX0_readLine_12 : decode cX0_readLine 12 = .ok (.aload_n 0, 1) := by decide +kernel
theorem dX0_readLine_13 : decode cX0_readLine 13 = .ok (.aload_n 1, 1) := by decide +kernel
theorem dX0_readLine_14 : decode cX0_readLine 14 = .ok (.invokevirtual 93, 3) := by decide +kernel
theorem dX0_readLine_17 : decode cX0_readLine 17 = .ok (.ireturn, 1) := by decide +kernel
theorem dX0_readLine_18 : decode cX0_readLine 18 = .ok (.aload_n 2, 1) := by decide +kernel
theorem dX0_readLine_19 : decode cX0_readLine 19 = .ok (.getstatic 96, 3) := by decide +kernel
theorem dX0_readLine_22 : decode cX0_readLine 22 = .ok (.if_acmp .ne 9, 3) := by decide +kernel
theorem dX0_readLine_25 : decode cX0_readLine 25 = .ok (.aload_n 0, 1) := by decide +kernel
theorem dX0_readLine_26 : decode cX0_readLine 26 = .ok (.aload_n 1, 1) := by decide +kernel
theorem dX0_readLine_27 : decode cX0_readLine 27 = .ok (.invokevirtual 99, 3) := by decide +kernel
theorem dX0_readLine_30 : decode cX0_readLine 30 = .ok (.ireturn, 1) := by decide +kernel
theorem dX0_readLine_31 : decode cX0_readLine 31 = .ok (.aload_n 2, 1) := by decide +kernel
theorem dX0_readLine_32 : decode cX0_readLine 32 = .ok (.getstatic 102, 3) := by decide +kernel
theorem dX0_readLine_35 : decode cX0_readLine 35 = .ok (.if_acmp .ne 9, 3) := by decide +kernel
theorem dX0_readLine_38 : decode cX0_readLine 38 = .ok (.aload_n 0, 1) := by decide +kernel
theorem dX0_readLine_39 : decode cX0_readLine 39 = .ok (.aload_n 1, 1) := by decide +kernel
theorem dX0_readLine_40 : decode cX0_readLine 40 = .ok (.invokevirtual 105, 3) := by decide +kernel
theorem dX0_readLine_43 : decode cX0_readLine 43 = .ok (.ireturn, 1) := by decide +kernel
theorem dX0_readLine_44 : decode cX0_readLine 44 = .ok (.aload_n 2, 1) := by decide +kernel
theorem dX0_readLine_45 : decode cX0_readLine 45 = .ok (.getstatic 108, 3) := by decide +kernel
theorem dX0_readLine_48 : decode cX0_readLine 48 = .ok (.if_acmp .ne 9, 3) := by decide +kernel
theorem dX0_readLine_51 : decode cX0_readLine 51 = .ok (.aload_n 0, 1) := by decide +kernel
theorem dX0_readLine_52 : decode cX0_readLine 52 = .ok (.aload_n 1, 1) := by decide +kernel
theorem dX0_readLine_53 : decode cX0_readLine 53 = .ok (.invokevirtual 111, 3) := by decide +kernel
theorem dX0_readLine_56 : decode cX0_readLine 56 = .ok (.ireturn, 1) := by decide +kernel
theorem dX0_readLine_57 : decode cX0_readLine 57 = .ok (.aload_n 2, 1) := by decide +kernel
theorem dX0_readLine_58 : decode cX0_readLine 58 = .ok (.getstatic 114, 3) := by decide +kernel
theorem dX0_readLine_61 : decode cX0_readLine 61 = .ok (.if_acmp .ne 30, 3) := by decide +kernel
theorem dX0_readLine_64 : decode cX0_readLine 64 = .ok (.aload_n 0, 1) := by decide +kernel
theorem dX0_readLine_65 : decode cX0_readLine 65 = .ok (.aload_n 1, 1) := by decide +kernel
theorem dX0_readLine_66 : decode cX0_readLine 66 = .ok (.aload_n 0, 1) := by decide +kernel
theorem dX0_readLine_67 : decode cX0_readLine 67 = .ok (.getfield 43, 3) := by decide +kernel
theorem dX0_readLine_70 : decode cX0_readLine 70 = .ok (.iconst 5, 1) := by decide +kernel
theorem dX0_readLine_71 : decode cX0_readLine 71 = .ok (.invokestatic 117, 3) := by decide +kernel
theorem dX0_readLine_74 : decode cX0_readLine 74 = .ok (.putfield 43, 3) := by decide +kernel
theorem dX0_readLine_77 : decode cX0_readLine 77 = .ok (.aload_n 0, 1) := by decide +kernel
theorem dX0_readLine_78 : decode cX0_readLine 78 = .ok (.getfield 43, 3) := by decide +kernel
theorem dX0_readLine_81 : decode cX0_readLine 81 = .ok (.iconst (-1), 1) := by decide +kernel
theorem dX0_readLine_82 : decode cX0_readLine 82 = .ok (.if_icmp .eq 7, 3) := by decide +kernel
theorem dX0_readLine_85 : decode cX0_readLine 85 = .ok (.iconst 1, 1) := by decide +kernel
theorem dX0_readLine_86 : decode cX0_readLine 86 = .ok (.goto 4, 3) := by decide +kernel
theorem dX0_readLine_89 : decode cX0_readLine 89 = .ok (.iconst 0, 1) := by decide +kernel
theorem dX0_readLine_90 : decode cX0_readLine 90 = .ok (.ireturn, 1) := by decide +kernel
theorem dX0_readLine_91 : decode cX0_readLine 91 = .ok (.aload_n 2, 1) := by decide +kernel
theorem dX0_readLine_92 : decode cX0_readLine 92 = .ok (.getstatic 121, 3) := by decide +kernel
theorem dX0_readLine_95 : decode cX0_readLine 95 = .ok (.if_acmp .ne 31, 3) := by decide +kernel
theorem dX0_readLine_98 : decode cX0_readLine 98 = .ok (.aload_n 0, 1) := by decide +kernel
theorem dX0_readLine_99 : decode cX0_readLine 99 = .ok (.aload_n 1, 1) := by decide +kernel
theorem dX0_readLine_100 : decode cX0_readLine 100 = .ok (.aload_n 0, 1) := by decide +kernel
theorem dX0_readLine_101 : decode cX0_readLine 101 = .ok (.getfield 47, 3) := by decide +kernel
theorem dX0_readLine_104 : decode cX0_readLine 104 = .ok (.bipush 30, 2) := by decide +kernel
theorem dX0_readLine_106 : decode cX0_readLine 106 = .ok (.invokestatic 117, 3) := by decide +kernel
theorem dX0_readLine_109 : decode cX0_readLine 109 = .ok (.putfield 47, 3) := by decide +kernel
theorem dX0_readLine_112 : decode cX0_readLine 112 = .ok (.aload_n 0, 1) := by decide +kernel
theorem dX0_readLine_113 : decode cX0_readLine 113 = .ok (.getfield 47, 3) := by decide +kernel
theorem dX0_readLine_116 : decode cX0_readLine 116 = .ok (.iconst (-1), 1) := by decide +kernel
theorem dX0_readLine_117 : decode cX0_readLine 117 = .ok (.if_icmp .eq 7, 3) := by decide +kernel
theorem dX0_readLine_120 : decode cX0_readLine 120 = .ok (.iconst 1, 1) := by decide +kernel
theorem dX0_readLine_121 : decode cX0_readLine 121 = .ok (.goto 4, 3) := by decide +kernel
theorem dX0_readLine_124 : decode cX0_readLine 124 = .ok (.iconst 0, 1) := by decide +kernel
theorem dX0_readLine_125 : decode cX0_readLine 125 = .ok (.ireturn, 1) := by decide +kernel
theorem dX0_readLine_126 : decode cX0_readLine 126 = .ok (.aload_n 1, 1) := by decide +kernel
theorem dX0_readLine_127 : decode cX0_readLine 127 = .ok (.iconst 1, 1) := by decide +kernel
theorem dX0_readLine_128 : decode cX0_readLine 128 = .ok (.invokevirtual 124, 3) := by decide +kernel
theorem dX0_readLine_131 : decode cX0_readLine 131 = .ok (.ireturn, 1) := by decide +kernel
theorem dX5_takeSign_0 : decode cX5_takeSign 0 = .ok (.aload_n 0, 1) := by decide +kernel
theorem dX5_takeSign_1 : decode cX5_takeSign 1 = .ok (.getfield 54, 3) := by decide +kernel
theorem dX5_takeSign_4 : decode cX5_takeSign 4 = .ok (.iconst 2, 1) := by decide +kernel
theorem dX5_takeSign_5 : decode cX5_takeSign 5 = .ok (.if_icmp .ne 11, 3) := by decide +kernel
theorem dX5_takeSign_8 : decode cX5_takeSign 8 = .ok (.aload_n 0, 1) := by decide +kernel
theorem dX5_takeSign_9 : decode cX5_takeSign 9 = .ok (.getfield 48, 3) := by decide +kernel
theorem dX5_takeSign_12 : decode cX5_takeSign 12 = .ok (.iload_n 1, 1) := by decide +kernel
theorem dX5_takeSign_13 : decode cX5_takeSign 13 = .ok (.if_icmp .eq 9, 3) := by decide +kernel
theorem dX5_takeSign_16 : decode cX5_takeSign 16 = .ok (.aload_n 0, 1) := by decide +kernel
theorem dX5_takeSign_17 : decode cX5_takeSign 17 = .ok (.iconst 1, 1) := by decide +kernel
theorem dX5_takeSign_18 : decode cX5_takeSign 18 = .ok (.invokevirtual 83, 3) := by decide +kernel
theorem dX5_takeSign_21 : decode cX5_takeSign 21 = .ok (.ireturn, 1) := by decide +kernel
theorem dX5_takeSign_22 : decode cX5_takeSign 22 = .ok (.aload_n 0, 1) := by decide +kernel
theorem dX5_takeSign_23 : decode cX5_takeSign 23 = .ok (.invokevirtual 28, 3) := by decide +kernel
theorem dX5_takeSign_26 : decode cX5_takeSign 26 = .ok (.iconst 1, 1) := by decide +kernel
theorem dX5_takeSign_27 : decode cX5_takeSign 27 = .ok (.ireturn, 1) := by decide +kernel
theorem dX0_readFrom_0 : decode cX0_readFrom 0 = .ok (.aload_n 0, 1) := by decide +kernel
theorem dX0_readFrom_1 : decode cX0_readFrom 1 = .ok (.iconst 0, 1) := by decide +kernel
theorem dX0_readFrom_2 : decode cX0_readFrom 2 = .ok (.putfield 56, 3) := by decide +kernel
theorem dX0_readFrom_5 : decode cX0_readFrom 5 = .ok (.aload_n 0, 1) := by decide +kernel
theorem dX0_readFrom_6 : decode cX0_readFrom 6 = .ok (.iconst 0, 1) := by decide +kernel
theorem dX0_readFrom_7 : decode cX0_readFrom 7 = .ok (.putfield 59, 3) := by decide +kernel
theorem dX0_readFrom_10 : decode cX0_readFrom 10 = .ok (.aload_n 0, 1) := by decide +kernel
theorem dX0_readFrom_11 : decode cX0_readFrom 11 = .ok (.iconst 0, 1) := by decide +kernel
theorem dX0_readFrom_12 : decode cX0_readFrom 12 = .ok (.putfield 62, 3) := by decide +kernel
theorem dX0_readFrom_15 : decode cX0_readFrom 15 = .ok (.aload_n 0, 1) := by decide +kernel
theorem dX0_readFrom_16 : decode cX0_readFrom 16 = .ok (.iconst 0, 1) := by decide +kernel
theorem dX0_readFrom_17 : decode cX0_readFrom 17 = .ok (.putfield 65, 3) := by decide +kernel
theorem dX0_readFrom_20 : decode cX0_readFrom 20 = .ok (.aload_n 0, 1) := by decide +kernel
theorem dX0_readFrom_21 : decode cX0_readFrom 21 = .ok (.iconst 0, 1) := by decide +kernel
theorem dX0_readFrom_22 : decode cX0_readFrom 22 = .ok (.putfield 68, 3) := by decide +kernel
theorem dX0_readFrom_25 : decode cX0_readFrom 25 = .ok (.aload_n 0, 1) := by decide +kernel
theorem dX0_readFrom_26 : decode cX0_readFrom 26 = .ok (.iconst (-1), 1) := by decide +kernel
theorem dX0_readFrom_27 : decode cX0_readFrom 27 = .ok (.putfield 43, 3) := by decide +kernel
theorem dX0_readFrom_30 : decode cX0_readFrom 30 = .ok (.aload_n 0, 1) := by decide +kernel
theorem dX0_readFrom_31 : decode cX0_readFrom 31 = .ok (.iconst (-1), 1) := by decide +kernel
theorem dX0_readFrom_32 : decode cX0_readFrom 32 = .ok (.putfield 47, 3) := by decide +kernel
theorem dX0_readFrom_35 : decode cX0_readFrom 35 = .ok (.iconst 0, 1) := by decide +kernel
theorem dX0_readFrom_36 : decode cX0_readFrom 36 = .ok (.istore_n 2, 1) := by decide +kernel
theorem dX0_readFrom_37 : decode cX0_readFrom 37 = .ok (.iload_n 2, 1) := by decide +kernel
theorem dX0_readFrom_38 : decode cX0_readFrom 38 = .ok (.sipush 900, 3) := by decide +kernel
theorem dX0_readFrom_41 : decode cX0_readFrom 41 = .ok (.if_icmp .ge 35, 3) := by decide +kernel
theorem dX0_readFrom_44 : decode cX0_readFrom 44 = .ok (.aload_n 1, 1) := by decide +kernel
theorem dX0_readFrom_45 : decode cX0_readFrom 45 = .ok (.getfield 71, 3) := by decide +kernel
theorem dX0_readFrom_48 : decode cX0_readFrom 48 = .ok (.ifCond .eq 28, 3) := by decide +kernel
theorem dX0_readFrom_51 : decode cX0_readFrom 51 = .ok (.aload_n 0, 1) := by decide +kernel
theorem dX0_readFrom_52 : decode cX0_readFrom 52 = .ok (.aload_n 1, 1) := by decide +kernel
theorem dX0_readFrom_53 : decode cX0_readFrom 53 = .ok (.invokevirtual 76, 3) := by decide +kernel
theorem dX0_readFrom_56 : decode cX0_readFrom 56 = .ok (.ifCond .eq 12, 3) := by decide +kernel
theorem dX0_readFrom_59 : decode cX0_readFrom 59 = .ok (.aload_n 1, 1) := by decide +kernel
theorem dX0_readFrom_60 : decode cX0_readFrom 60 = .ok (.bipush 59, 2) := by decide +kernel
theorem dX0_readFrom_62 : decode cX0_readFrom 62 = .ok (.invokevirtual 80, 3) := by decide +kernel
theorem dX0_readFrom_65 : decode cX0_readFrom 65 = .ok (.ifCond .ne 5, 3) := by decide +kernel
theorem dX0_readFrom_68 : decode cX0_readFrom 68 = .ok (.iload_n 2, 1) := by decide +kernel
theorem dX0_readFrom_69 : decode cX0_readFrom 69 = .ok (.ireturn, 1) := by decide +kernel
theorem dX0_readFrom_70 : decode cX0_readFrom 70 = .ok (.iinc 2 1, 3) := by decide +kernel
theorem dX0_readFrom_73 : decode cX0_readFrom 73 = .ok (.goto (-36), 3) := by decide +kernel
theorem dX0_readFrom_76 : decode cX0_readFrom 76 = .ok (.aload_n 0, 1) := by decide +kernel
theorem dX0_readFrom_77 : decode cX0_readFrom 77 = .ok (.aload_n 0, 1) := by decide +kernel
theorem dX0_readFrom_78 : decode cX0_readFrom 78 = .ok (.getfield 43, 3) := by decide +kernel
theorem dX0_readFrom_81 : decode cX0_readFrom 81 = .ok (.iconst (-1), 1) := by decide +kernel
theorem dX0_readFrom_82 : decode cX0_readFrom 82 = .ok (.if_icmp .ne 7, 3) := by decide +kernel
theorem dX0_readFrom_85 : decode cX0_readFrom 85 = .ok (.iconst 2, 1) := by decide +kernel
theorem dX0_readFrom_86 : decode cX0_readFrom 86 = .ok (.goto 7, 3) := by decide +kernel
theorem dX0_readFrom_89 : decode cX0_readFrom 89 = .ok (.aload_n 0, 1) := by decide +kernel
theorem dX0_readFrom_90 : decode cX0_readFrom 90 = .ok (.getfield 43, 3) := by decide +kernel
theorem dX0_readFrom_93 : decode cX0_readFrom 93 = .ok (.putfield 43, 3) := by decide +kernel
theorem dX0_readFrom_96 : decode cX0_readFrom 96 = .ok (.aload_n 0, 1) := by decide +kernel
theorem dX0_readFrom_97 : decode cX0_readFrom 97 = .ok (.aload_n 0, 1) := by decide +kernel
theorem dX0_readFrom_98 : decode cX0_readFrom 98 = .ok (.getfield 47, 3) := by decide +kernel
theorem dX0_readFrom_101 : decode cX0_readFrom 101 = .ok (.iconst (-1), 1) := by decide +kernel
theorem dX0_readFrom_102 : decode cX0_readFrom 102 = .ok (.if_icmp .ne 8, 3) := by decide +kernel
theorem dX0_readFrom_105 : decode cX0_readFrom 105 = .ok (.bipush 6, 2) := by decide +kernel
theorem dX0_readFrom_107 : decode cX0_readFrom 107 = .ok (.goto 7, 3) := by decide +kernel
theorem dX0_readFrom_110 : decode cX0_readFrom 110 = .ok (.aload_n 0, 1) := by decide +kernel
theorem dX0_readFrom_111 : decode cX0_readFrom 111 = .ok (.getfield 47, 3) := by decide +kernel
theorem dX0_readFrom_114 : decode cX0_readFrom 114 = .ok (.putfield 47, 3) := by decide +kernel
theorem dX0_readFrom_117 : decode cX0_readFrom 117 = .ok (.iload_n 2, 1) := by decide +kernel
theorem dX0_readFrom_118 : decode cX0_readFrom 118 = .ok (.ireturn, 1) := by decide +kernel
theorem dX0_allMen_0 : decode cX0_allMen 0 = .ok (.iconst 1, 1) := by decide +kernel
theorem dX0_allMen_1 : decode cX0_allMen 1 = .ok (.aload_n 0, 1) := by decide +kernel
theorem dX0_allMen_2 : decode cX0_allMen 2 = .ok (.getfield 56, 3) := by decide +kernel
theorem dX0_allMen_5 : decode cX0_allMen 5 = .ok (.ishl, 1) := by decide +kernel
theorem dX0_allMen_6 : decode cX0_allMen 6 = .ok (.iconst 1, 1) := by decide +kernel
theorem dX0_allMen_7 : decode cX0_allMen 7 = .ok (.isub, 1) := by decide +kernel
theorem dX0_allMen_8 : decode cX0_allMen 8 = .ok (.ireturn, 1) := by decide +kernel
theorem dX0_allUnder_0 : decode cX0_allUnder 0 = .ok (.iconst 0, 1) := by decide +kernel
theorem dX0_allUnder_1 : decode cX0_allUnder 1 = .ok (.istore_n 2, 1) := by decide +kernel
theorem dX0_allUnder_2 : decode cX0_allUnder 2 = .ok (.iconst 0, 1) := by decide +kernel
theorem dX0_allUnder_3 : decode cX0_allUnder 3 = .ok (.istore_n 3, 1) := by decide +kernel
theorem dX0_allUnder_4 : decode cX0_allUnder 4 = .ok (.iload_n 3, 1) := by decide +kernel
theorem dX0_allUnder_5 : decode cX0_allUnder 5 = .ok (.aload_n 0, 1) := by decide +kernel
theorem dX0_allUnder_6 : decode cX0_allUnder 6 = .ok (.getfield 56, 3) := by decide +kernel
theorem dX0_allUnder_9 : decode cX0_allUnder 9 = .ok (.if_icmp .ge 24, 3) := by decide +kernel
theorem dX0_allUnder_12 : decode cX0_allUnder 12 = .ok (.aload_n 0, 1) := by decide +kernel
theorem dX0_allUnder_13 : decode cX0_allUnder 13 = .ok (.iload_n 3, 1) := by decide +kernel
theorem dX0_allUnder_14 : decode cX0_allUnder 14 = .ok (.iload_n 1, 1) := by decide +kernel
theorem dX0_allUnder_15 : decode cX0_allUnder 15 = .ok (.invokevirtual 151, 3) := by decide +kernel
theorem dX0_allUnder_18 : decode cX0_allUnder 18 = .ok (.ifCond .eq 9, 3) := by decide +kernel
theorem dX0_allUnder_21 : decode cX0_allUnder 21 = .ok (.iload_n 2, 1) := by decide +kernel
theorem dX0_allUnder_22 : decode cX0_allUnder 22 = .ok (.iconst 1, 1) := by decide +kernel
theorem dX0_allUnder_23 : decode cX0_allUnder 23 = .ok (.iload_n 3, 1) := by decide +kernel
theorem dX0_allUnder_24 : decode cX0_allUnder 24 = .ok (.ishl, 1) := by decide +kernel
theorem dX0_allUnder_25 : decode cX0_allUnder 25 = .ok (.ior, 1) := by decide +kernel
theorem dX0_allUnder_26 : decode cX0_allUnder 26 = .ok (.istore_n 2, 1) := by decide +kernel
theorem dX0_allUnder_27 : decode cX0_allUnder 27 = .ok (.iinc 3 1, 3) := by decide +kernel
theorem dX0_allUnder_30 : decode cX0_allUnder 30 = .ok (.goto (-26), 3) := by decide +kernel
theorem dX0_allUnder_33 : decode cX0_allUnder 33 = .ok (.iload_n 2, 1) := by decide +kernel
theorem dX0_allUnder_34 : decode cX0_allUnder 34 = .ok (.ireturn, 1) := by decide +kernel
theorem dX0_straightUnder_0 : decode cX0_straightUnder 0 = .ok (.iconst 0, 1) := by decide +kernel
theorem dX0_straightUnder_1 : decode cX0_straightUnder 1 = .ok (.istore_n 2, 1) := by decide +kernel
theorem dX0_straightUnder_2 : decode cX0_straightUnder 2 = .ok (.iconst 0, 1) := by decide +kernel
theorem dX0_straightUnder_3 : decode cX0_straightUnder 3 = .ok (.istore_n 3, 1) := by decide +kernel
theorem dX0_straightUnder_4 : decode cX0_straightUnder 4 = .ok (.iload_n 3, 1) := by decide +kernel
theorem dX0_straightUnder_5 : decode cX0_straightUnder 5 = .ok (.aload_n 0, 1) := by decide +kernel
theorem dX0_straightUnder_6 : decode cX0_straightUnder 6 = .ok (.getfield 56, 3) := by decide +kernel
theorem dX0_straightUnder_9 : decode cX0_straightUnder 9 = .ok (.if_icmp .ge 25, 3) := by decide +kernel
theorem dX0_straightUnder_12 : decode cX0_straightUnder 12 = .ok (.aload_n 0, 1) := by decide +kernel
theorem dX0_straightUnder_13 : decode cX0_straightUnder 13 = .ok (.getfield 25, 3) := by decide +kernel
theorem dX0_straightUnder_16 : decode cX0_straightUnder 16 = .ok (.iload_n 3, 1) := by decide +kernel
theorem dX0_straightUnder_17 : decode cX0_straightUnder 17 = .ok (.iaload, 1) := by decide +kernel
theorem dX0_straightUnder_18 : decode cX0_straightUnder 18 = .ok (.iload_n 1, 1) := by decide +kernel
theorem dX0_straightUnder_19 : decode cX0_straightUnder 19 = .ok (.if_icmp .ne 9, 3) := by decide +kernel
theorem dX0_straightUnder_22 : decode cX0_straightUnder 22 = .ok (.iload_n 2, 1) := by decide +kernel
theorem dX0_straightUnder_23 : decode cX0_straightUnder 23 = .ok (.iconst 1, 1) := by decide +kernel
theorem dX0_straightUnder_24 : decode cX0_straightUnder 24 = .ok (.iload_n 3, 1) := by decide +kernel
theorem dX0_straightUnder_25 : decode cX0_straightUnder 25 = .ok (.ishl, 1) := by decide +kernel
theorem dX0_straightUnder_26 : decode cX0_straightUnder 26 = .ok (.ior, 1) := by decide +kernel
theorem dX0_straightUnder_27 : decode cX0_straightUnder 27 = .ok (.istore_n 2, 1) := by decide +kernel
theorem dX0_straightUnder_28 : decode cX0_straightUnder 28 = .ok (.iinc 3 1, 3) := by decide +kernel
theorem dX0_straightUnder_31 : decode cX0_straightUnder 31 = .ok (.goto (-27), 3) := by decide +kernel
theorem dX0_straightUnder_34 : decode cX0_straightUnder 34 = .ok (.iload_n 2, 1) := by decide +kernel
theorem dX0_straightUnder_35 : decode cX0_straightUnder 35 = .ok (.ireturn, 1) := by decide +kernel
theorem dX0_unlike_0 : decode cX0_unlike 0 = .ok (.aload_n 0, 1) := by decide +kernel
theorem dX0_unlike_1 : decode cX0_unlike 1 = .ok (.getfield 31, 3) := by decide +kernel
theorem dX0_unlike_4 : decode cX0_unlike 4 = .ok (.iload_n 1, 1) := by decide +kernel
theorem dX0_unlike_5 : decode cX0_unlike 5 = .ok (.iaload, 1) := by decide +kernel
theorem dX0_unlike_6 : decode cX0_unlike 6 = .ok (.iload_n 2, 1) := by decide +kernel
theorem dX0_unlike_7 : decode cX0_unlike 7 = .ok (.if_icmp .ne 7, 3) := by decide +kernel
theorem dX0_unlike_10 : decode cX0_unlike 10 = .ok (.iconst 0, 1) := by decide +kernel
theorem dX0_unlike_11 : decode cX0_unlike 11 = .ok (.goto 4, 3) := by decide +kernel
theorem dX0_unlike_14 : decode cX0_unlike 14 = .ok (.iconst 1, 1) := by decide +kernel
theorem dX0_unlike_15 : decode cX0_unlike 15 = .ok (.aload_n 0, 1) := by decide +kernel
theorem dX0_unlike_16 : decode cX0_unlike 16 = .ok (.getfield 34, 3) := by decide +kernel
theorem dX0_unlike_19 : decode cX0_unlike 19 = .ok (.iload_n 1, 1) := by decide +kernel
theorem dX0_unlike_20 : decode cX0_unlike 20 = .ok (.iaload, 1) := by decide +kernel
theorem dX0_unlike_21 : decode cX0_unlike 21 = .ok (.iload_n 3, 1) := by decide +kernel
theorem dX0_unlike_22 : decode cX0_unlike 22 = .ok (.if_icmp .ne 7, 3) := by decide +kernel
theorem dX0_unlike_25 : decode cX0_unlike 25 = .ok (.iconst 0, 1) := by decide +kernel
theorem dX0_unlike_26 : decode cX0_unlike 26 = .ok (.goto 4, 3) := by decide +kernel
theorem dX0_unlike_29 : decode cX0_unlike 29 = .ok (.iconst 1, 1) := by decide +kernel
theorem dX0_unlike_30 : decode cX0_unlike 30 = .ok (.iadd, 1) := by decide +kernel
theorem dX0_unlike_31 : decode cX0_unlike 31 = .ok (.ireturn, 1) := by decide +kernel
theorem dX0_fewestUnlike_0 : decode cX0_fewestUnlike 0 = .ok (.iconst 2, 1) := by decide +kernel
theorem dX0_fewestUnlike_1 : decode cX0_fewestUnlike 1 = .ok (.istore_n 3, 1) := by decide +kernel
theorem dX0_fewestUnlike_2 : decode cX0_fewestUnlike 2 = .ok (.iconst 0, 1) := by decide +kernel
theorem dX0_fewestUnlike_3 : decode cX0_fewestUnlike 3 = .ok (.istore 4, 2) := by decide +kernel
theorem dX0_fewestUnlike_5 : decode cX0_fewestUnlike 5 = .ok (.iload 4, 2) := by decide +kernel
theorem dX0_fewestUnlike_7 : decode cX0_fewestUnlike 7 = .ok (.aload_n 0, 1) := by decide +kernel
theorem dX0_fewestUnlike_8 : decode cX0_fewestUnlike 8 = .ok (.getfield 65, 3) := by decide +kernel
theorem dX0_fewestUnlike_11 : decode cX0_fewestUnlike 11 = .ok (.if_icmp .ge 22, 3) := by decide +kernel
theorem dX0_fewestUnlike_14 : decode cX0_fewestUnlike 14 = .ok (.iload_n 3, 1) := by decide +kernel
theorem dX0_fewestUnlike_15 : decode cX0_fewestUnlike 15 = .ok (.aload_n 0, 1) := by decide +kernel
theorem dX0_fewestUnlike_16 : decode cX0_fewestUnlike 16 = .ok (.iload 4, 2) := by decide +kernel
theorem dX0_fewestUnlike_18 : decode cX0_fewestUnlike 18 = .ok (.iload_n 1, 1) := by decide +kernel
theorem dX0_fewestUnlike_19 : decode cX0_fewestUnlike 19 = .ok (.iload_n 2, 1) := by decide +kernel
theorem dX0_fewestUnlike_20 : decode cX0_fewestUnlike 20 = .ok (.invokevirtual 178, 3) := by decide +kernel
theorem dX0_fewestUnlike_23 : decode cX0_fewestUnlike 23 = .ok (.invokestatic 182, 3) := by decide +kernel
theorem dX0_fewestUnlike_26 : decode cX0_fewestUnlike 26 = .ok (.istore_n 3, 1) := by decide +kernel
theorem dX0_fewestUnlike_27 : decode cX0_fewestUnlike 27 = .ok (.iinc 4 1, 3) := by decide +kernel
theorem dX0_fewestUnlike_30 : decode cX0_fewestUnlike 30 = .ok (.goto (-25), 3) := by decide +kernel
theorem dX0_fewestUnlike_33 : decode cX0_fewestUnlike 33 = .ok (.iload_n 3, 1) := by decide +kernel
theorem dX0_fewestUnlike_34 : decode cX0_fewestUnlike 34 = .ok (.ireturn, 1) := by decide +kernel
theorem dX0_newLifts_0 : decode cX0_newLifts 0 = .ok (.iconst (-1), 1) := by decide +kernel
theorem dX0_newLifts_1 : decode cX0_newLifts 1 = .ok (.istore_n 1, 1) := by decide +kernel
theorem dX0_newLifts_2 : decode cX0_newLifts 2 = .ok (.iconst (-1), 1) := by decide +kernel
theorem dX0_newLifts_3 : decode cX0_newLifts 3 = .ok (.istore_n 2, 1) := by decide +kernel
theorem dX0_newLifts_4 : decode cX0_newLifts 4 = .ok (.iconst 1, 1) := by decide +kernel
theorem dX0_newLifts_5 : decode cX0_newLifts 5 = .ok (.istore_n 3, 1) := by decide +kernel
theorem dX0_newLifts_6 : decode cX0_newLifts 6 = .ok (.iload_n 3, 1) := by decide +kernel
theorem dX0_newLifts_7 : decode cX0_newLifts 7 = .ok (.iconst 3, 1) := by decide +kernel
theorem dX0_newLifts_8 : decode cX0_newLifts 8 = .ok (.if_icmp .gt 54, 3) := by decide +kernel
theorem dX0_newLifts_11 : decode cX0_newLifts 11 = .ok (.iconst 1, 1) := by decide +kernel
theorem dX0_newLifts_12 : decode cX0_newLifts 12 = .ok (.istore 4, 2) := by decide +kernel
theorem dX0_newLifts_14 : decode cX0_newLifts 14 = .ok (.iload 4, 2) := by decide +kernel
theorem dX0_newLifts_16 : decode cX0_newLifts 16 = .ok (.iconst 3, 1) := by decide +kernel
theorem dX0_newLifts_17 : decode cX0_newLifts 17 = .ok (.if_icmp .gt 39, 3) := by decide +kernel
theorem dX0_newLifts_20 : decode cX0_newLifts 20 = .ok (.aload_n 0, 1) := by decide +kernel
theorem dX0_newLifts_21 : decode cX0_newLifts 21 = .ok (.iload_n 3, 1) := by decide +kernel
theorem dX0_newLifts_22 : decode cX0_newLifts 22 = .ok (.iload 4, 2) := by decide +kernel
theorem dX0_newLifts_24 : decode cX0_newLifts 24 = .ok (.invokevirtual 175, 3) := by decide +kernel
theorem dX0_newLifts_27 : decode cX0_newLifts 27 = .ok (.istore 5, 2) := by decide +kernel
theorem dX0_newLifts_29 : decode cX0_newLifts 29 = .ok (.iload 5, 2) := by decide +kernel
theorem dX0_newLifts_31 : decode cX0_newLifts 31 = .ok (.ifCond .le 19, 3) := by decide +kernel
theorem dX0_newLifts_34 : decode cX0_newLifts 34 = .ok (.iload 5, 2) := by decide +kernel
theorem dX0_newLifts_36 : decode cX0_newLifts 36 = .ok (.iload_n 2, 1) := by decide +kernel
theorem dX0_newLifts_37 : decode cX0_newLifts 37 = .ok (.if_icmp .le 13, 3) := by decide +kernel
theorem dX0_newLifts_40 : decode cX0_newLifts 40 = .ok (.iload 5, 2) := by decide +kernel
theorem dX0_newLifts_42 : decode cX0_newLifts 42 = .ok (.istore_n 2, 1) := by decide +kernel
theorem dX0_newLifts_43 : decode cX0_newLifts 43 = .ok (.iconst 4, 1) := by decide +kernel
theorem dX0_newLifts_44 : decode cX0_newLifts 44 = .ok (.iload_n 3, 1) := by decide +kernel
theorem dX0_newLifts_45 : decode cX0_newLifts 45 = .ok (.imul, 1) := by decide +kernel
theorem dX0_newLifts_46 : decode cX0_newLifts 46 = .ok (.iload 4, 2) := by decide +kernel
theorem dX0_newLifts_48 : decode cX0_newLifts 48 = .ok (.iadd, 1) := by decide +kernel
theorem dX0_newLifts_49 : decode cX0_newLifts 49 = .ok (.istore_n 1, 1) := by decide +kernel
theorem dX0_newLifts_50 : decode cX0_newLifts 50 = .ok (.iinc 4 1, 3) := by decide +kernel
theorem dX0_newLifts_53 : decode cX0_newLifts 53 = .ok (.goto (-39), 3) := by decide +kernel
theorem dX0_newLifts_56 : decode cX0_newLifts 56 = .ok (.iinc 3 1, 3) := by decide +kernel
theorem dX0_newLifts_59 : decode cX0_newLifts 59 = .ok (.goto (-53), 3) := by decide +kernel
theorem dX0_newLifts_62 : decode cX0_newLifts 62 = .ok (.iload_n 1, 1) := by decide +kernel
theorem dX0_newLifts_63 : decode cX0_newLifts 63 = .ok (.ireturn, 1) := by decide +kernel
theorem dX5_orderHere_0 : decode cX5_orderHere 0 = .ok (.aload_n 0, 1) := by decide +kernel
theorem dX5_orderHere_1 : decode cX5_orderHere 1 = .ok (.getfield 54, 3) := by decide +kernel
theorem dX5_orderHere_4 : decode cX5_orderHere 4 = .ok (.iconst 5, 1) := by decide +kernel
theorem dX5_orderHere_5 : decode cX5_orderHere 5 = .ok (.if_icmp .eq 9, 3) := by decide +kernel
theorem dX5_orderHere_8 : decode cX5_orderHere 8 = .ok (.aload_n 0, 1) := by decide +kernel
theorem dX5_orderHere_9 : decode cX5_orderHere 9 = .ok (.iconst 1, 1) := by decide +kernel
theorem dX5_orderHere_10 : decode cX5_orderHere 10 = .ok (.invokevirtual 86, 3) := by decide +kernel
theorem dX5_orderHere_13 : decode cX5_orderHere 13 = .ok (.ireturn, 1) := by decide +kernel
theorem dX5_orderHere_14 : decode cX5_orderHere 14 = .ok (.aload_n 1, 1) := by decide +kernel
theorem dX5_orderHere_15 : decode cX5_orderHere 15 = .ok (.aload_n 0, 1) := by decide +kernel
theorem dX5_orderHere_16 : decode cX5_orderHere 16 = .ok (.getfield 66, 3) := by decide +kernel
theorem dX5_orderHere_19 : decode cX5_orderHere 19 = .ok (.invokevirtual 107, 3) := by decide +kernel
theorem dX5_orderHere_22 : decode cX5_orderHere 22 = .ok (.istore_n 2, 1) := by decide +kernel
theorem dX5_orderHere_23 : decode cX5_orderHere 23 = .ok (.iload_n 2, 1) := by decide +kernel
theorem dX5_orderHere_24 : decode cX5_orderHere 24 = .ok (.iconst (-1), 1) := by decide +kernel
theorem dX5_orderHere_25 : decode cX5_orderHere 25 = .ok (.if_icmp .ne 11, 3) := by decide +kernel
theorem dX5_orderHere_28 : decode cX5_orderHere 28 = .ok (.aload_n 0, 1) := by decide +kernel
theorem dX5_orderHere_29 : decode cX5_orderHere 29 = .ok (.iconst 3, 1) := by decide +kernel
theorem dX5_orderHere_30 : decode cX5_orderHere 30 = .ok (.invokevirtual 86, 3) := by decide +kernel
theorem dX5_orderHere_33 : decode cX5_orderHere 33 = .ok (.goto 4, 3) := by decide +kernel
theorem dX5_orderHere_36 : decode cX5_orderHere 36 = .ok (.iload_n 2, 1) := by decide +kernel
theorem dX5_orderHere_37 : decode cX5_orderHere 37 = .ok (.ireturn, 1) := by decide +kernel
theorem dX5_takeOrder_0 : decode cX5_takeOrder 0 = .ok (.aload_n 0, 1) := by decide +kernel
theorem dX5_takeOrder_1 : decode cX5_takeOrder 1 = .ok (.aload_n 1, 1) := by decide +kernel
theorem dX5_takeOrder_2 : decode cX5_takeOrder 2 = .ok (.invokevirtual 110, 3) := by decide +kernel
theorem dX5_takeOrder_5 : decode cX5_takeOrder 5 = .ok (.istore_n 2, 1) := by decide +kernel
theorem dX5_takeOrder_6 : decode cX5_takeOrder 6 = .ok (.iload_n 2, 1) := by decide +kernel
theorem dX5_takeOrder_7 : decode cX5_takeOrder 7 = .ok (.iconst (-1), 1) := by decide +kernel
theorem dX5_takeOrder_8 : decode cX5_takeOrder 8 = .ok (.if_icmp .eq 7, 3) := by decide +kernel
theorem dX5_takeOrder_11 : decode cX5_takeOrder 11 = .ok (.aload_n 0, 1) := by decide +kernel
theorem dX5_takeOrder_12 : decode cX5_takeOrder 12 = .ok (.invokevirtual 28, 3) := by decide +kernel
theorem dX5_takeOrder_15 : decode cX5_takeOrder 15 = .ok (.iload_n 2, 1) := by decide +kernel
theorem dX5_takeOrder_16 : decode cX5_takeOrder 16 = .ok (.ireturn, 1) := by decide +kernel
theorem dX1_readObject_0 : decode cX1_readObject 0 = .ok (.iload_n 0, 1) := by decide +kernel
theorem dX1_readObject_1 : decode cX1_readObject 1 = .ok (.tableswitch 69 0 6 #[43, 49, 69, 69, 69, 55, 61], 43) := by decide +kernel
theorem dX1_readObject_44 : decode cX1_readObject 44 = .ok (.aload_n 1, 1) := by decide +kernel
theorem dX1_readObject_45 : decode cX1_readObject 45 = .ok (.iconst 1, 1) := by decide +kernel
theorem dX1_readObject_46 : decode cX1_readObject 46 = .ok (.invokevirtual 69, 3) := by decide +kernel
theorem dX1_readObject_49 : decode cX1_readObject 49 = .ok (.ireturn, 1) := by decide +kernel
theorem dX1_readObject_50 : decode cX1_readObject 50 = .ok (.aload_n 1, 1) := by decide +kernel
theorem dX1_readObject_51 : decode cX1_readObject 51 = .ok (.aload_n 2, 1) := by decide +kernel
theorem dX1_readObject_52 : decode cX1_readObject 52 = .ok (.invokevirtual 77, 3) := by decide +kernel
theorem dX1_readObject_55 : decode cX1_readObject 55 = .ok (.ireturn, 1) := by decide +kernel
theorem dX1_readObject_56 : decode cX1_readObject 56 = .ok (.aload_n 1, 1) := by decide +kernel
theorem dX1_readObject_57 : decode cX1_readObject 57 = .ok (.iconst 2, 1) := by decide +kernel
theorem dX1_readObject_58 : decode cX1_readObject 58 = .ok (.invokevirtual 69, 3) := by decide +kernel
theorem dX1_readObject_61 : decode cX1_readObject 61 = .ok (.ireturn, 1) := by decide +kernel
theorem dX1_readObject_62 : decode cX1_readObject 62 = .ok (.aload_n 1, 1) := by decide +kernel
theorem dX1_readObject_63 : decode cX1_readObject 63 = .ok (.iconst 1, 1) := by decide +kernel
theorem dX1_readObject_64 : decode cX1_readObject 64 = .ok (.bipush 60, 2) := by decide +kernel
theorem dX1_readObject_66 : decode cX1_readObject 66 = .ok (.invokevirtual 80, 3) := by decide +kernel
theorem dX1_readObject_69 : decode cX1_readObject 69 = .ok (.ireturn, 1) := by decide +kernel
theorem dX1_readObject_70 : decode cX1_readObject 70 = .ok (.iconst 0, 1) := by decide +kernel
theorem dX1_readObject_71 : decode cX1_readObject 71 = .ok (.ireturn, 1) := by decide +kernel
theorem dX1_readLine_0 : decode cX1_readLine 0 = .ok (.aload_n 1, 1) := by decide +kernel
theorem dX1_readLine_1 : decode cX1_readLine 1 = .ok (.getfield 50, 3) := by decide +kernel
theorem dX1_readLine_4 : decode cX1_readLine 4 = .ok (.getstatic 54, 3) := by decide +kernel
theorem dX1_readLine_7 : decode cX1_readLine 7 = .ok (.if_acmp .ne 7, 3) := by decide +kernel
theorem dX1_readLine_10 : decode cX1_readLine 10 = .ok (.iconst 1, 1) := by decide +kernel
theorem dX1_readLine_11 : decode cX1_readLine 11 = .ok (.goto 4, 3) := by decide +kernel
theorem dX1_readLine_14 : decode cX1_readLine 14 = .ok (.iconst 0, 1) := by decide +kernel
theorem dX1_readLine_15 : decode cX1_readLine 15 = .ok (.istore_n 3, 1) := by decide +kernel
theorem dX1_readLine_16 : decode cX1_readLine 16 = .ok (.iload_n 3, 1) := by decide +kernel
theorem dX1_readLine_17 : decode cX1_readLine 17 = .ok (.ifCond .eq 7, 3) := by decide +kernel
theorem dX1_readLine_20 : decode cX1_readLine 20 = .ok (.iconst 0, 1) := by decide +kernel
theorem dX1_readLine_21 : decode cX1_readLine 21 = .ok (.goto 8, 3) := by decide +kernel
theorem dX1_readLine_24 : decode cX1_readLine 24 = .ok (.aload_n 1, 1) := by decide +kernel
theorem dX1_readLine_25 : decode cX1_readLine 25 = .ok (.aload_n 2, 1) := by decide +kernel
theorem dX1_readLine_26 : decode cX1_readLine 26 = .ok (.invokevirtual 59, 3) := by decide +kernel
theorem dX1_readLine_29 : decode cX1_readLine 29 = .ok (.istore 4, 2) := by decide +kernel
theorem dX1_readLine_31 : decode cX1_readLine 31 = .ok (.iload 4, 2) := by decide +kernel
theorem dX1_readLine_33 : decode cX1_readLine 33 = .ok (.iconst (-1), 1) := by decide +kernel
theorem dX1_readLine_34 : decode cX1_readLine 34 = .ok (.if_icmp .ne 5, 3) := by decide +kernel
theorem dX1_readLine_37 : decode cX1_readLine 37 = .ok (.iconst 0, 1) := by decide +kernel
theorem dX1_readLine_38 : decode cX1_readLine 38 = .ok (.ireturn, 1) := by decide +kernel
theorem dX1_readLine_39 : decode cX1_readLine 39 = .ok (.aload_n 0, 1) := by decide +kernel
theorem dX1_readLine_40 : decode cX1_readLine 40 = .ok (.getfield 34, 3) := by decide +kernel
theorem dX1_readLine_43 : decode cX1_readLine 43 = .ok (.bipush 40, 2) := by decide +kernel
theorem dX1_readLine_45 : decode cX1_readLine 45 = .ok (.if_icmp .lt 9, 3) := by decide +kernel
theorem dX1_readLine_48 : decode cX1_readLine 48 = .ok (.aload_n 1, 1) := by decide +kernel
theorem dX1_readLine_49 : decode cX1_readLine 49 = .ok (.iconst 4, 1) := by decide +kernel
theorem dX1_readLine_50 : decode cX1_readLine 50 = .ok (.invokevirtual 63, 3) := by decide +kernel
theorem dX1_readLine_53 : decode cX1_readLine 53 = .ok (.ireturn, 1) := by decide +kernel
theorem dX1_readLine_54 : decode cX1_readLine 54 = .ok (.aload_n 0, 1) := by decide +kernel
theorem dX1_readLine_55 : decode cX1_readLine 55 = .ok (.getfield 15, 3) := by decide +kernel
theorem dX1_readLine_58 : decode cX1_readLine 58 = .ok (.aload_n 0, 1) := by decide +kernel
theorem dX1_readLine_59 : decode cX1_readLine 59 = .ok (.getfield 34, 3) := by decide +kernel
theorem dX1_readLine_62 : decode cX1_readLine 62 = .ok (.iload 4, 2) := by decide +kernel
theorem dX1_readLine_64 : decode cX1_readLine 64 = .ok (.iastore, 1) := by decide +kernel
theorem dX1_readLine_65 : decode cX1_readLine 65 = .ok (.aload_n 1, 1) := by decide +kernel
theorem dX1_readLine_66 : decode cX1_readLine 66 = .ok (.invokevirtual 66, 3) := by decide +kernel
theorem dX1_readLine_69 : decode cX1_readLine 69 = .ok (.aload_n 0, 1) := by decide +kernel
theorem dX1_readLine_70 : decode cX1_readLine 70 = .ok (.getfield 9, 3) := by decide +kernel
theorem dX1_readLine_73 : decode cX1_readLine 73 = .ok (.aload_n 0, 1) := by decide +kernel
theorem dX1_readLine_74 : decode cX1_readLine 74 = .ok (.getfield 34, 3) := by decide +kernel
theorem dX1_readLine_77 : decode cX1_readLine 77 = .ok (.iload_n 3, 1) := by decide +kernel
theorem dX1_readLine_78 : decode cX1_readLine 78 = .ok (.ifCond .eq 8, 3) := by decide +kernel
theorem dX1_readLine_81 : decode cX1_readLine 81 = .ok (.bipush 6, 2) := by decide +kernel
theorem dX1_readLine_83 : decode cX1_readLine 83 = .ok (.goto 8, 3) := by decide +kernel
theorem dX1_readLine_86 : decode cX1_readLine 86 = .ok (.aload_n 1, 1) := by decide +kernel
theorem dX1_readLine_87 : decode cX1_readLine 87 = .ok (.iconst 3, 1) := by decide +kernel
theorem dX1_readLine_88 : decode cX1_readLine 88 = .ok (.invokevirtual 69, 3) := by decide +kernel
theorem dX1_readLine_91 : decode cX1_readLine 91 = .ok (.iastore, 1) := by decide +kernel
theorem dX1_readLine_92 : decode cX1_readLine 92 = .ok (.aload_n 0, 1) := by decide +kernel
theorem dX1_readLine_93 : decode cX1_readLine 93 = .ok (.getfield 9, 3) := by decide +kernel
theorem dX1_readLine_96 : decode cX1_readLine 96 = .ok (.aload_n 0, 1) := by decide +kernel
theorem dX1_readLine_97 : decode cX1_readLine 97 = .ok (.getfield 34, 3) := by decide +kernel
theorem dX1_readLine_100 : decode cX1_readLine 100 = .ok (.iaload, 1) := by decide +kernel
theorem dX1_readLine_101 : decode cX1_readLine 101 = .ok (.iconst (-1), 1) := by decide +kernel
theorem dX1_readLine_102 : decode cX1_readLine 102 = .ok (.if_icmp .ne 5, 3) := by decide +kernel
theorem dX1_readLine_105 : decode cX1_readLine 105 = .ok (.iconst 0, 1) := by decide +kernel
theorem dX1_readLine_106 : decode cX1_readLine 106 = .ok (.ireturn, 1) := by decide +kernel
theorem dX1_readLine_107 : decode cX1_readLine 107 = .ok (.aload_n 0, 1) := by decide +kernel
theorem dX1_readLine_108 : decode cX1_readLine 108 = .ok (.getfield 18, 3) := by decide +kernel
theorem dX1_readLine_111 : decode cX1_readLine 111 = .ok (.aload_n 0, 1) := by decide +kernel
theorem dX1_readLine_112 : decode cX1_readLine 112 = .ok (.getfield 34, 3) := by decide +kernel
theorem dX1_readLine_115 : decode cX1_readLine 115 = .ok (.aload_n 0, 1) := by decide +kernel
theorem dX1_readLine_116 : decode cX1_readLine 116 = .ok (.getfield 9, 3) := by decide +kernel
theorem dX1_readLine_119 : decode cX1_readLine 119 = .ok (.aload_n 0, 1) := by decide +kernel
theorem dX1_readLine_120 : decode cX1_readLine 120 = .ok (.getfield 34, 3) := by decide +kernel
theorem dX1_readLine_123 : decode cX1_readLine 123 = .ok (.iaload, 1) := by decide +kernel
theorem dX1_readLine_124 : decode cX1_readLine 124 = .ok (.aload_n 1, 1) := by decide +kernel
theorem dX1_readLine_125 : decode cX1_readLine 125 = .ok (.aload_n 2, 1) := by decide +kernel
theorem dX1_readLine_126 : decode cX1_readLine 126 = .ok (.invokestatic 73, 3) := by decide +kernel
theorem dX1_readLine_129 : decode cX1_readLine 129 = .ok (.iastore, 1) := by decide +kernel
theorem dX1_readLine_130 : decode cX1_readLine 130 = .ok (.aload_n 0, 1) := by decide +kernel
theorem dX1_readLine_131 : decode cX1_readLine 131 = .ok (.getfield 18, 3) := by decide +kernel
theorem dX1_readLine_134 : decode cX1_readLine 134 = .ok (.aload_n 0, 1) := by decide +kernel
theorem dX1_readLine_135 : decode cX1_readLine 135 = .ok (.getfield 34, 3) := by decide +kernel
theorem dX1_readLine_138 : decode cX1_readLine 138 = .ok (.iaload, 1) := by decide +kernel
theorem dX1_readLine_139 : decode cX1_readLine 139 = .ok (.iconst (-1), 1) := by decide +kernel
theorem dX1_readLine_140 : decode cX1_readLine 140 = .ok (.if_icmp .eq 7, 3) := by decide +kernel
theorem dX1_readLine_143 : decode cX1_readLine 143 = .ok (.iconst 1, 1) := by decide +kernel
theorem dX1_readLine_144 : decode cX1_readLine 144 = .ok (.goto 4, 3) := by decide +kernel
theorem dX1_readLine_147 : decode cX1_readLine 147 = .ok (.iconst 0, 1) := by decide +kernel
theorem dX1_readLine_148 : decode cX1_readLine 148 = .ok (.ireturn, 1) := by decide +kernel
theorem dX1_readFrom_0 : decode cX1_readFrom 0 = .ok (.aload_n 0, 1) := by decide +kernel
theorem dX1_readFrom_1 : decode cX1_readFrom 1 = .ok (.iconst 0, 1) := by decide +kernel
theorem dX1_readFrom_2 : decode cX1_readFrom 2 = .ok (.putfield 34, 3) := by decide +kernel
theorem dX1_readFrom_5 : decode cX1_readFrom 5 = .ok (.iconst 0, 1) := by decide +kernel
theorem dX1_readFrom_6 : decode cX1_readFrom 6 = .ok (.istore_n 3, 1) := by decide +kernel
theorem dX1_readFrom_7 : decode cX1_readFrom 7 = .ok (.iload_n 3, 1) := by decide +kernel
theorem dX1_readFrom_8 : decode cX1_readFrom 8 = .ok (.bipush 40, 2) := by decide +kernel
theorem dX1_readFrom_10 : decode cX1_readFrom 10 = .ok (.if_icmp .gt 45, 3) := by decide +kernel
theorem dX1_readFrom_13 : decode cX1_readFrom 13 = .ok (.aload_n 1, 1) := by decide +kernel
theorem dX1_readFrom_14 : decode cX1_readFrom 14 = .ok (.getfield 37, 3) := by decide +kernel
theorem dX1_readFrom_17 : decode cX1_readFrom 17 = .ok (.ifCond .eq 38, 3) := by decide +kernel
theorem dX1_readFrom_20 : decode cX1_readFrom 20 = .ok (.aload_n 0, 1) := by decide +kernel
theorem dX1_readFrom_21 : decode cX1_readFrom 21 = .ok (.aload_n 1, 1) := by decide +kernel
theorem dX1_readFrom_22 : decode cX1_readFrom 22 = .ok (.aload_n 2, 1) := by decide +kernel
theorem dX1_readFrom_23 : decode cX1_readFrom 23 = .ok (.invokevirtual 42, 3) := by decide +kernel
theorem dX1_readFrom_26 : decode cX1_readFrom 26 = .ok (.ifCond .eq 12, 3) := by decide +kernel
theorem dX1_readFrom_29 : decode cX1_readFrom 29 = .ok (.aload_n 1, 1) := by decide +kernel
theorem dX1_readFrom_30 : decode cX1_readFrom 30 = .ok (.bipush 59, 2) := by decide +kernel
theorem dX1_readFrom_32 : decode cX1_readFrom 32 = .ok (.invokevirtual 46, 3) := by decide +kernel
theorem dX1_readFrom_35 : decode cX1_readFrom 35 = .ok (.ifCond .ne 4, 3) := by decide +kernel
theorem dX1_readFrom_38 : decode cX1_readFrom 38 = .ok (.return_, 1) := by decide +kernel
theorem dX1_readFrom_39 : decode cX1_readFrom 39 = .ok (.aload_n 0, 1) := by decide +kernel
theorem dX1_readFrom_40 : decode cX1_readFrom 40 = .ok (.dup, 1) := by decide +kernel
theorem dX1_readFrom_41 : decode cX1_readFrom 41 = .ok (.getfield 34, 3) := by decide +kernel
theorem dX1_readFrom_44 : decode cX1_readFrom 44 = .ok (.iconst 1, 1) := by decide +kernel
theorem dX1_readFrom_45 : decode cX1_readFrom 45 = .ok (.iadd, 1) := by decide +kernel
theorem dX1_readFrom_46 : decode cX1_readFrom 46 = .ok (.putfield 34, 3) := by decide +kernel
theorem dX1_readFrom_49 : decode cX1_readFrom 49 = .ok (.iinc 3 1, 3) := by decide +kernel
theorem dX1_readFrom_52 : decode cX1_readFrom 52 = .ok (.goto (-45), 3) := by decide +kernel
theorem dX1_readFrom_55 : decode cX1_readFrom 55 = .ok (.return_, 1) := by decide +kernel
theorem dX2_countWrong_0 : decode cX2_countWrong 0 = .ok (.iconst 0, 1) := by decide +kernel
theorem dX2_countWrong_1 : decode cX2_countWrong 1 = .ok (.istore_n 3, 1) := by decide +kernel
theorem dX2_countWrong_2 : decode cX2_countWrong 2 = .ok (.iconst 0, 1) := by decide +kernel
theorem dX2_countWrong_3 : decode cX2_countWrong 3 = .ok (.istore 4, 2) := by decide +kernel
theorem dX2_countWrong_5 : decode cX2_countWrong 5 = .ok (.iload 4, 2) := by decide +kernel
theorem dX2_countWrong_7 : decode cX2_countWrong 7 = .ok (.aload_n 0, 1) := by decide +kernel
theorem dX2_countWrong_8 : decode cX2_countWrong 8 = .ok (.getfield 27, 3) := by decide +kernel
theorem dX2_countWrong_11 : decode cX2_countWrong 11 = .ok (.if_icmp .ge 43, 3) := by decide +kernel
theorem dX2_countWrong_14 : decode cX2_countWrong 14 = .ok (.aload_n 0, 1) := by decide +kernel
theorem dX2_countWrong_15 : decode cX2_countWrong 15 = .ok (.getfield 51, 3) := by decide +kernel
theorem dX2_countWrong_18 : decode cX2_countWrong 18 = .ok (.iload 4, 2) := by decide +kernel
theorem dX2_countWrong_20 : decode cX2_countWrong 20 = .ok (.iaload, 1) := by decide +kernel
theorem dX2_countWrong_21 : decode cX2_countWrong 21 = .ok (.istore 5, 2) := by decide +kernel
theorem dX2_countWrong_23 : decode cX2_countWrong 23 = .ok (.iload 5, 2) := by decide +kernel
theorem dX2_countWrong_25 : decode cX2_countWrong 25 = .ok (.ifCond .eq 23, 3) := by decide +kernel
theorem dX2_countWrong_28 : decode cX2_countWrong 28 = .ok (.iload 5, 2) := by decide +kernel
theorem dX2_countWrong_30 : decode cX2_countWrong 30 = .ok (.iload 4, 2) := by decide +kernel
theorem dX2_countWrong_32 : decode cX2_countWrong 32 = .ok (.iconst 2, 1) := by decide +kernel
theorem dX2_countWrong_33 : decode cX2_countWrong 33 = .ok (.irem, 1) := by decide +kernel
theorem dX2_countWrong_34 : decode cX2_countWrong 34 = .ok (.ifCond .ne 7, 3) := by decide +kernel
theorem dX2_countWrong_37 : decode cX2_countWrong 37 = .ok (.iload_n 1, 1) := by decide +kernel
theorem dX2_countWrong_38 : decode cX2_countWrong 38 = .ok (.goto 4, 3) := by decide +kernel
theorem dX2_countWrong_41 : decode cX2_countWrong 41 = .ok (.iload_n 2, 1) := by decide +kernel
theorem dX2_countWrong_42 : decode cX2_countWrong 42 = .ok (.if_icmp .eq 6, 3) := by decide +kernel
theorem dX2_countWrong_45 : decode cX2_countWrong 45 = .ok (.iinc 3 1, 3) := by decide +kernel
theorem dX2_countWrong_48 : decode cX2_countWrong 48 = .ok (.iinc 4 1, 3) := by decide +kernel
theorem dX2_countWrong_51 : decode cX2_countWrong 51 = .ok (.goto (-46), 3) := by decide +kernel
theorem dX2_countWrong_54 : decode cX2_countWrong 54 = .ok (.iload_n 3, 1) := by decide +kernel
theorem dX2_countWrong_55 : decode cX2_countWrong 55 = .ok (.ireturn, 1) := by decide +kernel
theorem dX9_isPairs_0 : decode cX9_isPairs 0 = .ok (.aload_n 0, 1) := by decide +kernel
theorem dX9_isPairs_1 : decode cX9_isPairs 1 = .ok (.getfield 15, 3) := by decide +kernel
theorem dX9_isPairs_4 : decode cX9_isPairs 4 = .ok (.iconst 2, 1) := by decide +kernel
theorem dX9_isPairs_5 : decode cX9_isPairs 5 = .ok (.if_icmp .lt 26, 3) := by decide +kernel
theorem dX9_isPairs_8 : decode cX9_isPairs 8 = .ok (.aload_n 0, 1) := by decide +kernel
theorem dX9_isPairs_9 : decode cX9_isPairs 9 = .ok (.getfield 15, 3) := by decide +kernel
theorem dX9_isPairs_12 : decode cX9_isPairs 12 = .ok (.iconst 2, 1) := by decide +kernel
theorem dX9_isPairs_13 : decode cX9_isPairs 13 = .ok (.iload_n 1, 1) := by decide +kernel
theorem dX9_isPairs_14 : decode cX9_isPairs 14 = .ok (.imul, 1) := by decide +kernel
theorem dX9_isPairs_15 : decode cX9_isPairs 15 = .ok (.if_icmp .gt 16, 3) := by decide +kernel
theorem dX9_isPairs_18 : decode cX9_isPairs 18 = .ok (.aload_n 0, 1) := by decide +kernel
theorem dX9_isPairs_19 : decode cX9_isPairs 19 = .ok (.getfield 15, 3) := by decide +kernel
theorem dX9_isPairs_22 : decode cX9_isPairs 22 = .ok (.iconst 2, 1) := by decide +kernel
theorem dX9_isPairs_23 : decode cX9_isPairs 23 = .ok (.irem, 1) := by decide +kernel
theorem dX9_isPairs_24 : decode cX9_isPairs 24 = .ok (.ifCond .ne 7, 3) := by decide +kernel
theorem dX9_isPairs_27 : decode cX9_isPairs 27 = .ok (.iconst 1, 1) := by decide +kernel
theorem dX9_isPairs_28 : decode cX9_isPairs 28 = .ok (.goto 4, 3) := by decide +kernel
theorem dX9_isPairs_31 : decode cX9_isPairs 31 = .ok (.iconst 0, 1) := by decide +kernel
theorem dX9_isPairs_32 : decode cX9_isPairs 32 = .ok (.ireturn, 1) := by decide +kernel
theorem dX2_isAsTold_0 : decode cX2_isAsTold 0 = .ok (.aload_n 0, 1) := by decide +kernel
theorem dX2_isAsTold_1 : decode cX2_isAsTold 1 = .ok (.bipush 6, 2) := by decide +kernel
theorem dX2_isAsTold_3 : decode cX2_isAsTold 3 = .ok (.invokevirtual 47, 3) := by decide +kernel
theorem dX2_isAsTold_6 : decode cX2_isAsTold 6 = .ok (.ifCond .ne 5, 3) := by decide +kernel
theorem dX2_isAsTold_9 : decode cX2_isAsTold 9 = .ok (.iconst 0, 1) := by decide +kernel
theorem dX2_isAsTold_10 : decode cX2_isAsTold 10 = .ok (.ireturn, 1) := by decide +kernel
theorem dX2_isAsTold_11 : decode cX2_isAsTold 11 = .ok (.iconst 0, 1) := by decide +kernel
theorem dX2_isAsTold_12 : decode cX2_isAsTold 12 = .ok (.istore_n 1, 1) := by decide +kernel
theorem dX2_isAsTold_13 : decode cX2_isAsTold 13 = .ok (.iload_n 1, 1) := by decide +kernel
theorem dX2_isAsTold_14 : decode cX2_isAsTold 14 = .ok (.aload_n 0, 1) := by decide +kernel
theorem dX2_isAsTold_15 : decode cX2_isAsTold 15 = .ok (.getfield 27, 3) := by decide +kernel
theorem dX2_isAsTold_18 : decode cX2_isAsTold 18 = .ok (.if_icmp .ge 21, 3) := by decide +kernel
theorem dX2_isAsTold_21 : decode cX2_isAsTold 21 = .ok (.aload_n 0, 1) := by decide +kernel
theorem dX2_isAsTold_22 : decode cX2_isAsTold 22 = .ok (.getfield 51, 3) := by decide +kernel
theorem dX2_isAsTold_25 : decode cX2_isAsTold 25 = .ok (.iload_n 1, 1) := by decide +kernel
theorem dX2_isAsTold_26 : decode cX2_isAsTold 26 = .ok (.iaload, 1) := by decide +kernel
theorem dX2_isAsTold_27 : decode cX2_isAsTold 27 = .ok (.iconst 3, 1) := by decide +kernel
theorem dX2_isAsTold_28 : decode cX2_isAsTold 28 = .ok (.if_icmp .le 5, 3) := by decide +kernel
theorem dX2_isAsTold_31 : decode cX2_isAsTold 31 = .ok (.iconst 0, 1) := by decide +kernel
theorem dX2_isAsTold_32 : decode cX2_isAsTold 32 = .ok (.ireturn, 1) := by decide +kernel
theorem dX2_isAsTold_33 : decode cX2_isAsTold 33 = .ok (.iinc 1 1, 3) := by decide +kernel
theorem dX2_isAsTold_36 : decode cX2_isAsTold 36 = .ok (.goto (-23), 3) := by decide +kernel
theorem dX2_isAsTold_39 : decode cX2_isAsTold 39 = .ok (.iconst 1, 1) := by decide +kernel
theorem dX2_isAsTold_40 : decode cX2_isAsTold 40 = .ok (.ireturn, 1) := by decide +kernel
theorem dX11_bit_0 : decode cX11_bit 0 = .ok (.iload_n 0, 1) := by decide +kernel
theorem dX11_bit_1 : decode cX11_bit 1 = .ok (.iload_n 1, 1) := by decide +kernel
theorem dX11_bit_2 : decode cX11_bit 2 = .ok (.ishr, 1) := by decide +kernel
theorem dX11_bit_3 : decode cX11_bit 3 = .ok (.iconst 1, 1) := by decide +kernel
theorem dX11_bit_4 : decode cX11_bit 4 = .ok (.iand, 1) := by decide +kernel
theorem dX11_bit_5 : decode cX11_bit 5 = .ok (.ireturn, 1) := by decide +kernel
theorem dX2_mostLeft_0 : decode cX2_mostLeft 0 = .ok (.iconst 0, 1) := by decide +kernel
theorem dX2_mostLeft_1 : decode cX2_mostLeft 1 = .ok (.istore_n 3, 1) := by decide +kernel
theorem dX2_mostLeft_2 : decode cX2_mostLeft 2 = .ok (.iconst 1, 1) := by decide +kernel
theorem dX2_mostLeft_3 : decode cX2_mostLeft 3 = .ok (.istore 4, 2) := by decide +kernel
theorem dX2_mostLeft_5 : decode cX2_mostLeft 5 = .ok (.iload 4, 2) := by decide +kernel
theorem dX2_mostLeft_7 : decode cX2_mostLeft 7 = .ok (.iconst 3, 1) := by decide +kernel
theorem dX2_mostLeft_8 : decode cX2_mostLeft 8 = .ok (.if_icmp .gt 56, 3) := by decide +kernel
theorem dX2_mostLeft_11 : decode cX2_mostLeft 11 = .ok (.iconst 0, 1) := by decide +kernel
theorem dX2_mostLeft_12 : decode cX2_mostLeft 12 = .ok (.istore 5, 2) := by decide +kernel
theorem dX2_mostLeft_14 : decode cX2_mostLeft 14 = .ok (.iconst 0, 1) := by decide +kernel
theorem dX2_mostLeft_15 : decode cX2_mostLeft 15 = .ok (.istore 6, 2) := by decide +kernel
theorem dX2_mostLeft_17 : decode cX2_mostLeft 17 = .ok (.iload 6, 2) := by decide +kernel
theorem dX2_mostLeft_19 : decode cX2_mostLeft 19 = .ok (.iload_n 2, 1) := by decide +kernel
theorem dX2_mostLeft_20 : decode cX2_mostLeft 20 = .ok (.if_icmp .ge 31, 3) := by decide +kernel
theorem dX2_mostLeft_23 : decode cX2_mostLeft 23 = .ok (.iload_n 0, 1) := by decide +kernel
theorem dX2_mostLeft_24 : decode cX2_mostLeft 24 = .ok (.iload 6, 2) := by decide +kernel
theorem dX2_mostLeft_26 : decode cX2_mostLeft 26 = .ok (.invokestatic 54, 3) := by decide +kernel
theorem dX2_mostLeft_29 : decode cX2_mostLeft 29 = .ok (.iconst 1, 1) := by decide +kernel
theorem dX2_mostLeft_30 : decode cX2_mostLeft 30 = .ok (.if_icmp .ne 15, 3) := by decide +kernel
theorem dX2_mostLeft_33 : decode cX2_mostLeft 33 = .ok (.aload_n 1, 1) := by decide +kernel
theorem dX2_mostLeft_34 : decode cX2_mostLeft 34 = .ok (.iload 6, 2) := by decide +kernel
theorem dX2_mostLeft_36 : decode cX2_mostLeft 36 = .ok (.iaload, 1) := by decide +kernel
theorem dX2_mostLeft_37 : decode cX2_mostLeft 37 = .ok (.iload 4, 2) := by decide +kernel
theorem dX2_mostLeft_39 : decode cX2_mostLeft 39 = .ok (.if_icmp .ne 6, 3) := by decide +kernel
theorem dX2_mostLeft_42 : decode cX2_mostLeft 42 = .ok (.iinc 5 1, 3) := by decide +kernel
theorem dX2_mostLeft_45 : decode cX2_mostLeft 45 = .ok (.iinc 6 1, 3) := by decide +kernel
theorem dX2_mostLeft_48 : decode cX2_mostLeft 48 = .ok (.goto (-31), 3) := by decide +kernel
theorem dX2_mostLeft_51 : decode cX2_mostLeft 51 = .ok (.iload_n 3, 1) := by decide +kernel
theorem dX2_mostLeft_52 : decode cX2_mostLeft 52 = .ok (.iload 5, 2) := by decide +kernel
theorem dX2_mostLeft_54 : decode cX2_mostLeft 54 = .ok (.invokestatic 58, 3) := by decide +kernel
theorem dX2_mostLeft_57 : decode cX2_mostLeft 57 = .ok (.istore_n 3, 1) := by decide +kernel
theorem dX2_mostLeft_58 : decode cX2_mostLeft 58 = .ok (.iinc 4 1, 3) := by decide +kernel
theorem dX2_mostLeft_61 : decode cX2_mostLeft 61 = .ok (.goto (-56), 3) := by decide +kernel
theorem dX2_mostLeft_64 : decode cX2_mostLeft 64 = .ok (.iload_n 3, 1) := by decide +kernel
theorem dX2_mostLeft_65 : decode cX2_mostLeft 65 = .ok (.ireturn, 1) := by decide +kernel
theorem dX2_weigh_0 : decode cX2_weigh 0 = .ok (.aload_n 2, 1) := by decide +kernel
theorem dX2_weigh_1 : decode cX2_weigh 1 = .ok (.getfield 18, 3) := by decide +kernel
theorem dX2_weigh_4 : decode cX2_weigh 4 = .ok (.ifCond .eq 10, 3) := by decide +kernel
theorem dX2_weigh_7 : decode cX2_weigh 7 = .ok (.aload_n 1, 1) := by decide +kernel
theorem dX2_weigh_8 : decode cX2_weigh 8 = .ok (.invokestatic 23, 3) := by decide +kernel
theorem dX2_weigh_11 : decode cX2_weigh 11 = .ok (.ifCond .ne 5, 3) := by decide +kernel
theorem dX2_weigh_14 : decode cX2_weigh 14 = .ok (.iconst (-1), 1) := by decide +kernel
theorem dX2_weigh_15 : decode cX2_weigh 15 = .ok (.ireturn, 1) := by decide +kernel
theorem dX2_weigh_16 : decode cX2_weigh 16 = .ok (.iconst 0, 1) := by decide +kernel
theorem dX2_weigh_17 : decode cX2_weigh 17 = .ok (.istore_n 3, 1) := by decide +kernel
theorem dX2_weigh_18 : decode cX2_weigh 18 = .ok (.aload_n 1, 1) := by decide +kernel
theorem dX2_weigh_19 : decode cX2_weigh 19 = .ok (.getfield 27, 3) := by decide +kernel
theorem dX2_weigh_22 : decode cX2_weigh 22 = .ok (.iconst 1, 1) := by decide +kernel
theorem dX2_weigh_23 : decode cX2_weigh 23 = .ok (.iadd, 1) := by decide +kernel
theorem dX2_weigh_24 : decode cX2_weigh 24 = .ok (.istore 4, 2) := by decide +kernel
theorem dX2_weigh_26 : decode cX2_weigh 26 = .ok (.iconst 0, 1) := by decide +kernel
theorem dX2_weigh_27 : decode cX2_weigh 27 = .ok (.istore 5, 2) := by decide +kernel
theorem dX2_weigh_29 : decode cX2_weigh 29 = .ok (.iload 5, 2) := by decide +kernel
theorem dX2_weigh_31 : decode cX2_weigh 31 = .ok (.aload_n 2, 1) := by decide +kernel
theorem dX2_weigh_32 : decode cX2_weigh 32 = .ok (.getfield 18, 3) := by decide +kernel
theorem dX2_weigh_35 : decode cX2_weigh 35 = .ok (.if_icmp .ge 56, 3) := by decide +kernel
theorem dX2_weigh_38 : decode cX2_weigh 38 = .ok (.aload_n 1, 1) := by decide +kernel
theorem dX2_weigh_39 : decode cX2_weigh 39 = .ok (.aload_n 2, 1) := by decide +kernel
theorem dX2_weigh_40 : decode cX2_weigh 40 = .ok (.getfield 32, 3) := by decide +kernel
theorem dX2_weigh_43 : decode cX2_weigh 43 = .ok (.iload 5, 2) := by decide +kernel
theorem dX2_weigh_45 : decode cX2_weigh 45 = .ok (.iaload, 1) := by decide +kernel
theorem dX2_weigh_46 : decode cX2_weigh 46 = .ok (.aload_n 2, 1) := by decide +kernel
theorem dX2_weigh_47 : decode cX2_weigh 47 = .ok (.getfield 36, 3) := by decide +kernel
theorem dX2_weigh_50 : decode cX2_weigh 50 = .ok (.iload 5, 2) := by decide +kernel
theorem dX2_weigh_52 : decode cX2_weigh 52 = .ok (.iaload, 1) := by decide +kernel
theorem dX2_weigh_53 : decode cX2_weigh 53 = .ok (.invokestatic 39, 3) := by decide +kernel
theorem dX2_weigh_56 : decode cX2_weigh 56 = .ok (.istore 6, 2) := by decide +kernel
theorem dX2_weigh_58 : decode cX2_weigh 58 = .ok (.iload 6, 2) := by decide +kernel
theorem dX2_weigh_60 : decode cX2_weigh 60 = .ok (.iload 4, 2) := by decide +kernel
theorem dX2_weigh_62 : decode cX2_weigh 62 = .ok (.if_icmp .ge 9, 3) := by decide +kernel
theorem dX2_weigh_65 : decode cX2_weigh 65 = .ok (.iload 6, 2) := by decide +kernel
theorem dX2_weigh_67 : decode cX2_weigh 67 = .ok (.istore 4, 2) := by decide +kernel
theorem dX2_weigh_69 : decode cX2_weigh 69 = .ok (.iconst 0, 1) := by decide +kernel
theorem dX2_weigh_70 : decode cX2_weigh 70 = .ok (.istore_n 3, 1) := by decide +kernel
theorem dX2_weigh_71 : decode cX2_weigh 71 = .ok (.iload 6, 2) := by decide +kernel
theorem dX2_weigh_73 : decode cX2_weigh 73 = .ok (.iload 4, 2) := by decide +kernel
theorem dX2_weigh_75 : decode cX2_weigh 75 = .ok (.if_icmp .ne 10, 3) := by decide +kernel
theorem dX2_weigh_78 : decode cX2_weigh 78 = .ok (.iload_n 3, 1) := by decide +kernel
theorem dX2_weigh_79 : decode cX2_weigh 79 = .ok (.iconst 1, 1) := by decide +kernel
theorem dX2_weigh_80 : decode cX2_weigh 80 = .ok (.iload 5, 2) := by decide +kernel
theorem dX2_weigh_82 : decode cX2_weigh 82 = .ok (.ishl, 1) := by decide +kernel
theorem dX2_weigh_83 : decode cX2_weigh 83 = .ok (.ior, 1) := by decide +kernel
theorem dX2_weigh_84 : decode cX2_weigh 84 = .ok (.istore_n 3, 1) := by decide +kernel
theorem dX2_weigh_85 : decode cX2_weigh 85 = .ok (.iinc 5 1, 3) := by decide +kernel
theorem dX2_weigh_88 : decode cX2_weigh 88 = .ok (.goto (-59), 3) := by decide +kernel
theorem dX2_weigh_91 : decode cX2_weigh 91 = .ok (.aload_n 0, 1) := by decide +kernel
theorem dX2_weigh_92 : decode cX2_weigh 92 = .ok (.iload 4, 2) := by decide +kernel
theorem dX2_weigh_94 : decode cX2_weigh 94 = .ok (.putfield 9, 3) := by decide +kernel
theorem dX2_weigh_97 : decode cX2_weigh 97 = .ok (.aload_n 0, 1) := by decide +kernel
theorem dX2_weigh_98 : decode cX2_weigh 98 = .ok (.iload_n 3, 1) := by decide +kernel
theorem dX2_weigh_99 : decode cX2_weigh 99 = .ok (.aload_n 2, 1) := by decide +kernel
theorem dX2_weigh_100 : decode cX2_weigh 100 = .ok (.getfield 36, 3) := by decide +kernel
theorem dX2_weigh_103 : decode cX2_weigh 103 = .ok (.aload_n 2, 1) := by decide +kernel
theorem dX2_weigh_104 : decode cX2_weigh 104 = .ok (.getfield 18, 3) := by decide +kernel
theorem dX2_weigh_107 : decode cX2_weigh 107 = .ok (.invokestatic 43, 3) := by decide +kernel
theorem dX2_weigh_110 : decode cX2_weigh 110 = .ok (.iload_n 3, 1) := by decide +kernel
theorem dX2_weigh_111 : decode cX2_weigh 111 = .ok (.aload_n 2, 1) := by decide +kernel
theorem dX2_weigh_112 : decode cX2_weigh 112 = .ok (.getfield 32, 3) := by decide +kernel
theorem dX2_weigh_115 : decode cX2_weigh 115 = .ok (.aload_n 2, 1) := by decide +kernel
theorem dX2_weigh_116 : decode cX2_weigh 116 = .ok (.getfield 18, 3) := by decide +kernel
theorem dX2_weigh_119 : decode cX2_weigh 119 = .ok (.invokestatic 43, 3) := by decide +kernel
theorem dX2_weigh_122 : decode cX2_weigh 122 = .ok (.if_icmp .ge 7, 3) := by decide +kernel
theorem dX2_weigh_125 : decode cX2_weigh 125 = .ok (.iconst 1, 1) := by decide +kernel
theorem dX2_weigh_126 : decode cX2_weigh 126 = .ok (.goto 4, 3) := by decide +kernel
theorem dX2_weigh_129 : decode cX2_weigh 129 = .ok (.iconst 0, 1) := by decide +kernel
theorem dX2_weigh_130 : decode cX2_weigh 130 = .ok (.putfield 15, 3) := by decide +kernel
theorem dX2_weigh_133 : decode cX2_weigh 133 = .ok (.iload_n 3, 1) := by decide +kernel
theorem dX2_weigh_134 : decode cX2_weigh 134 = .ok (.ireturn, 1) := by decide +kernel
theorem dX7_copyFrom_0 : decode cX7_copyFrom 0 = .ok (.iconst 0, 1) := by decide +kernel
theorem dX7_copyFrom_1 : decode cX7_copyFrom 1 = .ok (.istore_n 2, 1) := by decide +kernel
theorem dX7_copyFrom_2 : decode cX7_copyFrom 2 = .ok (.iload_n 2, 1) := by decide +kernel
theorem dX7_copyFrom_3 : decode cX7_copyFrom 3 = .ok (.aload_n 1, 1) := by decide +kernel
theorem dX7_copyFrom_4 : decode cX7_copyFrom 4 = .ok (.getfield 31, 3) := by decide +kernel
theorem dX7_copyFrom_7 : decode cX7_copyFrom 7 = .ok (.if_icmp .ge 45, 3) := by decide +kernel
theorem dX7_copyFrom_10 : decode cX7_copyFrom 10 = .ok (.aload_n 0, 1) := by decide +kernel
theorem dX7_copyFrom_11 : decode cX7_copyFrom 11 = .ok (.getfield 11, 3) := by decide +kernel
theorem dX7_copyFrom_14 : decode cX7_copyFrom 14 = .ok (.iload_n 2, 1) := by decide +kernel
theorem dX7_copyFrom_15 : decode cX7_copyFrom 15 = .ok (.aload_n 1, 1) := by decide +kernel
theorem dX7_copyFrom_16 : decode cX7_copyFrom 16 = .ok (.getfield 11, 3) := by decide +kernel
theorem dX7_copyFrom_19 : decode cX7_copyFrom 19 = .ok (.iload_n 2, 1) := by decide +kernel
theorem dX7_copyFrom_20 : decode cX7_copyFrom 20 = .ok (.aaload, 1) := by decide +kernel
theorem dX7_copyFrom_21 : decode cX7_copyFrom 21 = .ok (.aastore, 1) := by decide +kernel
theorem dX7_copyFrom_22 : decode cX7_copyFrom 22 = .ok (.aload_n 0, 1) := by decide +kernel
theorem dX7_copyFrom_23 : decode cX7_copyFrom 23 = .ok (.getfield 17, 3) := by decide +kernel
theorem dX7_copyFrom_26 : decode cX7_copyFrom 26 = .ok (.iload_n 2, 1) := by decide +kernel
theorem dX7_copyFrom_27 : decode cX7_copyFrom 27 = .ok (.aload_n 1, 1) := by decide +kernel
theorem dX7_copyFrom_28 : decode cX7_copyFrom 28 = .ok (.getfield 17, 3) := by decide +kernel
theorem dX7_copyFrom_31 : decode cX7_copyFrom 31 = .ok (.iload_n 2, 1) := by decide +kernel
theorem dX7_copyFrom_32 : decode cX7_copyFrom 32 = .ok (.iaload, 1) := by decide +kernel
theorem dX7_copyFrom_33 : decode cX7_copyFrom 33 = .ok (.iastore, 1) := by decide +kernel
theorem dX7_copyFrom_34 : decode cX7_copyFrom 34 = .ok (.aload_n 0, 1) := by decide +kernel
theorem dX7_copyFrom_35 : decode cX7_copyFrom 35 = .ok (.getfield 21, 3) := by decide +kernel
theorem dX7_copyFrom_38 : decode cX7_copyFrom 38 = .ok (.iload_n 2, 1) := by decide +kernel
theorem dX7_copyFrom_39 : decode cX7_copyFrom 39 = .ok (.aload_n 1, 1) := by decide +kernel
theorem dX7_copyFrom_40 : decode cX7_copyFrom 40 = .ok (.getfield 21, 3) := by decide +kernel
theorem dX7_copyFrom_43 : decode cX7_copyFrom 43 = .ok (.iload_n 2, 1) := by decide +kernel
theorem dX7_copyFrom_44 : decode cX7_copyFrom 44 = .ok (.iaload, 1) := by decide +kernel
theorem dX7_copyFrom_45 : decode cX7_copyFrom 45 = .ok (.iastore, 1) := by decide +kernel
theorem dX7_copyFrom_46 : decode cX7_copyFrom 46 = .ok (.iinc 2 1, 3) := by decide +kernel
theorem dX7_copyFrom_49 : decode cX7_copyFrom 49 = .ok (.goto (-47), 3) := by decide +kernel
theorem dX7_copyFrom_52 : decode cX7_copyFrom 52 = .ok (.aload_n 0, 1) := by decide +kernel
theorem dX7_copyFrom_53 : decode cX7_copyFrom 53 = .ok (.aload_n 1, 1) := by decide +kernel
theorem dX7_copyFrom_54 : decode cX7_copyFrom 54 = .ok (.getfield 31, 3) := by decide +kernel
theorem dX7_copyFrom_57 : decode cX7_copyFrom 57 = .ok (.putfield 31, 3) := by decide +kernel
theorem dX7_copyFrom_60 : decode cX7_copyFrom 60 = .ok (.aload_n 0, 1) := by decide +kernel
theorem dX7_copyFrom_61 : decode cX7_copyFrom 61 = .ok (.aload_n 1, 1) := by decide +kernel
theorem dX7_copyFrom_62 : decode cX7_copyFrom 62 = .ok (.getfield 27, 3) := by decide +kernel
theorem dX7_copyFrom_65 : decode cX7_copyFrom 65 = .ok (.putfield 27, 3) := by decide +kernel
theorem dX7_copyFrom_68 : decode cX7_copyFrom 68 = .ok (.return_, 1) := by decide +kernel
theorem dX8_copyFrom_0 : decode cX8_copyFrom 0 = .ok (.aload_n 1, 1) := by decide +kernel
theorem dX8_copyFrom_1 : decode cX8_copyFrom 1 = .ok (.getfield 9, 3) := by decide +kernel
theorem dX8_copyFrom_4 : decode cX8_copyFrom 4 = .ok (.iconst 0, 1) := by decide +kernel
theorem dX8_copyFrom_5 : decode cX8_copyFrom 5 = .ok (.aload_n 0, 1) := by decide +kernel
theorem dX8_copyFrom_6 : decode cX8_copyFrom 6 = .ok (.getfield 9, 3) := by decide +kernel
theorem dX8_copyFrom_9 : decode cX8_copyFrom 9 = .ok (.iconst 0, 1) := by decide +kernel
theorem dX8_copyFrom_10 : decode cX8_copyFrom 10 = .ok (.bipush 8, 2) := by decide +kernel
theorem dX8_copyFrom_12 : decode cX8_copyFrom 12 = .ok (.invokestatic 61, 3) := by decide +kernel
theorem dX8_copyFrom_15 : decode cX8_copyFrom 15 = .ok (.aload_n 1, 1) := by decide +kernel
theorem dX8_copyFrom_16 : decode cX8_copyFrom 16 = .ok (.getfield 15, 3) := by decide +kernel
theorem dX8_copyFrom_19 : decode cX8_copyFrom 19 = .ok (.iconst 0, 1) := by decide +kernel
theorem dX8_copyFrom_20 : decode cX8_copyFrom 20 = .ok (.aload_n 0, 1) := by decide +kernel
theorem dX8_copyFrom_21 : decode cX8_copyFrom 21 = .ok (.getfield 15, 3) := by decide +kernel
theorem dX8_copyFrom_24 : decode cX8_copyFrom 24 = .ok (.iconst 0, 1) := by decide +kernel
theorem dX8_copyFrom_25 : decode cX8_copyFrom 25 = .ok (.bipush 8, 2) := by decide +kernel
theorem dX8_copyFrom_27 : decode cX8_copyFrom 27 = .ok (.invokestatic 61, 3) := by decide +kernel
theorem dX8_copyFrom_30 : decode cX8_copyFrom 30 = .ok (.aload_n 1, 1) := by decide +kernel
theorem dX8_copyFrom_31 : decode cX8_copyFrom 31 = .ok (.getfield 18, 3) := by decide +kernel
theorem dX8_copyFrom_34 : decode cX8_copyFrom 34 = .ok (.iconst 0, 1) := by decide +kernel
theorem dX8_copyFrom_35 : decode cX8_copyFrom 35 = .ok (.aload_n 0, 1) := by decide +kernel
theorem dX8_copyFrom_36 : decode cX8_copyFrom 36 = .ok (.getfield 18, 3) := by decide +kernel
theorem dX8_copyFrom_39 : decode cX8_copyFrom 39 = .ok (.iconst 0, 1) := by decide +kernel
theorem dX8_copyFrom_40 : decode cX8_copyFrom 40 = .ok (.bipush 8, 2) := by decide +kernel
theorem dX8_copyFrom_42 : decode cX8_copyFrom 42 = .ok (.invokestatic 61, 3) := by decide +kernel
theorem dX8_copyFrom_45 : decode cX8_copyFrom 45 = .ok (.aload_n 1, 1) := by decide +kernel
theorem dX8_copyFrom_46 : decode cX8_copyFrom 46 = .ok (.getfield 21, 3) := by decide +kernel
theorem dX8_copyFrom_49 : decode cX8_copyFrom 49 = .ok (.iconst 0, 1) := by decide +kernel
theorem dX8_copyFrom_50 : decode cX8_copyFrom 50 = .ok (.aload_n 0, 1) := by decide +kernel
theorem dX8_copyFrom_51 : decode cX8_copyFrom 51 = .ok (.getfield 21, 3) := by decide +kernel
theorem dX8_copyFrom_54 : decode cX8_copyFrom 54 = .ok (.iconst 0, 1) := by decide +kernel
theorem dX8_copyFrom_55 : decode cX8_copyFrom 55 = .ok (.bipush 8, 2) := by decide +kernel
theorem dX8_copyFrom_57 : decode cX8_copyFrom 57 = .ok (.invokestatic 61, 3) := by decide +kernel
theorem dX8_copyFrom_60 : decode cX8_copyFrom 60 = .ok (.aload_n 1, 1) := by decide +kernel
theorem dX8_copyFrom_61 : decode cX8_copyFrom 61 = .ok (.getfield 24, 3) := by decide +kernel
theorem dX8_copyFrom_64 : decode cX8_copyFrom 64 = .ok (.iconst 0, 1) := by decide +kernel
theorem dX8_copyFrom_65 : decode cX8_copyFrom 65 = .ok (.aload_n 0, 1) := by decide +kernel
theorem dX8_copyFrom_66 : decode cX8_copyFrom 66 = .ok (.getfield 24, 3) := by decide +kernel
theorem dX8_copyFrom_69 : decode cX8_copyFrom 69 = .ok (.iconst 0, 1) := by decide +kernel
theorem dX8_copyFrom_70 : decode cX8_copyFrom 70 = .ok (.bipush 8, 2) := by decide +kernel
theorem dX8_copyFrom_72 : decode cX8_copyFrom 72 = .ok (.invokestatic 61, 3) := by decide +kernel
theorem dX8_copyFrom_75 : decode cX8_copyFrom 75 = .ok (.aload_n 0, 1) := by decide +kernel
theorem dX8_copyFrom_76 : decode cX8_copyFrom 76 = .ok (.aload_n 1, 1) := by decide +kernel
theorem dX8_copyFrom_77 : decode cX8_copyFrom 77 = .ok (.getfield 46, 3) := by decide +kernel
theorem dX8_copyFrom_80 : decode cX8_copyFrom 80 = .ok (.putfield 46, 3) := by decide +kernel
theorem dX8_copyFrom_83 : decode cX8_copyFrom 83 = .ok (.aload_n 0, 1) := by decide +kernel
theorem dX8_copyFrom_84 : decode cX8_copyFrom 84 = .ok (.aload_n 1, 1) := by decide +kernel
theorem dX8_copyFrom_85 : decode cX8_copyFrom 85 = .ok (.getfield 49, 3) := by decide +kernel
theorem dX8_copyFrom_88 : decode cX8_copyFrom 88 = .ok (.putfield 49, 3) := by decide +kernel
theorem dX8_copyFrom_91 : decode cX8_copyFrom 91 = .ok (.aload_n 0, 1) := by decide +kernel
theorem dX8_copyFrom_92 : decode cX8_copyFrom 92 = .ok (.aload_n 1, 1) := by decide +kernel
theorem dX8_copyFrom_93 : decode cX8_copyFrom 93 = .ok (.getfield 52, 3) := by decide +kernel
theorem dX8_copyFrom_96 : decode cX8_copyFrom 96 = .ok (.putfield 52, 3) := by decide +kernel
theorem dX8_copyFrom_99 : decode cX8_copyFrom 99 = .ok (.aload_n 0, 1) := by decide +kernel
theorem dX8_copyFrom_100 : decode cX8_copyFrom 100 = .ok (.aload_n 1, 1) := by decide +kernel
theorem dX8_copyFrom_101 : decode cX8_copyFrom 101 = .ok (.getfield 55, 3) := by decide +kernel
theorem dX8_copyFrom_104 : decode cX8_copyFrom 104 = .ok (.putfield 55, 3) := by decide +kernel
theorem dX8_copyFrom_107 : decode cX8_copyFrom 107 = .ok (.aload_n 0, 1) := by decide +kernel
theorem dX8_copyFrom_108 : decode cX8_copyFrom 108 = .ok (.aload_n 1, 1) := by decide +kernel
theorem dX8_copyFrom_109 : decode cX8_copyFrom 109 = .ok (.getfield 58, 3) := by decide +kernel
theorem dX8_copyFrom_112 : decode cX8_copyFrom 112 = .ok (.putfield 58, 3) := by decide +kernel
theorem dX8_copyFrom_115 : decode cX8_copyFrom 115 = .ok (.return_, 1) := by decide +kernel
theorem dX3_keep_0 : decode cX3_keep 0 = .ok (.aload_n 0, 1) := by decide +kernel
theorem dX3_keep_1 : decode cX3_keep 1 = .ok (.getfield 10, 3) := by decide +kernel
theorem dX3_keep_4 : decode cX3_keep 4 = .ok (.aload_n 1, 1) := by decide +kernel
theorem dX3_keep_5 : decode cX3_keep 5 = .ok (.invokevirtual 32, 3) := by decide +kernel
theorem dX3_keep_8 : decode cX3_keep 8 = .ok (.aload_n 0, 1) := by decide +kernel
theorem dX3_keep_9 : decode cX3_keep 9 = .ok (.getfield 21, 3) := by decide +kernel
theorem dX3_keep_12 : decode cX3_keep 12 = .ok (.aload_n 2, 1) := by decide +kernel
theorem dX3_keep_13 : decode cX3_keep 13 = .ok (.invokevirtual 35, 3) := by decide +kernel
theorem dX3_keep_16 : decode cX3_keep 16 = .ok (.aload_n 0, 1) := by decide +kernel
theorem dX3_keep_17 : decode cX3_keep 17 = .ok (.getfield 28, 3) := by decide +kernel
theorem dX3_keep_20 : decode cX3_keep 20 = .ok (.aload_n 3, 1) := by decide +kernel
theorem dX3_keep_21 : decode cX3_keep 21 = .ok (.invokevirtual 38, 3) := by decide +kernel
theorem dX3_keep_24 : decode cX3_keep 24 = .ok (.aload_n 0, 1) := by decide +kernel
theorem dX3_keep_25 : decode cX3_keep 25 = .ok (.iconst 1, 1) := by decide +kernel
theorem dX3_keep_26 : decode cX3_keep 26 = .ok (.putfield 41, 3) := by decide +kernel
theorem dX3_keep_29 : decode cX3_keep 29 = .ok (.return_, 1) := by decide +kernel
theorem dX4_keep_0 : decode cX4_keep 0 = .ok (.aload_n 0, 1) := by decide +kernel
theorem dX4_keep_1 : decode cX4_keep 1 = .ok (.getfield 11, 3) := by decide +kernel
theorem dX4_keep_4 : decode cX4_keep 4 = .ok (.aload_n 0, 1) := by decide +kernel
theorem dX4_keep_5 : decode cX4_keep 5 = .ok (.getfield 20, 3) := by decide +kernel
theorem dX4_keep_8 : decode cX4_keep 8 = .ok (.aload_n 0, 1) := by decide +kernel
theorem dX4_keep_9 : decode cX4_keep 9 = .ok (.getfield 24, 3) := by decide +kernel
theorem dX4_keep_12 : decode cX4_keep 12 = .ok (.iadd, 1) := by decide +kernel
theorem dX4_keep_13 : decode cX4_keep 13 = .ok (.bipush 8, 2) := by decide +kernel
theorem dX4_keep_15 : decode cX4_keep 15 = .ok (.irem, 1) := by decide +kernel
theorem dX4_keep_16 : decode cX4_keep 16 = .ok (.aaload, 1) := by decide +kernel
theorem dX4_keep_17 : decode cX4_keep 17 = .ok (.aload_n 1, 1) := by decide +kernel
theorem dX4_keep_18 : decode cX4_keep 18 = .ok (.invokevirtual 27, 3) := by decide +kernel
theorem dX4_keep_21 : decode cX4_keep 21 = .ok (.aload_n 0, 1) := by decide +kernel
theorem dX4_keep_22 : decode cX4_keep 22 = .ok (.getfield 24, 3) := by decide +kernel
theorem dX4_keep_25 : decode cX4_keep 25 = .ok (.bipush 8, 2) := by decide +kernel
theorem dX4_keep_27 : decode cX4_keep 27 = .ok (.if_icmp .ge 16, 3) := by decide +kernel
theorem dX4_keep_30 : decode cX4_keep 30 = .ok (.aload_n 0, 1) := by decide +kernel
theorem dX4_keep_31 : decode cX4_keep 31 = .ok (.dup, 1) := by decide +kernel
theorem dX4_keep_32 : decode cX4_keep 32 = .ok (.getfield 24, 3) := by decide +kernel
theorem dX4_keep_35 : decode cX4_keep 35 = .ok (.iconst 1, 1) := by decide +kernel
theorem dX4_keep_36 : decode cX4_keep 36 = .ok (.iadd, 1) := by decide +kernel
theorem dX4_keep_37 : decode cX4_keep 37 = .ok (.putfield 24, 3) := by decide +kernel
theorem dX4_keep_40 : decode cX4_keep 40 = .ok (.goto 16, 3) := by decide +kernel
theorem dX4_keep_43 : decode cX4_keep 43 = .ok (.aload_n 0, 1) := by decide +kernel
theorem dX4_keep_44 : decode cX4_keep 44 = .ok (.aload_n 0, 1) := by decide +kernel
theorem dX4_keep_45 : decode cX4_keep 45 = .ok (.getfield 20, 3) := by decide +kernel
theorem dX4_keep_48 : decode cX4_keep 48 = .ok (.iconst 1, 1) := by decide +kernel
theorem dX4_keep_49 : decode cX4_keep 49 = .ok (.iadd, 1) := by decide +kernel
theorem dX4_keep_50 : decode cX4_keep 50 = .ok (.bipush 8, 2) := by decide +kernel
theorem dX4_keep_52 : decode cX4_keep 52 = .ok (.irem, 1) := by decide +kernel
theorem dX4_keep_53 : decode cX4_keep 53 = .ok (.putfield 20, 3) := by decide +kernel
theorem dX4_keep_56 : decode cX4_keep 56 = .ok (.return_, 1) := by decide +kernel
theorem dX4_bringBack_0 : decode cX4_bringBack 0 = .ok (.aload_n 0, 1) := by decide +kernel
theorem dX4_bringBack_1 : decode cX4_bringBack 1 = .ok (.getfield 24, 3) := by decide +kernel
theorem dX4_bringBack_4 : decode cX4_bringBack 4 = .ok (.ifCond .ne 5, 3) := by decide +kernel
theorem dX4_bringBack_7 : decode cX4_bringBack 7 = .ok (.iconst (-1), 1) := by decide +kernel
theorem dX4_bringBack_8 : decode cX4_bringBack 8 = .ok (.ireturn, 1) := by decide +kernel
theorem dX4_bringBack_9 : decode cX4_bringBack 9 = .ok (.aload_n 0, 1) := by decide +kernel
theorem dX4_bringBack_10 : decode cX4_bringBack 10 = .ok (.dup, 1) := by decide +kernel
theorem dX4_bringBack_11 : decode cX4_bringBack 11 = .ok (.getfield 24, 3) := by decide +kernel
theorem dX4_bringBack_14 : decode cX4_bringBack 14 = .ok (.iconst 1, 1) := by decide +kernel
theorem dX4_bringBack_15 : decode cX4_bringBack 15 = .ok (.isub, 1) := by decide +kernel
theorem dX4_bringBack_16 : decode cX4_bringBack 16 = .ok (.putfield 24, 3) := by decide +kernel
theorem dX4_bringBack_19 : decode cX4_bringBack 19 = .ok (.aload_n 1, 1) := by decide +kernel
theorem dX4_bringBack_20 : decode cX4_bringBack 20 = .ok (.aload_n 0, 1) := by decide +kernel
theorem dX4_bringBack_21 : decode cX4_bringBack 21 = .ok (.getfield 11, 3) := by decide +kernel
theorem dX4_bringBack_24 : decode cX4_bringBack 24 = .ok (.aload_n 0, 1) := by decide +kernel
theorem dX4_bringBack_25 : decode cX4_bringBack 25 = .ok (.getfield 20, 3) := by decide +kernel
theorem dX4_bringBack_28 : decode cX4_bringBack 28 = .ok (.aload_n 0, 1) := by decide +kernel
theorem dX4_bringBack_29 : decode cX4_bringBack 29 = .ok (.getfield 24, 3) := by decide +kernel
theorem dX4_bringBack_32 : decode cX4_bringBack 32 = .ok (.iadd, 1) := by decide +kernel
theorem dX4_bringBack_33 : decode cX4_bringBack 33 = .ok (.bipush 8, 2) := by decide +kernel
theorem dX4_bringBack_35 : decode cX4_bringBack 35 = .ok (.irem, 1) := by decide +kernel
theorem dX4_bringBack_36 : decode cX4_bringBack 36 = .ok (.aaload, 1) := by decide +kernel
theorem dX4_bringBack_37 : decode cX4_bringBack 37 = .ok (.invokevirtual 27, 3) := by decide +kernel
theorem dX4_bringBack_40 : decode cX4_bringBack 40 = .ok (.aload_n 0, 1) := by decide +kernel
theorem dX4_bringBack_41 : decode cX4_bringBack 41 = .ok (.getfield 24, 3) := by decide +kernel
theorem dX4_bringBack_44 : decode cX4_bringBack 44 = .ok (.ireturn, 1) := by decide +kernel
theorem dX4_forget_0 : decode cX4_forget 0 = .ok (.aload_n 0, 1) := by decide +kernel
theorem dX4_forget_1 : decode cX4_forget 1 = .ok (.iconst 0, 1) := by decide +kernel
theorem dX4_forget_2 : decode cX4_forget 2 = .ok (.putfield 24, 3) := by decide +kernel
theorem dX4_forget_5 : decode cX4_forget 5 = .ok (.return_, 1) := by decide +kernel
theorem dX5_begin_0 : decode cX5_begin 0 = .ok (.aload_n 0, 1) := by decide +kernel
theorem dX5_begin_1 : decode cX5_begin 1 = .ok (.iload_n 1, 1) := by decide +kernel
theorem dX5_begin_2 : decode cX5_begin 2 = .ok (.putfield 15, 3) := by decide +kernel
theorem dX5_begin_5 : decode cX5_begin 5 = .ok (.aload_n 0, 1) := by decide +kernel
theorem dX5_begin_6 : decode cX5_begin 6 = .ok (.iconst 0, 1) := by decide +kernel
theorem dX5_begin_7 : decode cX5_begin 7 = .ok (.putfield 19, 3) := by decide +kernel
theorem dX5_begin_10 : decode cX5_begin 10 = .ok (.aload_n 0, 1) := by decide +kernel
theorem dX5_begin_11 : decode cX5_begin 11 = .ok (.iconst 0, 1) := by decide +kernel
theorem dX5_begin_12 : decode cX5_begin 12 = .ok (.putfield 22, 3) := by decide +kernel
theorem dX5_begin_15 : decode cX5_begin 15 = .ok (.aload_n 0, 1) := by decide +kernel
theorem dX5_begin_16 : decode cX5_begin 16 = .ok (.iconst 0, 1) := by decide +kernel
theorem dX5_begin_17 : decode cX5_begin 17 = .ok (.putfield 25, 3) := by decide +kernel
theorem dX5_begin_20 : decode cX5_begin 20 = .ok (.aload_n 0, 1) := by decide +kernel
theorem dX5_begin_21 : decode cX5_begin 21 = .ok (.invokevirtual 28, 3) := by decide +kernel
theorem dX5_begin_24 : decode cX5_begin 24 = .ok (.return_, 1) := by decide +kernel
theorem dX6_addByte_0 : decode cX6_addByte 0 = .ok (.aload_n 0, 1) := by decide +kernel
theorem dX6_addByte_1 : decode cX6_addByte 1 = .ok (.getfield 15, 3) := by decide +kernel
theorem dX6_addByte_4 : decode cX6_addByte 4 = .ok (.bipush 64, 2) := by decide +kernel
theorem dX6_addByte_6 : decode cX6_addByte 6 = .ok (.if_icmp .ge 23, 3) := by decide +kernel
theorem dX6_addByte_9 : decode cX6_addByte 9 = .ok (.aload_n 0, 1) := by decide +kernel
theorem dX6_addByte_10 : decode cX6_addByte 10 = .ok (.getfield 9, 3) := by decide +kernel
theorem dX6_addByte_13 : decode cX6_addByte 13 = .ok (.aload_n 0, 1) := by decide +kernel
theorem dX6_addByte_14 : decode cX6_addByte 14 = .ok (.getfield 15, 3) := by decide +kernel
theorem dX6_addByte_17 : decode cX6_addByte 17 = .ok (.iload_n 1, 1) := by decide +kernel
theorem dX6_addByte_18 : decode cX6_addByte 18 = .ok (.iastore, 1) := by decide +kernel
theorem dX6_addByte_19 : decode cX6_addByte 19 = .ok (.aload_n 0, 1) := by decide +kernel
theorem dX6_addByte_20 : decode cX6_addByte 20 = .ok (.dup, 1) := by decide +kernel
theorem dX6_addByte_21 : decode cX6_addByte 21 = .ok (.getfield 15, 3) := by decide +kernel
theorem dX6_addByte_24 : decode cX6_addByte 24 = .ok (.iconst 1, 1) := by decide +kernel
theorem dX6_addByte_25 : decode cX6_addByte 25 = .ok (.iadd, 1) := by decide +kernel
theorem dX6_addByte_26 : decode cX6_addByte 26 = .ok (.putfield 15, 3) := by decide +kernel
theorem dX6_addByte_29 : decode cX6_addByte 29 = .ok (.return_, 1) := by decide +kernel
theorem dX6_addName_0 : decode cX6_addName 0 = .ok (.bipush 30, 2) := by decide +kernel
theorem dX6_addName_2 : decode cX6_addName 2 = .ok (.istore_n 3, 1) := by decide +kernel
theorem dX6_addName_3 : decode cX6_addName 3 = .ok (.iload_n 3, 1) := by decide +kernel
theorem dX6_addName_4 : decode cX6_addName 4 = .ok (.ifCond .lt 35, 3) := by decide +kernel
theorem dX6_addName_7 : decode cX6_addName 7 = .ok (.lload_n 1, 1) := by decide +kernel
theorem dX6_addName_8 : decode cX6_addName 8 = .ok (.iload_n 3, 1) := by decide +kernel
theorem dX6_addName_9 : decode cX6_addName 9 = .ok (.lshr, 1) := by decide +kernel
theorem dX6_addName_10 : decode cX6_addName 10 = .ok (.ldc2_w 96, 3) := by decide +kernel
theorem dX6_addName_13 : decode cX6_addName 13 = .ok (.land, 1) := by decide +kernel
theorem dX6_addName_14 : decode cX6_addName 14 = .ok (.l2i, 1) := by decide +kernel
theorem dX6_addName_15 : decode cX6_addName 15 = .ok (.istore 4, 2) := by decide +kernel
theorem dX6_addName_17 : decode cX6_addName 17 = .ok (.iload 4, 2) := by decide +kernel
theorem dX6_addName_19 : decode cX6_addName 19 = .ok (.ifCond .le 14, 3) := by decide +kernel
theorem dX6_addName_22 : decode cX6_addName 22 = .ok (.aload_n 0, 1) := by decide +kernel
theorem dX6_addName_23 : decode cX6_addName 23 = .ok (.bipush 97, 2) := by decide +kernel
theorem dX6_addName_25 : decode cX6_addName 25 = .ok (.iload 4, 2) := by decide +kernel
theorem dX6_addName_27 : decode cX6_addName 27 = .ok (.iadd, 1) := by decide +kernel
theorem dX6_addName_28 : decode cX6_addName 28 = .ok (.iconst 1, 1) := by decide +kernel
theorem dX6_addName_29 : decode cX6_addName 29 = .ok (.isub, 1) := by decide +kernel
theorem dX6_addName_30 : decode cX6_addName 30 = .ok (.invokevirtual 92, 3) := by decide +kernel
theorem dX6_addName_33 : decode cX6_addName 33 = .ok (.iinc 3 (-5), 3) := by decide +kernel
theorem dX6_addName_36 : decode cX6_addName 36 = .ok (.goto (-33), 3) := by decide +kernel
theorem dX6_addName_39 : decode cX6_addName 39 = .ok (.return_, 1) := by decide +kernel
theorem dX6_addText_0 : decode cX6_addText 0 = .ok (.iconst 0, 1) := by decide +kernel
theorem dX6_addText_1 : decode cX6_addText 1 = .ok (.istore_n 2, 1) := by decide +kernel
theorem dX6_addText_2 : decode cX6_addText 2 = .ok (.iload_n 2, 1) := by decide +kernel
theorem dX6_addText_3 : decode cX6_addText 3 = .ok (.aload_n 1, 1) := by decide +kernel
theorem dX6_addText_4 : decode cX6_addText 4 = .ok (.invokevirtual 83, 3) := by decide +kernel
theorem dX6_addText_7 : decode cX6_addText 7 = .ok (.if_icmp .ge 18, 3) := by decide +kernel
theorem dX6_addText_10 : decode cX6_addText 10 = .ok (.aload_n 0, 1) := by decide +kernel
theorem dX6_addText_11 : decode cX6_addText 11 = .ok (.aload_n 1, 1) := by decide +kernel
theorem dX6_addText_12 : decode cX6_addText 12 = .ok (.iload_n 2, 1) := by decide +kernel
theorem dX6_addText_13 : decode cX6_addText 13 = .ok (.invokevirtual 88, 3) := by decide +kernel
theorem dX6_addText_16 : decode cX6_addText 16 = .ok (.invokevirtual 92, 3) := by decide +kernel
theorem dX6_addText_19 : decode cX6_addText 19 = .ok (.iinc 2 1, 3) := by decide +kernel
theorem dX6_addText_22 : decode cX6_addText 22 = .ok (.goto (-20), 3) := by decide +kernel
theorem dX6_addText_25 : decode cX6_addText 25 = .ok (.return_, 1) := by decide +kernel
theorem dX6_liftText_0 : decode cX6_liftText 0 = .ok (.iload_n 0, 1) := by decide +kernel
theorem dX6_liftText_1 : decode cX6_liftText 1 = .ok (.iconst 1, 1) := by decide +kernel
theorem dX6_liftText_2 : decode cX6_liftText 2 = .ok (.if_icmp .ne 12, 3) := by decide +kernel
theorem dX6_liftText_5 : decode cX6_liftText 5 = .ok (.getstatic 67, 3) := by decide +kernel
theorem dX6_liftText_8 : decode cX6_liftText 8 = .ok (.getfield 73, 3) := by decide +kernel
theorem dX6_liftText_11 : decode cX6_liftText 11 = .ok (.goto 23, 3) := by decide +kernel
theorem dX6_liftText_14 : decode cX6_liftText 14 = .ok (.iload_n 0, 1) := by decide +kernel
theorem dX6_liftText_15 : decode cX6_liftText 15 = .ok (.iconst 2, 1) := by decide +kernel
theorem dX6_liftText_16 : decode cX6_liftText 16 = .ok (.if_icmp .ne 12, 3) := by decide +kernel
theorem dX6_liftText_19 : decode cX6_liftText 19 = .ok (.getstatic 77, 3) := by decide +kernel
theorem dX6_liftText_22 : decode cX6_liftText 22 = .ok (.getfield 73, 3) := by decide +kernel
theorem dX6_liftText_25 : decode cX6_liftText 25 = .ok (.goto 9, 3) := by decide +kernel
theorem dX6_liftText_28 : decode cX6_liftText 28 = .ok (.getstatic 80, 3) := by decide +kernel
theorem dX6_liftText_31 : decode cX6_liftText 31 = .ok (.getfield 73, 3) := by decide +kernel
theorem dX6_liftText_34 : decode cX6_liftText 34 = .ok (.areturn, 1) := by decide +kernel
theorem dX6_write_0 : decode cX6_write 0 = .ok (.aload_n 0, 1) := by decide +kernel
theorem dX6_write_1 : decode cX6_write 1 = .ok (.iconst 0, 1) := by decide +kernel
theorem dX6_write_2 : decode cX6_write 2 = .ok (.putfield 15, 3) := by decide +kernel
theorem dX6_write_5 : decode cX6_write 5 = .ok (.aload_n 0, 1) := by decide +kernel
theorem dX6_write_6 : decode cX6_write 6 = .ok (.aload_n 2, 1) := by decide +kernel
theorem dX6_write_7 : decode cX6_write 7 = .ok (.getfield 19, 3) := by decide +kernel
theorem dX6_write_10 : decode cX6_write 10 = .ok (.getfield 25, 3) := by decide +kernel
theorem dX6_write_13 : decode cX6_write 13 = .ok (.iload_n 1, 1) := by decide +kernel
theorem dX6_write_14 : decode cX6_write 14 = .ok (.laload, 1) := by decide +kernel
theorem dX6_write_15 : decode cX6_write 15 = .ok (.invokevirtual 31, 3) := by decide +kernel
theorem dX6_write_18 : decode cX6_write 18 = .ok (.aload_n 2, 1) := by decide +kernel
theorem dX6_write_19 : decode cX6_write 19 = .ok (.getfield 35, 3) := by decide +kernel
theorem dX6_write_22 : decode cX6_write 22 = .ok (.iload_n 1, 1) := by decide +kernel
theorem dX6_write_23 : decode cX6_write 23 = .ok (.iaload, 1) := by decide +kernel
theorem dX6_write_24 : decode cX6_write 24 = .ok (.istore_n 3, 1) := by decide +kernel
theorem dX6_write_25 : decode cX6_write 25 = .ok (.iload_n 3, 1) := by decide +kernel
theorem dX6_write_26 : decode cX6_write 26 = .ok (.iconst (-1), 1) := by decide +kernel
theorem dX6_write_27 : decode cX6_write 27 = .ok (.if_icmp .ne 12, 3) := by decide +kernel
theorem dX6_write_30 : decode cX6_write 30 = .ok (.aload_n 0, 1) := by decide +kernel
theorem dX6_write_31 : decode cX6_write 31 = .ok (.ldc 38, 2) := by decide +kernel
theorem dX6_write_33 : decode cX6_write 33 = .ok (.invokevirtual 40, 3) := by decide +kernel
theorem dX6_write_36 : decode cX6_write 36 = .ok (.goto 22, 3) := by decide +kernel
theorem dX6_write_39 : decode cX6_write 39 = .ok (.aload_n 0, 1) := by decide +kernel
theorem dX6_write_40 : decode cX6_write 40 = .ok (.ldc 44, 2) := by decide +kernel
theorem dX6_write_42 : decode cX6_write 42 = .ok (.invokevirtual 40, 3) := by decide +kernel
theorem dX6_write_45 : decode cX6_write 45 = .ok (.aload_n 0, 1) := by decide +kernel
theorem dX6_write_46 : decode cX6_write 46 = .ok (.aload_n 2, 1) := by decide +kernel
theorem dX6_write_47 : decode cX6_write 47 = .ok (.getfield 19, 3) := by decide +kernel
theorem dX6_write_50 : decode cX6_write 50 = .ok (.getfield 46, 3) := by decide +kernel
theorem dX6_write_53 : decode cX6_write 53 = .ok (.iload_n 3, 1) := by decide +kernel
theorem dX6_write_54 : decode cX6_write 54 = .ok (.laload, 1) := by decide +kernel
theorem dX6_write_55 : decode cX6_write 55 = .ok (.invokevirtual 31, 3) := by decide +kernel
theorem dX6_write_58 : decode cX6_write 58 = .ok (.aload_n 2, 1) := by decide +kernel
theorem dX6_write_59 : decode cX6_write 59 = .ok (.getfield 49, 3) := by decide +kernel
theorem dX6_write_62 : decode cX6_write 62 = .ok (.iload_n 1, 1) := by decide +kernel
theorem dX6_write_63 : decode cX6_write 63 = .ok (.iaload, 1) := by decide +kernel
theorem dX6_write_64 : decode cX6_write 64 = .ok (.ifCond .eq 22, 3) := by decide +kernel
theorem dX6_write_67 : decode cX6_write 67 = .ok (.aload_n 0, 1) := by decide +kernel
theorem dX6_write_68 : decode cX6_write 68 = .ok (.ldc 52, 2) := by decide +kernel
theorem dX6_write_70 : decode cX6_write 70 = .ok (.invokevirtual 40, 3) := by decide +kernel
theorem dX6_write_73 : decode cX6_write 73 = .ok (.aload_n 0, 1) := by decide +kernel
theorem dX6_write_74 : decode cX6_write 74 = .ok (.aload_n 2, 1) := by decide +kernel
theorem dX6_write_75 : decode cX6_write 75 = .ok (.getfield 49, 3) := by decide +kernel
theorem dX6_write_78 : decode cX6_write 78 = .ok (.iload_n 1, 1) := by decide +kernel
theorem dX6_write_79 : decode cX6_write 79 = .ok (.iaload, 1) := by decide +kernel
theorem dX6_write_80 : decode cX6_write 80 = .ok (.invokestatic 54, 3) := by decide +kernel
theorem dX6_write_83 : decode cX6_write 83 = .ok (.invokevirtual 40, 3) := by decide +kernel
theorem dX6_write_86 : decode cX6_write 86 = .ok (.aload_n 2, 1) := by decide +kernel
theorem dX6_write_87 : decode cX6_write 87 = .ok (.getfield 58, 3) := by decide +kernel
theorem dX6_write_90 : decode cX6_write 90 = .ok (.iload_n 1, 1) := by decide +kernel
theorem dX6_write_91 : decode cX6_write 91 = .ok (.invokestatic 61, 3) := by decide +kernel
theorem dX6_write_94 : decode cX6_write 94 = .ok (.iconst 1, 1) := by decide +kernel
theorem dX6_write_95 : decode cX6_write 95 = .ok (.if_icmp .ne 9, 3) := by decide +kernel
theorem dX6_write_98 : decode cX6_write 98 = .ok (.aload_n 0, 1) := by decide +kernel
theorem dX6_write_99 : decode cX6_write 99 = .ok (.ldc 65, 2) := by decide +kernel
theorem dX6_write_101 : decode cX6_write 101 = .ok (.invokevirtual 40, 3) := by decide +kernel
theorem dX6_write_104 : decode cX6_write 104 = .ok (.return_, 1) := by decide +kernel
theorem dX7_forget_0 : decode cX7_forget 0 = .ok (.aload_n 0, 1) := by decide +kernel
theorem dX7_forget_1 : decode cX7_forget 1 = .ok (.iconst 0, 1) := by decide +kernel
theorem dX7_forget_2 : decode cX7_forget 2 = .ok (.putfield 27, 3) := by decide +kernel
theorem dX7_forget_5 : decode cX7_forget 5 = .ok (.aload_n 0, 1) := by decide +kernel
theorem dX7_forget_6 : decode cX7_forget 6 = .ok (.iconst 0, 1) := by decide +kernel
theorem dX7_forget_7 : decode cX7_forget 7 = .ok (.putfield 31, 3) := by decide +kernel
theorem dX7_forget_10 : decode cX7_forget 10 = .ok (.return_, 1) := by decide +kernel
theorem dX7_add_0 : decode cX7_add 0 = .ok (.aload_n 0, 1) := by decide +kernel
theorem dX7_add_1 : decode cX7_add 1 = .ok (.getfield 31, 3) := by decide +kernel
theorem dX7_add_4 : decode cX7_add 4 = .ok (.bipush 40, 2) := by decide +kernel
theorem dX7_add_6 : decode cX7_add 6 = .ok (.if_icmp .ge 43, 3) := by decide +kernel
theorem dX7_add_9 : decode cX7_add 9 = .ok (.aload_n 0, 1) := by decide +kernel
theorem dX7_add_10 : decode cX7_add 10 = .ok (.getfield 11, 3) := by decide +kernel
theorem dX7_add_13 : decode cX7_add 13 = .ok (.aload_n 0, 1) := by decide +kernel
theorem dX7_add_14 : decode cX7_add 14 = .ok (.getfield 31, 3) := by decide +kernel
theorem dX7_add_17 : decode cX7_add 17 = .ok (.aload_n 1, 1) := by decide +kernel
theorem dX7_add_18 : decode cX7_add 18 = .ok (.aastore, 1) := by decide +kernel
theorem dX7_add_19 : decode cX7_add 19 = .ok (.aload_n 0, 1) := by decide +kernel
theorem dX7_add_20 : decode cX7_add 20 = .ok (.getfield 17, 3) := by decide +kernel
theorem dX7_add_23 : decode cX7_add 23 = .ok (.aload_n 0, 1) := by decide +kernel
theorem dX7_add_24 : decode cX7_add 24 = .ok (.getfield 31, 3) := by decide +kernel
theorem dX7_add_27 : decode cX7_add 27 = .ok (.iload_n 2, 1) := by decide +kernel
theorem dX7_add_28 : decode cX7_add 28 = .ok (.iastore, 1) := by decide +kernel
theorem dX7_add_29 : decode cX7_add 29 = .ok (.aload_n 0, 1) := by decide +kernel
theorem dX7_add_30 : decode cX7_add 30 = .ok (.getfield 21, 3) := by decide +kernel
theorem dX7_add_33 : decode cX7_add 33 = .ok (.aload_n 0, 1) := by decide +kernel
theorem dX7_add_34 : decode cX7_add 34 = .ok (.getfield 31, 3) := by decide +kernel
theorem dX7_add_37 : decode cX7_add 37 = .ok (.iload_n 3, 1) := by decide +kernel
theorem dX7_add_38 : decode cX7_add 38 = .ok (.iastore, 1) := by decide +kernel
theorem dX7_add_39 : decode cX7_add 39 = .ok (.aload_n 0, 1) := by decide +kernel
theorem dX7_add_40 : decode cX7_add 40 = .ok (.dup, 1) := by decide +kernel
theorem dX7_add_41 : decode cX7_add 41 = .ok (.getfield 31, 3) := by decide +kernel
theorem dX7_add_44 : decode cX7_add 44 = .ok (.iconst 1, 1) := by decide +kernel
theorem dX7_add_45 : decode cX7_add 45 = .ok (.iadd, 1) := by decide +kernel
theorem dX7_add_46 : decode cX7_add 46 = .ok (.putfield 31, 3) := by decide +kernel
theorem dX7_add_49 : decode cX7_add 49 = .ok (.return_, 1) := by decide +kernel
theorem dX7_canBegin_0 : decode cX7_canBegin 0 = .ok (.aload_n 0, 1) := by decide +kernel
theorem dX7_canBegin_1 : decode cX7_canBegin 1 = .ok (.getstatic 76, 3) := by decide +kernel
theorem dX7_canBegin_4 : decode cX7_canBegin 4 = .ok (.if_acmp .eq 15, 3) := by decide +kernel
theorem dX7_canBegin_7 : decode cX7_canBegin 7 = .ok (.aload_n 0, 1) := by decide +kernel
theorem dX7_canBegin_8 : decode cX7_canBegin 8 = .ok (.ifnull 15, 3) := by decide +kernel
theorem dX7_canBegin_11 : decode cX7_canBegin 11 = .ok (.aload_n 0, 1) := by decide +kernel
theorem dX7_canBegin_12 : decode cX7_canBegin 12 = .ok (.getfield 83, 3) := by decide +kernel
theorem dX7_canBegin_15 : decode cX7_canBegin 15 = .ok (.iconst 4, 1) := by decide +kernel
theorem dX7_canBegin_16 : decode cX7_canBegin 16 = .ok (.if_icmp .lt 7, 3) := by decide +kernel
theorem dX7_canBegin_19 : decode cX7_canBegin 19 = .ok (.iconst 1, 1) := by decide +kernel
theorem dX7_canBegin_20 : decode cX7_canBegin 20 = .ok (.goto 4, 3) := by decide +kernel
theorem dX7_canBegin_23 : decode cX7_canBegin 23 = .ok (.iconst 0, 1) := by decide +kernel
theorem dX7_canBegin_24 : decode cX7_canBegin 24 = .ok (.ireturn, 1) := by decide +kernel
theorem dX7_readPlain_0 : decode cX7_readPlain 0 = .ok (.iconst 0, 1) := by decide +kernel
theorem dX7_readPlain_1 : decode cX7_readPlain 1 = .ok (.istore 4, 2) := by decide +kernel
theorem dX7_readPlain_3 : decode cX7_readPlain 3 = .ok (.iconst 0, 1) := by decide +kernel
theorem dX7_readPlain_4 : decode cX7_readPlain 4 = .ok (.istore 5, 2) := by decide +kernel
theorem dX7_readPlain_6 : decode cX7_readPlain 6 = .ok (.aload_n 1, 1) := by decide +kernel
theorem dX7_readPlain_7 : decode cX7_readPlain 7 = .ok (.getfield 83, 3) := by decide +kernel
theorem dX7_readPlain_10 : decode cX7_readPlain 10 = .ok (.iconst 5, 1) := by decide +kernel
theorem dX7_readPlain_11 : decode cX7_readPlain 11 = .ok (.if_icmp .ne 13, 3) := by decide +kernel
theorem dX7_readPlain_14 : decode cX7_readPlain 14 = .ok (.aload_n 2, 1) := by decide +kernel
theorem dX7_readPlain_15 : decode cX7_readPlain 15 = .ok (.aload_n 3, 1) := by decide +kernel
theorem dX7_readPlain_16 : decode cX7_readPlain 16 = .ok (.invokevirtual 86, 3) := by decide +kernel
theorem dX7_readPlain_19 : decode cX7_readPlain 19 = .ok (.istore 4, 2) := by decide +kernel
theorem dX7_readPlain_21 : decode cX7_readPlain 21 = .ok (.goto 78, 3) := by decide +kernel
theorem dX7_readPlain_24 : decode cX7_readPlain 24 = .ok (.aload_n 1, 1) := by decide +kernel
theorem dX7_readPlain_25 : decode cX7_readPlain 25 = .ok (.getfield 83, 3) := by decide +kernel
theorem dX7_readPlain_28 : decode cX7_readPlain 28 = .ok (.bipush 6, 2) := by decide +kernel
theorem dX7_readPlain_30 : decode cX7_readPlain 30 = .ok (.if_icmp .ne 13, 3) := by decide +kernel
theorem dX7_readPlain_33 : decode cX7_readPlain 33 = .ok (.aload_n 2, 1) := by decide +kernel
theorem dX7_readPlain_34 : decode cX7_readPlain 34 = .ok (.aload_n 3, 1) := by decide +kernel
theorem dX7_readPlain_35 : decode cX7_readPlain 35 = .ok (.invokevirtual 90, 3) := by decide +kernel
theorem dX7_readPlain_38 : decode cX7_readPlain 38 = .ok (.istore 4, 2) := by decide +kernel
theorem dX7_readPlain_40 : decode cX7_readPlain 40 = .ok (.goto 59, 3) := by decide +kernel
theorem dX7_readPlain_43 : decode cX7_readPlain 43 = .ok (.aload_n 1, 1) := by decide +kernel
theorem dX7_readPlain_44 : decode cX7_readPlain 44 = .ok (.getfield 83, 3) := by decide +kernel
theorem dX7_readPlain_47 : decode cX7_readPlain 47 = .ok (.bipush 7, 2) := by decide +kernel
theorem dX7_readPlain_49 : decode cX7_readPlain 49 = .ok (.if_icmp .ne 50, 3) := by decide +kernel
theorem dX7_readPlain_52 : decode cX7_readPlain 52 = .ok (.aload_n 2, 1) := by decide +kernel
theorem dX7_readPlain_53 : decode cX7_readPlain 53 = .ok (.getfield 60, 3) := by decide +kernel
theorem dX7_readPlain_56 : decode cX7_readPlain 56 = .ok (.istore 5, 2) := by decide +kernel
theorem dX7_readPlain_58 : decode cX7_readPlain 58 = .ok (.iload 5, 2) := by decide +kernel
theorem dX7_readPlain_60 : decode cX7_readPlain 60 = .ok (.bipush 60, 2) := by decide +kernel
theorem dX7_readPlain_62 : decode cX7_readPlain 62 = .ok (.if_icmp .eq 23, 3) := by decide +kernel
theorem dX7_readPlain_65 : decode cX7_readPlain 65 = .ok (.iload 5, 2) := by decide +kernel
theorem dX7_readPlain_67 : decode cX7_readPlain 67 = .ok (.bipush 61, 2) := by decide +kernel
theorem dX7_readPlain_69 : decode cX7_readPlain 69 = .ok (.if_icmp .eq 16, 3) := by decide +kernel
theorem dX7_readPlain_72 : decode cX7_readPlain 72 = .ok (.iload 5, 2) := by decide +kernel
theorem dX7_readPlain_74 : decode cX7_readPlain 74 = .ok (.bipush 62, 2) := by decide +kernel
theorem dX7_readPlain_76 : decode cX7_readPlain 76 = .ok (.if_icmp .eq 9, 3) := by decide +kernel
theorem dX7_readPlain_79 : decode cX7_readPlain 79 = .ok (.aload_n 2, 1) := by decide +kernel
theorem dX7_readPlain_80 : decode cX7_readPlain 80 = .ok (.iconst 1, 1) := by decide +kernel
theorem dX7_readPlain_81 : decode cX7_readPlain 81 = .ok (.invokevirtual 66, 3) := by decide +kernel
theorem dX7_readPlain_84 : decode cX7_readPlain 84 = .ok (.ireturn, 1) := by decide +kernel
theorem dX7_readPlain_85 : decode cX7_readPlain 85 = .ok (.aload_n 2, 1) := by decide +kernel
theorem dX7_readPlain_86 : decode cX7_readPlain 86 = .ok (.invokevirtual 47, 3) := by decide +kernel
theorem dX7_readPlain_89 : decode cX7_readPlain 89 = .ok (.aload_n 2, 1) := by decide +kernel
theorem dX7_readPlain_90 : decode cX7_readPlain 90 = .ok (.iconst 0, 1) := by decide +kernel
theorem dX7_readPlain_91 : decode cX7_readPlain 91 = .ok (.sipush 999, 3) := by decide +kernel
theorem dX7_readPlain_94 : decode cX7_readPlain 94 = .ok (.invokevirtual 93, 3) := by decide +kernel
theorem dX7_readPlain_97 : decode cX7_readPlain 97 = .ok (.istore 4, 2) := by decide +kernel
theorem dX7_readPlain_99 : decode cX7_readPlain 99 = .ok (.iload 4, 2) := by decide +kernel
theorem dX7_readPlain_101 : decode cX7_readPlain 101 = .ok (.iconst (-1), 1) := by decide +kernel
theorem dX7_readPlain_102 : decode cX7_readPlain 102 = .ok (.if_icmp .ne 5, 3) := by decide +kernel
theorem dX7_readPlain_105 : decode cX7_readPlain 105 = .ok (.iconst 0, 1) := by decide +kernel
theorem dX7_readPlain_106 : decode cX7_readPlain 106 = .ok (.ireturn, 1) := by decide +kernel
theorem dX7_readPlain_107 : decode cX7_readPlain 107 = .ok (.aload_n 1, 1) := by decide +kernel
theorem dX7_readPlain_108 : decode cX7_readPlain 108 = .ok (.getfield 83, 3) := by decide +kernel
theorem dX7_readPlain_111 : decode cX7_readPlain 111 = .ok (.iconst 4, 1) := by decide +kernel
theorem dX7_readPlain_112 : decode cX7_readPlain 112 = .ok (.if_icmp .eq 7, 3) := by decide +kernel
theorem dX7_readPlain_115 : decode cX7_readPlain 115 = .ok (.aload_n 2, 1) := by decide +kernel
theorem dX7_readPlain_116 : decode cX7_readPlain 116 = .ok (.invokevirtual 47, 3) := by decide +kernel
theorem dX7_readPlain_119 : decode cX7_readPlain 119 = .ok (.aload_n 0, 1) := by decide +kernel
theorem dX7_readPlain_120 : decode cX7_readPlain 120 = .ok (.aload_n 1, 1) := by decide +kernel
theorem dX7_readPlain_121 : decode cX7_readPlain 121 = .ok (.iload 4, 2) := by decide +kernel
theorem dX7_readPlain_123 : decode cX7_readPlain 123 = .ok (.iload 5, 2) := by decide +kernel
theorem dX7_readPlain_125 : decode cX7_readPlain 125 = .ok (.invokevirtual 50, 3) := by decide +kernel
theorem dX7_readPlain_128 : decode cX7_readPlain 128 = .ok (.iconst 1, 1) := by decide +kernel
theorem dX7_readPlain_129 : decode cX7_readPlain 129 = .ok (.ireturn, 1) := by decide +kernel
theorem dX7_readOne_0 : decode cX7_readOne 0 = .ok (.aload_n 1, 1) := by decide +kernel
theorem dX7_readOne_1 : decode cX7_readOne 1 = .ok (.getfield 60, 3) := by decide +kernel
theorem dX7_readOne_4 : decode cX7_readOne 4 = .ok (.bipush 40, 2) := by decide +kernel
theorem dX7_readOne_6 : decode cX7_readOne 6 = .ok (.if_icmp .ne 7, 3) := by decide +kernel
theorem dX7_readOne_9 : decode cX7_readOne 9 = .ok (.iconst 1, 1) := by decide +kernel
theorem dX7_readOne_10 : decode cX7_readOne 10 = .ok (.goto 4, 3) := by decide +kernel
theorem dX7_readOne_13 : decode cX7_readOne 13 = .ok (.iconst 0, 1) := by decide +kernel
theorem dX7_readOne_14 : decode cX7_readOne 14 = .ok (.istore 4, 2) := by decide +kernel
theorem dX7_readOne_16 : decode cX7_readOne 16 = .ok (.aload_n 1, 1) := by decide +kernel
theorem dX7_readOne_17 : decode cX7_readOne 17 = .ok (.getfield 38, 3) := by decide +kernel
theorem dX7_readOne_20 : decode cX7_readOne 20 = .ok (.astore 5, 2) := by decide +kernel
theorem dX7_readOne_22 : decode cX7_readOne 22 = .ok (.iload 4, 2) := by decide +kernel
theorem dX7_readOne_24 : decode cX7_readOne 24 = .ok (.ifCond .ne 17, 3) := by decide +kernel
theorem dX7_readOne_27 : decode cX7_readOne 27 = .ok (.aload 5, 2) := by decide +kernel
theorem dX7_readOne_29 : decode cX7_readOne 29 = .ok (.invokestatic 62, 3) := by decide +kernel
theorem dX7_readOne_32 : decode cX7_readOne 32 = .ok (.ifCond .ne 9, 3) := by decide +kernel
theorem dX7_readOne_35 : decode cX7_readOne 35 = .ok (.aload_n 1, 1) := by decide +kernel
theorem dX7_readOne_36 : decode cX7_readOne 36 = .ok (.iconst 1, 1) := by decide +kernel
theorem dX7_readOne_37 : decode cX7_readOne 37 = .ok (.invokevirtual 66, 3) := by decide +kernel
theorem dX7_readOne_40 : decode cX7_readOne 40 = .ok (.ireturn, 1) := by decide +kernel
theorem dX7_readOne_41 : decode cX7_readOne 41 = .ok (.aload_n 0, 1) := by decide +kernel
theorem dX7_readOne_42 : decode cX7_readOne 42 = .ok (.getfield 27, 3) := by decide +kernel
theorem dX7_readOne_45 : decode cX7_readOne 45 = .ok (.bipush 20, 2) := by decide +kernel
theorem dX7_readOne_47 : decode cX7_readOne 47 = .ok (.if_icmp .ge 9, 3) := by decide +kernel
theorem dX7_readOne_50 : decode cX7_readOne 50 = .ok (.iload_n 3, 1) := by decide +kernel
theorem dX7_readOne_51 : decode cX7_readOne 51 = .ok (.bipush 8, 2) := by decide +kernel
theorem dX7_readOne_53 : decode cX7_readOne 53 = .ok (.if_icmp .le 9, 3) := by decide +kernel
theorem dX7_readOne_56 : decode cX7_readOne 56 = .ok (.aload_n 1, 1) := by decide +kernel
theorem dX7_readOne_57 : decode cX7_readOne 57 = .ok (.iconst 4, 1) := by decide +kernel
theorem dX7_readOne_58 : decode cX7_readOne 58 = .ok (.invokevirtual 66, 3) := by decide +kernel
theorem dX7_readOne_61 : decode cX7_readOne 61 = .ok (.ireturn, 1) := by decide +kernel
theorem dX7_readOne_62 : decode cX7_readOne 62 = .ok (.aload_n 0, 1) := by decide +kernel
theorem dX7_readOne_63 : decode cX7_readOne 63 = .ok (.dup, 1) := by decide +kernel
theorem dX7_readOne_64 : decode cX7_readOne 64 = .ok (.getfield 27, 3) := by decide +kernel
theorem dX7_readOne_67 : decode cX7_readOne 67 = .ok (.iconst 1, 1) := by decide +kernel
theorem dX7_readOne_68 : decode cX7_readOne 68 = .ok (.iadd, 1) := by decide +kernel
theorem dX7_readOne_69 : decode cX7_readOne 69 = .ok (.putfield 27, 3) := by decide +kernel
theorem dX7_readOne_72 : decode cX7_readOne 72 = .ok (.aload_n 1, 1) := by decide +kernel
theorem dX7_readOne_73 : decode cX7_readOne 73 = .ok (.invokevirtual 47, 3) := by decide +kernel
theorem dX7_readOne_76 : decode cX7_readOne 76 = .ok (.iload 4, 2) := by decide +kernel
theorem dX7_readOne_78 : decode cX7_readOne 78 = .ok (.ifCond .eq 30, 3) := by decide +kernel
theorem dX7_readOne_81 : decode cX7_readOne 81 = .ok (.aload_n 0, 1) := by decide +kernel
theorem dX7_readOne_82 : decode cX7_readOne 82 = .ok (.aload_n 1, 1) := by decide +kernel
theorem dX7_readOne_83 : decode cX7_readOne 83 = .ok (.aload_n 2, 1) := by decide +kernel
theorem dX7_readOne_84 : decode cX7_readOne 84 = .ok (.iload_n 3, 1) := by decide +kernel
theorem dX7_readOne_85 : decode cX7_readOne 85 = .ok (.iconst 1, 1) := by decide +kernel
theorem dX7_readOne_86 : decode cX7_readOne 86 = .ok (.iadd, 1) := by decide +kernel
theorem dX7_readOne_87 : decode cX7_readOne 87 = .ok (.invokevirtual 70, 3) := by decide +kernel
theorem dX7_readOne_90 : decode cX7_readOne 90 = .ok (.ifCond .eq 16, 3) := by decide +kernel
theorem dX7_readOne_93 : decode cX7_readOne 93 = .ok (.aload_n 1, 1) := by decide +kernel
theorem dX7_readOne_94 : decode cX7_readOne 94 = .ok (.bipush 41, 2) := by decide +kernel
theorem dX7_readOne_96 : decode cX7_readOne 96 = .ok (.invokevirtual 73, 3) := by decide +kernel
theorem dX7_readOne_99 : decode cX7_readOne 99 = .ok (.ifCond .eq 7, 3) := by decide +kernel
theorem dX7_readOne_102 : decode cX7_readOne 102 = .ok (.iconst 1, 1) := by decide +kernel
theorem dX7_readOne_103 : decode cX7_readOne 103 = .ok (.goto 4, 3) := by decide +kernel
theorem dX7_readOne_106 : decode cX7_readOne 106 = .ok (.iconst 0, 1) := by decide +kernel
theorem dX7_readOne_107 : decode cX7_readOne 107 = .ok (.ireturn, 1) := by decide +kernel
theorem dX7_readOne_108 : decode cX7_readOne 108 = .ok (.aload 5, 2) := by decide +kernel
theorem dX7_readOne_110 : decode cX7_readOne 110 = .ok (.getstatic 76, 3) := by decide +kernel
theorem dX7_readOne_113 : decode cX7_readOne 113 = .ok (.if_acmp .ne 28, 3) := by decide +kernel
theorem dX7_readOne_116 : decode cX7_readOne 116 = .ok (.aload_n 0, 1) := by decide +kernel
theorem dX7_readOne_117 : decode cX7_readOne 117 = .ok (.aload_n 1, 1) := by decide +kernel
theorem dX7_readOne_118 : decode cX7_readOne 118 = .ok (.aload_n 2, 1) := by decide +kernel
theorem dX7_readOne_119 : decode cX7_readOne 119 = .ok (.iload_n 3, 1) := by decide +kernel
theorem dX7_readOne_120 : decode cX7_readOne 120 = .ok (.iconst 1, 1) := by decide +kernel
theorem dX7_readOne_121 : decode cX7_readOne 121 = .ok (.iadd, 1) := by decide +kernel
theorem dX7_readOne_122 : decode cX7_readOne 122 = .ok (.invokevirtual 54, 3) := by decide +kernel
theorem dX7_readOne_125 : decode cX7_readOne 125 = .ok (.ifCond .ne 5, 3) := by decide +kernel
theorem dX7_readOne_128 : decode cX7_readOne 128 = .ok (.iconst 0, 1) := by decide +kernel
theorem dX7_readOne_129 : decode cX7_readOne 129 = .ok (.ireturn, 1) := by decide +kernel
theorem dX7_readOne_130 : decode cX7_readOne 130 = .ok (.aload_n 0, 1) := by decide +kernel
theorem dX7_readOne_131 : decode cX7_readOne 131 = .ok (.getstatic 76, 3) := by decide +kernel
theorem dX7_readOne_134 : decode cX7_readOne 134 = .ok (.iconst 0, 1) := by decide +kernel
theorem dX7_readOne_135 : decode cX7_readOne 135 = .ok (.iconst 0, 1) := by decide +kernel
theorem dX7_readOne_136 : decode cX7_readOne 136 = .ok (.invokevirtual 50, 3) := by decide +kernel
theorem dX7_readOne_139 : decode cX7_readOne 139 = .ok (.iconst 1, 1) := by decide +kernel
theorem dX7_readOne_140 : decode cX7_readOne 140 = .ok (.ireturn, 1) := by decide +kernel
theorem dX7_readOne_141 : decode cX7_readOne 141 = .ok (.aload_n 0, 1) := by decide +kernel
theorem dX7_readOne_142 : decode cX7_readOne 142 = .ok (.aload 5, 2) := by decide +kernel
theorem dX7_readOne_144 : decode cX7_readOne 144 = .ok (.aload_n 1, 1) := by decide +kernel
theorem dX7_readOne_145 : decode cX7_readOne 145 = .ok (.aload_n 2, 1) := by decide +kernel
theorem dX7_readOne_146 : decode cX7_readOne 146 = .ok (.invokevirtual 79, 3) := by decide +kernel
theorem dX7_readOne_149 : decode cX7_readOne 149 = .ok (.ireturn, 1) := by decide +kernel
theorem dX7_readAll_0 : decode cX7_readAll 0 = .ok (.aload_n 0, 1) := by decide +kernel
theorem dX7_readAll_1 : decode cX7_readAll 1 = .ok (.aload_n 1, 1) := by decide +kernel
theorem dX7_readAll_2 : decode cX7_readAll 2 = .ok (.aload_n 2, 1) := by decide +kernel
theorem dX7_readAll_3 : decode cX7_readAll 3 = .ok (.iload_n 3, 1) := by decide +kernel
theorem dX7_readAll_4 : decode cX7_readAll 4 = .ok (.invokevirtual 54, 3) := by decide +kernel
theorem dX7_readAll_7 : decode cX7_readAll 7 = .ok (.ifCond .ne 5, 3) := by decide +kernel
theorem dX7_readAll_10 : decode cX7_readAll 10 = .ok (.iconst 0, 1) := by decide +kernel
theorem dX7_readAll_11 : decode cX7_readAll 11 = .ok (.ireturn, 1) := by decide +kernel
theorem dX7_readAll_12 : decode cX7_readAll 12 = .ok (.iconst 0, 1) := by decide +kernel
theorem dX7_readAll_13 : decode cX7_readAll 13 = .ok (.istore 4, 2) := by decide +kernel
theorem dX7_readAll_15 : decode cX7_readAll 15 = .ok (.iload 4, 2) := by decide +kernel
theorem dX7_readAll_17 : decode cX7_readAll 17 = .ok (.bipush 20, 2) := by decide +kernel
theorem dX7_readAll_19 : decode cX7_readAll 19 = .ok (.if_icmp .ge 44, 3) := by decide +kernel
theorem dX7_readAll_22 : decode cX7_readAll 22 = .ok (.aload_n 1, 1) := by decide +kernel
theorem dX7_readAll_23 : decode cX7_readAll 23 = .ok (.getfield 38, 3) := by decide +kernel
theorem dX7_readAll_26 : decode cX7_readAll 26 = .ok (.getstatic 57, 3) := by decide +kernel
theorem dX7_readAll_29 : decode cX7_readAll 29 = .ok (.if_acmp .ne 34, 3) := by decide +kernel
theorem dX7_readAll_32 : decode cX7_readAll 32 = .ok (.aload_n 1, 1) := by decide +kernel
theorem dX7_readAll_33 : decode cX7_readAll 33 = .ok (.invokevirtual 47, 3) := by decide +kernel
theorem dX7_readAll_36 : decode cX7_readAll 36 = .ok (.aload_n 0, 1) := by decide +kernel
theorem dX7_readAll_37 : decode cX7_readAll 37 = .ok (.aload_n 1, 1) := by decide +kernel
theorem dX7_readAll_38 : decode cX7_readAll 38 = .ok (.aload_n 2, 1) := by decide +kernel
theorem dX7_readAll_39 : decode cX7_readAll 39 = .ok (.iload_n 3, 1) := by decide +kernel
theorem dX7_readAll_40 : decode cX7_readAll 40 = .ok (.invokevirtual 54, 3) := by decide +kernel
theorem dX7_readAll_43 : decode cX7_readAll 43 = .ok (.ifCond .ne 5, 3) := by decide +kernel
theorem dX7_readAll_46 : decode cX7_readAll 46 = .ok (.iconst 0, 1) := by decide +kernel
theorem dX7_readAll_47 : decode cX7_readAll 47 = .ok (.ireturn, 1) := by decide +kernel
theorem dX7_readAll_48 : decode cX7_readAll 48 = .ok (.aload_n 0, 1) := by decide +kernel
theorem dX7_readAll_49 : decode cX7_readAll 49 = .ok (.getstatic 57, 3) := by decide +kernel
theorem dX7_readAll_52 : decode cX7_readAll 52 = .ok (.iconst 0, 1) := by decide +kernel
theorem dX7_readAll_53 : decode cX7_readAll 53 = .ok (.iconst 0, 1) := by decide +kernel
theorem dX7_readAll_54 : decode cX7_readAll 54 = .ok (.invokevirtual 50, 3) := by decide +kernel
theorem dX7_readAll_57 : decode cX7_readAll 57 = .ok (.iinc 4 1, 3) := by decide +kernel
theorem dX7_readAll_60 : decode cX7_readAll 60 = .ok (.goto (-45), 3) := by decide +kernel
theorem dX7_readAll_63 : decode cX7_readAll 63 = .ok (.iconst 1, 1) := by decide +kernel
theorem dX7_readAll_64 : decode cX7_readAll 64 = .ok (.ireturn, 1) := by decide +kernel
theorem dX7_readCondition_0 : decode cX7_readCondition 0 = .ok (.aload_n 0, 1) := by decide +kernel
theorem dX7_readCondition_1 : decode cX7_readCondition 1 = .ok (.aload_n 1, 1) := by decide +kernel
theorem dX7_readCondition_2 : decode cX7_readCondition 2 = .ok (.aload_n 2, 1) := by decide +kernel
theorem dX7_readCondition_3 : decode cX7_readCondition 3 = .ok (.iload_n 3, 1) := by decide +kernel
theorem dX7_readCondition_4 : decode cX7_readCondition 4 = .ok (.invokevirtual 34, 3) := by decide +kernel
theorem dX7_readCondition_7 : decode cX7_readCondition 7 = .ok (.ifCond .ne 5, 3) := by decide +kernel
theorem dX7_readCondition_10 : decode cX7_readCondition 10 = .ok (.iconst 0, 1) := by decide +kernel
theorem dX7_readCondition_11 : decode cX7_readCondition 11 = .ok (.ireturn, 1) := by decide +kernel
theorem dX7_readCondition_12 : decode cX7_readCondition 12 = .ok (.iconst 0, 1) := by decide +kernel
theorem dX7_readCondition_13 : decode cX7_readCondition 13 = .ok (.istore 4, 2) := by decide +kernel
theorem dX7_readCondition_15 : decode cX7_readCondition 15 = .ok (.iload 4, 2) := by decide +kernel
theorem dX7_readCondition_17 : decode cX7_readCondition 17 = .ok (.bipush 20, 2) := by decide +kernel
theorem dX7_readCondition_19 : decode cX7_readCondition 19 = .ok (.if_icmp .ge 44, 3) := by decide +kernel
theorem dX7_readCondition_22 : decode cX7_readCondition 22 = .ok (.aload_n 1, 1) := by decide +kernel
theorem dX7_readCondition_23 : decode cX7_readCondition 23 = .ok (.getfield 38, 3) := by decide +kernel
theorem dX7_readCondition_26 : decode cX7_readCondition 26 = .ok (.getstatic 44, 3) := by decide +kernel
theorem dX7_readCondition_29 : decode cX7_readCondition 29 = .ok (.if_acmp .ne 34, 3) := by decide +kernel
theorem dX7_readCondition_32 : decode cX7_readCondition 32 = .ok (.aload_n 1, 1) := by decide +kernel
theorem dX7_readCondition_33 : decode cX7_readCondition 33 = .ok (.invokevirtual 47, 3) := by decide +kernel
theorem dX7_readCondition_36 : decode cX7_readCondition 36 = .ok (.aload_n 0, 1) := by decide +kernel
theorem dX7_readCondition_37 : decode cX7_readCondition 37 = .ok (.aload_n 1, 1) := by decide +kernel
theorem dX7_readCondition_38 : decode cX7_readCondition 38 = .ok (.aload_n 2, 1) := by decide +kernel
theorem dX7_readCondition_39 : decode cX7_readCondition 39 = .ok (.iload_n 3, 1) := by decide +kernel
theorem dX7_readCondition_40 : decode cX7_readCondition 40 = .ok (.invokevirtual 34, 3) := by decide +kernel
theorem dX7_readCondition_43 : decode cX7_readCondition 43 = .ok (.ifCond .ne 5, 3) := by decide +kernel
theorem dX7_readCondition_46 : decode cX7_readCondition 46 = .ok (.iconst 0, 1) := by decide +kernel
theorem dX7_readCondition_47 : decode cX7_readCondition 47 = .ok (.ireturn, 1) := by decide +kernel
theorem dX7_readCondition_48 : decode cX7_readCondition 48 = .ok (.aload_n 0, 1) := by decide +kernel
theorem dX7_readCondition_49 : decode cX7_readCondition 49 = .ok (.getstatic 44, 3) := by decide +kernel
theorem dX7_readCondition_52 : decode cX7_readCondition 52 = .ok (.iconst 0, 1) := by decide +kernel
theorem dX7_readCondition_53 : decode cX7_readCondition 53 = .ok (.iconst 0, 1) := by decide +kernel
theorem dX7_readCondition_54 : decode cX7_readCondition 54 = .ok (.invokevirtual 50, 3) := by decide +kernel
theorem dX7_readCondition_57 : decode cX7_readCondition 57 = .ok (.iinc 4 1, 3) := by decide +kernel
theorem dX7_readCondition_60 : decode cX7_readCondition 60 = .ok (.goto (-45), 3) := by decide +kernel
theorem dX7_readCondition_63 : decode cX7_readCondition 63 = .ok (.iconst 1, 1) := by decide +kernel
theorem dX7_readCondition_64 : decode cX7_readCondition 64 = .ok (.ireturn, 1) := by decide +kernel
theorem dX8_browOf_0 : decode cX8_browOf 0 = .ok (.bipush 9, 2) := by decide +kernel
theorem dX8_browOf_2 : decode cX8_browOf 2 = .ok (.aload_n 0, 1) := by decide +kernel
theorem dX8_browOf_3 : decode cX8_browOf 3 = .ok (.getfield 30, 3) := by decide +kernel
theorem dX8_browOf_6 : decode cX8_browOf 6 = .ok (.getfield 67, 3) := by decide +kernel
theorem dX8_browOf_9 : decode cX8_browOf 9 = .ok (.iload_n 1, 1) := by decide +kernel
theorem dX8_browOf_10 : decode cX8_browOf 10 = .ok (.iaload, 1) := by decide +kernel
theorem dX8_browOf_11 : decode cX8_browOf 11 = .ok (.iconst 3, 1) := by decide +kernel
theorem dX8_browOf_12 : decode cX8_browOf 12 = .ok (.aload_n 0, 1) := by decide +kernel
theorem dX8_browOf_13 : decode cX8_browOf 13 = .ok (.getfield 49, 3) := by decide +kernel
theorem dX8_browOf_16 : decode cX8_browOf 16 = .ok (.iload_n 1, 1) := by decide +kernel
theorem dX8_browOf_17 : decode cX8_browOf 17 = .ok (.invokestatic 70, 3) := by decide +kernel
theorem dX8_browOf_20 : decode cX8_browOf 20 = .ok (.imul, 1) := by decide +kernel
theorem dX8_browOf_21 : decode cX8_browOf 21 = .ok (.iadd, 1) := by decide +kernel
theorem dX8_browOf_22 : decode cX8_browOf 22 = .ok (.invokestatic 74, 3) := by decide +kernel
theorem dX8_browOf_25 : decode cX8_browOf 25 = .ok (.ireturn, 1) := by decide +kernel
theorem dX7_measure_0 : decode cX7_measure 0 = .ok (.aload_n 0, 1) := by decide +kernel
theorem dX7_measure_1 : decode cX7_measure 1 = .ok (.getstatic 180, 3) := by decide +kernel
theorem dX7_measure_4 : decode cX7_measure 4 = .ok (.if_acmp .ne 9, 3) := by decide +kernel
theorem dX7_measure_7 : decode cX7_measure 7 = .ok (.aload_n 2, 1) := by decide +kernel
theorem dX7_measure_8 : decode cX7_measure 8 = .ok (.iload_n 1, 1) := by decide +kernel
theorem dX7_measure_9 : decode cX7_measure 9 = .ok (.invokevirtual 183, 3) := by decide +kernel
theorem dX7_measure_12 : decode cX7_measure 12 = .ok (.ireturn, 1) := by decide +kernel
theorem dX7_measure_13 : decode cX7_measure 13 = .ok (.aload_n 0, 1) := by decide +kernel
theorem dX7_measure_14 : decode cX7_measure 14 = .ok (.getstatic 186, 3) := by decide +kernel
theorem dX7_measure_17 : decode cX7_measure 17 = .ok (.if_acmp .ne 10, 3) := by decide +kernel
theorem dX7_measure_20 : decode cX7_measure 20 = .ok (.aload_n 2, 1) := by decide +kernel
theorem dX7_measure_21 : decode cX7_measure 21 = .ok (.getfield 189, 3) := by decide +kernel
theorem dX7_measure_24 : decode cX7_measure 24 = .ok (.iload_n 1, 1) := by decide +kernel
theorem dX7_measure_25 : decode cX7_measure 25 = .ok (.iaload, 1) := by decide +kernel
theorem dX7_measure_26 : decode cX7_measure 26 = .ok (.ireturn, 1) := by decide +kernel
theorem dX7_measure_27 : decode cX7_measure 27 = .ok (.aload_n 0, 1) := by decide +kernel
theorem dX7_measure_28 : decode cX7_measure 28 = .ok (.getstatic 192, 3) := by decide +kernel
theorem dX7_measure_31 : decode cX7_measure 31 = .ok (.if_acmp .ne 12, 3) := by decide +kernel
theorem dX7_measure_34 : decode cX7_measure 34 = .ok (.aload_n 2, 1) := by decide +kernel
theorem dX7_measure_35 : decode cX7_measure 35 = .ok (.getfield 195, 3) := by decide +kernel
theorem dX7_measure_38 : decode cX7_measure 38 = .ok (.iload_n 1, 1) := by decide +kernel
theorem dX7_measure_39 : decode cX7_measure 39 = .ok (.iaload, 1) := by decide +kernel
theorem dX7_measure_40 : decode cX7_measure 40 = .ok (.goto 4, 3) := by decide +kernel
theorem dX7_measure_43 : decode cX7_measure 43 = .ok (.iload_n 1, 1) := by decide +kernel
theorem dX7_measure_44 : decode cX7_measure 44 = .ok (.ireturn, 1) := by decide +kernel
theorem dJ6_compare_7cf53_0 : decode cJ6_compare_7cf53 0 = .ok (.iload_n 0, 1) := by decide +kernel
theorem dJ6_compare_7cf53_1 : decode cJ6_compare_7cf53 1 = .ok (.iload_n 1, 1) := by decide +kernel
theorem dJ6_compare_7cf53_2 : decode cJ6_compare_7cf53 2 = .ok (.if_icmp .ge 7, 3) := by decide +kernel
theorem dJ6_compare_7cf53_5 : decode cJ6_compare_7cf53 5 = .ok (.iconst (-1), 1) := by decide +kernel
theorem dJ6_compare_7cf53_6 : decode cJ6_compare_7cf53 6 = .ok (.goto 13, 3) := by decide +kernel
theorem dJ6_compare_7cf53_9 : decode cJ6_compare_7cf53 9 = .ok (.iload_n 0, 1) := by decide +kernel
theorem dJ6_compare_7cf53_10 : decode cJ6_compare_7cf53 10 = .ok (.iload_n 1, 1) := by decide +kernel
theorem dJ6_compare_7cf53_11 : decode cJ6_compare_7cf53 11 = .ok (.if_icmp .ne 7, 3) := by decide +kernel
theorem dJ6_compare_7cf53_14 : decode cJ6_compare_7cf53 14 = .ok (.iconst 0, 1) := by decide +kernel
theorem dJ6_compare_7cf53_15 : decode cJ6_compare_7cf53 15 = .ok (.goto 4, 3) := by decide +kernel
theorem dJ6_compare_7cf53_18 : decode cJ6_compare_7cf53 18 = .ok (.iconst 1, 1) := by decide +kernel
theorem dJ6_compare_7cf53_19 : decode cJ6_compare_7cf53 19 = .ok (.ireturn, 1) := by decide +kernel
theorem dX7_menByMeasure_0 : decode cX7_menByMeasure 0 = .ok (.aload_n 0, 1) := by decide +kernel
theorem dX7_menByMeasure_1 : decode cX7_menByMeasure 1 = .ok (.getfield 21, 3) := by decide +kernel
theorem dX7_menByMeasure_4 : decode cX7_menByMeasure 4 = .ok (.iload_n 2, 1) := by decide +kernel
theorem dX7_menByMeasure_5 : decode cX7_menByMeasure 5 = .ok (.iaload, 1) := by decide +kernel
theorem dX7_menByMeasure_6 : decode cX7_menByMeasure 6 = .ok (.bipush 60, 2) := by decide +kernel
theorem dX7_menByMeasure_8 : decode cX7_menByMeasure 8 = .ok (.if_icmp .ne 7, 3) := by decide +kernel
theorem dX7_menByMeasure_11 : decode cX7_menByMeasure 11 = .ok (.iconst (-1), 1) := by decide +kernel
theorem dX7_menByMeasure_12 : decode cX7_menByMeasure 12 = .ok (.goto 19, 3) := by decide +kernel
theorem dX7_menByMeasure_15 : decode cX7_menByMeasure 15 = .ok (.aload_n 0, 1) := by decide +kernel
theorem dX7_menByMeasure_16 : decode cX7_menByMeasure 16 = .ok (.getfield 21, 3) := by decide +kernel
theorem dX7_menByMeasure_19 : decode cX7_menByMeasure 19 = .ok (.iload_n 2, 1) := by decide +kernel
theorem dX7_menByMeasure_20 : decode cX7_menByMeasure 20 = .ok (.iaload, 1) := by decide +kernel
theorem dX7_menByMeasure_21 : decode cX7_menByMeasure 21 = .ok (.bipush 62, 2) := by decide +kernel
theorem dX7_menByMeasure_23 : decode cX7_menByMeasure 23 = .ok (.if_icmp .ne 7, 3) := by decide +kernel
theorem dX7_menByMeasure_26 : decode cX7_menByMeasure 26 = .ok (.iconst 1, 1) := by decide +kernel
theorem dX7_menByMeasure_27 : decode cX7_menByMeasure 27 = .ok (.goto 4, 3) := by decide +kernel
theorem dX7_menByMeasure_30 : decode cX7_menByMeasure 30 = .ok (.iconst 0, 1) := by decide +kernel
theorem dX7_menByMeasure_31 : decode cX7_menByMeasure 31 = .ok (.istore 4, 2) := by decide +kernel
theorem dX7_menByMeasure_33 : decode cX7_menByMeasure 33 = .ok (.iconst 0, 1) := by decide +kernel
theorem dX7_menByMeasure_34 : decode cX7_menByMeasure 34 = .ok (.istore 5, 2) := by decide +kernel
theorem dX7_menByMeasure_36 : decode cX7_menByMeasure 36 = .ok (.iconst 0, 1) := by decide +kernel
theorem dX7_menByMeasure_37 : decode cX7_menByMeasure 37 = .ok (.istore 6, 2) := by decide +kernel
theorem dX7_menByMeasure_39 : decode cX7_menByMeasure 39 = .ok (.iload 6, 2) := by decide +kernel
theorem dX7_menByMeasure_41 : decode cX7_menByMeasure 41 = .ok (.aload_n 3, 1) := by decide +kernel
theorem dX7_menByMeasure_42 : decode cX7_menByMeasure 42 = .ok (.getfield 97, 3) := by decide +kernel
theorem dX7_menByMeasure_45 : decode cX7_menByMeasure 45 = .ok (.getfield 163, 3) := by decide +kernel
theorem dX7_menByMeasure_48 : decode cX7_menByMeasure 48 = .ok (.if_icmp .ge 39, 3) := by decide +kernel
theorem dX7_menByMeasure_51 : decode cX7_menByMeasure 51 = .ok (.aload_n 1, 1) := by decide +kernel
theorem dX7_menByMeasure_52 : decode cX7_menByMeasure 52 = .ok (.iload 6, 2) := by decide +kernel
theorem dX7_menByMeasure_54 : decode cX7_menByMeasure 54 = .ok (.aload_n 3, 1) := by decide +kernel
theorem dX7_menByMeasure_55 : decode cX7_menByMeasure 55 = .ok (.invokestatic 172, 3) := by decide +kernel
theorem dX7_menByMeasure_58 : decode cX7_menByMeasure 58 = .ok (.aload_n 0, 1) := by decide +kernel
theorem dX7_menByMeasure_59 : decode cX7_menByMeasure 59 = .ok (.getfield 17, 3) := by decide +kernel
theorem dX7_menByMeasure_62 : decode cX7_menByMeasure 62 = .ok (.iload_n 2, 1) := by decide +kernel
theorem dX7_menByMeasure_63 : decode cX7_menByMeasure 63 = .ok (.iaload, 1) := by decide +kernel
theorem dX7_menByMeasure_64 : decode cX7_menByMeasure 64 = .ok (.invokestatic 175, 3) := by decide +kernel
theorem dX7_menByMeasure_67 : decode cX7_menByMeasure 67 = .ok (.iload 4, 2) := by decide +kernel
theorem dX7_menByMeasure_69 : decode cX7_menByMeasure 69 = .ok (.if_icmp .ne 12, 3) := by decide +kernel
theorem dX7_menByMeasure_72 : decode cX7_menByMeasure 72 = .ok (.iload 5, 2) := by decide +kernel
theorem dX7_menByMeasure_74 : decode cX7_menByMeasure 74 = .ok (.iconst 1, 1) := by decide +kernel
theorem dX7_menByMeasure_75 : decode cX7_menByMeasure 75 = .ok (.iload 6, 2) := by decide +kernel
theorem dX7_menByMeasure_77 : decode cX7_menByMeasure 77 = .ok (.ishl, 1) := by decide +kernel
theorem dX7_menByMeasure_78 : decode cX7_menByMeasure 78 = .ok (.ior, 1) := by decide +kernel
theorem dX7_menByMeasure_79 : decode cX7_menByMeasure 79 = .ok (.istore 5, 2) := by decide +kernel
theorem dX7_menByMeasure_81 : decode cX7_menByMeasure 81 = .ok (.iinc 6 1, 3) := by decide +kernel
theorem dX7_menByMeasure_84 : decode cX7_menByMeasure 84 = .ok (.goto (-45), 3) := by decide +kernel
theorem dX7_menByMeasure_87 : decode cX7_menByMeasure 87 = .ok (.iload 5, 2) := by decide +kernel
theorem dX7_menByMeasure_89 : decode cX7_menByMeasure 89 = .ok (.ireturn, 1) := by decide +kernel
theorem dX11_far_0 : decode cX11_far 0 = .ok (.iload_n 0, 1) := by decide +kernel
theorem dX11_far_1 : decode cX11_far 1 = .ok (.iload_n 2, 1) := by decide +kernel
theorem dX11_far_2 : decode cX11_far 2 = .ok (.if_icmp .ge 9, 3) := by decide +kernel
theorem dX11_far_5 : decode cX11_far 5 = .ok (.iload_n 2, 1) := by decide +kernel
theorem dX11_far_6 : decode cX11_far 6 = .ok (.iload_n 0, 1) := by decide +kernel
theorem dX11_far_7 : decode cX11_far 7 = .ok (.isub, 1) := by decide +kernel
theorem dX11_far_8 : decode cX11_far 8 = .ok (.goto 6, 3) := by decide +kernel
theorem dX11_far_11 : decode cX11_far 11 = .ok (.iload_n 0, 1) := by decide +kernel
theorem dX11_far_12 : decode cX11_far 12 = .ok (.iload_n 2, 1) := by decide +kernel
theorem dX11_far_13 : decode cX11_far 13 = .ok (.isub, 1) := by decide +kernel
theorem dX11_far_14 : decode cX11_far 14 = .ok (.istore 4, 2) := by decide +kernel
theorem dX11_far_16 : decode cX11_far 16 = .ok (.iload_n 1, 1) := by decide +kernel
theorem dX11_far_17 : decode cX11_far 17 = .ok (.iload_n 3, 1) := by decide +kernel
theorem dX11_far_18 : decode cX11_far 18 = .ok (.if_icmp .ge 9, 3) := by decide +kernel
theorem dX11_far_21 : decode cX11_far 21 = .ok (.iload_n 3, 1) := by decide +kernel
theorem dX11_far_22 : decode cX11_far 22 = .ok (.iload_n 1, 1) := by decide +kernel
theorem dX11_far_23 : decode cX11_far 23 = .ok (.isub, 1) := by decide +kernel
theorem dX11_far_24 : decode cX11_far 24 = .ok (.goto 6, 3) := by decide +kernel
theorem dX11_far_27 : decode cX11_far 27 = .ok (.iload_n 1, 1) := by decide +kernel
theorem dX11_far_28 : decode cX11_far 28 = .ok (.iload_n 3, 1) := by decide +kernel
theorem dX11_far_29 : decode cX11_far 29 = .ok (.isub, 1) := by decide +kernel
theorem dX11_far_30 : decode cX11_far 30 = .ok (.istore 5, 2) := by decide +kernel
theorem dX11_far_32 : decode cX11_far 32 = .ok (.iload 4, 2) := by decide +kernel
theorem dX11_far_34 : decode cX11_far 34 = .ok (.iload 5, 2) := by decide +kernel
theorem dX11_far_36 : decode cX11_far 36 = .ok (.iadd, 1) := by decide +kernel
theorem dX11_far_37 : decode cX11_far 37 = .ok (.ireturn, 1) := by decide +kernel
theorem dX8_rangeOf_0 : decode cX8_rangeOf 0 = .ok (.aload_n 0, 1) := by decide +kernel
theorem dX8_rangeOf_1 : decode cX8_rangeOf 1 = .ok (.iload_n 1, 1) := by decide +kernel
theorem dX8_rangeOf_2 : decode cX8_rangeOf 2 = .ok (.invokevirtual 79, 3) := by decide +kernel
theorem dX8_rangeOf_5 : decode cX8_rangeOf 5 = .ok (.istore_n 2, 1) := by decide +kernel
theorem dX8_rangeOf_6 : decode cX8_rangeOf 6 = .ok (.iload_n 2, 1) := by decide +kernel
theorem dX8_rangeOf_7 : decode cX8_rangeOf 7 = .ok (.ifCond .ne 7, 3) := by decide +kernel
theorem dX8_rangeOf_10 : decode cX8_rangeOf 10 = .ok (.iconst (-1), 1) := by decide +kernel
theorem dX8_rangeOf_11 : decode cX8_rangeOf 11 = .ok (.goto 12, 3) := by decide +kernel
theorem dX8_rangeOf_14 : decode cX8_rangeOf 14 = .ok (.iload_n 2, 1) := by decide +kernel
theorem dX8_rangeOf_15 : decode cX8_rangeOf 15 = .ok (.aload_n 0, 1) := by decide +kernel
theorem dX8_rangeOf_16 : decode cX8_rangeOf 16 = .ok (.getfield 30, 3) := by decide +kernel
theorem dX8_rangeOf_19 : decode cX8_rangeOf 19 = .ok (.getfield 83, 3) := by decide +kernel
theorem dX8_rangeOf_22 : decode cX8_rangeOf 22 = .ok (.imul, 1) := by decide +kernel
theorem dX8_rangeOf_23 : decode cX8_rangeOf 23 = .ok (.ireturn, 1) := by decide +kernel
theorem dX8_seenBy_0 : decode cX8_seenBy 0 = .ok (.iconst 0, 1) := by decide +kernel
theorem dX8_seenBy_1 : decode cX8_seenBy 1 = .ok (.istore_n 2, 1) := by decide +kernel
theorem dX8_seenBy_2 : decode cX8_seenBy 2 = .ok (.iconst 0, 1) := by decide +kernel
theorem dX8_seenBy_3 : decode cX8_seenBy 3 = .ok (.istore_n 3, 1) := by decide +kernel
theorem dX8_seenBy_4 : decode cX8_seenBy 4 = .ok (.iload_n 3, 1) := by decide +kernel
theorem dX8_seenBy_5 : decode cX8_seenBy 5 = .ok (.aload_n 0, 1) := by decide +kernel
theorem dX8_seenBy_6 : decode cX8_seenBy 6 = .ok (.getfield 30, 3) := by decide +kernel
theorem dX8_seenBy_9 : decode cX8_seenBy 9 = .ok (.getfield 34, 3) := by decide +kernel
theorem dX8_seenBy_12 : decode cX8_seenBy 12 = .ok (.if_icmp .ge 55, 3) := by decide +kernel
theorem dX8_seenBy_15 : decode cX8_seenBy 15 = .ok (.iload_n 3, 1) := by decide +kernel
theorem dX8_seenBy_16 : decode cX8_seenBy 16 = .ok (.iload_n 1, 1) := by decide +kernel
theorem dX8_seenBy_17 : decode cX8_seenBy 17 = .ok (.if_icmp .eq 44, 3) := by decide +kernel
theorem dX8_seenBy_20 : decode cX8_seenBy 20 = .ok (.aload_n 0, 1) := by decide +kernel
theorem dX8_seenBy_21 : decode cX8_seenBy 21 = .ok (.getfield 9, 3) := by decide +kernel
theorem dX8_seenBy_24 : decode cX8_seenBy 24 = .ok (.iload_n 1, 1) := by decide +kernel
theorem dX8_seenBy_25 : decode cX8_seenBy 25 = .ok (.iaload, 1) := by decide +kernel
theorem dX8_seenBy_26 : decode cX8_seenBy 26 = .ok (.aload_n 0, 1) := by decide +kernel
theorem dX8_seenBy_27 : decode cX8_seenBy 27 = .ok (.getfield 15, 3) := by decide +kernel
theorem dX8_seenBy_30 : decode cX8_seenBy 30 = .ok (.iload_n 1, 1) := by decide +kernel
theorem dX8_seenBy_31 : decode cX8_seenBy 31 = .ok (.iaload, 1) := by decide +kernel
theorem dX8_seenBy_32 : decode cX8_seenBy 32 = .ok (.aload_n 0, 1) := by decide +kernel
theorem dX8_seenBy_33 : decode cX8_seenBy 33 = .ok (.getfield 9, 3) := by decide +kernel
theorem dX8_seenBy_36 : decode cX8_seenBy 36 = .ok (.iload_n 3, 1) := by decide +kernel
theorem dX8_seenBy_37 : decode cX8_seenBy 37 = .ok (.iaload, 1) := by decide +kernel
theorem dX8_seenBy_38 : decode cX8_seenBy 38 = .ok (.aload_n 0, 1) := by decide +kernel
theorem dX8_seenBy_39 : decode cX8_seenBy 39 = .ok (.getfield 15, 3) := by decide +kernel
theorem dX8_seenBy_42 : decode cX8_seenBy 42 = .ok (.iload_n 3, 1) := by decide +kernel
theorem dX8_seenBy_43 : decode cX8_seenBy 43 = .ok (.iaload, 1) := by decide +kernel
theorem dX8_seenBy_44 : decode cX8_seenBy 44 = .ok (.invokestatic 86, 3) := by decide +kernel
theorem dX8_seenBy_47 : decode cX8_seenBy 47 = .ok (.aload_n 0, 1) := by decide +kernel
theorem dX8_seenBy_48 : decode cX8_seenBy 48 = .ok (.iload_n 3, 1) := by decide +kernel
theorem dX8_seenBy_49 : decode cX8_seenBy 49 = .ok (.invokevirtual 90, 3) := by decide +kernel
theorem dX8_seenBy_52 : decode cX8_seenBy 52 = .ok (.if_icmp .gt 9, 3) := by decide +kernel
theorem dX8_seenBy_55 : decode cX8_seenBy 55 = .ok (.iload_n 2, 1) := by decide +kernel
theorem dX8_seenBy_56 : decode cX8_seenBy 56 = .ok (.iconst 1, 1) := by decide +kernel
theorem dX8_seenBy_57 : decode cX8_seenBy 57 = .ok (.iload_n 3, 1) := by decide +kernel
theorem dX8_seenBy_58 : decode cX8_seenBy 58 = .ok (.ishl, 1) := by decide +kernel
theorem dX8_seenBy_59 : decode cX8_seenBy 59 = .ok (.ior, 1) := by decide +kernel
theorem dX8_seenBy_60 : decode cX8_seenBy 60 = .ok (.istore_n 2, 1) := by decide +kernel
theorem dX8_seenBy_61 : decode cX8_seenBy 61 = .ok (.iinc 3 1, 3) := by decide +kernel
theorem dX8_seenBy_64 : decode cX8_seenBy 64 = .ok (.goto (-60), 3) := by decide +kernel
theorem dX8_seenBy_67 : decode cX8_seenBy 67 = .ok (.aload_n 0, 1) := by decide +kernel
theorem dX8_seenBy_68 : decode cX8_seenBy 68 = .ok (.getfield 46, 3) := by decide +kernel
theorem dX8_seenBy_71 : decode cX8_seenBy 71 = .ok (.iload_n 1, 1) := by decide +kernel
theorem dX8_seenBy_72 : decode cX8_seenBy 72 = .ok (.invokestatic 70, 3) := by decide +kernel
theorem dX8_seenBy_75 : decode cX8_seenBy 75 = .ok (.iconst 1, 1) := by decide +kernel
theorem dX8_seenBy_76 : decode cX8_seenBy 76 = .ok (.if_icmp .ne 7, 3) := by decide +kernel
theorem dX8_seenBy_79 : decode cX8_seenBy 79 = .ok (.iconst 0, 1) := by decide +kernel
theorem dX8_seenBy_80 : decode cX8_seenBy 80 = .ok (.goto 4, 3) := by decide +kernel
theorem dX8_seenBy_83 : decode cX8_seenBy 83 = .ok (.iload_n 2, 1) := by decide +kernel
theorem dX8_seenBy_84 : decode cX8_seenBy 84 = .ok (.ireturn, 1) := by decide +kernel
theorem dX7_menSeeing_0 : decode cX7_menSeeing 0 = .ok (.iconst 0, 1) := by decide +kernel
theorem dX7_menSeeing_1 : decode cX7_menSeeing 1 = .ok (.istore_n 2, 1) := by decide +kernel
theorem dX7_menSeeing_2 : decode cX7_menSeeing 2 = .ok (.iconst 0, 1) := by decide +kernel
theorem dX7_menSeeing_3 : decode cX7_menSeeing 3 = .ok (.istore_n 3, 1) := by decide +kernel
theorem dX7_menSeeing_4 : decode cX7_menSeeing 4 = .ok (.iload_n 3, 1) := by decide +kernel
theorem dX7_menSeeing_5 : decode cX7_menSeeing 5 = .ok (.aload_n 1, 1) := by decide +kernel
theorem dX7_menSeeing_6 : decode cX7_menSeeing 6 = .ok (.getfield 97, 3) := by decide +kernel
theorem dX7_menSeeing_9 : decode cX7_menSeeing 9 = .ok (.getfield 163, 3) := by decide +kernel
theorem dX7_menSeeing_12 : decode cX7_menSeeing 12 = .ok (.if_icmp .ge 23, 3) := by decide +kernel
theorem dX7_menSeeing_15 : decode cX7_menSeeing 15 = .ok (.iload_n 2, 1) := by decide +kernel
theorem dX7_menSeeing_16 : decode cX7_menSeeing 16 = .ok (.aload_n 1, 1) := by decide +kernel
theorem dX7_menSeeing_17 : decode cX7_menSeeing 17 = .ok (.iload_n 3, 1) := by decide +kernel
theorem dX7_menSeeing_18 : decode cX7_menSeeing 18 = .ok (.invokevirtual 166, 3) := by decide +kernel
theorem dX7_menSeeing_21 : decode cX7_menSeeing 21 = .ok (.iload_n 0, 1) := by decide +kernel
theorem dX7_menSeeing_22 : decode cX7_menSeeing 22 = .ok (.invokestatic 169, 3) := by decide +kernel
theorem dX7_menSeeing_25 : decode cX7_menSeeing 25 = .ok (.iload_n 3, 1) := by decide +kernel
theorem dX7_menSeeing_26 : decode cX7_menSeeing 26 = .ok (.ishl, 1) := by decide +kernel
theorem dX7_menSeeing_27 : decode cX7_menSeeing 27 = .ok (.ior, 1) := by decide +kernel
theorem dX7_menSeeing_28 : decode cX7_menSeeing 28 = .ok (.istore_n 2, 1) := by decide +kernel
theorem dX7_menSeeing_29 : decode cX7_menSeeing 29 = .ok (.iinc 3 1, 3) := by decide +kernel
theorem dX7_menSeeing_32 : decode cX7_menSeeing 32 = .ok (.goto (-28), 3) := by decide +kernel
theorem dX7_menSeeing_35 : decode cX7_menSeeing 35 = .ok (.iload_n 2, 1) := by decide +kernel
theorem dX7_menSeeing_36 : decode cX7_menSeeing 36 = .ok (.ireturn, 1) := by decide +kernel
theorem dX8_holdersOf_0 : decode cX8_holdersOf 0 = .ok (.iconst 0, 1) := by decide +kernel
theorem dX8_holdersOf_1 : decode cX8_holdersOf 1 = .ok (.istore_n 2, 1) := by decide +kernel
theorem dX8_holdersOf_2 : decode cX8_holdersOf 2 = .ok (.iconst 0, 1) := by decide +kernel
theorem dX8_holdersOf_3 : decode cX8_holdersOf 3 = .ok (.istore_n 3, 1) := by decide +kernel
theorem dX8_holdersOf_4 : decode cX8_holdersOf 4 = .ok (.iload_n 3, 1) := by decide +kernel
theorem dX8_holdersOf_5 : decode cX8_holdersOf 5 = .ok (.aload_n 0, 1) := by decide +kernel
theorem dX8_holdersOf_6 : decode cX8_holdersOf 6 = .ok (.getfield 30, 3) := by decide +kernel
theorem dX8_holdersOf_9 : decode cX8_holdersOf 9 = .ok (.getfield 34, 3) := by decide +kernel
theorem dX8_holdersOf_12 : decode cX8_holdersOf 12 = .ok (.if_icmp .ge 25, 3) := by decide +kernel
theorem dX8_holdersOf_15 : decode cX8_holdersOf 15 = .ok (.aload_n 0, 1) := by decide +kernel
theorem dX8_holdersOf_16 : decode cX8_holdersOf 16 = .ok (.getfield 21, 3) := by decide +kernel
theorem dX8_holdersOf_19 : decode cX8_holdersOf 19 = .ok (.iload_n 3, 1) := by decide +kernel
theorem dX8_holdersOf_20 : decode cX8_holdersOf 20 = .ok (.iaload, 1) := by decide +kernel
theorem dX8_holdersOf_21 : decode cX8_holdersOf 21 = .ok (.iload_n 1, 1) := by decide +kernel
theorem dX8_holdersOf_22 : decode cX8_holdersOf 22 = .ok (.if_icmp .ne 9, 3) := by decide +kernel
theorem dX8_holdersOf_25 : decode cX8_holdersOf 25 = .ok (.iload_n 2, 1) := by decide +kernel
theorem dX8_holdersOf_26 : decode cX8_holdersOf 26 = .ok (.iconst 1, 1) := by decide +kernel
theorem dX8_holdersOf_27 : decode cX8_holdersOf 27 = .ok (.iload_n 3, 1) := by decide +kernel
theorem dX8_holdersOf_28 : decode cX8_holdersOf 28 = .ok (.ishl, 1) := by decide +kernel
theorem dX8_holdersOf_29 : decode cX8_holdersOf 29 = .ok (.ior, 1) := by decide +kernel
theorem dX8_holdersOf_30 : decode cX8_holdersOf 30 = .ok (.istore_n 2, 1) := by decide +kernel
theorem dX8_holdersOf_31 : decode cX8_holdersOf 31 = .ok (.iinc 3 1, 3) := by decide +kernel
theorem dX8_holdersOf_34 : decode cX8_holdersOf 34 = .ok (.goto (-30), 3) := by decide +kernel
theorem dX8_holdersOf_37 : decode cX8_holdersOf 37 = .ok (.iload_n 2, 1) := by decide +kernel
theorem dX8_holdersOf_38 : decode cX8_holdersOf 38 = .ok (.ireturn, 1) := by decide +kernel
theorem dX7_menOfPlain_0 : decode cX7_menOfPlain 0 = .ok (.aload_n 1, 1) := by decide +kernel
theorem dX7_menOfPlain_1 : decode cX7_menOfPlain 1 = .ok (.getstatic 113, 3) := by decide +kernel
theorem dX7_menOfPlain_4 : decode cX7_menOfPlain 4 = .ok (.if_acmp .ne 8, 3) := by decide +kernel
theorem dX7_menOfPlain_7 : decode cX7_menOfPlain 7 = .ok (.aload_n 3, 1) := by decide +kernel
theorem dX7_menOfPlain_8 : decode cX7_menOfPlain 8 = .ok (.getfield 116, 3) := by decide +kernel
theorem dX7_menOfPlain_11 : decode cX7_menOfPlain 11 = .ok (.ireturn, 1) := by decide +kernel
theorem dX7_menOfPlain_12 : decode cX7_menOfPlain 12 = .ok (.aload_n 1, 1) := by decide +kernel
theorem dX7_menOfPlain_13 : decode cX7_menOfPlain 13 = .ok (.getstatic 119, 3) := by decide +kernel
theorem dX7_menOfPlain_16 : decode cX7_menOfPlain 16 = .ok (.if_acmp .ne 8, 3) := by decide +kernel
theorem dX7_menOfPlain_19 : decode cX7_menOfPlain 19 = .ok (.aload_n 3, 1) := by decide +kernel
theorem dX7_menOfPlain_20 : decode cX7_menOfPlain 20 = .ok (.getfield 122, 3) := by decide +kernel
theorem dX7_menOfPlain_23 : decode cX7_menOfPlain 23 = .ok (.ireturn, 1) := by decide +kernel
theorem dX7_menOfPlain_24 : decode cX7_menOfPlain 24 = .ok (.aload_n 1, 1) := by decide +kernel
theorem dX7_menOfPlain_25 : decode cX7_menOfPlain 25 = .ok (.getstatic 125, 3) := by decide +kernel
theorem dX7_menOfPlain_28 : decode cX7_menOfPlain 28 = .ok (.if_acmp .ne 11, 3) := by decide +kernel
theorem dX7_menOfPlain_31 : decode cX7_menOfPlain 31 = .ok (.aload_n 3, 1) := by decide +kernel
theorem dX7_menOfPlain_32 : decode cX7_menOfPlain 32 = .ok (.getfield 97, 3) := by decide +kernel
theorem dX7_menOfPlain_35 : decode cX7_menOfPlain 35 = .ok (.getfield 128, 3) := by decide +kernel
theorem dX7_menOfPlain_38 : decode cX7_menOfPlain 38 = .ok (.ireturn, 1) := by decide +kernel
theorem dX7_menOfPlain_39 : decode cX7_menOfPlain 39 = .ok (.aload_n 1, 1) := by decide +kernel
theorem dX7_menOfPlain_40 : decode cX7_menOfPlain 40 = .ok (.getstatic 131, 3) := by decide +kernel
theorem dX7_menOfPlain_43 : decode cX7_menOfPlain 43 = .ok (.if_acmp .ne 11, 3) := by decide +kernel
theorem dX7_menOfPlain_46 : decode cX7_menOfPlain 46 = .ok (.aload_n 3, 1) := by decide +kernel
theorem dX7_menOfPlain_47 : decode cX7_menOfPlain 47 = .ok (.getfield 97, 3) := by decide +kernel
theorem dX7_menOfPlain_50 : decode cX7_menOfPlain 50 = .ok (.getfield 134, 3) := by decide +kernel
theorem dX7_menOfPlain_53 : decode cX7_menOfPlain 53 = .ok (.ireturn, 1) := by decide +kernel
theorem dX7_menOfPlain_54 : decode cX7_menOfPlain 54 = .ok (.aload_n 1, 1) := by decide +kernel
theorem dX7_menOfPlain_55 : decode cX7_menOfPlain 55 = .ok (.getstatic 137, 3) := by decide +kernel
theorem dX7_menOfPlain_58 : decode cX7_menOfPlain 58 = .ok (.if_acmp .ne 9, 3) := by decide +kernel
theorem dX7_menOfPlain_61 : decode cX7_menOfPlain 61 = .ok (.aload_n 3, 1) := by decide +kernel
theorem dX7_menOfPlain_62 : decode cX7_menOfPlain 62 = .ok (.iconst (-1), 1) := by decide +kernel
theorem dX7_menOfPlain_63 : decode cX7_menOfPlain 63 = .ok (.invokevirtual 140, 3) := by decide +kernel
theorem dX7_menOfPlain_66 : decode cX7_menOfPlain 66 = .ok (.ireturn, 1) := by decide +kernel
theorem dX7_menOfPlain_67 : decode cX7_menOfPlain 67 = .ok (.aload_n 1, 1) := by decide +kernel
theorem dX7_menOfPlain_68 : decode cX7_menOfPlain 68 = .ok (.getstatic 144, 3) := by decide +kernel
theorem dX7_menOfPlain_71 : decode cX7_menOfPlain 71 = .ok (.if_acmp .ne 17, 3) := by decide +kernel
theorem dX7_menOfPlain_74 : decode cX7_menOfPlain 74 = .ok (.aload_n 3, 1) := by decide +kernel
theorem dX7_menOfPlain_75 : decode cX7_menOfPlain 75 = .ok (.getfield 97, 3) := by decide +kernel
theorem dX7_menOfPlain_78 : decode cX7_menOfPlain 78 = .ok (.aload_n 0, 1) := by decide +kernel
theorem dX7_menOfPlain_79 : decode cX7_menOfPlain 79 = .ok (.getfield 17, 3) := by decide +kernel
theorem dX7_menOfPlain_82 : decode cX7_menOfPlain 82 = .ok (.iload_n 2, 1) := by decide +kernel
theorem dX7_menOfPlain_83 : decode cX7_menOfPlain 83 = .ok (.iaload, 1) := by decide +kernel
theorem dX7_menOfPlain_84 : decode cX7_menOfPlain 84 = .ok (.invokevirtual 147, 3) := by decide +kernel
theorem dX7_menOfPlain_87 : decode cX7_menOfPlain 87 = .ok (.ireturn, 1) := by decide +kernel
theorem dX7_menOfPlain_88 : decode cX7_menOfPlain 88 = .ok (.aload_n 1, 1) := by decide +kernel
theorem dX7_menOfPlain_89 : decode cX7_menOfPlain 89 = .ok (.getstatic 150, 3) := by decide +kernel
theorem dX7_menOfPlain_92 : decode cX7_menOfPlain 92 = .ok (.if_acmp .ne 14, 3) := by decide +kernel
theorem dX7_menOfPlain_95 : decode cX7_menOfPlain 95 = .ok (.aload_n 0, 1) := by decide +kernel
theorem dX7_menOfPlain_96 : decode cX7_menOfPlain 96 = .ok (.getfield 17, 3) := by decide +kernel
theorem dX7_menOfPlain_99 : decode cX7_menOfPlain 99 = .ok (.iload_n 2, 1) := by decide +kernel
theorem dX7_menOfPlain_100 : decode cX7_menOfPlain 100 = .ok (.iaload, 1) := by decide +kernel
theorem dX7_menOfPlain_101 : decode cX7_menOfPlain 101 = .ok (.aload_n 3, 1) := by decide +kernel
theorem dX7_menOfPlain_102 : decode cX7_menOfPlain 102 = .ok (.invokestatic 153, 3) := by decide +kernel
theorem dX7_menOfPlain_105 : decode cX7_menOfPlain 105 = .ok (.ireturn, 1) := by decide +kernel
theorem dX7_menOfPlain_106 : decode cX7_menOfPlain 106 = .ok (.aload_n 1, 1) := by decide +kernel
theorem dX7_menOfPlain_107 : decode cX7_menOfPlain 107 = .ok (.getstatic 157, 3) := by decide +kernel
theorem dX7_menOfPlain_110 : decode cX7_menOfPlain 110 = .ok (.if_acmp .ne 14, 3) := by decide +kernel
theorem dX7_menOfPlain_113 : decode cX7_menOfPlain 113 = .ok (.aload_n 3, 1) := by decide +kernel
theorem dX7_menOfPlain_114 : decode cX7_menOfPlain 114 = .ok (.aload_n 0, 1) := by decide +kernel
theorem dX7_menOfPlain_115 : decode cX7_menOfPlain 115 = .ok (.getfield 17, 3) := by decide +kernel
theorem dX7_menOfPlain_118 : decode cX7_menOfPlain 118 = .ok (.iload_n 2, 1) := by decide +kernel
theorem dX7_menOfPlain_119 : decode cX7_menOfPlain 119 = .ok (.iaload, 1) := by decide +kernel
theorem dX7_menOfPlain_120 : decode cX7_menOfPlain 120 = .ok (.invokevirtual 140, 3) := by decide +kernel
theorem dX7_menOfPlain_123 : decode cX7_menOfPlain 123 = .ok (.ireturn, 1) := by decide +kernel
theorem dX7_menOfPlain_124 : decode cX7_menOfPlain 124 = .ok (.aload_n 0, 1) := by decide +kernel
theorem dX7_menOfPlain_125 : decode cX7_menOfPlain 125 = .ok (.aload_n 1, 1) := by decide +kernel
theorem dX7_menOfPlain_126 : decode cX7_menOfPlain 126 = .ok (.iload_n 2, 1) := by decide +kernel
theorem dX7_menOfPlain_127 : decode cX7_menOfPlain 127 = .ok (.aload_n 3, 1) := by decide +kernel
theorem dX7_menOfPlain_128 : decode cX7_menOfPlain 128 = .ok (.invokevirtual 160, 3) := by decide +kernel
theorem dX7_menOfPlain_131 : decode cX7_menOfPlain 131 = .ok (.ireturn, 1) := by decide +kernel
theorem dX7_menOf_0 : decode cX7_menOf 0 = .ok (.aload_n 1, 1) := by decide +kernel
theorem dX7_menOf_1 : decode cX7_menOf 1 = .ok (.getfield 97, 3) := by decide +kernel
theorem dX7_menOf_4 : decode cX7_menOf 4 = .ok (.invokevirtual 103, 3) := by decide +kernel
theorem dX7_menOf_7 : decode cX7_menOf 7 = .ok (.istore_n 2, 1) := by decide +kernel
theorem dX7_menOf_8 : decode cX7_menOf 8 = .ok (.iconst 0, 1) := by decide +kernel
theorem dX7_menOf_9 : decode cX7_menOf 9 = .ok (.istore_n 3, 1) := by decide +kernel
theorem dX7_menOf_10 : decode cX7_menOf 10 = .ok (.iconst 0, 1) := by decide +kernel
theorem dX7_menOf_11 : decode cX7_menOf 11 = .ok (.istore 4, 2) := by decide +kernel
theorem dX7_menOf_13 : decode cX7_menOf 13 = .ok (.iload 4, 2) := by decide +kernel
theorem dX7_menOf_15 : decode cX7_menOf 15 = .ok (.aload_n 0, 1) := by decide +kernel
theorem dX7_menOf_16 : decode cX7_menOf 16 = .ok (.getfield 31, 3) := by decide +kernel
theorem dX7_menOf_19 : decode cX7_menOf 19 = .ok (.if_icmp .ge 144, 3) := by decide +kernel
theorem dX7_menOf_22 : decode cX7_menOf 22 = .ok (.aload_n 0, 1) := by decide +kernel
theorem dX7_menOf_23 : decode cX7_menOf 23 = .ok (.getfield 11, 3) := by decide +kernel
theorem dX7_menOf_26 : decode cX7_menOf 26 = .ok (.iload 4, 2) := by decide +kernel
theorem dX7_menOf_28 : decode cX7_menOf 28 = .ok (.aaload, 1) := by decide +kernel
theorem dX7_menOf_29 : decode cX7_menOf 29 = .ok (.astore 5, 2) := by decide +kernel
theorem dX7_menOf_31 : decode cX7_menOf 31 = .ok (.aload 5, 2) := by decide +kernel
theorem dX7_menOf_33 : decode cX7_menOf 33 = .ok (.getstatic 76, 3) := by decide +kernel
theorem dX7_menOf_36 : decode cX7_menOf 36 = .ok (.if_acmp .ne 31, 3) := by decide +kernel
theorem dX7_menOf_39 : decode cX7_menOf 39 = .ok (.iload_n 3, 1) := by decide +kernel
theorem dX7_menOf_40 : decode cX7_menOf 40 = .ok (.iconst 1, 1) := by decide +kernel
theorem dX7_menOf_41 : decode cX7_menOf 41 = .ok (.if_icmp .lt 26, 3) := by decide +kernel
theorem dX7_menOf_44 : decode cX7_menOf 44 = .ok (.aload_n 0, 1) := by decide +kernel
theorem dX7_menOf_45 : decode cX7_menOf 45 = .ok (.getfield 24, 3) := by decide +kernel
theorem dX7_menOf_48 : decode cX7_menOf 48 = .ok (.iload_n 3, 1) := by decide +kernel
theorem dX7_menOf_49 : decode cX7_menOf 49 = .ok (.iconst 1, 1) := by decide +kernel
theorem dX7_menOf_50 : decode cX7_menOf 50 = .ok (.isub, 1) := by decide +kernel
theorem dX7_menOf_51 : decode cX7_menOf 51 = .ok (.iload_n 2, 1) := by decide +kernel
theorem dX7_menOf_52 : decode cX7_menOf 52 = .ok (.aload_n 0, 1) := by decide +kernel
theorem dX7_menOf_53 : decode cX7_menOf 53 = .ok (.getfield 24, 3) := by decide +kernel
theorem dX7_menOf_56 : decode cX7_menOf 56 = .ok (.iload_n 3, 1) := by decide +kernel
theorem dX7_menOf_57 : decode cX7_menOf 57 = .ok (.iconst 1, 1) := by decide +kernel
theorem dX7_menOf_58 : decode cX7_menOf 58 = .ok (.isub, 1) := by decide +kernel
theorem dX7_menOf_59 : decode cX7_menOf 59 = .ok (.iaload, 1) := by decide +kernel
theorem dX7_menOf_60 : decode cX7_menOf 60 = .ok (.iconst (-1), 1) := by decide +kernel
theorem dX7_menOf_61 : decode cX7_menOf 61 = .ok (.ixor, 1) := by decide +kernel
theorem dX7_menOf_62 : decode cX7_menOf 62 = .ok (.iand, 1) := by decide +kernel
theorem dX7_menOf_63 : decode cX7_menOf 63 = .ok (.iastore, 1) := by decide +kernel
theorem dX7_menOf_64 : decode cX7_menOf 64 = .ok (.goto 93, 3) := by decide +kernel
theorem dX7_menOf_67 : decode cX7_menOf 67 = .ok (.aload 5, 2) := by decide +kernel
theorem dX7_menOf_69 : decode cX7_menOf 69 = .ok (.getstatic 57, 3) := by decide +kernel
theorem dX7_menOf_72 : decode cX7_menOf 72 = .ok (.if_acmp .ne 31, 3) := by decide +kernel
theorem dX7_menOf_75 : decode cX7_menOf 75 = .ok (.iload_n 3, 1) := by decide +kernel
theorem dX7_menOf_76 : decode cX7_menOf 76 = .ok (.iconst 2, 1) := by decide +kernel
theorem dX7_menOf_77 : decode cX7_menOf 77 = .ok (.if_icmp .lt 26, 3) := by decide +kernel
theorem dX7_menOf_80 : decode cX7_menOf 80 = .ok (.iinc 3 (-1), 3) := by decide +kernel
theorem dX7_menOf_83 : decode cX7_menOf 83 = .ok (.aload_n 0, 1) := by decide +kernel
theorem dX7_menOf_84 : decode cX7_menOf 84 = .ok (.getfield 24, 3) := by decide +kernel
theorem dX7_menOf_87 : decode cX7_menOf 87 = .ok (.iload_n 3, 1) := by decide +kernel
theorem dX7_menOf_88 : decode cX7_menOf 88 = .ok (.iconst 1, 1) := by decide +kernel
theorem dX7_menOf_89 : decode cX7_menOf 89 = .ok (.isub, 1) := by decide +kernel
theorem dX7_menOf_90 : decode cX7_menOf 90 = .ok (.dup2, 1) := by decide +kernel
theorem dX7_menOf_91 : decode cX7_menOf 91 = .ok (.iaload, 1) := by decide +kernel
theorem dX7_menOf_92 : decode cX7_menOf 92 = .ok (.aload_n 0, 1) := by decide +kernel
theorem dX7_menOf_93 : decode cX7_menOf 93 = .ok (.getfield 24, 3) := by decide +kernel
theorem dX7_menOf_96 : decode cX7_menOf 96 = .ok (.iload_n 3, 1) := by decide +kernel
theorem dX7_menOf_97 : decode cX7_menOf 97 = .ok (.iaload, 1) := by decide +kernel
theorem dX7_menOf_98 : decode cX7_menOf 98 = .ok (.iand, 1) := by decide +kernel
theorem dX7_menOf_99 : decode cX7_menOf 99 = .ok (.iastore, 1) := by decide +kernel
theorem dX7_menOf_100 : decode cX7_menOf 100 = .ok (.goto 57, 3) := by decide +kernel
theorem dX7_menOf_103 : decode cX7_menOf 103 = .ok (.aload 5, 2) := by decide +kernel
theorem dX7_menOf_105 : decode cX7_menOf 105 = .ok (.getstatic 44, 3) := by decide +kernel
theorem dX7_menOf_108 : decode cX7_menOf 108 = .ok (.if_acmp .ne 31, 3) := by decide +kernel
theorem dX7_menOf_111 : decode cX7_menOf 111 = .ok (.iload_n 3, 1) := by decide +kernel
theorem dX7_menOf_112 : decode cX7_menOf 112 = .ok (.iconst 2, 1) := by decide +kernel
theorem dX7_menOf_113 : decode cX7_menOf 113 = .ok (.if_icmp .lt 26, 3) := by decide +kernel
theorem dX7_menOf_116 : decode cX7_menOf 116 = .ok (.iinc 3 (-1), 3) := by decide +kernel
theorem dX7_menOf_119 : decode cX7_menOf 119 = .ok (.aload_n 0, 1) := by decide +kernel
theorem dX7_menOf_120 : decode cX7_menOf 120 = .ok (.getfield 24, 3) := by decide +kernel
theorem dX7_menOf_123 : decode cX7_menOf 123 = .ok (.iload_n 3, 1) := by decide +kernel
theorem dX7_menOf_124 : decode cX7_menOf 124 = .ok (.iconst 1, 1) := by decide +kernel
theorem dX7_menOf_125 : decode cX7_menOf 125 = .ok (.isub, 1) := by decide +kernel
theorem dX7_menOf_126 : decode cX7_menOf 126 = .ok (.dup2, 1) := by decide +kernel
theorem dX7_menOf_127 : decode cX7_menOf 127 = .ok (.iaload, 1) := by decide +kernel
theorem dX7_menOf_128 : decode cX7_menOf 128 = .ok (.aload_n 0, 1) := by decide +kernel
theorem dX7_menOf_129 : decode cX7_menOf 129 = .ok (.getfield 24, 3) := by decide +kernel
theorem dX7_menOf_132 : decode cX7_menOf 132 = .ok (.iload_n 3, 1) := by decide +kernel
theorem dX7_menOf_133 : decode cX7_menOf 133 = .ok (.iaload, 1) := by decide +kernel
theorem dX7_menOf_134 : decode cX7_menOf 134 = .ok (.ior, 1) := by decide +kernel
theorem dX7_menOf_135 : decode cX7_menOf 135 = .ok (.iastore, 1) := by decide +kernel
theorem dX7_menOf_136 : decode cX7_menOf 136 = .ok (.goto 21, 3) := by decide +kernel
theorem dX7_menOf_139 : decode cX7_menOf 139 = .ok (.aload_n 0, 1) := by decide +kernel
theorem dX7_menOf_140 : decode cX7_menOf 140 = .ok (.getfield 24, 3) := by decide +kernel
theorem dX7_menOf_143 : decode cX7_menOf 143 = .ok (.iload_n 3, 1) := by decide +kernel
theorem dX7_menOf_144 : decode cX7_menOf 144 = .ok (.aload_n 0, 1) := by decide +kernel
theorem dX7_menOf_145 : decode cX7_menOf 145 = .ok (.aload 5, 2) := by decide +kernel
theorem dX7_menOf_147 : decode cX7_menOf 147 = .ok (.iload 4, 2) := by decide +kernel
theorem dX7_menOf_149 : decode cX7_menOf 149 = .ok (.aload_n 1, 1) := by decide +kernel
theorem dX7_menOf_150 : decode cX7_menOf 150 = .ok (.invokevirtual 109, 3) := by decide +kernel
theorem dX7_menOf_153 : decode cX7_menOf 153 = .ok (.iastore, 1) := by decide +kernel
theorem dX7_menOf_154 : decode cX7_menOf 154 = .ok (.iinc 3 1, 3) := by decide +kernel
theorem dX7_menOf_157 : decode cX7_menOf 157 = .ok (.iinc 4 1, 3) := by decide +kernel
theorem dX7_menOf_160 : decode cX7_menOf 160 = .ok (.goto (-147), 3) := by decide +kernel
theorem dX7_menOf_163 : decode cX7_menOf 163 = .ok (.iload_n 3, 1) := by decide +kernel
theorem dX7_menOf_164 : decode cX7_menOf 164 = .ok (.ifCond .le 12, 3) := by decide +kernel
theorem dX7_menOf_167 : decode cX7_menOf 167 = .ok (.aload_n 0, 1) := by decide +kernel
theorem dX7_menOf_168 : decode cX7_menOf 168 = .ok (.getfield 24, 3) := by decide +kernel
theorem dX7_menOf_171 : decode cX7_menOf 171 = .ok (.iconst 0, 1) := by decide +kernel
theorem dX7_menOf_172 : decode cX7_menOf 172 = .ok (.iaload, 1) := by decide +kernel
theorem dX7_menOf_173 : decode cX7_menOf 173 = .ok (.goto 4, 3) := by decide +kernel
theorem dX7_menOf_176 : decode cX7_menOf 176 = .ok (.iconst 0, 1) := by decide +kernel
theorem dX7_menOf_177 : decode cX7_menOf 177 = .ok (.ireturn, 1) := by decide +kernel
theorem dX8_begin_0 : decode cX8_begin 0 = .ok (.iconst 0, 1) := by decide +kernel
theorem dX8_begin_1 : decode cX8_begin 1 = .ok (.istore_n 1, 1) := by decide +kernel
theorem dX8_begin_2 : decode cX8_begin 2 = .ok (.iload_n 1, 1) := by decide +kernel
theorem dX8_begin_3 : decode cX8_begin 3 = .ok (.aload_n 0, 1) := by decide +kernel
theorem dX8_begin_4 : decode cX8_begin 4 = .ok (.getfield 30, 3) := by decide +kernel
theorem dX8_begin_7 : decode cX8_begin 7 = .ok (.getfield 34, 3) := by decide +kernel
theorem dX8_begin_10 : decode cX8_begin 10 = .ok (.if_icmp .ge 60, 3) := by decide +kernel
theorem dX8_begin_13 : decode cX8_begin 13 = .ok (.aload_n 0, 1) := by decide +kernel
theorem dX8_begin_14 : decode cX8_begin 14 = .ok (.getfield 9, 3) := by decide +kernel
theorem dX8_begin_17 : decode cX8_begin 17 = .ok (.iload_n 1, 1) := by decide +kernel
theorem dX8_begin_18 : decode cX8_begin 18 = .ok (.aload_n 0, 1) := by decide +kernel
theorem dX8_begin_19 : decode cX8_begin 19 = .ok (.getfield 30, 3) := by decide +kernel
theorem dX8_begin_22 : decode cX8_begin 22 = .ok (.getfield 40, 3) := by decide +kernel
theorem dX8_begin_25 : decode cX8_begin 25 = .ok (.iload_n 1, 1) := by decide +kernel
theorem dX8_begin_26 : decode cX8_begin 26 = .ok (.iaload, 1) := by decide +kernel
theorem dX8_begin_27 : decode cX8_begin 27 = .ok (.iastore, 1) := by decide +kernel
theorem dX8_begin_28 : decode cX8_begin 28 = .ok (.aload_n 0, 1) := by decide +kernel
theorem dX8_begin_29 : decode cX8_begin 29 = .ok (.getfield 15, 3) := by decide +kernel
theorem dX8_begin_32 : decode cX8_begin 32 = .ok (.iload_n 1, 1) := by decide +kernel
theorem dX8_begin_33 : decode cX8_begin 33 = .ok (.aload_n 0, 1) := by decide +kernel
theorem dX8_begin_34 : decode cX8_begin 34 = .ok (.getfield 30, 3) := by decide +kernel
theorem dX8_begin_37 : decode cX8_begin 37 = .ok (.getfield 43, 3) := by decide +kernel
theorem dX8_begin_40 : decode cX8_begin 40 = .ok (.iload_n 1, 1) := by decide +kernel
theorem dX8_begin_41 : decode cX8_begin 41 = .ok (.iaload, 1) := by decide +kernel
theorem dX8_begin_42 : decode cX8_begin 42 = .ok (.iastore, 1) := by decide +kernel
theorem dX8_begin_43 : decode cX8_begin 43 = .ok (.aload_n 0, 1) := by decide +kernel
theorem dX8_begin_44 : decode cX8_begin 44 = .ok (.getfield 18, 3) := by decide +kernel
theorem dX8_begin_47 : decode cX8_begin 47 = .ok (.iload_n 1, 1) := by decide +kernel
theorem dX8_begin_48 : decode cX8_begin 48 = .ok (.iconst 0, 1) := by decide +kernel
theorem dX8_begin_49 : decode cX8_begin 49 = .ok (.iastore, 1) := by decide +kernel
theorem dX8_begin_50 : decode cX8_begin 50 = .ok (.aload_n 0, 1) := by decide +kernel
theorem dX8_begin_51 : decode cX8_begin 51 = .ok (.getfield 21, 3) := by decide +kernel
theorem dX8_begin_54 : decode cX8_begin 54 = .ok (.iload_n 1, 1) := by decide +kernel
theorem dX8_begin_55 : decode cX8_begin 55 = .ok (.iconst (-1), 1) := by decide +kernel
theorem dX8_begin_56 : decode cX8_begin 56 = .ok (.iastore, 1) := by decide +kernel
theorem dX8_begin_57 : decode cX8_begin 57 = .ok (.aload_n 0, 1) := by decide +kernel
theorem dX8_begin_58 : decode cX8_begin 58 = .ok (.getfield 24, 3) := by decide +kernel
theorem dX8_begin_61 : decode cX8_begin 61 = .ok (.iload_n 1, 1) := by decide +kernel
theorem dX8_begin_62 : decode cX8_begin 62 = .ok (.iconst 0, 1) := by decide +kernel
theorem dX8_begin_63 : decode cX8_begin 63 = .ok (.iastore, 1) := by decide +kernel
theorem dX8_begin_64 : decode cX8_begin 64 = .ok (.iinc 1 1, 3) := by decide +kernel
theorem dX8_begin_67 : decode cX8_begin 67 = .ok (.goto (-65), 3) := by decide +kernel
