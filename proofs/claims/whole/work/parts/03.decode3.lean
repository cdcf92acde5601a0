theorem dX12_scratch_31 : decode cX12_scratch 31 = .ok (.iconst 1, 1) := by decide +kernel
theorem dX12_scratch_32 : decode cX12_scratch 32 = .ok (.if_icmp .ne 5, 3) := by decide +kernel
theorem dX12_scratch_35 : decode cX12_scratch 35 = .ok (.iconst (-1), 1) := by decide +kernel
theorem dX12_scratch_36 : decode cX12_scratch 36 = .ok (.ireturn, 1) := by decide +kernel
theorem dX12_scratch_37 : decode cX12_scratch 37 = .ok (.iconst 0, 1) := by decide +kernel
theorem dX12_scratch_38 : decode cX12_scratch 38 = .ok (.istore_n 1, 1) := by decide +kernel
theorem dX12_scratch_39 : decode cX12_scratch 39 = .ok (.iload_n 1, 1) := by decide +kernel
theorem dX12_scratch_40 : decode cX12_scratch 40 = .ok (.aload_n 0, 1) := by decide +kernel
theorem dX12_scratch_41 : decode cX12_scratch 41 = .ok (.getfield 18, 3) := by decide +kernel
theorem dX12_scratch_44 : decode cX12_scratch 44 = .ok (.if_icmp .ge 34, 3) := by decide +kernel
theorem dX12_scratch_47 : decode cX12_scratch 47 = .ok (.aload_n 0, 1) := by decide +kernel
theorem dX12_scratch_48 : decode cX12_scratch 48 = .ok (.aload_n 0, 1) := by decide +kernel
theorem dX12_scratch_49 : decode cX12_scratch 49 = .ok (.iload_n 1, 1) := by decide +kernel
theorem dX12_scratch_50 : decode cX12_scratch 50 = .ok (.invokevirtual 385, 3) := by decide +kernel
theorem dX12_scratch_53 : decode cX12_scratch 53 = .ok (.invokevirtual 303, 3) := by decide +kernel
theorem dX12_scratch_56 : decode cX12_scratch 56 = .ok (.ifCond .eq 14, 3) := by decide +kernel
theorem dX12_scratch_59 : decode cX12_scratch 59 = .ok (.aload_n 0, 1) := by decide +kernel
theorem dX12_scratch_60 : decode cX12_scratch 60 = .ok (.iload_n 1, 1) := by decide +kernel
theorem dX12_scratch_61 : decode cX12_scratch 61 = .ok (.iconst 1, 1) := by decide +kernel
theorem dX12_scratch_62 : decode cX12_scratch 62 = .ok (.iadd, 1) := by decide +kernel
theorem dX12_scratch_63 : decode cX12_scratch 63 = .ok (.invokevirtual 385, 3) := by decide +kernel
theorem dX12_scratch_66 : decode cX12_scratch 66 = .ok (.iconst 1, 1) := by decide +kernel
theorem dX12_scratch_67 : decode cX12_scratch 67 = .ok (.if_icmp .le 5, 3) := by decide +kernel
theorem dX12_scratch_70 : decode cX12_scratch 70 = .ok (.iconst (-1), 1) := by decide +kernel
theorem dX12_scratch_71 : decode cX12_scratch 71 = .ok (.ireturn, 1) := by decide +kernel
theorem dX12_scratch_72 : decode cX12_scratch 72 = .ok (.iinc 1 2, 3) := by decide +kernel
theorem dX12_scratch_75 : decode cX12_scratch 75 = .ok (.goto (-36), 3) := by decide +kernel
theorem dX12_scratch_78 : decode cX12_scratch 78 = .ok (.iconst 0, 1) := by decide +kernel
theorem dX12_scratch_79 : decode cX12_scratch 79 = .ok (.istore_n 1, 1) := by decide +kernel
theorem dX12_scratch_80 : decode cX12_scratch 80 = .ok (.iconst 0, 1) := by decide +kernel
theorem dX12_scratch_81 : decode cX12_scratch 81 = .ok (.istore_n 2, 1) := by decide +kernel
theorem dX12_scratch_82 : decode cX12_scratch 82 = .ok (.iload_n 2, 1) := by decide +kernel
theorem dX12_scratch_83 : decode cX12_scratch 83 = .ok (.aload_n 0, 1) := by decide +kernel
theorem dX12_scratch_84 : decode cX12_scratch 84 = .ok (.getfield 33, 3) := by decide +kernel
theorem dX12_scratch_87 : decode cX12_scratch 87 = .ok (.iconst 0, 1) := by decide +kernel
theorem dX12_scratch_88 : decode cX12_scratch 88 = .ok (.iaload, 1) := by decide +kernel
theorem dX12_scratch_89 : decode cX12_scratch 89 = .ok (.if_icmp .ge 27, 3) := by decide +kernel
theorem dX12_scratch_92 : decode cX12_scratch 92 = .ok (.iload_n 1, 1) := by decide +kernel
theorem dX12_scratch_93 : decode cX12_scratch 93 = .ok (.aload_n 0, 1) := by decide +kernel
theorem dX12_scratch_94 : decode cX12_scratch 94 = .ok (.iload_n 2, 1) := by decide +kernel
theorem dX12_scratch_95 : decode cX12_scratch 95 = .ok (.invokevirtual 397, 3) := by decide +kernel
theorem dX12_scratch_98 : decode cX12_scratch 98 = .ok (.ifCond .eq 9, 3) := by decide +kernel
theorem dX12_scratch_101 : decode cX12_scratch 101 = .ok (.iconst 1, 1) := by decide +kernel
theorem dX12_scratch_102 : decode cX12_scratch 102 = .ok (.iload_n 2, 1) := by decide +kernel
theorem dX12_scratch_103 : decode cX12_scratch 103 = .ok (.ishl, 1) := by decide +kernel
theorem dX12_scratch_104 : decode cX12_scratch 104 = .ok (.goto 4, 3) := by decide +kernel
theorem dX12_scratch_107 : decode cX12_scratch 107 = .ok (.iconst 0, 1) := by decide +kernel
theorem dX12_scratch_108 : decode cX12_scratch 108 = .ok (.ior, 1) := by decide +kernel
theorem dX12_scratch_109 : decode cX12_scratch 109 = .ok (.istore_n 1, 1) := by decide +kernel
theorem dX12_scratch_110 : decode cX12_scratch 110 = .ok (.iinc 2 1, 3) := by decide +kernel
theorem dX12_scratch_113 : decode cX12_scratch 113 = .ok (.goto (-31), 3) := by decide +kernel
theorem dX12_scratch_116 : decode cX12_scratch 116 = .ok (.iload_n 1, 1) := by decide +kernel
theorem dX12_scratch_117 : decode cX12_scratch 117 = .ok (.ifCond .ne 5, 3) := by decide +kernel
theorem dX12_scratch_120 : decode cX12_scratch 120 = .ok (.iconst 0, 1) := by decide +kernel
theorem dX12_scratch_121 : decode cX12_scratch 121 = .ok (.ireturn, 1) := by decide +kernel
theorem dX12_scratch_122 : decode cX12_scratch 122 = .ok (.aload_n 0, 1) := by decide +kernel
theorem dX12_scratch_123 : decode cX12_scratch 123 = .ok (.iconst 1, 1) := by decide +kernel
theorem dX12_scratch_124 : decode cX12_scratch 124 = .ok (.putfield 400, 3) := by decide +kernel
theorem dX12_scratch_127 : decode cX12_scratch 127 = .ok (.ldc_w 381, 3) := by decide +kernel
theorem dX12_scratch_130 : decode cX12_scratch 130 = .ok (.istore_n 2, 1) := by decide +kernel
theorem dX12_scratch_131 : decode cX12_scratch 131 = .ok (.iconst 0, 1) := by decide +kernel
theorem dX12_scratch_132 : decode cX12_scratch 132 = .ok (.istore_n 3, 1) := by decide +kernel
theorem dX12_scratch_133 : decode cX12_scratch 133 = .ok (.iload_n 3, 1) := by decide +kernel
theorem dX12_scratch_134 : decode cX12_scratch 134 = .ok (.aload_n 0, 1) := by decide +kernel
theorem dX12_scratch_135 : decode cX12_scratch 135 = .ok (.getfield 33, 3) := by decide +kernel
theorem dX12_scratch_138 : decode cX12_scratch 138 = .ok (.iconst 0, 1) := by decide +kernel
theorem dX12_scratch_139 : decode cX12_scratch 139 = .ok (.iaload, 1) := by decide +kernel
theorem dX12_scratch_140 : decode cX12_scratch 140 = .ok (.if_icmp .ge 92, 3) := by decide +kernel
theorem dX12_scratch_143 : decode cX12_scratch 143 = .ok (.iconst 0, 1) := by decide +kernel
theorem dX12_scratch_144 : decode cX12_scratch 144 = .ok (.istore 4, 2) := by decide +kernel
theorem dX12_scratch_146 : decode cX12_scratch 146 = .ok (.iconst 0, 1) := by decide +kernel
theorem dX12_scratch_147 : decode cX12_scratch 147 = .ok (.istore 5, 2) := by decide +kernel
theorem dX12_scratch_149 : decode cX12_scratch 149 = .ok (.iload 5, 2) := by decide +kernel
theorem dX12_scratch_151 : decode cX12_scratch 151 = .ok (.aload_n 0, 1) := by decide +kernel
theorem dX12_scratch_152 : decode cX12_scratch 152 = .ok (.getfield 33, 3) := by decide +kernel
theorem dX12_scratch_155 : decode cX12_scratch 155 = .ok (.iconst 0, 1) := by decide +kernel
theorem dX12_scratch_156 : decode cX12_scratch 156 = .ok (.iaload, 1) := by decide +kernel
theorem dX12_scratch_157 : decode cX12_scratch 157 = .ok (.if_icmp .ge 38, 3) := by decide +kernel
theorem dX12_scratch_160 : decode cX12_scratch 160 = .ok (.iload 4, 2) := by decide +kernel
theorem dX12_scratch_162 : decode cX12_scratch 162 = .ok (.iload_n 1, 1) := by decide +kernel
theorem dX12_scratch_163 : decode cX12_scratch 163 = .ok (.iload 5, 2) := by decide +kernel
theorem dX12_scratch_165 : decode cX12_scratch 165 = .ok (.invokestatic 231, 3) := by decide +kernel
theorem dX12_scratch_168 : decode cX12_scratch 168 = .ok (.ifCond .eq 17, 3) := by decide +kernel
theorem dX12_scratch_171 : decode cX12_scratch 171 = .ok (.aload_n 0, 1) := by decide +kernel
theorem dX12_scratch_172 : decode cX12_scratch 172 = .ok (.iload_n 3, 1) := by decide +kernel
theorem dX12_scratch_173 : decode cX12_scratch 173 = .ok (.iload 5, 2) := by decide +kernel
theorem dX12_scratch_175 : decode cX12_scratch 175 = .ok (.invokevirtual 300, 3) := by decide +kernel
theorem dX12_scratch_178 : decode cX12_scratch 178 = .ok (.ifCond .eq 7, 3) := by decide +kernel
theorem dX12_scratch_181 : decode cX12_scratch 181 = .ok (.iconst 1, 1) := by decide +kernel
theorem dX12_scratch_182 : decode cX12_scratch 182 = .ok (.goto 4, 3) := by decide +kernel
theorem dX12_scratch_185 : decode cX12_scratch 185 = .ok (.iconst 0, 1) := by decide +kernel
theorem dX12_scratch_186 : decode cX12_scratch 186 = .ok (.iadd, 1) := by decide +kernel
theorem dX12_scratch_187 : decode cX12_scratch 187 = .ok (.istore 4, 2) := by decide +kernel
theorem dX12_scratch_189 : decode cX12_scratch 189 = .ok (.iinc 5 1, 3) := by decide +kernel
theorem dX12_scratch_192 : decode cX12_scratch 192 = .ok (.goto (-43), 3) := by decide +kernel
theorem dX12_scratch_195 : decode cX12_scratch 195 = .ok (.iload_n 1, 1) := by decide +kernel
theorem dX12_scratch_196 : decode cX12_scratch 196 = .ok (.invokestatic 378, 3) := by decide +kernel
theorem dX12_scratch_199 : decode cX12_scratch 199 = .ok (.iconst 2, 1) := by decide +kernel
theorem dX12_scratch_200 : decode cX12_scratch 200 = .ok (.iload 4, 2) := by decide +kernel
theorem dX12_scratch_202 : decode cX12_scratch 202 = .ok (.imul, 1) := by decide +kernel
theorem dX12_scratch_203 : decode cX12_scratch 203 = .ok (.isub, 1) := by decide +kernel
theorem dX12_scratch_204 : decode cX12_scratch 204 = .ok (.invokestatic 282, 3) := by decide +kernel
theorem dX12_scratch_207 : decode cX12_scratch 207 = .ok (.istore 5, 2) := by decide +kernel
theorem dX12_scratch_209 : decode cX12_scratch 209 = .ok (.iload 5, 2) := by decide +kernel
theorem dX12_scratch_211 : decode cX12_scratch 211 = .ok (.iload_n 2, 1) := by decide +kernel
theorem dX12_scratch_212 : decode cX12_scratch 212 = .ok (.if_icmp .lt 6, 3) := by decide +kernel
theorem dX12_scratch_215 : decode cX12_scratch 215 = .ok (.goto 11, 3) := by decide +kernel
theorem dX12_scratch_218 : decode cX12_scratch 218 = .ok (.iload 5, 2) := by decide +kernel
theorem dX12_scratch_220 : decode cX12_scratch 220 = .ok (.istore_n 2, 1) := by decide +kernel
theorem dX12_scratch_221 : decode cX12_scratch 221 = .ok (.aload_n 0, 1) := by decide +kernel
theorem dX12_scratch_222 : decode cX12_scratch 222 = .ok (.iload_n 3, 1) := by decide +kernel
theorem dX12_scratch_223 : decode cX12_scratch 223 = .ok (.putfield 404, 3) := by decide +kernel
theorem dX12_scratch_226 : decode cX12_scratch 226 = .ok (.iinc 3 1, 3) := by decide +kernel
theorem dX12_scratch_229 : decode cX12_scratch 229 = .ok (.goto (-96), 3) := by decide +kernel
theorem dX12_scratch_232 : decode cX12_scratch 232 = .ok (.iload_n 1, 1) := by decide +kernel
theorem dX12_scratch_233 : decode cX12_scratch 233 = .ok (.ireturn, 1) := by decide +kernel
theorem dX12_ask_0 : decode cX12_ask 0 = .ok (.aload_n 0, 1) := by decide +kernel
theorem dX12_ask_1 : decode cX12_ask 1 = .ok (.iconst 0, 1) := by decide +kernel
theorem dX12_ask_2 : decode cX12_ask 2 = .ok (.putfield 1, 3) := by decide +kernel
theorem dX12_ask_5 : decode cX12_ask 5 = .ok (.aload_n 0, 1) := by decide +kernel
theorem dX12_ask_6 : decode cX12_ask 6 = .ok (.getfield 400, 3) := by decide +kernel
theorem dX12_ask_9 : decode cX12_ask 9 = .ok (.ifCond .eq 10, 3) := by decide +kernel
theorem dX12_ask_12 : decode cX12_ask 12 = .ok (.aload_n 0, 1) := by decide +kernel
theorem dX12_ask_13 : decode cX12_ask 13 = .ok (.getfield 404, 3) := by decide +kernel
theorem dX12_ask_16 : decode cX12_ask 16 = .ok (.goto 4, 3) := by decide +kernel
theorem dX12_ask_19 : decode cX12_ask 19 = .ok (.iconst (-1), 1) := by decide +kernel
theorem dX12_ask_20 : decode cX12_ask 20 = .ok (.ireturn, 1) := by decide +kernel
theorem dX12_unrest_0 : decode cX12_unrest 0 = .ok (.aload_n 0, 1) := by decide +kernel
theorem dX12_unrest_1 : decode cX12_unrest 1 = .ok (.iconst 0, 1) := by decide +kernel
theorem dX12_unrest_2 : decode cX12_unrest 2 = .ok (.putfield 1, 3) := by decide +kernel
theorem dX12_unrest_5 : decode cX12_unrest 5 = .ok (.iconst 0, 1) := by decide +kernel
theorem dX12_unrest_6 : decode cX12_unrest 6 = .ok (.istore_n 1, 1) := by decide +kernel
theorem dX12_unrest_7 : decode cX12_unrest 7 = .ok (.iconst 0, 1) := by decide +kernel
theorem dX12_unrest_8 : decode cX12_unrest 8 = .ok (.istore_n 2, 1) := by decide +kernel
theorem dX12_unrest_9 : decode cX12_unrest 9 = .ok (.iload_n 2, 1) := by decide +kernel
theorem dX12_unrest_10 : decode cX12_unrest 10 = .ok (.aload_n 0, 1) := by decide +kernel
theorem dX12_unrest_11 : decode cX12_unrest 11 = .ok (.getfield 33, 3) := by decide +kernel
theorem dX12_unrest_14 : decode cX12_unrest 14 = .ok (.iconst 0, 1) := by decide +kernel
theorem dX12_unrest_15 : decode cX12_unrest 15 = .ok (.iaload, 1) := by decide +kernel
theorem dX12_unrest_16 : decode cX12_unrest 16 = .ok (.if_icmp .ge 54, 3) := by decide +kernel
theorem dX12_unrest_19 : decode cX12_unrest 19 = .ok (.iload_n 1, 1) := by decide +kernel
theorem dX12_unrest_20 : decode cX12_unrest 20 = .ok (.aload_n 0, 1) := by decide +kernel
theorem dX12_unrest_21 : decode cX12_unrest 21 = .ok (.getfield 33, 3) := by decide +kernel
theorem dX12_unrest_24 : decode cX12_unrest 24 = .ok (.bipush 31, 2) := by decide +kernel
theorem dX12_unrest_26 : decode cX12_unrest 26 = .ok (.iload_n 2, 1) := by decide +kernel
theorem dX12_unrest_27 : decode cX12_unrest 27 = .ok (.iadd, 1) := by decide +kernel
theorem dX12_unrest_28 : decode cX12_unrest 28 = .ok (.iaload, 1) := by decide +kernel
theorem dX12_unrest_29 : decode cX12_unrest 29 = .ok (.ifCond .le 32, 3) := by decide +kernel
theorem dX12_unrest_32 : decode cX12_unrest 32 = .ok (.aload_n 0, 1) := by decide +kernel
theorem dX12_unrest_33 : decode cX12_unrest 33 = .ok (.iload_n 2, 1) := by decide +kernel
theorem dX12_unrest_34 : decode cX12_unrest 34 = .ok (.invokevirtual 290, 3) := by decide +kernel
theorem dX12_unrest_37 : decode cX12_unrest 37 = .ok (.aload_n 0, 1) := by decide +kernel
theorem dX12_unrest_38 : decode cX12_unrest 38 = .ok (.aload_n 0, 1) := by decide +kernel
theorem dX12_unrest_39 : decode cX12_unrest 39 = .ok (.getfield 33, 3) := by decide +kernel
theorem dX12_unrest_42 : decode cX12_unrest 42 = .ok (.bipush 31, 2) := by decide +kernel
theorem dX12_unrest_44 : decode cX12_unrest 44 = .ok (.iload_n 2, 1) := by decide +kernel
theorem dX12_unrest_45 : decode cX12_unrest 45 = .ok (.iadd, 1) := by decide +kernel
theorem dX12_unrest_46 : decode cX12_unrest 46 = .ok (.iaload, 1) := by decide +kernel
theorem dX12_unrest_47 : decode cX12_unrest 47 = .ok (.iconst 1, 1) := by decide +kernel
theorem dX12_unrest_48 : decode cX12_unrest 48 = .ok (.isub, 1) := by decide +kernel
theorem dX12_unrest_49 : decode cX12_unrest 49 = .ok (.invokevirtual 290, 3) := by decide +kernel
theorem dX12_unrest_52 : decode cX12_unrest 52 = .ok (.if_icmp .le 9, 3) := by decide +kernel
theorem dX12_unrest_55 : decode cX12_unrest 55 = .ok (.iconst 1, 1) := by decide +kernel
theorem dX12_unrest_56 : decode cX12_unrest 56 = .ok (.iload_n 2, 1) := by decide +kernel
theorem dX12_unrest_57 : decode cX12_unrest 57 = .ok (.ishl, 1) := by decide +kernel
theorem dX12_unrest_58 : decode cX12_unrest 58 = .ok (.goto 4, 3) := by decide +kernel
theorem dX12_unrest_61 : decode cX12_unrest 61 = .ok (.iconst 0, 1) := by decide +kernel
theorem dX12_unrest_62 : decode cX12_unrest 62 = .ok (.ior, 1) := by decide +kernel
theorem dX12_unrest_63 : decode cX12_unrest 63 = .ok (.istore_n 1, 1) := by decide +kernel
theorem dX12_unrest_64 : decode cX12_unrest 64 = .ok (.iinc 2 1, 3) := by decide +kernel
theorem dX12_unrest_67 : decode cX12_unrest 67 = .ok (.goto (-58), 3) := by decide +kernel
theorem dX12_unrest_70 : decode cX12_unrest 70 = .ok (.iload_n 1, 1) := by decide +kernel
theorem dX12_unrest_71 : decode cX12_unrest 71 = .ok (.ireturn, 1) := by decide +kernel
theorem dX12_lays_0 : decode cX12_lays 0 = .ok (.aload_n 0, 1) := by decide +kernel
theorem dX12_lays_1 : decode cX12_lays 1 = .ok (.getfield 71, 3) := by decide +kernel
theorem dX12_lays_4 : decode cX12_lays 4 = .ok (.aload_n 0, 1) := by decide +kernel
theorem dX12_lays_5 : decode cX12_lays 5 = .ok (.getfield 407, 3) := by decide +kernel
theorem dX12_lays_8 : decode cX12_lays 8 = .ok (.iload_n 1, 1) := by decide +kernel
theorem dX12_lays_9 : decode cX12_lays 9 = .ok (.i2b, 1) := by decide +kernel
theorem dX12_lays_10 : decode cX12_lays 10 = .ok (.bastore, 1) := by decide +kernel
theorem dX12_lays_11 : decode cX12_lays 11 = .ok (.aload_n 0, 1) := by decide +kernel
theorem dX12_lays_12 : decode cX12_lays 12 = .ok (.dup, 1) := by decide +kernel
theorem dX12_lays_13 : decode cX12_lays 13 = .ok (.getfield 407, 3) := by decide +kernel
theorem dX12_lays_16 : decode cX12_lays 16 = .ok (.iconst 1, 1) := by decide +kernel
theorem dX12_lays_17 : decode cX12_lays 17 = .ok (.iadd, 1) := by decide +kernel
theorem dX12_lays_18 : decode cX12_lays 18 = .ok (.putfield 407, 3) := by decide +kernel
theorem dX12_lays_21 : decode cX12_lays 21 = .ok (.return_, 1) := by decide +kernel
theorem dX12_spells_0 : decode cX12_spells 0 = .ok (.bipush 56, 2) := by decide +kernel
theorem dX12_spells_2 : decode cX12_spells 2 = .ok (.istore_n 3, 1) := by decide +kernel
theorem dX12_spells_3 : decode cX12_spells 3 = .ok (.iload_n 3, 1) := by decide +kernel
theorem dX12_spells_4 : decode cX12_spells 4 = .ok (.ifCond .lt 33, 3) := by decide +kernel
theorem dX12_spells_7 : decode cX12_spells 7 = .ok (.lload_n 1, 1) := by decide +kernel
theorem dX12_spells_8 : decode cX12_spells 8 = .ok (.iload_n 3, 1) := by decide +kernel
theorem dX12_spells_9 : decode cX12_spells 9 = .ok (.lshr, 1) := by decide +kernel
theorem dX12_spells_10 : decode cX12_spells 10 = .ok (.ldc2_w 410, 3) := by decide +kernel
theorem dX12_spells_13 : decode cX12_spells 13 = .ok (.land, 1) := by decide +kernel
theorem dX12_spells_14 : decode cX12_spells 14 = .ok (.lconst 0, 1) := by decide +kernel
theorem dX12_spells_15 : decode cX12_spells 15 = .ok (.lcmp, 1) := by decide +kernel
theorem dX12_spells_16 : decode cX12_spells 16 = .ok (.ifCond .eq 15, 3) := by decide +kernel
theorem dX12_spells_19 : decode cX12_spells 19 = .ok (.aload_n 0, 1) := by decide +kernel
theorem dX12_spells_20 : decode cX12_spells 20 = .ok (.lload_n 1, 1) := by decide +kernel
theorem dX12_spells_21 : decode cX12_spells 21 = .ok (.iload_n 3, 1) := by decide +kernel
theorem dX12_spells_22 : decode cX12_spells 22 = .ok (.lshr, 1) := by decide +kernel
theorem dX12_spells_23 : decode cX12_spells 23 = .ok (.ldc2_w 410, 3) := by decide +kernel
theorem dX12_spells_26 : decode cX12_spells 26 = .ok (.land, 1) := by decide +kernel
theorem dX12_spells_27 : decode cX12_spells 27 = .ok (.l2i, 1) := by decide +kernel
theorem dX12_spells_28 : decode cX12_spells 28 = .ok (.invokevirtual 412, 3) := by decide +kernel
theorem dX12_spells_31 : decode cX12_spells 31 = .ok (.iinc 3 (-8), 3) := by decide +kernel
theorem dX12_spells_34 : decode cX12_spells 34 = .ok (.goto (-31), 3) := by decide +kernel
theorem dX12_spells_37 : decode cX12_spells 37 = .ok (.return_, 1) := by decide +kernel
theorem dX12_says_0 : decode cX12_says 0 = .ok (.aload_n 0, 1) := by decide +kernel
theorem dX12_says_1 : decode cX12_says 1 = .ok (.bipush 32, 2) := by decide +kernel
theorem dX12_says_3 : decode cX12_says 3 = .ok (.invokevirtual 412, 3) := by decide +kernel
theorem dX12_says_6 : decode cX12_says 6 = .ok (.aload_n 0, 1) := by decide +kernel
theorem dX12_says_7 : decode cX12_says 7 = .ok (.lload_n 1, 1) := by decide +kernel
theorem dX12_says_8 : decode cX12_says 8 = .ok (.invokevirtual 415, 3) := by decide +kernel
theorem dX12_says_11 : decode cX12_says 11 = .ok (.return_, 1) := by decide +kernel
theorem dX12_report_0 : decode cX12_report 0 = .ok (.aload_n 0, 1) := by decide +kernel
theorem dX12_report_1 : decode cX12_report 1 = .ok (.iconst 0, 1) := by decide +kernel
theorem dX12_report_2 : decode cX12_report 2 = .ok (.putfield 1, 3) := by decide +kernel
theorem dX12_report_5 : decode cX12_report 5 = .ok (.aload_n 0, 1) := by decide +kernel
theorem dX12_report_6 : decode cX12_report 6 = .ok (.iload_n 1, 1) := by decide +kernel
theorem dX12_report_7 : decode cX12_report 7 = .ok (.invokevirtual 303, 3) := by decide +kernel
theorem dX12_report_10 : decode cX12_report 10 = .ok (.ifCond .ne 5, 3) := by decide +kernel
theorem dX12_report_13 : decode cX12_report 13 = .ok (.iconst (-1), 1) := by decide +kernel
theorem dX12_report_14 : decode cX12_report 14 = .ok (.ireturn, 1) := by decide +kernel
theorem dX12_report_15 : decode cX12_report 15 = .ok (.aload_n 0, 1) := by decide +kernel
theorem dX12_report_16 : decode cX12_report 16 = .ok (.iconst 0, 1) := by decide +kernel
theorem dX12_report_17 : decode cX12_report 17 = .ok (.putfield 407, 3) := by decide +kernel
theorem dX12_report_20 : decode cX12_report 20 = .ok (.aload_n 0, 1) := by decide +kernel
theorem dX12_report_21 : decode cX12_report 21 = .ok (.aload_n 0, 1) := by decide +kernel
theorem dX12_report_22 : decode cX12_report 22 = .ok (.getfield 43, 3) := by decide +kernel
theorem dX12_report_25 : decode cX12_report 25 = .ok (.iload_n 1, 1) := by decide +kernel
theorem dX12_report_26 : decode cX12_report 26 = .ok (.laload, 1) := by decide +kernel
theorem dX12_report_27 : decode cX12_report 27 = .ok (.invokevirtual 415, 3) := by decide +kernel
theorem dX12_report_30 : decode cX12_report 30 = .ok (.aload_n 0, 1) := by decide +kernel
theorem dX12_report_31 : decode cX12_report 31 = .ok (.aload_n 0, 1) := by decide +kernel
theorem dX12_report_32 : decode cX12_report 32 = .ok (.getfield 33, 3) := by decide +kernel
theorem dX12_report_35 : decode cX12_report 35 = .ok (.bipush 90, 2) := by decide +kernel
theorem dX12_report_37 : decode cX12_report 37 = .ok (.iload_n 1, 1) := by decide +kernel
theorem dX12_report_38 : decode cX12_report 38 = .ok (.iadd, 1) := by decide +kernel
theorem dX12_report_39 : decode cX12_report 39 = .ok (.iaload, 1) := by decide +kernel
theorem dX12_report_40 : decode cX12_report 40 = .ok (.ifCond .le 9, 3) := by decide +kernel
theorem dX12_report_43 : decode cX12_report 43 = .ok (.ldc2_w 151, 3) := by decide +kernel
theorem dX12_report_46 : decode cX12_report 46 = .ok (.goto 6, 3) := by decide +kernel
theorem dX12_report_49 : decode cX12_report 49 = .ok (.ldc2_w 147, 3) := by decide +kernel
theorem dX12_report_52 : decode cX12_report 52 = .ok (.invokevirtual 419, 3) := by decide +kernel
theorem dX12_report_55 : decode cX12_report 55 = .ok (.aload_n 0, 1) := by decide +kernel
theorem dX12_report_56 : decode cX12_report 56 = .ok (.getfield 33, 3) := by decide +kernel
theorem dX12_report_59 : decode cX12_report 59 = .ok (.bipush 90, 2) := by decide +kernel
theorem dX12_report_61 : decode cX12_report 61 = .ok (.iload_n 1, 1) := by decide +kernel
theorem dX12_report_62 : decode cX12_report 62 = .ok (.iadd, 1) := by decide +kernel
theorem dX12_report_63 : decode cX12_report 63 = .ok (.iaload, 1) := by decide +kernel
theorem dX12_report_64 : decode cX12_report 64 = .ok (.ifCond .le 24, 3) := by decide +kernel
theorem dX12_report_67 : decode cX12_report 67 = .ok (.aload_n 0, 1) := by decide +kernel
theorem dX12_report_68 : decode cX12_report 68 = .ok (.aload_n 0, 1) := by decide +kernel
theorem dX12_report_69 : decode cX12_report 69 = .ok (.getfield 43, 3) := by decide +kernel
theorem dX12_report_72 : decode cX12_report 72 = .ok (.bipush 7, 2) := by decide +kernel
theorem dX12_report_74 : decode cX12_report 74 = .ok (.aload_n 0, 1) := by decide +kernel
theorem dX12_report_75 : decode cX12_report 75 = .ok (.getfield 33, 3) := by decide +kernel
theorem dX12_report_78 : decode cX12_report 78 = .ok (.bipush 90, 2) := by decide +kernel
theorem dX12_report_80 : decode cX12_report 80 = .ok (.iload_n 1, 1) := by decide +kernel
theorem dX12_report_81 : decode cX12_report 81 = .ok (.iadd, 1) := by decide +kernel
theorem dX12_report_82 : decode cX12_report 82 = .ok (.iaload, 1) := by decide +kernel
theorem dX12_report_83 : decode cX12_report 83 = .ok (.iadd, 1) := by decide +kernel
theorem dX12_report_84 : decode cX12_report 84 = .ok (.laload, 1) := by decide +kernel
theorem dX12_report_85 : decode cX12_report 85 = .ok (.invokevirtual 419, 3) := by decide +kernel
theorem dX12_report_88 : decode cX12_report 88 = .ok (.aload_n 0, 1) := by decide +kernel
theorem dX12_report_89 : decode cX12_report 89 = .ok (.getfield 33, 3) := by decide +kernel
theorem dX12_report_92 : decode cX12_report 92 = .ok (.bipush 82, 2) := by decide +kernel
theorem dX12_report_94 : decode cX12_report 94 = .ok (.iload_n 1, 1) := by decide +kernel
theorem dX12_report_95 : decode cX12_report 95 = .ok (.iadd, 1) := by decide +kernel
theorem dX12_report_96 : decode cX12_report 96 = .ok (.iaload, 1) := by decide +kernel
theorem dX12_report_97 : decode cX12_report 97 = .ok (.ifCond .le 30, 3) := by decide +kernel
theorem dX12_report_100 : decode cX12_report 100 = .ok (.aload_n 0, 1) := by decide +kernel
theorem dX12_report_101 : decode cX12_report 101 = .ok (.ldc2_w 155, 3) := by decide +kernel
theorem dX12_report_104 : decode cX12_report 104 = .ok (.invokevirtual 419, 3) := by decide +kernel
theorem dX12_report_107 : decode cX12_report 107 = .ok (.aload_n 0, 1) := by decide +kernel
theorem dX12_report_108 : decode cX12_report 108 = .ok (.aload_n 0, 1) := by decide +kernel
theorem dX12_report_109 : decode cX12_report 109 = .ok (.getfield 47, 3) := by decide +kernel
theorem dX12_report_112 : decode cX12_report 112 = .ok (.iconst 4, 1) := by decide +kernel
theorem dX12_report_113 : decode cX12_report 113 = .ok (.aload_n 0, 1) := by decide +kernel
theorem dX12_report_114 : decode cX12_report 114 = .ok (.getfield 33, 3) := by decide +kernel
theorem dX12_report_117 : decode cX12_report 117 = .ok (.bipush 82, 2) := by decide +kernel
theorem dX12_report_119 : decode cX12_report 119 = .ok (.iload_n 1, 1) := by decide +kernel
theorem dX12_report_120 : decode cX12_report 120 = .ok (.iadd, 1) := by decide +kernel
theorem dX12_report_121 : decode cX12_report 121 = .ok (.iaload, 1) := by decide +kernel
theorem dX12_report_122 : decode cX12_report 122 = .ok (.iadd, 1) := by decide +kernel
theorem dX12_report_123 : decode cX12_report 123 = .ok (.laload, 1) := by decide +kernel
theorem dX12_report_124 : decode cX12_report 124 = .ok (.invokevirtual 419, 3) := by decide +kernel
theorem dX12_report_127 : decode cX12_report 127 = .ok (.aload_n 0, 1) := by decide +kernel
theorem dX12_report_128 : decode cX12_report 128 = .ok (.getfield 33, 3) := by decide +kernel
theorem dX12_report_131 : decode cX12_report 131 = .ok (.bipush 63, 2) := by decide +kernel
theorem dX12_report_133 : decode cX12_report 133 = .ok (.iaload, 1) := by decide +kernel
theorem dX12_report_134 : decode cX12_report 134 = .ok (.iload_n 1, 1) := by decide +kernel
theorem dX12_report_135 : decode cX12_report 135 = .ok (.invokestatic 231, 3) := by decide +kernel
theorem dX12_report_138 : decode cX12_report 138 = .ok (.ifCond .eq 10, 3) := by decide +kernel
theorem dX12_report_141 : decode cX12_report 141 = .ok (.aload_n 0, 1) := by decide +kernel
theorem dX12_report_142 : decode cX12_report 142 = .ok (.ldc2_w 143, 3) := by decide +kernel
theorem dX12_report_145 : decode cX12_report 145 = .ok (.invokevirtual 419, 3) := by decide +kernel
theorem dX12_report_148 : decode cX12_report 148 = .ok (.aload_n 0, 1) := by decide +kernel
theorem dX12_report_149 : decode cX12_report 149 = .ok (.getfield 407, 3) := by decide +kernel
theorem dX12_report_152 : decode cX12_report 152 = .ok (.ireturn, 1) := by decide +kernel
theorem dX12_byteAt_0 : decode cX12_byteAt 0 = .ok (.aload_n 0, 1) := by decide +kernel
theorem dX12_byteAt_1 : decode cX12_byteAt 1 = .ok (.iconst 0, 1) := by decide +kernel
theorem dX12_byteAt_2 : decode cX12_byteAt 2 = .ok (.putfield 1, 3) := by decide +kernel
theorem dX12_byteAt_5 : decode cX12_byteAt 5 = .ok (.iload_n 1, 1) := by decide +kernel
theorem dX12_byteAt_6 : decode cX12_byteAt 6 = .ok (.iconst 0, 1) := by decide +kernel
theorem dX12_byteAt_7 : decode cX12_byteAt 7 = .ok (.aload_n 0, 1) := by decide +kernel
theorem dX12_byteAt_8 : decode cX12_byteAt 8 = .ok (.getfield 407, 3) := by decide +kernel
theorem dX12_byteAt_11 : decode cX12_byteAt 11 = .ok (.iconst 1, 1) := by decide +kernel
theorem dX12_byteAt_12 : decode cX12_byteAt 12 = .ok (.isub, 1) := by decide +kernel
theorem dX12_byteAt_13 : decode cX12_byteAt 13 = .ok (.invokestatic 206, 3) := by decide +kernel
theorem dX12_byteAt_16 : decode cX12_byteAt 16 = .ok (.ifCond .eq 12, 3) := by decide +kernel
theorem dX12_byteAt_19 : decode cX12_byteAt 19 = .ok (.aload_n 0, 1) := by decide +kernel
theorem dX12_byteAt_20 : decode cX12_byteAt 20 = .ok (.getfield 71, 3) := by decide +kernel
theorem dX12_byteAt_23 : decode cX12_byteAt 23 = .ok (.iload_n 1, 1) := by decide +kernel
theorem dX12_byteAt_24 : decode cX12_byteAt 24 = .ok (.baload, 1) := by decide +kernel
theorem dX12_byteAt_25 : decode cX12_byteAt 25 = .ok (.goto 4, 3) := by decide +kernel
theorem dX12_byteAt_28 : decode cX12_byteAt 28 = .ok (.iconst (-1), 1) := by decide +kernel
theorem dX12_byteAt_29 : decode cX12_byteAt 29 = .ok (.ireturn, 1) := by decide +kernel
theorem dX12_draw_0 : decode cX12_draw 0 = .ok (.aload_n 0, 1) := by decide +kernel
theorem dX12_draw_1 : decode cX12_draw 1 = .ok (.aload_n 0, 1) := by decide +kernel
theorem dX12_draw_2 : decode cX12_draw 2 = .ok (.getfield 422, 3) := by decide +kernel
theorem dX12_draw_5 : decode cX12_draw 5 = .ok (.ldc_w 425, 3) := by decide +kernel
theorem dX12_draw_8 : decode cX12_draw 8 = .ok (.imul, 1) := by decide +kernel
theorem dX12_draw_9 : decode cX12_draw 9 = .ok (.sipush 12345, 3) := by decide +kernel
theorem dX12_draw_12 : decode cX12_draw 12 = .ok (.iadd, 1) := by decide +kernel
theorem dX12_draw_13 : decode cX12_draw 13 = .ok (.putfield 422, 3) := by decide +kernel
theorem dX12_draw_16 : decode cX12_draw 16 = .ok (.aload_n 0, 1) := by decide +kernel
theorem dX12_draw_17 : decode cX12_draw 17 = .ok (.getfield 422, 3) := by decide +kernel
theorem dX12_draw_20 : decode cX12_draw 20 = .ok (.bipush 8, 2) := by decide +kernel
theorem dX12_draw_22 : decode cX12_draw 22 = .ok (.iushr, 1) := by decide +kernel
theorem dX12_draw_23 : decode cX12_draw 23 = .ok (.iload_n 1, 1) := by decide +kernel
theorem dX12_draw_24 : decode cX12_draw 24 = .ok (.irem, 1) := by decide +kernel
theorem dX12_draw_25 : decode cX12_draw 25 = .ok (.ireturn, 1) := by decide +kernel
theorem dX12_drawMan_0 : decode cX12_drawMan 0 = .ok (.aload_n 0, 1) := by decide +kernel
theorem dX12_drawMan_1 : decode cX12_drawMan 1 = .ok (.bipush 8, 2) := by decide +kernel
theorem dX12_drawMan_3 : decode cX12_drawMan 3 = .ok (.invokevirtual 426, 3) := by decide +kernel
theorem dX12_drawMan_6 : decode cX12_drawMan 6 = .ok (.istore_n 2, 1) := by decide +kernel
theorem dX12_drawMan_7 : decode cX12_drawMan 7 = .ok (.iload_n 2, 1) := by decide +kernel
theorem dX12_drawMan_8 : decode cX12_drawMan 8 = .ok (.ifCond .ne 25, 3) := by decide +kernel
theorem dX12_drawMan_11 : decode cX12_drawMan 11 = .ok (.aload_n 0, 1) := by decide +kernel
theorem dX12_drawMan_12 : decode cX12_drawMan 12 = .ok (.iconst 3, 1) := by decide +kernel
theorem dX12_drawMan_13 : decode cX12_drawMan 13 = .ok (.invokevirtual 426, 3) := by decide +kernel
theorem dX12_drawMan_16 : decode cX12_drawMan 16 = .ok (.iconst 1, 1) := by decide +kernel
theorem dX12_drawMan_17 : decode cX12_drawMan 17 = .ok (.iadd, 1) := by decide +kernel
theorem dX12_drawMan_18 : decode cX12_drawMan 18 = .ok (.istore_n 3, 1) := by decide +kernel
theorem dX12_drawMan_19 : decode cX12_drawMan 19 = .ok (.aload_n 0, 1) := by decide +kernel
theorem dX12_drawMan_20 : decode cX12_drawMan 20 = .ok (.iload_n 1, 1) := by decide +kernel
theorem dX12_drawMan_21 : decode cX12_drawMan 21 = .ok (.invokevirtual 290, 3) := by decide +kernel
theorem dX12_drawMan_24 : decode cX12_drawMan 24 = .ok (.ifCond .le 9, 3) := by decide +kernel
theorem dX12_drawMan_27 : decode cX12_drawMan 27 = .ok (.aload_n 0, 1) := by decide +kernel
theorem dX12_drawMan_28 : decode cX12_drawMan 28 = .ok (.iload_n 1, 1) := by decide +kernel
theorem dX12_drawMan_29 : decode cX12_drawMan 29 = .ok (.iload_n 3, 1) := by decide +kernel
theorem dX12_drawMan_30 : decode cX12_drawMan 30 = .ok (.invokevirtual 329, 3) := by decide +kernel
theorem dX12_drawMan_33 : decode cX12_drawMan 33 = .ok (.iload_n 2, 1) := by decide +kernel
theorem dX12_drawMan_34 : decode cX12_drawMan 34 = .ok (.iconst 1, 1) := by decide +kernel
theorem dX12_drawMan_35 : decode cX12_drawMan 35 = .ok (.if_icmp .ne 16, 3) := by decide +kernel
theorem dX12_drawMan_38 : decode cX12_drawMan 38 = .ok (.aload_n 0, 1) := by decide +kernel
theorem dX12_drawMan_39 : decode cX12_drawMan 39 = .ok (.getfield 33, 3) := by decide +kernel
theorem dX12_drawMan_42 : decode cX12_drawMan 42 = .ok (.bipush 63, 2) := by decide +kernel
theorem dX12_drawMan_44 : decode cX12_drawMan 44 = .ok (.dup2, 1) := by decide +kernel
theorem dX12_drawMan_45 : decode cX12_drawMan 45 = .ok (.iaload, 1) := by decide +kernel
theorem dX12_drawMan_46 : decode cX12_drawMan 46 = .ok (.iconst 1, 1) := by decide +kernel
theorem dX12_drawMan_47 : decode cX12_drawMan 47 = .ok (.iload_n 1, 1) := by decide +kernel
theorem dX12_drawMan_48 : decode cX12_drawMan 48 = .ok (.ishl, 1) := by decide +kernel
theorem dX12_drawMan_49 : decode cX12_drawMan 49 = .ok (.ixor, 1) := by decide +kernel
theorem dX12_drawMan_50 : decode cX12_drawMan 50 = .ok (.iastore, 1) := by decide +kernel
theorem dX12_drawMan_51 : decode cX12_drawMan 51 = .ok (.iload_n 2, 1) := by decide +kernel
theorem dX12_drawMan_52 : decode cX12_drawMan 52 = .ok (.iconst 2, 1) := by decide +kernel
theorem dX12_drawMan_53 : decode cX12_drawMan 53 = .ok (.if_icmp .ne 24, 3) := by decide +kernel
theorem dX12_drawMan_56 : decode cX12_drawMan 56 = .ok (.aload_n 0, 1) := by decide +kernel
theorem dX12_drawMan_57 : decode cX12_drawMan 57 = .ok (.iconst 4, 1) := by decide +kernel
theorem dX12_drawMan_58 : decode cX12_drawMan 58 = .ok (.invokevirtual 426, 3) := by decide +kernel
theorem dX12_drawMan_61 : decode cX12_drawMan 61 = .ok (.istore_n 3, 1) := by decide +kernel
theorem dX12_drawMan_62 : decode cX12_drawMan 62 = .ok (.aload_n 0, 1) := by decide +kernel
theorem dX12_drawMan_63 : decode cX12_drawMan 63 = .ok (.iload_n 1, 1) := by decide +kernel
theorem dX12_drawMan_64 : decode cX12_drawMan 64 = .ok (.iload_n 3, 1) := by decide +kernel
theorem dX12_drawMan_65 : decode cX12_drawMan 65 = .ok (.invokevirtual 351, 3) := by decide +kernel
theorem dX12_drawMan_68 : decode cX12_drawMan 68 = .ok (.ifCond .ne 9, 3) := by decide +kernel
theorem dX12_drawMan_71 : decode cX12_drawMan 71 = .ok (.aload_n 0, 1) := by decide +kernel
theorem dX12_drawMan_72 : decode cX12_drawMan 72 = .ok (.iload_n 1, 1) := by decide +kernel
theorem dX12_drawMan_73 : decode cX12_drawMan 73 = .ok (.iload_n 3, 1) := by decide +kernel
theorem dX12_drawMan_74 : decode cX12_drawMan 74 = .ok (.invokevirtual 354, 3) := by decide +kernel
theorem dX12_drawMan_77 : decode cX12_drawMan 77 = .ok (.iload_n 2, 1) := by decide +kernel
theorem dX12_drawMan_78 : decode cX12_drawMan 78 = .ok (.iconst 3, 1) := by decide +kernel
theorem dX12_drawMan_79 : decode cX12_drawMan 79 = .ok (.if_icmp .ne 49, 3) := by decide +kernel
theorem dX12_drawMan_82 : decode cX12_drawMan 82 = .ok (.aload_n 0, 1) := by decide +kernel
theorem dX12_drawMan_83 : decode cX12_drawMan 83 = .ok (.getfield 33, 3) := by decide +kernel
theorem dX12_drawMan_86 : decode cX12_drawMan 86 = .ok (.iconst 1, 1) := by decide +kernel
theorem dX12_drawMan_87 : decode cX12_drawMan 87 = .ok (.iaload, 1) := by decide +kernel
theorem dX12_drawMan_88 : decode cX12_drawMan 88 = .ok (.ifCond .le 40, 3) := by decide +kernel
theorem dX12_drawMan_91 : decode cX12_drawMan 91 = .ok (.aload_n 0, 1) := by decide +kernel
theorem dX12_drawMan_92 : decode cX12_drawMan 92 = .ok (.aload_n 0, 1) := by decide +kernel
theorem dX12_drawMan_93 : decode cX12_drawMan 93 = .ok (.getfield 33, 3) := by decide +kernel
theorem dX12_drawMan_96 : decode cX12_drawMan 96 = .ok (.iconst 1, 1) := by decide +kernel
theorem dX12_drawMan_97 : decode cX12_drawMan 97 = .ok (.iaload, 1) := by decide +kernel
theorem dX12_drawMan_98 : decode cX12_drawMan 98 = .ok (.invokevirtual 426, 3) := by decide +kernel
theorem dX12_drawMan_101 : decode cX12_drawMan 101 = .ok (.istore_n 3, 1) := by decide +kernel
theorem dX12_drawMan_102 : decode cX12_drawMan 102 = .ok (.aload_n 0, 1) := by decide +kernel
theorem dX12_drawMan_103 : decode cX12_drawMan 103 = .ok (.getfield 33, 3) := by decide +kernel
theorem dX12_drawMan_106 : decode cX12_drawMan 106 = .ok (.bipush 31, 2) := by decide +kernel
theorem dX12_drawMan_108 : decode cX12_drawMan 108 = .ok (.iload_n 1, 1) := by decide +kernel
theorem dX12_drawMan_109 : decode cX12_drawMan 109 = .ok (.iadd, 1) := by decide +kernel
theorem dX12_drawMan_110 : decode cX12_drawMan 110 = .ok (.iaload, 1) := by decide +kernel
theorem dX12_drawMan_111 : decode cX12_drawMan 111 = .ok (.ifCond .ne 17, 3) := by decide +kernel
theorem dX12_drawMan_114 : decode cX12_drawMan 114 = .ok (.aload_n 0, 1) := by decide +kernel
theorem dX12_drawMan_115 : decode cX12_drawMan 115 = .ok (.iload_n 1, 1) := by decide +kernel
theorem dX12_drawMan_116 : decode cX12_drawMan 116 = .ok (.invokevirtual 290, 3) := by decide +kernel
theorem dX12_drawMan_119 : decode cX12_drawMan 119 = .ok (.ifCond .le 9, 3) := by decide +kernel
theorem dX12_drawMan_122 : decode cX12_drawMan 122 = .ok (.aload_n 0, 1) := by decide +kernel
theorem dX12_drawMan_123 : decode cX12_drawMan 123 = .ok (.iload_n 1, 1) := by decide +kernel
theorem dX12_drawMan_124 : decode cX12_drawMan 124 = .ok (.iload_n 3, 1) := by decide +kernel
theorem dX12_drawMan_125 : decode cX12_drawMan 125 = .ok (.invokevirtual 332, 3) := by decide +kernel
theorem dX12_drawMan_128 : decode cX12_drawMan 128 = .ok (.return_, 1) := by decide +kernel
theorem dX12_draws_0 : decode cX12_draws 0 = .ok (.aload_n 0, 1) := by decide +kernel
theorem dX12_draws_1 : decode cX12_draws 1 = .ok (.iload_n 2, 1) := by decide +kernel
theorem dX12_draws_2 : decode cX12_draws 2 = .ok (.putfield 422, 3) := by decide +kernel
theorem dX12_draws_5 : decode cX12_draws 5 = .ok (.iconst 0, 1) := by decide +kernel
theorem dX12_draws_6 : decode cX12_draws 6 = .ok (.istore_n 3, 1) := by decide +kernel
theorem dX12_draws_7 : decode cX12_draws 7 = .ok (.iload_n 3, 1) := by decide +kernel
theorem dX12_draws_8 : decode cX12_draws 8 = .ok (.iload_n 1, 1) := by decide +kernel
theorem dX12_draws_9 : decode cX12_draws 9 = .ok (.if_icmp .ge 52, 3) := by decide +kernel
theorem dX12_draws_12 : decode cX12_draws 12 = .ok (.aload_n 0, 1) := by decide +kernel
theorem dX12_draws_13 : decode cX12_draws 13 = .ok (.getfield 33, 3) := by decide +kernel
theorem dX12_draws_16 : decode cX12_draws 16 = .ok (.bipush 61, 2) := by decide +kernel
theorem dX12_draws_18 : decode cX12_draws 18 = .ok (.iaload, 1) := by decide +kernel
theorem dX12_draws_19 : decode cX12_draws 19 = .ok (.sipush 400, 3) := by decide +kernel
theorem dX12_draws_22 : decode cX12_draws 22 = .ok (.if_icmp .ge 39, 3) := by decide +kernel
theorem dX12_draws_25 : decode cX12_draws 25 = .ok (.iconst 0, 1) := by decide +kernel
theorem dX12_draws_26 : decode cX12_draws 26 = .ok (.istore 4, 2) := by decide +kernel
theorem dX12_draws_28 : decode cX12_draws 28 = .ok (.iload 4, 2) := by decide +kernel
theorem dX12_draws_30 : decode cX12_draws 30 = .ok (.aload_n 0, 1) := by decide +kernel
theorem dX12_draws_31 : decode cX12_draws 31 = .ok (.getfield 33, 3) := by decide +kernel
theorem dX12_draws_34 : decode cX12_draws 34 = .ok (.iconst 0, 1) := by decide +kernel
theorem dX12_draws_35 : decode cX12_draws 35 = .ok (.iaload, 1) := by decide +kernel
theorem dX12_draws_36 : decode cX12_draws 36 = .ok (.if_icmp .ge 15, 3) := by decide +kernel
theorem dX12_draws_39 : decode cX12_draws 39 = .ok (.aload_n 0, 1) := by decide +kernel
theorem dX12_draws_40 : decode cX12_draws 40 = .ok (.iload 4, 2) := by decide +kernel
theorem dX12_draws_42 : decode cX12_draws 42 = .ok (.invokevirtual 429, 3) := by decide +kernel
theorem dX12_draws_45 : decode cX12_draws 45 = .ok (.iinc 4 1, 3) := by decide +kernel
theorem dX12_draws_48 : decode cX12_draws 48 = .ok (.goto (-20), 3) := by decide +kernel
theorem dX12_draws_51 : decode cX12_draws 51 = .ok (.aload_n 0, 1) := by decide +kernel
theorem dX12_draws_52 : decode cX12_draws 52 = .ok (.invokevirtual 335, 3) := by decide +kernel
theorem dX12_draws_55 : decode cX12_draws 55 = .ok (.iinc 3 1, 3) := by decide +kernel
theorem dX12_draws_58 : decode cX12_draws 58 = .ok (.goto (-51), 3) := by decide +kernel
theorem dX12_draws_61 : decode cX12_draws 61 = .ok (.iload_n 3, 1) := by decide +kernel
theorem dX12_draws_62 : decode cX12_draws 62 = .ok (.ireturn, 1) := by decide +kernel
theorem dX12_drawn_0 : decode cX12_drawn 0 = .ok (.aload_n 0, 1) := by decide +kernel
theorem dX12_drawn_1 : decode cX12_drawn 1 = .ok (.iconst 0, 1) := by decide +kernel
theorem dX12_drawn_2 : decode cX12_drawn 2 = .ok (.putfield 1, 3) := by decide +kernel
theorem dX12_drawn_5 : decode cX12_drawn 5 = .ok (.iload_n 1, 1) := by decide +kernel
theorem dX12_drawn_6 : decode cX12_drawn 6 = .ok (.iconst 1, 1) := by decide +kernel
theorem dX12_drawn_7 : decode cX12_drawn 7 = .ok (.bipush 60, 2) := by decide +kernel
theorem dX12_drawn_9 : decode cX12_drawn 9 = .ok (.invokestatic 206, 3) := by decide +kernel
theorem dX12_drawn_12 : decode cX12_drawn 12 = .ok (.ifCond .ne 5, 3) := by decide +kernel
theorem dX12_drawn_15 : decode cX12_drawn 15 = .ok (.iconst (-1), 1) := by decide +kernel
theorem dX12_drawn_16 : decode cX12_drawn 16 = .ok (.ireturn, 1) := by decide +kernel
theorem dX12_drawn_17 : decode cX12_drawn 17 = .ok (.aload_n 0, 1) := by decide +kernel
theorem dX12_drawn_18 : decode cX12_drawn 18 = .ok (.getfield 33, 3) := by decide +kernel
theorem dX12_drawn_21 : decode cX12_drawn 21 = .ok (.bipush 61, 2) := by decide +kernel
theorem dX12_drawn_23 : decode cX12_drawn 23 = .ok (.iaload, 1) := by decide +kernel
theorem dX12_drawn_24 : decode cX12_drawn 24 = .ok (.sipush 400, 3) := by decide +kernel
theorem dX12_drawn_27 : decode cX12_drawn 27 = .ok (.if_icmp .ge 7, 3) := by decide +kernel
theorem dX12_drawn_30 : decode cX12_drawn 30 = .ok (.aload_n 0, 1) := by decide +kernel
theorem dX12_drawn_31 : decode cX12_drawn 31 = .ok (.invokevirtual 344, 3) := by decide +kernel
theorem dX12_drawn_34 : decode cX12_drawn 34 = .ok (.aload_n 0, 1) := by decide +kernel
theorem dX12_drawn_35 : decode cX12_drawn 35 = .ok (.iload_n 1, 1) := by decide +kernel
theorem dX12_drawn_36 : decode cX12_drawn 36 = .ok (.iload_n 2, 1) := by decide +kernel
theorem dX12_drawn_37 : decode cX12_drawn 37 = .ok (.invokevirtual 432, 3) := by decide +kernel
theorem dX12_drawn_40 : decode cX12_drawn 40 = .ok (.ireturn, 1) := by decide +kernel
theorem dX12_odds_0 : decode cX12_odds 0 = .ok (.aload_n 0, 1) := by decide +kernel
theorem dX12_odds_1 : decode cX12_odds 1 = .ok (.iconst 0, 1) := by decide +kernel
theorem dX12_odds_2 : decode cX12_odds 2 = .ok (.putfield 1, 3) := by decide +kernel
theorem dX12_odds_5 : decode cX12_odds 5 = .ok (.aload_n 0, 1) := by decide +kernel
theorem dX12_odds_6 : decode cX12_odds 6 = .ok (.iload_n 1, 1) := by decide +kernel
theorem dX12_odds_7 : decode cX12_odds 7 = .ok (.invokevirtual 303, 3) := by decide +kernel
theorem dX12_odds_10 : decode cX12_odds 10 = .ok (.ifCond .eq 13, 3) := by decide +kernel
theorem dX12_odds_13 : decode cX12_odds 13 = .ok (.iload_n 2, 1) := by decide +kernel
theorem dX12_odds_14 : decode cX12_odds 14 = .ok (.iconst 1, 1) := by decide +kernel
theorem dX12_odds_15 : decode cX12_odds 15 = .ok (.bipush 30, 2) := by decide +kernel
theorem dX12_odds_17 : decode cX12_odds 17 = .ok (.invokestatic 206, 3) := by decide +kernel
theorem dX12_odds_20 : decode cX12_odds 20 = .ok (.ifCond .ne 5, 3) := by decide +kernel
theorem dX12_odds_23 : decode cX12_odds 23 = .ok (.iconst (-1), 1) := by decide +kernel
theorem dX12_odds_24 : decode cX12_odds 24 = .ok (.ireturn, 1) := by decide +kernel
theorem dX12_odds_25 : decode cX12_odds 25 = .ok (.aload_n 0, 1) := by decide +kernel
theorem dX12_odds_26 : decode cX12_odds 26 = .ok (.invokevirtual 366, 3) := by decide +kernel
theorem dX12_odds_29 : decode cX12_odds 29 = .ok (.iconst 0, 1) := by decide +kernel
theorem dX12_odds_30 : decode cX12_odds 30 = .ok (.istore 4, 2) := by decide +kernel
theorem dX12_odds_32 : decode cX12_odds 32 = .ok (.iconst 0, 1) := by decide +kernel
theorem dX12_odds_33 : decode cX12_odds 33 = .ok (.istore 5, 2) := by decide +kernel
theorem dX12_odds_35 : decode cX12_odds 35 = .ok (.iload 5, 2) := by decide +kernel
theorem dX12_odds_37 : decode cX12_odds 37 = .ok (.iload_n 2, 1) := by decide +kernel
theorem dX12_odds_38 : decode cX12_odds 38 = .ok (.if_icmp .ge 46, 3) := by decide +kernel
theorem dX12_odds_41 : decode cX12_odds 41 = .ok (.aload_n 0, 1) := by decide +kernel
theorem dX12_odds_42 : decode cX12_odds 42 = .ok (.bipush 20, 2) := by decide +kernel
theorem dX12_odds_44 : decode cX12_odds 44 = .ok (.iload_n 3, 1) := by decide +kernel
theorem dX12_odds_45 : decode cX12_odds 45 = .ok (.iload 5, 2) := by decide +kernel
theorem dX12_odds_47 : decode cX12_odds 47 = .ok (.iadd, 1) := by decide +kernel
theorem dX12_odds_48 : decode cX12_odds 48 = .ok (.invokevirtual 432, 3) := by decide +kernel
theorem dX12_odds_51 : decode cX12_odds 51 = .ok (.pop, 1) := by decide +kernel
theorem dX12_odds_52 : decode cX12_odds 52 = .ok (.iload 4, 2) := by decide +kernel
theorem dX12_odds_54 : decode cX12_odds 54 = .ok (.aload_n 0, 1) := by decide +kernel
theorem dX12_odds_55 : decode cX12_odds 55 = .ok (.getfield 33, 3) := by decide +kernel
theorem dX12_odds_58 : decode cX12_odds 58 = .ok (.bipush 90, 2) := by decide +kernel
theorem dX12_odds_60 : decode cX12_odds 60 = .ok (.iload_n 1, 1) := by decide +kernel
theorem dX12_odds_61 : decode cX12_odds 61 = .ok (.iadd, 1) := by decide +kernel
theorem dX12_odds_62 : decode cX12_odds 62 = .ok (.iaload, 1) := by decide +kernel
theorem dX12_odds_63 : decode cX12_odds 63 = .ok (.ifCond .le 7, 3) := by decide +kernel
theorem dX12_odds_66 : decode cX12_odds 66 = .ok (.iconst 1, 1) := by decide +kernel
theorem dX12_odds_67 : decode cX12_odds 67 = .ok (.goto 4, 3) := by decide +kernel
theorem dX12_odds_70 : decode cX12_odds 70 = .ok (.iconst 0, 1) := by decide +kernel
theorem dX12_odds_71 : decode cX12_odds 71 = .ok (.iadd, 1) := by decide +kernel
theorem dX12_odds_72 : decode cX12_odds 72 = .ok (.istore 4, 2) := by decide +kernel
theorem dX12_odds_74 : decode cX12_odds 74 = .ok (.aload_n 0, 1) := by decide +kernel
theorem dX12_odds_75 : decode cX12_odds 75 = .ok (.invokevirtual 369, 3) := by decide +kernel
theorem dX12_odds_78 : decode cX12_odds 78 = .ok (.iinc 5 1, 3) := by decide +kernel
theorem dX12_odds_81 : decode cX12_odds 81 = .ok (.goto (-46), 3) := by decide +kernel
theorem dX12_odds_84 : decode cX12_odds 84 = .ok (.iload 4, 2) := by decide +kernel
theorem dX12_odds_86 : decode cX12_odds 86 = .ok (.ireturn, 1) := by decide +kernel
theorem dX12_bookLine_0 : decode cX12_bookLine 0 = .ok (.iconst 3, 1) := by decide +kernel
theorem dX12_bookLine_1 : decode cX12_bookLine 1 = .ok (.aload_n 0, 1) := by decide +kernel
theorem dX12_bookLine_2 : decode cX12_bookLine 2 = .ok (.getfield 435, 3) := by decide +kernel
theorem dX12_bookLine_5 : decode cX12_bookLine 5 = .ok (.imul, 1) := by decide +kernel
theorem dX12_bookLine_6 : decode cX12_bookLine 6 = .ok (.istore_n 1, 1) := by decide +kernel
theorem dX12_bookLine_7 : decode cX12_bookLine 7 = .ok (.aload_n 0, 1) := by decide +kernel
theorem dX12_bookLine_8 : decode cX12_bookLine 8 = .ok (.ldc2_w 135, 3) := by decide +kernel
theorem dX12_bookLine_11 : decode cX12_bookLine 11 = .ok (.invokevirtual 237, 3) := by decide +kernel
theorem dX12_bookLine_14 : decode cX12_bookLine 14 = .ok (.istore_n 2, 1) := by decide +kernel
theorem dX12_bookLine_15 : decode cX12_bookLine 15 = .ok (.iload_n 2, 1) := by decide +kernel
theorem dX12_bookLine_16 : decode cX12_bookLine 16 = .ok (.ifCond .ne 19, 3) := by decide +kernel
theorem dX12_bookLine_19 : decode cX12_bookLine 19 = .ok (.aload_n 0, 1) := by decide +kernel
theorem dX12_bookLine_20 : decode cX12_bookLine 20 = .ok (.iconst 0, 1) := by decide +kernel
theorem dX12_bookLine_21 : decode cX12_bookLine 21 = .ok (.aload_n 0, 1) := by decide +kernel
theorem dX12_bookLine_22 : decode cX12_bookLine 22 = .ok (.getfield 33, 3) := by decide +kernel
theorem dX12_bookLine_25 : decode cX12_bookLine 25 = .ok (.iconst 0, 1) := by decide +kernel
theorem dX12_bookLine_26 : decode cX12_bookLine 26 = .ok (.iaload, 1) := by decide +kernel
theorem dX12_bookLine_27 : decode cX12_bookLine 27 = .ok (.invokevirtual 225, 3) := by decide +kernel
theorem dX12_bookLine_30 : decode cX12_bookLine 30 = .ok (.ifCond .ne 5, 3) := by decide +kernel
theorem dX12_bookLine_33 : decode cX12_bookLine 33 = .ok (.iconst 0, 1) := by decide +kernel
theorem dX12_bookLine_34 : decode cX12_bookLine 34 = .ok (.ireturn, 1) := by decide +kernel
theorem dX12_bookLine_35 : decode cX12_bookLine 35 = .ok (.aload_n 0, 1) := by decide +kernel
theorem dX12_bookLine_36 : decode cX12_bookLine 36 = .ok (.getfield 435, 3) := by decide +kernel
theorem dX12_bookLine_39 : decode cX12_bookLine 39 = .ok (.bipush 40, 2) := by decide +kernel
theorem dX12_bookLine_41 : decode cX12_bookLine 41 = .ok (.if_icmp .ne 9, 3) := by decide +kernel
theorem dX12_bookLine_44 : decode cX12_bookLine 44 = .ok (.aload_n 0, 1) := by decide +kernel
theorem dX12_bookLine_45 : decode cX12_bookLine 45 = .ok (.iconst 4, 1) := by decide +kernel
theorem dX12_bookLine_46 : decode cX12_bookLine 46 = .ok (.invokevirtual 200, 3) := by decide +kernel
theorem dX12_bookLine_49 : decode cX12_bookLine 49 = .ok (.ireturn, 1) := by decide +kernel
theorem dX12_bookLine_50 : decode cX12_bookLine 50 = .ok (.aload_n 0, 1) := by decide +kernel
theorem dX12_bookLine_51 : decode cX12_bookLine 51 = .ok (.getfield 210, 3) := by decide +kernel
theorem dX12_bookLine_54 : decode cX12_bookLine 54 = .ok (.istore_n 3, 1) := by decide +kernel
theorem dX12_bookLine_55 : decode cX12_bookLine 55 = .ok (.aload_n 0, 1) := by decide +kernel
theorem dX12_bookLine_56 : decode cX12_bookLine 56 = .ok (.invokevirtual 203, 3) := by decide +kernel
theorem dX12_bookLine_59 : decode cX12_bookLine 59 = .ok (.aload_n 0, 1) := by decide +kernel
theorem dX12_bookLine_60 : decode cX12_bookLine 60 = .ok (.getfield 40, 3) := by decide +kernel
theorem dX12_bookLine_63 : decode cX12_bookLine 63 = .ok (.iload_n 1, 1) := by decide +kernel
theorem dX12_bookLine_64 : decode cX12_bookLine 64 = .ok (.bipush 6, 2) := by decide +kernel
theorem dX12_bookLine_66 : decode cX12_bookLine 66 = .ok (.iastore, 1) := by decide +kernel
theorem dX12_bookLine_67 : decode cX12_bookLine 67 = .ok (.iload_n 2, 1) := by decide +kernel
theorem dX12_bookLine_68 : decode cX12_bookLine 68 = .ok (.ifCond .eq 29, 3) := by decide +kernel
theorem dX12_bookLine_71 : decode cX12_bookLine 71 = .ok (.aload_n 0, 1) := by decide +kernel
theorem dX12_bookLine_72 : decode cX12_bookLine 72 = .ok (.iconst 1, 1) := by decide +kernel
theorem dX12_bookLine_73 : decode cX12_bookLine 73 = .ok (.bipush 60, 2) := by decide +kernel
theorem dX12_bookLine_75 : decode cX12_bookLine 75 = .ok (.invokevirtual 213, 3) := by decide +kernel
theorem dX12_bookLine_78 : decode cX12_bookLine 78 = .ok (.ifCond .ne 5, 3) := by decide +kernel
theorem dX12_bookLine_81 : decode cX12_bookLine 81 = .ok (.iconst 0, 1) := by decide +kernel
theorem dX12_bookLine_82 : decode cX12_bookLine 82 = .ok (.ireturn, 1) := by decide +kernel
theorem dX12_bookLine_83 : decode cX12_bookLine 83 = .ok (.aload_n 0, 1) := by decide +kernel
theorem dX12_bookLine_84 : decode cX12_bookLine 84 = .ok (.getfield 40, 3) := by decide +kernel
theorem dX12_bookLine_87 : decode cX12_bookLine 87 = .ok (.iload_n 1, 1) := by decide +kernel
theorem dX12_bookLine_88 : decode cX12_bookLine 88 = .ok (.iconst 1, 1) := by decide +kernel
theorem dX12_bookLine_89 : decode cX12_bookLine 89 = .ok (.iadd, 1) := by decide +kernel
theorem dX12_bookLine_90 : decode cX12_bookLine 90 = .ok (.aload_n 0, 1) := by decide +kernel
theorem dX12_bookLine_91 : decode cX12_bookLine 91 = .ok (.getfield 210, 3) := by decide +kernel
theorem dX12_bookLine_94 : decode cX12_bookLine 94 = .ok (.iastore, 1) := by decide +kernel
theorem dX12_bookLine_95 : decode cX12_bookLine 95 = .ok (.iconst 1, 1) := by decide +kernel
theorem dX12_bookLine_96 : decode cX12_bookLine 96 = .ok (.ireturn, 1) := by decide +kernel
theorem dX12_bookLine_97 : decode cX12_bookLine 97 = .ok (.aload_n 0, 1) := by decide +kernel
theorem dX12_bookLine_98 : decode cX12_bookLine 98 = .ok (.bipush 11, 2) := by decide +kernel
theorem dX12_bookLine_100 : decode cX12_bookLine 100 = .ok (.bipush 6, 2) := by decide +kernel
theorem dX12_bookLine_102 : decode cX12_bookLine 102 = .ok (.invokevirtual 261, 3) := by decide +kernel
theorem dX12_bookLine_105 : decode cX12_bookLine 105 = .ok (.ifCond .ne 5, 3) := by decide +kernel
theorem dX12_bookLine_108 : decode cX12_bookLine 108 = .ok (.iconst 0, 1) := by decide +kernel
theorem dX12_bookLine_109 : decode cX12_bookLine 109 = .ok (.ireturn, 1) := by decide +kernel
theorem dX12_bookLine_110 : decode cX12_bookLine 110 = .ok (.aload_n 0, 1) := by decide +kernel
theorem dX12_bookLine_111 : decode cX12_bookLine 111 = .ok (.getfield 210, 3) := by decide +kernel
theorem dX12_bookLine_114 : decode cX12_bookLine 114 = .ok (.istore 4, 2) := by decide +kernel
theorem dX12_bookLine_116 : decode cX12_bookLine 116 = .ok (.aload_n 0, 1) := by decide +kernel
theorem dX12_bookLine_117 : decode cX12_bookLine 117 = .ok (.invokevirtual 203, 3) := by decide +kernel
theorem dX12_bookLine_120 : decode cX12_bookLine 120 = .ok (.aload_n 0, 1) := by decide +kernel
theorem dX12_bookLine_121 : decode cX12_bookLine 121 = .ok (.getfield 40, 3) := by decide +kernel
theorem dX12_bookLine_124 : decode cX12_bookLine 124 = .ok (.iload_n 1, 1) := by decide +kernel
theorem dX12_bookLine_125 : decode cX12_bookLine 125 = .ok (.iload 4, 2) := by decide +kernel
theorem dX12_bookLine_127 : decode cX12_bookLine 127 = .ok (.iastore, 1) := by decide +kernel
theorem dX12_bookLine_128 : decode cX12_bookLine 128 = .ok (.aload_n 0, 1) := by decide +kernel
theorem dX12_bookLine_129 : decode cX12_bookLine 129 = .ok (.getfield 40, 3) := by decide +kernel
theorem dX12_bookLine_132 : decode cX12_bookLine 132 = .ok (.iload_n 1, 1) := by decide +kernel
theorem dX12_bookLine_133 : decode cX12_bookLine 133 = .ok (.iconst 1, 1) := by decide +kernel
theorem dX12_bookLine_134 : decode cX12_bookLine 134 = .ok (.iadd, 1) := by decide +kernel
theorem dX12_bookLine_135 : decode cX12_bookLine 135 = .ok (.iload_n 3, 1) := by decide +kernel
theorem dX12_bookLine_136 : decode cX12_bookLine 136 = .ok (.iastore, 1) := by decide +kernel
theorem dX12_bookLine_137 : decode cX12_bookLine 137 = .ok (.iload 4, 2) := by decide +kernel
theorem dX12_bookLine_139 : decode cX12_bookLine 139 = .ok (.iconst 2, 1) := by decide +kernel
theorem dX12_bookLine_140 : decode cX12_bookLine 140 = .ok (.iconst 4, 1) := by decide +kernel
theorem dX12_bookLine_141 : decode cX12_bookLine 141 = .ok (.invokestatic 206, 3) := by decide +kernel
theorem dX12_bookLine_144 : decode cX12_bookLine 144 = .ok (.ifCond .eq 5, 3) := by decide +kernel
theorem dX12_bookLine_147 : decode cX12_bookLine 147 = .ok (.iconst 1, 1) := by decide +kernel
theorem dX12_bookLine_148 : decode cX12_bookLine 148 = .ok (.ireturn, 1) := by decide +kernel
theorem dX12_bookLine_149 : decode cX12_bookLine 149 = .ok (.iload 4, 2) := by decide +kernel
theorem dX12_bookLine_151 : decode cX12_bookLine 151 = .ok (.iconst 1, 1) := by decide +kernel
theorem dX12_bookLine_152 : decode cX12_bookLine 152 = .ok (.if_icmp .ne 34, 3) := by decide +kernel
theorem dX12_bookLine_155 : decode cX12_bookLine 155 = .ok (.aload_n 0, 1) := by decide +kernel
theorem dX12_bookLine_156 : decode cX12_bookLine 156 = .ok (.bipush 8, 2) := by decide +kernel
theorem dX12_bookLine_158 : decode cX12_bookLine 158 = .ok (.aload_n 0, 1) := by decide +kernel
theorem dX12_bookLine_159 : decode cX12_bookLine 159 = .ok (.getfield 33, 3) := by decide +kernel
theorem dX12_bookLine_162 : decode cX12_bookLine 162 = .ok (.iconst 1, 1) := by decide +kernel
theorem dX12_bookLine_163 : decode cX12_bookLine 163 = .ok (.iaload, 1) := by decide +kernel
theorem dX12_bookLine_164 : decode cX12_bookLine 164 = .ok (.invokevirtual 438, 3) := by decide +kernel
theorem dX12_bookLine_167 : decode cX12_bookLine 167 = .ok (.ifCond .ne 5, 3) := by decide +kernel
theorem dX12_bookLine_170 : decode cX12_bookLine 170 = .ok (.iconst 0, 1) := by decide +kernel
theorem dX12_bookLine_171 : decode cX12_bookLine 171 = .ok (.ireturn, 1) := by decide +kernel
theorem dX12_bookLine_172 : decode cX12_bookLine 172 = .ok (.aload_n 0, 1) := by decide +kernel
theorem dX12_bookLine_173 : decode cX12_bookLine 173 = .ok (.getfield 40, 3) := by decide +kernel
theorem dX12_bookLine_176 : decode cX12_bookLine 176 = .ok (.iload_n 1, 1) := by decide +kernel
theorem dX12_bookLine_177 : decode cX12_bookLine 177 = .ok (.iconst 2, 1) := by decide +kernel
theorem dX12_bookLine_178 : decode cX12_bookLine 178 = .ok (.iadd, 1) := by decide +kernel
theorem dX12_bookLine_179 : decode cX12_bookLine 179 = .ok (.aload_n 0, 1) := by decide +kernel
theorem dX12_bookLine_180 : decode cX12_bookLine 180 = .ok (.getfield 210, 3) := by decide +kernel
theorem dX12_bookLine_183 : decode cX12_bookLine 183 = .ok (.iastore, 1) := by decide +kernel
theorem dX12_bookLine_184 : decode cX12_bookLine 184 = .ok (.iconst 1, 1) := by decide +kernel
theorem dX12_bookLine_185 : decode cX12_bookLine 185 = .ok (.ireturn, 1) := by decide +kernel
theorem dX12_bookLine_186 : decode cX12_bookLine 186 = .ok (.iload 4, 2) := by decide +kernel
theorem dX12_bookLine_188 : decode cX12_bookLine 188 = .ok (.ifCond .ne 12, 3) := by decide +kernel
theorem dX12_bookLine_191 : decode cX12_bookLine 191 = .ok (.aload_n 0, 1) := by decide +kernel
theorem dX12_bookLine_192 : decode cX12_bookLine 192 = .ok (.iconst 5, 1) := by decide +kernel
theorem dX12_bookLine_193 : decode cX12_bookLine 193 = .ok (.iconst 3, 1) := by decide +kernel
theorem dX12_bookLine_194 : decode cX12_bookLine 194 = .ok (.invokevirtual 261, 3) := by decide +kernel
theorem dX12_bookLine_197 : decode cX12_bookLine 197 = .ok (.goto 10, 3) := by decide +kernel
theorem dX12_bookLine_200 : decode cX12_bookLine 200 = .ok (.aload_n 0, 1) := by decide +kernel
theorem dX12_bookLine_201 : decode cX12_bookLine 201 = .ok (.bipush 17, 2) := by decide +kernel
theorem dX12_bookLine_203 : decode cX12_bookLine 203 = .ok (.iconst 4, 1) := by decide +kernel
theorem dX12_bookLine_204 : decode cX12_bookLine 204 = .ok (.invokevirtual 261, 3) := by decide +kernel
theorem dX12_bookLine_207 : decode cX12_bookLine 207 = .ok (.istore 5, 2) := by decide +kernel
theorem dX12_bookLine_209 : decode cX12_bookLine 209 = .ok (.iload 5, 2) := by decide +kernel
theorem dX12_bookLine_211 : decode cX12_bookLine 211 = .ok (.ifCond .ne 5, 3) := by decide +kernel
theorem dX12_bookLine_214 : decode cX12_bookLine 214 = .ok (.iconst 0, 1) := by decide +kernel
theorem dX12_bookLine_215 : decode cX12_bookLine 215 = .ok (.ireturn, 1) := by decide +kernel
theorem dX12_bookLine_216 : decode cX12_bookLine 216 = .ok (.aload_n 0, 1) := by decide +kernel
theorem dX12_bookLine_217 : decode cX12_bookLine 217 = .ok (.getfield 40, 3) := by decide +kernel
theorem dX12_bookLine_220 : decode cX12_bookLine 220 = .ok (.iload_n 1, 1) := by decide +kernel
theorem dX12_bookLine_221 : decode cX12_bookLine 221 = .ok (.iconst 2, 1) := by decide +kernel
theorem dX12_bookLine_222 : decode cX12_bookLine 222 = .ok (.iadd, 1) := by decide +kernel
theorem dX12_bookLine_223 : decode cX12_bookLine 223 = .ok (.iload 4, 2) := by decide +kernel
theorem dX12_bookLine_225 : decode cX12_bookLine 225 = .ok (.ifCond .ne 12, 3) := by decide +kernel
theorem dX12_bookLine_228 : decode cX12_bookLine 228 = .ok (.aload_n 0, 1) := by decide +kernel
theorem dX12_bookLine_229 : decode cX12_bookLine 229 = .ok (.getfield 210, 3) := by decide +kernel
theorem dX12_bookLine_232 : decode cX12_bookLine 232 = .ok (.iconst 1, 1) := by decide +kernel
theorem dX12_bookLine_233 : decode cX12_bookLine 233 = .ok (.iadd, 1) := by decide +kernel
theorem dX12_bookLine_234 : decode cX12_bookLine 234 = .ok (.goto 7, 3) := by decide +kernel
theorem dX12_bookLine_237 : decode cX12_bookLine 237 = .ok (.aload_n 0, 1) := by decide +kernel
theorem dX12_bookLine_238 : decode cX12_bookLine 238 = .ok (.getfield 210, 3) := by decide +kernel
theorem dX12_bookLine_241 : decode cX12_bookLine 241 = .ok (.iastore, 1) := by decide +kernel
theorem dX12_bookLine_242 : decode cX12_bookLine 242 = .ok (.aload_n 0, 1) := by decide +kernel
theorem dX12_bookLine_243 : decode cX12_bookLine 243 = .ok (.invokevirtual 203, 3) := by decide +kernel
theorem dX12_bookLine_246 : decode cX12_bookLine 246 = .ok (.iconst 1, 1) := by decide +kernel
theorem dX12_bookLine_247 : decode cX12_bookLine 247 = .ok (.ireturn, 1) := by decide +kernel
theorem dX12_does_0 : decode cX12_does 0 = .ok (.iload_n 1, 1) := by decide +kernel
theorem dX12_does_1 : decode cX12_does 1 = .ok (.tableswitch 174 0 5 #[39, 57, 76, 76, 122, 154], 39) := by decide +kernel
theorem dX12_does_40 : decode cX12_does 40 = .ok (.aload_n 0, 1) := by decide +kernel
theorem dX12_does_41 : decode cX12_does 41 = .ok (.iload_n 2, 1) := by decide +kernel
theorem dX12_does_42 : decode cX12_does 42 = .ok (.invokevirtual 290, 3) := by decide +kernel
theorem dX12_does_45 : decode cX12_does 45 = .ok (.ifCond .ne 5, 3) := by decide +kernel
theorem dX12_does_48 : decode cX12_does 48 = .ok (.iconst 1, 1) := by decide +kernel
theorem dX12_does_49 : decode cX12_does 49 = .ok (.ireturn, 1) := by decide +kernel
theorem dX12_does_50 : decode cX12_does 50 = .ok (.aload_n 0, 1) := by decide +kernel
theorem dX12_does_51 : decode cX12_does 51 = .ok (.iload_n 2, 1) := by decide +kernel
theorem dX12_does_52 : decode cX12_does 52 = .ok (.iload_n 3, 1) := by decide +kernel
theorem dX12_does_53 : decode cX12_does 53 = .ok (.invokevirtual 329, 3) := by decide +kernel
theorem dX12_does_56 : decode cX12_does 56 = .ok (.iconst 0, 1) := by decide +kernel
theorem dX12_does_57 : decode cX12_does 57 = .ok (.ireturn, 1) := by decide +kernel
theorem dX12_does_58 : decode cX12_does 58 = .ok (.aload_n 0, 1) := by decide +kernel
theorem dX12_does_59 : decode cX12_does 59 = .ok (.iload_n 2, 1) := by decide +kernel
theorem dX12_does_60 : decode cX12_does 60 = .ok (.invokevirtual 290, 3) := by decide +kernel
theorem dX12_does_63 : decode cX12_does 63 = .ok (.ifCond .ne 6, 3) := by decide +kernel
theorem dX12_does_66 : decode cX12_does 66 = .ok (.bipush 11, 2) := by decide +kernel
theorem dX12_does_68 : decode cX12_does 68 = .ok (.ireturn, 1) := by decide +kernel
theorem dX12_does_69 : decode cX12_does 69 = .ok (.aload_n 0, 1) := by decide +kernel
theorem dX12_does_70 : decode cX12_does 70 = .ok (.iload_n 2, 1) := by decide +kernel
theorem dX12_does_71 : decode cX12_does 71 = .ok (.iload_n 3, 1) := by decide +kernel
theorem dX12_does_72 : decode cX12_does 72 = .ok (.invokevirtual 332, 3) := by decide +kernel
theorem dX12_does_75 : decode cX12_does 75 = .ok (.iconst 0, 1) := by decide +kernel
theorem dX12_does_76 : decode cX12_does 76 = .ok (.ireturn, 1) := by decide +kernel
theorem dX12_does_77 : decode cX12_does 77 = .ok (.aload_n 0, 1) := by decide +kernel
theorem dX12_does_78 : decode cX12_does 78 = .ok (.getfield 33, 3) := by decide +kernel
theorem dX12_does_81 : decode cX12_does 81 = .ok (.bipush 63, 2) := by decide +kernel
theorem dX12_does_83 : decode cX12_does 83 = .ok (.iaload, 1) := by decide +kernel
theorem dX12_does_84 : decode cX12_does 84 = .ok (.iload_n 2, 1) := by decide +kernel
theorem dX12_does_85 : decode cX12_does 85 = .ok (.invokestatic 231, 3) := by decide +kernel
theorem dX12_does_88 : decode cX12_does 88 = .ok (.iload_n 1, 1) := by decide +kernel
theorem dX12_does_89 : decode cX12_does 89 = .ok (.iconst 2, 1) := by decide +kernel
theorem dX12_does_90 : decode cX12_does 90 = .ok (.if_icmp .ne 7, 3) := by decide +kernel
theorem dX12_does_93 : decode cX12_does 93 = .ok (.iconst 1, 1) := by decide +kernel
theorem dX12_does_94 : decode cX12_does 94 = .ok (.goto 4, 3) := by decide +kernel
theorem dX12_does_97 : decode cX12_does 97 = .ok (.iconst 0, 1) := by decide +kernel
theorem dX12_does_98 : decode cX12_does 98 = .ok (.if_icmp .ne 10, 3) := by decide +kernel
theorem dX12_does_101 : decode cX12_does 101 = .ok (.bipush 10, 2) := by decide +kernel
theorem dX12_does_103 : decode cX12_does 103 = .ok (.iload_n 1, 1) := by decide +kernel
theorem dX12_does_104 : decode cX12_does 104 = .ok (.imul, 1) := by decide +kernel
theorem dX12_does_105 : decode cX12_does 105 = .ok (.iconst 1, 1) := by decide +kernel
theorem dX12_does_106 : decode cX12_does 106 = .ok (.iadd, 1) := by decide +kernel
theorem dX12_does_107 : decode cX12_does 107 = .ok (.ireturn, 1) := by decide +kernel
theorem dX12_does_108 : decode cX12_does 108 = .ok (.aload_n 0, 1) := by decide +kernel
theorem dX12_does_109 : decode cX12_does 109 = .ok (.getfield 33, 3) := by decide +kernel
theorem dX12_does_112 : decode cX12_does 112 = .ok (.bipush 63, 2) := by decide +kernel
theorem dX12_does_114 : decode cX12_does 114 = .ok (.dup2, 1) := by decide +kernel
theorem dX12_does_115 : decode cX12_does 115 = .ok (.iaload, 1) := by decide +kernel
theorem dX12_does_116 : decode cX12_does 116 = .ok (.iconst 1, 1) := by decide +kernel
theorem dX12_does_117 : decode cX12_does 117 = .ok (.iload_n 2, 1) := by decide +kernel
theorem dX12_does_118 : decode cX12_does 118 = .ok (.ishl, 1) := by decide +kernel
theorem dX12_does_119 : decode cX12_does 119 = .ok (.ixor, 1) := by decide +kernel
theorem dX12_does_120 : decode cX12_does 120 = .ok (.iastore, 1) := by decide +kernel
theorem dX12_does_121 : decode cX12_does 121 = .ok (.iconst 0, 1) := by decide +kernel
theorem dX12_does_122 : decode cX12_does 122 = .ok (.ireturn, 1) := by decide +kernel
theorem dX12_does_123 : decode cX12_does 123 = .ok (.aload_n 0, 1) := by decide +kernel
theorem dX12_does_124 : decode cX12_does 124 = .ok (.getfield 33, 3) := by decide +kernel
theorem dX12_does_127 : decode cX12_does 127 = .ok (.bipush 64, 2) := by decide +kernel
theorem dX12_does_129 : decode cX12_does 129 = .ok (.iaload, 1) := by decide +kernel
theorem dX12_does_130 : decode cX12_does 130 = .ok (.iload_n 2, 1) := by decide +kernel
theorem dX12_does_131 : decode cX12_does 131 = .ok (.invokestatic 231, 3) := by decide +kernel
theorem dX12_does_134 : decode cX12_does 134 = .ok (.ifCond .eq 6, 3) := by decide +kernel
theorem dX12_does_137 : decode cX12_does 137 = .ok (.bipush 41, 2) := by decide +kernel
theorem dX12_does_139 : decode cX12_does 139 = .ok (.ireturn, 1) := by decide +kernel
theorem dX12_does_140 : decode cX12_does 140 = .ok (.aload_n 0, 1) := by decide +kernel
theorem dX12_does_141 : decode cX12_does 141 = .ok (.getfield 33, 3) := by decide +kernel
theorem dX12_does_144 : decode cX12_does 144 = .ok (.bipush 64, 2) := by decide +kernel
theorem dX12_does_146 : decode cX12_does 146 = .ok (.dup2, 1) := by decide +kernel
theorem dX12_does_147 : decode cX12_does 147 = .ok (.iaload, 1) := by decide +kernel
theorem dX12_does_148 : decode cX12_does 148 = .ok (.iconst 1, 1) := by decide +kernel
theorem dX12_does_149 : decode cX12_does 149 = .ok (.iload_n 2, 1) := by decide +kernel
theorem dX12_does_150 : decode cX12_does 150 = .ok (.ishl, 1) := by decide +kernel
theorem dX12_does_151 : decode cX12_does 151 = .ok (.ior, 1) := by decide +kernel
theorem dX12_does_152 : decode cX12_does 152 = .ok (.iastore, 1) := by decide +kernel
theorem dX12_does_153 : decode cX12_does 153 = .ok (.iconst 0, 1) := by decide +kernel
theorem dX12_does_154 : decode cX12_does 154 = .ok (.ireturn, 1) := by decide +kernel
theorem dX12_does_155 : decode cX12_does 155 = .ok (.aload_n 0, 1) := by decide +kernel
theorem dX12_does_156 : decode cX12_does 156 = .ok (.iload_n 2, 1) := by decide +kernel
theorem dX12_does_157 : decode cX12_does 157 = .ok (.iload_n 3, 1) := by decide +kernel
theorem dX12_does_158 : decode cX12_does 158 = .ok (.invokevirtual 351, 3) := by decide +kernel
theorem dX12_does_161 : decode cX12_does 161 = .ok (.ifCond .le 6, 3) := by decide +kernel
theorem dX12_does_164 : decode cX12_does 164 = .ok (.bipush 51, 2) := by decide +kernel
theorem dX12_does_166 : decode cX12_does 166 = .ok (.ireturn, 1) := by decide +kernel
theorem dX12_does_167 : decode cX12_does 167 = .ok (.aload_n 0, 1) := by decide +kernel
theorem dX12_does_168 : decode cX12_does 168 = .ok (.iload_n 2, 1) := by decide +kernel
theorem dX12_does_169 : decode cX12_does 169 = .ok (.iload_n 3, 1) := by decide +kernel
theorem dX12_does_170 : decode cX12_does 170 = .ok (.invokevirtual 354, 3) := by decide +kernel
theorem dX12_does_173 : decode cX12_does 173 = .ok (.iconst 0, 1) := by decide +kernel
theorem dX12_does_174 : decode cX12_does 174 = .ok (.ireturn, 1) := by decide +kernel
theorem dX12_does_175 : decode cX12_does 175 = .ok (.aload_n 0, 1) := by decide +kernel
theorem dX12_does_176 : decode cX12_does 176 = .ok (.getfield 33, 3) := by decide +kernel
theorem dX12_does_179 : decode cX12_does 179 = .ok (.bipush 61, 2) := by decide +kernel
theorem dX12_does_181 : decode cX12_does 181 = .ok (.iaload, 1) := by decide +kernel
theorem dX12_does_182 : decode cX12_does 182 = .ok (.iload_n 2, 1) := by decide +kernel
theorem dX12_does_183 : decode cX12_does 183 = .ok (.iadd, 1) := by decide +kernel
theorem dX12_does_184 : decode cX12_does 184 = .ok (.sipush 400, 3) := by decide +kernel
theorem dX12_does_187 : decode cX12_does 187 = .ok (.if_icmp .le 6, 3) := by decide +kernel
theorem dX12_does_190 : decode cX12_does 190 = .ok (.bipush 61, 2) := by decide +kernel
theorem dX12_does_192 : decode cX12_does 192 = .ok (.ireturn, 1) := by decide +kernel
theorem dX12_does_193 : decode cX12_does 193 = .ok (.aload_n 0, 1) := by decide +kernel
theorem dX12_does_194 : decode cX12_does 194 = .ok (.iload_n 2, 1) := by decide +kernel
theorem dX12_does_195 : decode cX12_does 195 = .ok (.invokevirtual 357, 3) := by decide +kernel
theorem dX12_does_198 : decode cX12_does 198 = .ok (.pop, 1) := by decide +kernel
theorem dX12_does_199 : decode cX12_does 199 = .ok (.iconst 0, 1) := by decide +kernel
theorem dX12_does_200 : decode cX12_does 200 = .ok (.ireturn, 1) := by decide +kernel
theorem dX12_book_0 : decode cX12_book 0 = .ok (.aload_n 0, 1) := by decide +kernel
theorem dX12_book_1 : decode cX12_book 1 = .ok (.iconst 0, 1) := by decide +kernel
theorem dX12_book_2 : decode cX12_book 2 = .ok (.putfield 1, 3) := by decide +kernel
theorem dX12_book_5 : decode cX12_book 5 = .ok (.iload_n 1, 1) := by decide +kernel
theorem dX12_book_6 : decode cX12_book 6 = .ok (.iconst 0, 1) := by decide +kernel
theorem dX12_book_7 : decode cX12_book 7 = .ok (.iconst 1, 1) := by decide +kernel
theorem dX12_book_8 : decode cX12_book 8 = .ok (.invokestatic 206, 3) := by decide +kernel
theorem dX12_book_11 : decode cX12_book 11 = .ok (.ifCond .ne 7, 3) := by decide +kernel
theorem dX12_book_14 : decode cX12_book 14 = .ok (.sipush (-1000), 3) := by decide +kernel
theorem dX12_book_17 : decode cX12_book 17 = .ok (.ireturn, 1) := by decide +kernel
theorem dX12_book_18 : decode cX12_book 18 = .ok (.aload_n 0, 1) := by decide +kernel
theorem dX12_book_19 : decode cX12_book 19 = .ok (.sipush 400, 3) := by decide +kernel
theorem dX12_book_22 : decode cX12_book 22 = .ok (.invokevirtual 264, 3) := by decide +kernel
theorem dX12_book_25 : decode cX12_book 25 = .ok (.aload_n 0, 1) := by decide +kernel
theorem dX12_book_26 : decode cX12_book 26 = .ok (.iconst 0, 1) := by decide +kernel
theorem dX12_book_27 : decode cX12_book 27 = .ok (.putfield 191, 3) := by decide +kernel
theorem dX12_book_30 : decode cX12_book 30 = .ok (.aload_n 0, 1) := by decide +kernel
theorem dX12_book_31 : decode cX12_book 31 = .ok (.iconst 0, 1) := by decide +kernel
theorem dX12_book_32 : decode cX12_book 32 = .ok (.putfield 435, 3) := by decide +kernel
theorem dX12_book_35 : decode cX12_book 35 = .ok (.aload_n 0, 1) := by decide +kernel
theorem dX12_book_36 : decode cX12_book 36 = .ok (.invokevirtual 203, 3) := by decide +kernel
theorem dX12_book_39 : decode cX12_book 39 = .ok (.aload_n 0, 1) := by decide +kernel
theorem dX12_book_40 : decode cX12_book 40 = .ok (.getfield 174, 3) := by decide +kernel
theorem dX12_book_43 : decode cX12_book 43 = .ok (.ifCond .eq 40, 3) := by decide +kernel
theorem dX12_book_46 : decode cX12_book 46 = .ok (.aload_n 0, 1) := by decide +kernel
theorem dX12_book_47 : decode cX12_book 47 = .ok (.invokevirtual 441, 3) := by decide +kernel
theorem dX12_book_50 : decode cX12_book 50 = .ok (.ifCond .eq 12, 3) := by decide +kernel
theorem dX12_book_53 : decode cX12_book 53 = .ok (.aload_n 0, 1) := by decide +kernel
theorem dX12_book_54 : decode cX12_book 54 = .ok (.bipush 59, 2) := by decide +kernel
theorem dX12_book_56 : decode cX12_book 56 = .ok (.invokevirtual 273, 3) := by decide +kernel
theorem dX12_book_59 : decode cX12_book 59 = .ok (.ifCond .ne 11, 3) := by decide +kernel
theorem dX12_book_62 : decode cX12_book 62 = .ok (.bipush (-2), 2) := by decide +kernel
theorem dX12_book_64 : decode cX12_book 64 = .ok (.aload_n 0, 1) := by decide +kernel
theorem dX12_book_65 : decode cX12_book 65 = .ok (.getfield 194, 3) := by decide +kernel
theorem dX12_book_68 : decode cX12_book 68 = .ok (.isub, 1) := by decide +kernel
theorem dX12_book_69 : decode cX12_book 69 = .ok (.ireturn, 1) := by decide +kernel
theorem dX12_book_70 : decode cX12_book 70 = .ok (.aload_n 0, 1) := by decide +kernel
theorem dX12_book_71 : decode cX12_book 71 = .ok (.dup, 1) := by decide +kernel
theorem dX12_book_72 : decode cX12_book 72 = .ok (.getfield 435, 3) := by decide +kernel
theorem dX12_book_75 : decode cX12_book 75 = .ok (.iconst 1, 1) := by decide +kernel
theorem dX12_book_76 : decode cX12_book 76 = .ok (.iadd, 1) := by decide +kernel
theorem dX12_book_77 : decode cX12_book 77 = .ok (.putfield 435, 3) := by decide +kernel
theorem dX12_book_80 : decode cX12_book 80 = .ok (.goto (-41), 3) := by decide +kernel
theorem dX12_book_83 : decode cX12_book 83 = .ok (.aload_n 0, 1) := by decide +kernel
theorem dX12_book_84 : decode cX12_book 84 = .ok (.invokevirtual 366, 3) := by decide +kernel
theorem dX12_book_87 : decode cX12_book 87 = .ok (.iconst 0, 1) := by decide +kernel
theorem dX12_book_88 : decode cX12_book 88 = .ok (.istore_n 2, 1) := by decide +kernel
theorem dX12_book_89 : decode cX12_book 89 = .ok (.iload_n 2, 1) := by decide +kernel
theorem dX12_book_90 : decode cX12_book 90 = .ok (.iconst 4, 1) := by decide +kernel
theorem dX12_book_91 : decode cX12_book 91 = .ok (.if_icmp .ge 16, 3) := by decide +kernel
theorem dX12_book_94 : decode cX12_book 94 = .ok (.aload_n 0, 1) := by decide +kernel
theorem dX12_book_95 : decode cX12_book 95 = .ok (.getfield 74, 3) := by decide +kernel
theorem dX12_book_98 : decode cX12_book 98 = .ok (.iload_n 2, 1) := by decide +kernel
theorem dX12_book_99 : decode cX12_book 99 = .ok (.iconst 0, 1) := by decide +kernel
theorem dX12_book_100 : decode cX12_book 100 = .ok (.iastore, 1) := by decide +kernel
theorem dX12_book_101 : decode cX12_book 101 = .ok (.iinc 2 1, 3) := by decide +kernel
theorem dX12_book_104 : decode cX12_book 104 = .ok (.goto (-15), 3) := by decide +kernel
theorem dX12_book_107 : decode cX12_book 107 = .ok (.iconst (-1), 1) := by decide +kernel
theorem dX12_book_108 : decode cX12_book 108 = .ok (.istore_n 2, 1) := by decide +kernel
theorem dX12_book_109 : decode cX12_book 109 = .ok (.iconst 0, 1) := by decide +kernel
theorem dX12_book_110 : decode cX12_book 110 = .ok (.istore_n 3, 1) := by decide +kernel
theorem dX12_book_111 : decode cX12_book 111 = .ok (.iload_n 3, 1) := by decide +kernel
theorem dX12_book_112 : decode cX12_book 112 = .ok (.aload_n 0, 1) := by decide +kernel
theorem dX12_book_113 : decode cX12_book 113 = .ok (.getfield 435, 3) := by decide +kernel
theorem dX12_book_116 : decode cX12_book 116 = .ok (.if_icmp .ge 75, 3) := by decide +kernel
theorem dX12_book_119 : decode cX12_book 119 = .ok (.iload_n 2, 1) := by decide +kernel
theorem dX12_book_120 : decode cX12_book 120 = .ok (.ifCond .ge 71, 3) := by decide +kernel
theorem dX12_book_123 : decode cX12_book 123 = .ok (.aload_n 0, 1) := by decide +kernel
theorem dX12_book_124 : decode cX12_book 124 = .ok (.getfield 74, 3) := by decide +kernel
theorem dX12_book_127 : decode cX12_book 127 = .ok (.iconst 0, 1) := by decide +kernel
theorem dX12_book_128 : decode cX12_book 128 = .ok (.aload_n 0, 1) := by decide +kernel
theorem dX12_book_129 : decode cX12_book 129 = .ok (.aload_n 0, 1) := by decide +kernel
theorem dX12_book_130 : decode cX12_book 130 = .ok (.getfield 40, 3) := by decide +kernel
theorem dX12_book_133 : decode cX12_book 133 = .ok (.iconst 3, 1) := by decide +kernel
theorem dX12_book_134 : decode cX12_book 134 = .ok (.iload_n 3, 1) := by decide +kernel
theorem dX12_book_135 : decode cX12_book 135 = .ok (.imul, 1) := by decide +kernel
theorem dX12_book_136 : decode cX12_book 136 = .ok (.iaload, 1) := by decide +kernel
theorem dX12_book_137 : decode cX12_book 137 = .ok (.aload_n 0, 1) := by decide +kernel
theorem dX12_book_138 : decode cX12_book 138 = .ok (.getfield 40, 3) := by decide +kernel
theorem dX12_book_141 : decode cX12_book 141 = .ok (.iconst 3, 1) := by decide +kernel
theorem dX12_book_142 : decode cX12_book 142 = .ok (.iload_n 3, 1) := by decide +kernel
theorem dX12_book_143 : decode cX12_book 143 = .ok (.imul, 1) := by decide +kernel
theorem dX12_book_144 : decode cX12_book 144 = .ok (.iconst 1, 1) := by decide +kernel
theorem dX12_book_145 : decode cX12_book 145 = .ok (.iadd, 1) := by decide +kernel
theorem dX12_book_146 : decode cX12_book 146 = .ok (.iaload, 1) := by decide +kernel
theorem dX12_book_147 : decode cX12_book 147 = .ok (.aload_n 0, 1) := by decide +kernel
theorem dX12_book_148 : decode cX12_book 148 = .ok (.getfield 40, 3) := by decide +kernel
theorem dX12_book_151 : decode cX12_book 151 = .ok (.iconst 3, 1) := by decide +kernel
theorem dX12_book_152 : decode cX12_book 152 = .ok (.iload_n 3, 1) := by decide +kernel
theorem dX12_book_153 : decode cX12_book 153 = .ok (.imul, 1) := by decide +kernel
theorem dX12_book_154 : decode cX12_book 154 = .ok (.iconst 2, 1) := by decide +kernel
theorem dX12_book_155 : decode cX12_book 155 = .ok (.iadd, 1) := by decide +kernel
theorem dX12_book_156 : decode cX12_book 156 = .ok (.iaload, 1) := by decide +kernel
theorem dX12_book_157 : decode cX12_book 157 = .ok (.invokevirtual 444, 3) := by decide +kernel
theorem dX12_book_160 : decode cX12_book 160 = .ok (.iastore, 1) := by decide +kernel
theorem dX12_book_161 : decode cX12_book 161 = .ok (.aload_n 0, 1) := by decide +kernel
theorem dX12_book_162 : decode cX12_book 162 = .ok (.getfield 74, 3) := by decide +kernel
theorem dX12_book_165 : decode cX12_book 165 = .ok (.iconst 0, 1) := by decide +kernel
theorem dX12_book_166 : decode cX12_book 166 = .ok (.iaload, 1) := by decide +kernel
theorem dX12_book_167 : decode cX12_book 167 = .ok (.ifCond .le 8, 3) := by decide +kernel
theorem dX12_book_170 : decode cX12_book 170 = .ok (.iload_n 3, 1) := by decide +kernel
theorem dX12_book_171 : decode cX12_book 171 = .ok (.istore_n 2, 1) := by decide +kernel
theorem dX12_book_172 : decode cX12_book 172 = .ok (.goto 13, 3) := by decide +kernel
theorem dX12_book_175 : decode cX12_book 175 = .ok (.aload_n 0, 1) := by decide +kernel
theorem dX12_book_176 : decode cX12_book 176 = .ok (.getfield 74, 3) := by decide +kernel
theorem dX12_book_179 : decode cX12_book 179 = .ok (.iconst 1, 1) := by decide +kernel
theorem dX12_book_180 : decode cX12_book 180 = .ok (.dup2, 1) := by decide +kernel
theorem dX12_book_181 : decode cX12_book 181 = .ok (.iaload, 1) := by decide +kernel
theorem dX12_book_182 : decode cX12_book 182 = .ok (.iconst 1, 1) := by decide +kernel
theorem dX12_book_183 : decode cX12_book 183 = .ok (.iadd, 1) := by decide +kernel
theorem dX12_book_184 : decode cX12_book 184 = .ok (.iastore, 1) := by decide +kernel
theorem dX12_book_185 : decode cX12_book 185 = .ok (.iinc 3 1, 3) := by decide +kernel
theorem dX12_book_188 : decode cX12_book 188 = .ok (.goto (-77), 3) := by decide +kernel
theorem dX12_book_191 : decode cX12_book 191 = .ok (.aload_n 0, 1) := by decide +kernel
theorem dX12_book_192 : decode cX12_book 192 = .ok (.getfield 74, 3) := by decide +kernel
theorem dX12_book_195 : decode cX12_book 195 = .ok (.iconst 2, 1) := by decide +kernel
theorem dX12_book_196 : decode cX12_book 196 = .ok (.aload_n 0, 1) := by decide +kernel
theorem dX12_book_197 : decode cX12_book 197 = .ok (.getfield 33, 3) := by decide +kernel
theorem dX12_book_200 : decode cX12_book 200 = .ok (.bipush 61, 2) := by decide +kernel
theorem dX12_book_202 : decode cX12_book 202 = .ok (.iaload, 1) := by decide +kernel
theorem dX12_book_203 : decode cX12_book 203 = .ok (.iastore, 1) := by decide +kernel
theorem dX12_book_204 : decode cX12_book 204 = .ok (.aload_n 0, 1) := by decide +kernel
theorem dX12_book_205 : decode cX12_book 205 = .ok (.getfield 74, 3) := by decide +kernel
theorem dX12_book_208 : decode cX12_book 208 = .ok (.iconst 3, 1) := by decide +kernel
theorem dX12_book_209 : decode cX12_book 209 = .ok (.aload_n 0, 1) := by decide +kernel
theorem dX12_book_210 : decode cX12_book 210 = .ok (.invokevirtual 316, 3) := by decide +kernel
theorem dX12_book_213 : decode cX12_book 213 = .ok (.iastore, 1) := by decide +kernel
theorem dX12_book_214 : decode cX12_book 214 = .ok (.aload_n 0, 1) := by decide +kernel
theorem dX12_book_215 : decode cX12_book 215 = .ok (.iconst 1, 1) := by decide +kernel
theorem dX12_book_216 : decode cX12_book 216 = .ok (.putfield 447, 3) := by decide +kernel
theorem dX12_book_219 : decode cX12_book 219 = .ok (.iload_n 1, 1) := by decide +kernel
theorem dX12_book_220 : decode cX12_book 220 = .ok (.iconst 1, 1) := by decide +kernel
theorem dX12_book_221 : decode cX12_book 221 = .ok (.if_icmp .ne 52, 3) := by decide +kernel
theorem dX12_book_224 : decode cX12_book 224 = .ok (.aload_n 0, 1) := by decide +kernel
theorem dX12_book_225 : decode cX12_book 225 = .ok (.getfield 74, 3) := by decide +kernel
theorem dX12_book_228 : decode cX12_book 228 = .ok (.iconst 1, 1) := by decide +kernel
theorem dX12_book_229 : decode cX12_book 229 = .ok (.iaload, 1) := by decide +kernel
theorem dX12_book_230 : decode cX12_book 230 = .ok (.ifCond .le 43, 3) := by decide +kernel
theorem dX12_book_233 : decode cX12_book 233 = .ok (.aload_n 0, 1) := by decide +kernel
theorem dX12_book_234 : decode cX12_book 234 = .ok (.invokevirtual 344, 3) := by decide +kernel
theorem dX12_book_237 : decode cX12_book 237 = .ok (.iconst 0, 1) := by decide +kernel
theorem dX12_book_238 : decode cX12_book 238 = .ok (.istore_n 3, 1) := by decide +kernel
theorem dX12_book_239 : decode cX12_book 239 = .ok (.iload_n 3, 1) := by decide +kernel
theorem dX12_book_240 : decode cX12_book 240 = .ok (.bipush 45, 2) := by decide +kernel
theorem dX12_book_242 : decode cX12_book 242 = .ok (.if_icmp .ge 31, 3) := by decide +kernel
theorem dX12_book_245 : decode cX12_book 245 = .ok (.aload_n 0, 1) := by decide +kernel
theorem dX12_book_246 : decode cX12_book 246 = .ok (.getfield 53, 3) := by decide +kernel
theorem dX12_book_249 : decode cX12_book 249 = .ok (.bipush 45, 2) := by decide +kernel
theorem dX12_book_251 : decode cX12_book 251 = .ok (.aload_n 0, 1) := by decide +kernel
theorem dX12_book_252 : decode cX12_book 252 = .ok (.getfield 276, 3) := by decide +kernel
theorem dX12_book_255 : decode cX12_book 255 = .ok (.iconst 1, 1) := by decide +kernel
theorem dX12_book_256 : decode cX12_book 256 = .ok (.isub, 1) := by decide +kernel
theorem dX12_book_257 : decode cX12_book 257 = .ok (.imul, 1) := by decide +kernel
theorem dX12_book_258 : decode cX12_book 258 = .ok (.iload_n 3, 1) := by decide +kernel
theorem dX12_book_259 : decode cX12_book 259 = .ok (.iadd, 1) := by decide +kernel
theorem dX12_book_260 : decode cX12_book 260 = .ok (.aload_n 0, 1) := by decide +kernel
theorem dX12_book_261 : decode cX12_book 261 = .ok (.getfield 56, 3) := by decide +kernel
theorem dX12_book_264 : decode cX12_book 264 = .ok (.iload_n 3, 1) := by decide +kernel
theorem dX12_book_265 : decode cX12_book 265 = .ok (.iaload, 1) := by decide +kernel
theorem dX12_book_266 : decode cX12_book 266 = .ok (.iastore, 1) := by decide +kernel
theorem dX12_book_267 : decode cX12_book 267 = .ok (.iinc 3 1, 3) := by decide +kernel
theorem dX12_book_270 : decode cX12_book 270 = .ok (.goto (-31), 3) := by decide +kernel
theorem dX12_book_273 : decode cX12_book 273 = .ok (.iload_n 1, 1) := by decide +kernel
theorem dX12_book_274 : decode cX12_book 274 = .ok (.ifCond .ne 7, 3) := by decide +kernel
theorem dX12_book_277 : decode cX12_book 277 = .ok (.aload_n 0, 1) := by decide +kernel
theorem dX12_book_278 : decode cX12_book 278 = .ok (.invokevirtual 369, 3) := by decide +kernel
theorem dX12_book_281 : decode cX12_book 281 = .ok (.iload_n 2, 1) := by decide +kernel
theorem dX12_book_282 : decode cX12_book 282 = .ok (.ireturn, 1) := by decide +kernel
theorem dX12_told_0 : decode cX12_told 0 = .ok (.aload_n 0, 1) := by decide +kernel
theorem dX12_told_1 : decode cX12_told 1 = .ok (.iconst 0, 1) := by decide +kernel
theorem dX12_told_2 : decode cX12_told 2 = .ok (.putfield 1, 3) := by decide +kernel
theorem dX12_told_5 : decode cX12_told 5 = .ok (.aload_n 0, 1) := by decide +kernel
theorem dX12_told_6 : decode cX12_told 6 = .ok (.getfield 447, 3) := by decide +kernel
theorem dX12_told_9 : decode cX12_told 9 = .ok (.ifCond .eq 21, 3) := by decide +kernel
theorem dX12_told_12 : decode cX12_told 12 = .ok (.iload_n 1, 1) := by decide +kernel
theorem dX12_told_13 : decode cX12_told 13 = .ok (.iconst 0, 1) := by decide +kernel
theorem dX12_told_14 : decode cX12_told 14 = .ok (.iconst 3, 1) := by decide +kernel
theorem dX12_told_15 : decode cX12_told 15 = .ok (.invokestatic 206, 3) := by decide +kernel
theorem dX12_told_18 : decode cX12_told 18 = .ok (.ifCond .eq 12, 3) := by decide +kernel
theorem dX12_told_21 : decode cX12_told 21 = .ok (.aload_n 0, 1) := by decide +kernel
theorem dX12_told_22 : decode cX12_told 22 = .ok (.getfield 74, 3) := by decide +kernel
theorem dX12_told_25 : decode cX12_told 25 = .ok (.iload_n 1, 1) := by decide +kernel
theorem dX12_told_26 : decode cX12_told 26 = .ok (.iaload, 1) := by decide +kernel
theorem dX12_told_27 : decode cX12_told 27 = .ok (.goto 4, 3) := by decide +kernel
theorem dX12_told_30 : decode cX12_told 30 = .ok (.iconst (-1), 1) := by decide +kernel
theorem dX12_told_31 : decode cX12_told 31 = .ok (.ireturn, 1) := by decide +kernel
theorem dX12_putCode_0 : decode cX12_putCode 0 = .ok (.aload_n 0, 1) := by decide +kernel
theorem dX12_putCode_1 : decode cX12_putCode 1 = .ok (.getfield 40, 3) := by decide +kernel
theorem dX12_putCode_4 : decode cX12_putCode 4 = .ok (.iconst 3, 1) := by decide +kernel
theorem dX12_putCode_5 : decode cX12_putCode 5 = .ok (.aload_n 0, 1) := by decide +kernel
theorem dX12_putCode_6 : decode cX12_putCode 6 = .ok (.getfield 450, 3) := by decide +kernel
theorem dX12_putCode_9 : decode cX12_putCode 9 = .ok (.imul, 1) := by decide +kernel
theorem dX12_putCode_10 : decode cX12_putCode 10 = .ok (.iload_n 1, 1) := by decide +kernel
theorem dX12_putCode_11 : decode cX12_putCode 11 = .ok (.iastore, 1) := by decide +kernel
theorem dX12_putCode_12 : decode cX12_putCode 12 = .ok (.aload_n 0, 1) := by decide +kernel
theorem dX12_putCode_13 : decode cX12_putCode 13 = .ok (.getfield 40, 3) := by decide +kernel
theorem dX12_putCode_16 : decode cX12_putCode 16 = .ok (.iconst 3, 1) := by decide +kernel
theorem dX12_putCode_17 : decode cX12_putCode 17 = .ok (.aload_n 0, 1) := by decide +kernel
theorem dX12_putCode_18 : decode cX12_putCode 18 = .ok (.getfield 450, 3) := by decide +kernel
theorem dX12_putCode_21 : decode cX12_putCode 21 = .ok (.imul, 1) := by decide +kernel
theorem dX12_putCode_22 : decode cX12_putCode 22 = .ok (.iconst 1, 1) := by decide +kernel
theorem dX12_putCode_23 : decode cX12_putCode 23 = .ok (.iadd, 1) := by decide +kernel
theorem dX12_putCode_24 : decode cX12_putCode 24 = .ok (.iload_n 2, 1) := by decide +kernel
theorem dX12_putCode_25 : decode cX12_putCode 25 = .ok (.iastore, 1) := by decide +kernel
theorem dX12_putCode_26 : decode cX12_putCode 26 = .ok (.aload_n 0, 1) := by decide +kernel
theorem dX12_putCode_27 : decode cX12_putCode 27 = .ok (.getfield 40, 3) := by decide +kernel
theorem dX12_putCode_30 : decode cX12_putCode 30 = .ok (.iconst 3, 1) := by decide +kernel
theorem dX12_putCode_31 : decode cX12_putCode 31 = .ok (.aload_n 0, 1) := by decide +kernel
theorem dX12_putCode_32 : decode cX12_putCode 32 = .ok (.getfield 450, 3) := by decide +kernel
theorem dX12_putCode_35 : decode cX12_putCode 35 = .ok (.imul, 1) := by decide +kernel
theorem dX12_putCode_36 : decode cX12_putCode 36 = .ok (.iconst 2, 1) := by decide +kernel
theorem dX12_putCode_37 : decode cX12_putCode 37 = .ok (.iadd, 1) := by decide +kernel
theorem dX12_putCode_38 : decode cX12_putCode 38 = .ok (.iload_n 3, 1) := by decide +kernel
theorem dX12_putCode_39 : decode cX12_putCode 39 = .ok (.iastore, 1) := by decide +kernel
theorem dX12_putCode_40 : decode cX12_putCode 40 = .ok (.aload_n 0, 1) := by decide +kernel
theorem dX12_putCode_41 : decode cX12_putCode 41 = .ok (.dup, 1) := by decide +kernel
theorem dX12_putCode_42 : decode cX12_putCode 42 = .ok (.getfield 450, 3) := by decide +kernel
theorem dX12_putCode_45 : decode cX12_putCode 45 = .ok (.iconst 1, 1) := by decide +kernel
theorem dX12_putCode_46 : decode cX12_putCode 46 = .ok (.iadd, 1) := by decide +kernel
theorem dX12_putCode_47 : decode cX12_putCode 47 = .ok (.putfield 450, 3) := by decide +kernel
theorem dX12_putCode_50 : decode cX12_putCode 50 = .ok (.return_, 1) := by decide +kernel
theorem dX12_joins_0 : decode cX12_joins 0 = .ok (.aload_n 0, 1) := by decide +kernel
theorem dX12_joins_1 : decode cX12_joins 1 = .ok (.getfield 453, 3) := by decide +kernel
theorem dX12_joins_4 : decode cX12_joins 4 = .ok (.ifCond .le 69, 3) := by decide +kernel
theorem dX12_joins_7 : decode cX12_joins 7 = .ok (.aload_n 0, 1) := by decide +kernel
theorem dX12_joins_8 : decode cX12_joins 8 = .ok (.getfield 77, 3) := by decide +kernel
theorem dX12_joins_11 : decode cX12_joins 11 = .ok (.aload_n 0, 1) := by decide +kernel
theorem dX12_joins_12 : decode cX12_joins 12 = .ok (.getfield 453, 3) := by decide +kernel
theorem dX12_joins_15 : decode cX12_joins 15 = .ok (.iconst 1, 1) := by decide +kernel
theorem dX12_joins_16 : decode cX12_joins 16 = .ok (.isub, 1) := by decide +kernel
theorem dX12_joins_17 : decode cX12_joins 17 = .ok (.iaload, 1) := by decide +kernel
theorem dX12_joins_18 : decode cX12_joins 18 = .ok (.bipush 21, 2) := by decide +kernel
theorem dX12_joins_20 : decode cX12_joins 20 = .ok (.if_icmp .eq 25, 3) := by decide +kernel
theorem dX12_joins_23 : decode cX12_joins 23 = .ok (.aload_n 0, 1) := by decide +kernel
theorem dX12_joins_24 : decode cX12_joins 24 = .ok (.getfield 77, 3) := by decide +kernel
theorem dX12_joins_27 : decode cX12_joins 27 = .ok (.aload_n 0, 1) := by decide +kernel
theorem dX12_joins_28 : decode cX12_joins 28 = .ok (.getfield 453, 3) := by decide +kernel
theorem dX12_joins_31 : decode cX12_joins 31 = .ok (.iconst 1, 1) := by decide +kernel
theorem dX12_joins_32 : decode cX12_joins 32 = .ok (.isub, 1) := by decide +kernel
theorem dX12_joins_33 : decode cX12_joins 33 = .ok (.iaload, 1) := by decide +kernel
theorem dX12_joins_34 : decode cX12_joins 34 = .ok (.bipush 22, 2) := by decide +kernel
theorem dX12_joins_36 : decode cX12_joins 36 = .ok (.if_icmp .ne 37, 3) := by decide +kernel
theorem dX12_joins_39 : decode cX12_joins 39 = .ok (.iload_n 1, 1) := by decide +kernel
theorem dX12_joins_40 : decode cX12_joins 40 = .ok (.bipush 22, 2) := by decide +kernel
theorem dX12_joins_42 : decode cX12_joins 42 = .ok (.if_icmp .ne 31, 3) := by decide +kernel
theorem dX12_joins_45 : decode cX12_joins 45 = .ok (.aload_n 0, 1) := by decide +kernel
theorem dX12_joins_46 : decode cX12_joins 46 = .ok (.dup, 1) := by decide +kernel
theorem dX12_joins_47 : decode cX12_joins 47 = .ok (.getfield 453, 3) := by decide +kernel
theorem dX12_joins_50 : decode cX12_joins 50 = .ok (.iconst 1, 1) := by decide +kernel
theorem dX12_joins_51 : decode cX12_joins 51 = .ok (.isub, 1) := by decide +kernel
theorem dX12_joins_52 : decode cX12_joins 52 = .ok (.putfield 453, 3) := by decide +kernel
theorem dX12_joins_55 : decode cX12_joins 55 = .ok (.aload_n 0, 1) := by decide +kernel
theorem dX12_joins_56 : decode cX12_joins 56 = .ok (.aload_n 0, 1) := by decide +kernel
theorem dX12_joins_57 : decode cX12_joins 57 = .ok (.getfield 77, 3) := by decide +kernel
theorem dX12_joins_60 : decode cX12_joins 60 = .ok (.aload_n 0, 1) := by decide +kernel
theorem dX12_joins_61 : decode cX12_joins 61 = .ok (.getfield 453, 3) := by decide +kernel
theorem dX12_joins_64 : decode cX12_joins 64 = .ok (.iaload, 1) := by decide +kernel
theorem dX12_joins_65 : decode cX12_joins 65 = .ok (.iconst 0, 1) := by decide +kernel
theorem dX12_joins_66 : decode cX12_joins 66 = .ok (.iconst 0, 1) := by decide +kernel
theorem dX12_joins_67 : decode cX12_joins 67 = .ok (.invokevirtual 456, 3) := by decide +kernel
theorem dX12_joins_70 : decode cX12_joins 70 = .ok (.goto (-70), 3) := by decide +kernel
theorem dX12_joins_73 : decode cX12_joins 73 = .ok (.return_, 1) := by decide +kernel
theorem dX12_nots_0 : decode cX12_nots 0 = .ok (.aload_n 0, 1) := by decide +kernel
theorem dX12_nots_1 : decode cX12_nots 1 = .ok (.getfield 453, 3) := by decide +kernel
theorem dX12_nots_4 : decode cX12_nots 4 = .ok (.ifCond .le 50, 3) := by decide +kernel
theorem dX12_nots_7 : decode cX12_nots 7 = .ok (.aload_n 0, 1) := by decide +kernel
theorem dX12_nots_8 : decode cX12_nots 8 = .ok (.getfield 77, 3) := by decide +kernel
theorem dX12_nots_11 : decode cX12_nots 11 = .ok (.aload_n 0, 1) := by decide +kernel
theorem dX12_nots_12 : decode cX12_nots 12 = .ok (.getfield 453, 3) := by decide +kernel
theorem dX12_nots_15 : decode cX12_nots 15 = .ok (.iconst 1, 1) := by decide +kernel
theorem dX12_nots_16 : decode cX12_nots 16 = .ok (.isub, 1) := by decide +kernel
theorem dX12_nots_17 : decode cX12_nots 17 = .ok (.iaload, 1) := by decide +kernel
theorem dX12_nots_18 : decode cX12_nots 18 = .ok (.bipush 20, 2) := by decide +kernel
theorem dX12_nots_20 : decode cX12_nots 20 = .ok (.if_icmp .ne 34, 3) := by decide +kernel
theorem dX12_nots_23 : decode cX12_nots 23 = .ok (.aload_n 0, 1) := by decide +kernel
theorem dX12_nots_24 : decode cX12_nots 24 = .ok (.dup, 1) := by decide +kernel
theorem dX12_nots_25 : decode cX12_nots 25 = .ok (.getfield 453, 3) := by decide +kernel
theorem dX12_nots_28 : decode cX12_nots 28 = .ok (.iconst 1, 1) := by decide +kernel
theorem dX12_nots_29 : decode cX12_nots 29 = .ok (.isub, 1) := by decide +kernel
theorem dX12_nots_30 : decode cX12_nots 30 = .ok (.putfield 453, 3) := by decide +kernel
theorem dX12_nots_33 : decode cX12_nots 33 = .ok (.aload_n 0, 1) := by decide +kernel
theorem dX12_nots_34 : decode cX12_nots 34 = .ok (.dup, 1) := by decide +kernel
theorem dX12_nots_35 : decode cX12_nots 35 = .ok (.getfield 460, 3) := by decide +kernel
theorem dX12_nots_38 : decode cX12_nots 38 = .ok (.iconst 1, 1) := by decide +kernel
theorem dX12_nots_39 : decode cX12_nots 39 = .ok (.isub, 1) := by decide +kernel
theorem dX12_nots_40 : decode cX12_nots 40 = .ok (.putfield 460, 3) := by decide +kernel
theorem dX12_nots_43 : decode cX12_nots 43 = .ok (.aload_n 0, 1) := by decide +kernel
theorem dX12_nots_44 : decode cX12_nots 44 = .ok (.bipush 20, 2) := by decide +kernel
theorem dX12_nots_46 : decode cX12_nots 46 = .ok (.iconst 0, 1) := by decide +kernel
theorem dX12_nots_47 : decode cX12_nots 47 = .ok (.iconst 0, 1) := by decide +kernel
theorem dX12_nots_48 : decode cX12_nots 48 = .ok (.invokevirtual 456, 3) := by decide +kernel
theorem dX12_nots_51 : decode cX12_nots 51 = .ok (.goto (-51), 3) := by decide +kernel
theorem dX12_nots_54 : decode cX12_nots 54 = .ok (.return_, 1) := by decide +kernel
theorem dX12_leafOf_0 : decode cX12_leafOf 0 = .ok (.aload_n 0, 1) := by decide +kernel
theorem dX12_leafOf_1 : decode cX12_leafOf 1 = .ok (.ldc2_w 143, 3) := by decide +kernel
theorem dX12_leafOf_4 : decode cX12_leafOf 4 = .ok (.invokevirtual 237, 3) := by decide +kernel
theorem dX12_leafOf_7 : decode cX12_leafOf 7 = .ok (.ifCond .eq 7, 3) := by decide +kernel
theorem dX12_leafOf_10 : decode cX12_leafOf 10 = .ok (.iconst 0, 1) := by decide +kernel
theorem dX12_leafOf_11 : decode cX12_leafOf 11 = .ok (.goto 164, 3) := by decide +kernel
theorem dX12_leafOf_14 : decode cX12_leafOf 14 = .ok (.aload_n 0, 1) := by decide +kernel
theorem dX12_leafOf_15 : decode cX12_leafOf 15 = .ok (.ldc2_w 145, 3) := by decide +kernel
theorem dX12_leafOf_18 : decode cX12_leafOf 18 = .ok (.invokevirtual 237, 3) := by decide +kernel
theorem dX12_leafOf_21 : decode cX12_leafOf 21 = .ok (.ifCond .eq 7, 3) := by decide +kernel
theorem dX12_leafOf_24 : decode cX12_leafOf 24 = .ok (.iconst 1, 1) := by decide +kernel
theorem dX12_leafOf_25 : decode cX12_leafOf 25 = .ok (.goto 150, 3) := by decide +kernel
theorem dX12_leafOf_28 : decode cX12_leafOf 28 = .ok (.aload_n 0, 1) := by decide +kernel
theorem dX12_leafOf_29 : decode cX12_leafOf 29 = .ok (.ldc2_w 95, 3) := by decide +kernel
theorem dX12_leafOf_32 : decode cX12_leafOf 32 = .ok (.invokevirtual 237, 3) := by decide +kernel
theorem dX12_leafOf_35 : decode cX12_leafOf 35 = .ok (.ifCond .eq 7, 3) := by decide +kernel
theorem dX12_leafOf_38 : decode cX12_leafOf 38 = .ok (.iconst 2, 1) := by decide +kernel
theorem dX12_leafOf_39 : decode cX12_leafOf 39 = .ok (.goto 136, 3) := by decide +kernel
theorem dX12_leafOf_42 : decode cX12_leafOf 42 = .ok (.aload_n 0, 1) := by decide +kernel
theorem dX12_leafOf_43 : decode cX12_leafOf 43 = .ok (.ldc2_w 97, 3) := by decide +kernel
theorem dX12_leafOf_46 : decode cX12_leafOf 46 = .ok (.invokevirtual 237, 3) := by decide +kernel
theorem dX12_leafOf_49 : decode cX12_leafOf 49 = .ok (.ifCond .eq 7, 3) := by decide +kernel
theorem dX12_leafOf_52 : decode cX12_leafOf 52 = .ok (.iconst 3, 1) := by decide +kernel
theorem dX12_leafOf_53 : decode cX12_leafOf 53 = .ok (.goto 122, 3) := by decide +kernel
theorem dX12_leafOf_56 : decode cX12_leafOf 56 = .ok (.aload_n 0, 1) := by decide +kernel
theorem dX12_leafOf_57 : decode cX12_leafOf 57 = .ok (.ldc2_w 147, 3) := by decide +kernel
theorem dX12_leafOf_60 : decode cX12_leafOf 60 = .ok (.invokevirtual 237, 3) := by decide +kernel
theorem dX12_leafOf_63 : decode cX12_leafOf 63 = .ok (.ifCond .eq 7, 3) := by decide +kernel
theorem dX12_leafOf_66 : decode cX12_leafOf 66 = .ok (.iconst 4, 1) := by decide +kernel
theorem dX12_leafOf_67 : decode cX12_leafOf 67 = .ok (.goto 108, 3) := by decide +kernel
theorem dX12_leafOf_70 : decode cX12_leafOf 70 = .ok (.aload_n 0, 1) := by decide +kernel
theorem dX12_leafOf_71 : decode cX12_leafOf 71 = .ok (.ldc2_w 99, 3) := by decide +kernel
theorem dX12_leafOf_74 : decode cX12_leafOf 74 = .ok (.invokevirtual 237, 3) := by decide +kernel
theorem dX12_leafOf_77 : decode cX12_leafOf 77 = .ok (.ifCond .eq 7, 3) := by decide +kernel
theorem dX12_leafOf_80 : decode cX12_leafOf 80 = .ok (.iconst 5, 1) := by decide +kernel
theorem dX12_leafOf_81 : decode cX12_leafOf 81 = .ok (.goto 94, 3) := by decide +kernel
theorem dX12_leafOf_84 : decode cX12_leafOf 84 = .ok (.aload_n 0, 1) := by decide +kernel
theorem dX12_leafOf_85 : decode cX12_leafOf 85 = .ok (.ldc2_w 149, 3) := by decide +kernel
theorem dX12_leafOf_88 : decode cX12_leafOf 88 = .ok (.invokevirtual 237, 3) := by decide +kernel
theorem dX12_leafOf_91 : decode cX12_leafOf 91 = .ok (.ifCond .eq 8, 3) := by decide +kernel
theorem dX12_leafOf_94 : decode cX12_leafOf 94 = .ok (.bipush 6, 2) := by decide +kernel
theorem dX12_leafOf_96 : decode cX12_leafOf 96 = .ok (.goto 79, 3) := by decide +kernel
theorem dX12_leafOf_99 : decode cX12_leafOf 99 = .ok (.aload_n 0, 1) := by decide +kernel
theorem dX12_leafOf_100 : decode cX12_leafOf 100 = .ok (.ldc2_w 151, 3) := by decide +kernel
theorem dX12_leafOf_103 : decode cX12_leafOf 103 = .ok (.invokevirtual 237, 3) := by decide +kernel
theorem dX12_leafOf_106 : decode cX12_leafOf 106 = .ok (.ifCond .eq 8, 3) := by decide +kernel
theorem dX12_leafOf_109 : decode cX12_leafOf 109 = .ok (.bipush 7, 2) := by decide +kernel
theorem dX12_leafOf_111 : decode cX12_leafOf 111 = .ok (.goto 64, 3) := by decide +kernel
theorem dX12_leafOf_114 : decode cX12_leafOf 114 = .ok (.aload_n 0, 1) := by decide +kernel
theorem dX12_leafOf_115 : decode cX12_leafOf 115 = .ok (.ldc2_w 153, 3) := by decide +kernel
theorem dX12_leafOf_118 : decode cX12_leafOf 118 = .ok (.invokevirtual 237, 3) := by decide +kernel
theorem dX12_leafOf_121 : decode cX12_leafOf 121 = .ok (.ifCond .eq 8, 3) := by decide +kernel
theorem dX12_leafOf_124 : decode cX12_leafOf 124 = .ok (.bipush 8, 2) := by decide +kernel
theorem dX12_leafOf_126 : decode cX12_leafOf 126 = .ok (.goto 49, 3) := by decide +kernel
theorem dX12_leafOf_129 : decode cX12_leafOf 129 = .ok (.aload_n 0, 1) := by decide +kernel
theorem dX12_leafOf_130 : decode cX12_leafOf 130 = .ok (.ldc2_w 155, 3) := by decide +kernel
theorem dX12_leafOf_133 : decode cX12_leafOf 133 = .ok (.invokevirtual 237, 3) := by decide +kernel
theorem dX12_leafOf_136 : decode cX12_leafOf 136 = .ok (.ifCond .eq 8, 3) := by decide +kernel
theorem dX12_leafOf_139 : decode cX12_leafOf 139 = .ok (.bipush 9, 2) := by decide +kernel
theorem dX12_leafOf_141 : decode cX12_leafOf 141 = .ok (.goto 34, 3) := by decide +kernel
theorem dX12_leafOf_144 : decode cX12_leafOf 144 = .ok (.aload_n 0, 1) := by decide +kernel
theorem dX12_leafOf_145 : decode cX12_leafOf 145 = .ok (.ldc2_w 157, 3) := by decide +kernel
theorem dX12_leafOf_148 : decode cX12_leafOf 148 = .ok (.invokevirtual 237, 3) := by decide +kernel
theorem dX12_leafOf_151 : decode cX12_leafOf 151 = .ok (.ifCond .eq 8, 3) := by decide +kernel
theorem dX12_leafOf_154 : decode cX12_leafOf 154 = .ok (.bipush 10, 2) := by decide +kernel
theorem dX12_leafOf_156 : decode cX12_leafOf 156 = .ok (.goto 19, 3) := by decide +kernel
theorem dX12_leafOf_159 : decode cX12_leafOf 159 = .ok (.aload_n 0, 1) := by decide +kernel
theorem dX12_leafOf_160 : decode cX12_leafOf 160 = .ok (.ldc2_w 159, 3) := by decide +kernel
theorem dX12_leafOf_163 : decode cX12_leafOf 163 = .ok (.invokevirtual 237, 3) := by decide +kernel
theorem dX12_leafOf_166 : decode cX12_leafOf 166 = .ok (.ifCond .eq 8, 3) := by decide +kernel
theorem dX12_leafOf_169 : decode cX12_leafOf 169 = .ok (.bipush 11, 2) := by decide +kernel
theorem dX12_leafOf_171 : decode cX12_leafOf 171 = .ok (.goto 4, 3) := by decide +kernel
theorem dX12_leafOf_174 : decode cX12_leafOf 174 = .ok (.iconst (-1), 1) := by decide +kernel
theorem dX12_leafOf_175 : decode cX12_leafOf 175 = .ok (.ireturn, 1) := by decide +kernel
theorem dX12_operand_0 : decode cX12_operand 0 = .ok (.aload_n 0, 1) := by decide +kernel
theorem dX12_operand_1 : decode cX12_operand 1 = .ok (.ldc2_w 141, 3) := by decide +kernel
theorem dX12_operand_4 : decode cX12_operand 4 = .ok (.invokevirtual 237, 3) := by decide +kernel
theorem dX12_operand_7 : decode cX12_operand 7 = .ok (.istore_n 1, 1) := by decide +kernel
theorem dX12_operand_8 : decode cX12_operand 8 = .ok (.aload_n 0, 1) := by decide +kernel
theorem dX12_operand_9 : decode cX12_operand 9 = .ok (.bipush 40, 2) := by decide +kernel
theorem dX12_operand_11 : decode cX12_operand 11 = .ok (.invokevirtual 197, 3) := by decide +kernel
theorem dX12_operand_14 : decode cX12_operand 14 = .ok (.istore_n 2, 1) := by decide +kernel
theorem dX12_operand_15 : decode cX12_operand 15 = .ok (.aload_n 0, 1) := by decide +kernel
theorem dX12_operand_16 : decode cX12_operand 16 = .ok (.invokevirtual 463, 3) := by decide +kernel
theorem dX12_operand_19 : decode cX12_operand 19 = .ok (.istore_n 3, 1) := by decide +kernel
theorem dX12_operand_20 : decode cX12_operand 20 = .ok (.iload_n 1, 1) := by decide +kernel
theorem dX12_operand_21 : decode cX12_operand 21 = .ok (.ifCond .ne 17, 3) := by decide +kernel
theorem dX12_operand_24 : decode cX12_operand 24 = .ok (.iload_n 2, 1) := by decide +kernel
theorem dX12_operand_25 : decode cX12_operand 25 = .ok (.ifCond .ne 13, 3) := by decide +kernel
theorem dX12_operand_28 : decode cX12_operand 28 = .ok (.iload_n 3, 1) := by decide +kernel
theorem dX12_operand_29 : decode cX12_operand 29 = .ok (.ifCond .ge 9, 3) := by decide +kernel
theorem dX12_operand_32 : decode cX12_operand 32 = .ok (.aload_n 0, 1) := by decide +kernel
theorem dX12_operand_33 : decode cX12_operand 33 = .ok (.iconst 1, 1) := by decide +kernel
theorem dX12_operand_34 : decode cX12_operand 34 = .ok (.invokevirtual 200, 3) := by decide +kernel
theorem dX12_operand_37 : decode cX12_operand 37 = .ok (.ireturn, 1) := by decide +kernel
theorem dX12_operand_38 : decode cX12_operand 38 = .ok (.aload_n 0, 1) := by decide +kernel
theorem dX12_operand_39 : decode cX12_operand 39 = .ok (.getfield 466, 3) := by decide +kernel
theorem dX12_operand_42 : decode cX12_operand 42 = .ok (.bipush 20, 2) := by decide +kernel
theorem dX12_operand_44 : decode cX12_operand 44 = .ok (.if_icmp .eq 12, 3) := by decide +kernel
theorem dX12_operand_47 : decode cX12_operand 47 = .ok (.aload_n 0, 1) := by decide +kernel
theorem dX12_operand_48 : decode cX12_operand 48 = .ok (.getfield 460, 3) := by decide +kernel
theorem dX12_operand_51 : decode cX12_operand 51 = .ok (.bipush 8, 2) := by decide +kernel
theorem dX12_operand_53 : decode cX12_operand 53 = .ok (.if_icmp .le 9, 3) := by decide +kernel
theorem dX12_operand_56 : decode cX12_operand 56 = .ok (.aload_n 0, 1) := by decide +kernel
theorem dX12_operand_57 : decode cX12_operand 57 = .ok (.iconst 4, 1) := by decide +kernel
theorem dX12_operand_58 : decode cX12_operand 58 = .ok (.invokevirtual 200, 3) := by decide +kernel
theorem dX12_operand_61 : decode cX12_operand 61 = .ok (.ireturn, 1) := by decide +kernel
theorem dX12_operand_62 : decode cX12_operand 62 = .ok (.aload_n 0, 1) := by decide +kernel
theorem dX12_operand_63 : decode cX12_operand 63 = .ok (.dup, 1) := by decide +kernel
theorem dX12_operand_64 : decode cX12_operand 64 = .ok (.getfield 466, 3) := by decide +kernel
theorem dX12_operand_67 : decode cX12_operand 67 = .ok (.iconst 1, 1) := by decide +kernel
theorem dX12_operand_68 : decode cX12_operand 68 = .ok (.iadd, 1) := by decide +kernel
theorem dX12_operand_69 : decode cX12_operand 69 = .ok (.putfield 466, 3) := by decide +kernel
theorem dX12_operand_72 : decode cX12_operand 72 = .ok (.aload_n 0, 1) := by decide +kernel
theorem dX12_operand_73 : decode cX12_operand 73 = .ok (.invokevirtual 203, 3) := by decide +kernel
theorem dX12_operand_76 : decode cX12_operand 76 = .ok (.iload_n 1, 1) := by decide +kernel
theorem dX12_operand_77 : decode cX12_operand 77 = .ok (.ifCond .ne 7, 3) := by decide +kernel
theorem dX12_operand_80 : decode cX12_operand 80 = .ok (.iload_n 2, 1) := by decide +kernel
theorem dX12_operand_81 : decode cX12_operand 81 = .ok (.ifCond .eq 45, 3) := by decide +kernel
theorem dX12_operand_84 : decode cX12_operand 84 = .ok (.aload_n 0, 1) := by decide +kernel
theorem dX12_operand_85 : decode cX12_operand 85 = .ok (.getfield 77, 3) := by decide +kernel
theorem dX12_operand_88 : decode cX12_operand 88 = .ok (.aload_n 0, 1) := by decide +kernel
theorem dX12_operand_89 : decode cX12_operand 89 = .ok (.getfield 453, 3) := by decide +kernel
theorem dX12_operand_92 : decode cX12_operand 92 = .ok (.iload_n 1, 1) := by decide +kernel
theorem dX12_operand_93 : decode cX12_operand 93 = .ok (.ifCond .eq 8, 3) := by decide +kernel
theorem dX12_operand_96 : decode cX12_operand 96 = .ok (.bipush 20, 2) := by decide +kernel
theorem dX12_operand_98 : decode cX12_operand 98 = .ok (.goto 5, 3) := by decide +kernel
theorem dX12_operand_101 : decode cX12_operand 101 = .ok (.bipush 23, 2) := by decide +kernel
theorem dX12_operand_103 : decode cX12_operand 103 = .ok (.iastore, 1) := by decide +kernel
theorem dX12_operand_104 : decode cX12_operand 104 = .ok (.aload_n 0, 1) := by decide +kernel
theorem dX12_operand_105 : decode cX12_operand 105 = .ok (.dup, 1) := by decide +kernel
theorem dX12_operand_106 : decode cX12_operand 106 = .ok (.getfield 453, 3) := by decide +kernel
theorem dX12_operand_109 : decode cX12_operand 109 = .ok (.iconst 1, 1) := by decide +kernel
theorem dX12_operand_110 : decode cX12_operand 110 = .ok (.iadd, 1) := by decide +kernel
theorem dX12_operand_111 : decode cX12_operand 111 = .ok (.putfield 453, 3) := by decide +kernel
theorem dX12_operand_114 : decode cX12_operand 114 = .ok (.aload_n 0, 1) := by decide +kernel
theorem dX12_operand_115 : decode cX12_operand 115 = .ok (.dup, 1) := by decide +kernel
theorem dX12_operand_116 : decode cX12_operand 116 = .ok (.getfield 460, 3) := by decide +kernel
theorem dX12_operand_119 : decode cX12_operand 119 = .ok (.iconst 1, 1) := by decide +kernel
theorem dX12_operand_120 : decode cX12_operand 120 = .ok (.iadd, 1) := by decide +kernel
theorem dX12_operand_121 : decode cX12_operand 121 = .ok (.putfield 460, 3) := by decide +kernel
theorem dX12_operand_124 : decode cX12_operand 124 = .ok (.iconst 1, 1) := by decide +kernel
theorem dX12_operand_125 : decode cX12_operand 125 = .ok (.ireturn, 1) := by decide +kernel
theorem dX12_operand_126 : decode cX12_operand 126 = .ok (.aload_n 0, 1) := by decide +kernel
theorem dX12_operand_127 : decode cX12_operand 127 = .ok (.iconst 1, 1) := by decide +kernel
theorem dX12_operand_128 : decode cX12_operand 128 = .ok (.putfield 469, 3) := by decide +kernel
theorem dX12_operand_131 : decode cX12_operand 131 = .ok (.iload_n 3, 1) := by decide +kernel
theorem dX12_operand_132 : decode cX12_operand 132 = .ok (.iconst 5, 1) := by decide +kernel
theorem dX12_operand_133 : decode cX12_operand 133 = .ok (.if_icmp .ge 12, 3) := by decide +kernel
theorem dX12_operand_136 : decode cX12_operand 136 = .ok (.aload_n 0, 1) := by decide +kernel
theorem dX12_operand_137 : decode cX12_operand 137 = .ok (.iload_n 3, 1) := by decide +kernel
theorem dX12_operand_138 : decode cX12_operand 138 = .ok (.iconst 0, 1) := by decide +kernel
theorem dX12_operand_139 : decode cX12_operand 139 = .ok (.iconst 0, 1) := by decide +kernel
theorem dX12_operand_140 : decode cX12_operand 140 = .ok (.invokevirtual 456, 3) := by decide +kernel
theorem dX12_operand_143 : decode cX12_operand 143 = .ok (.iconst 1, 1) := by decide +kernel
theorem dX12_operand_144 : decode cX12_operand 144 = .ok (.ireturn, 1) := by decide +kernel
theorem dX12_operand_145 : decode cX12_operand 145 = .ok (.iload_n 3, 1) := by decide +kernel
theorem dX12_operand_146 : decode cX12_operand 146 = .ok (.bipush 8, 2) := by decide +kernel
theorem dX12_operand_148 : decode cX12_operand 148 = .ok (.if_icmp .ge 60, 3) := by decide +kernel
theorem dX12_operand_151 : decode cX12_operand 151 = .ok (.iload_n 3, 1) := by decide +kernel
theorem dX12_operand_152 : decode cX12_operand 152 = .ok (.bipush 7, 2) := by decide +kernel
theorem dX12_operand_154 : decode cX12_operand 154 = .ok (.if_icmp .ge 17, 3) := by decide +kernel
theorem dX12_operand_157 : decode cX12_operand 157 = .ok (.aload_n 0, 1) := by decide +kernel
theorem dX12_operand_158 : decode cX12_operand 158 = .ok (.iconst 0, 1) := by decide +kernel
theorem dX12_operand_159 : decode cX12_operand 159 = .ok (.aload_n 0, 1) := by decide +kernel
theorem dX12_operand_160 : decode cX12_operand 160 = .ok (.getfield 33, 3) := by decide +kernel
theorem dX12_operand_163 : decode cX12_operand 163 = .ok (.iconst 0, 1) := by decide +kernel
theorem dX12_operand_164 : decode cX12_operand 164 = .ok (.iaload, 1) := by decide +kernel
theorem dX12_operand_165 : decode cX12_operand 165 = .ok (.invokevirtual 225, 3) := by decide +kernel
theorem dX12_operand_168 : decode cX12_operand 168 = .ok (.goto 15, 3) := by decide +kernel
theorem dX12_operand_171 : decode cX12_operand 171 = .ok (.aload_n 0, 1) := by decide +kernel
theorem dX12_operand_172 : decode cX12_operand 172 = .ok (.bipush 8, 2) := by decide +kernel
theorem dX12_operand_174 : decode cX12_operand 174 = .ok (.aload_n 0, 1) := by decide +kernel
theorem dX12_operand_175 : decode cX12_operand 175 = .ok (.getfield 33, 3) := by decide +kernel
theorem dX12_operand_178 : decode cX12_operand 178 = .ok (.iconst 1, 1) := by decide +kernel
theorem dX12_operand_179 : decode cX12_operand 179 = .ok (.iaload, 1) := by decide +kernel
theorem dX12_operand_180 : decode cX12_operand 180 = .ok (.invokevirtual 225, 3) := by decide +kernel
theorem dX12_operand_183 : decode cX12_operand 183 = .ok (.istore 4, 2) := by decide +kernel
theorem dX12_operand_185 : decode cX12_operand 185 = .ok (.iload 4, 2) := by decide +kernel
theorem dX12_operand_187 : decode cX12_operand 187 = .ok (.ifCond .ne 5, 3) := by decide +kernel
theorem dX12_operand_190 : decode cX12_operand 190 = .ok (.iconst 0, 1) := by decide +kernel
theorem dX12_operand_191 : decode cX12_operand 191 = .ok (.ireturn, 1) := by decide +kernel
theorem dX12_operand_192 : decode cX12_operand 192 = .ok (.aload_n 0, 1) := by decide +kernel
theorem dX12_operand_193 : decode cX12_operand 193 = .ok (.iload_n 3, 1) := by decide +kernel
theorem dX12_operand_194 : decode cX12_operand 194 = .ok (.iconst 0, 1) := by decide +kernel
theorem dX12_operand_195 : decode cX12_operand 195 = .ok (.aload_n 0, 1) := by decide +kernel
theorem dX12_operand_196 : decode cX12_operand 196 = .ok (.getfield 210, 3) := by decide +kernel
theorem dX12_operand_199 : decode cX12_operand 199 = .ok (.invokevirtual 456, 3) := by decide +kernel
theorem dX12_operand_202 : decode cX12_operand 202 = .ok (.aload_n 0, 1) := by decide +kernel
theorem dX12_operand_203 : decode cX12_operand 203 = .ok (.invokevirtual 203, 3) := by decide +kernel
theorem dX12_operand_206 : decode cX12_operand 206 = .ok (.iconst 1, 1) := by decide +kernel
theorem dX12_operand_207 : decode cX12_operand 207 = .ok (.ireturn, 1) := by decide +kernel
theorem dX12_operand_208 : decode cX12_operand 208 = .ok (.aload_n 0, 1) := by decide +kernel
theorem dX12_operand_209 : decode cX12_operand 209 = .ok (.getfield 174, 3) := by decide +kernel
theorem dX12_operand_212 : decode cX12_operand 212 = .ok (.iconst 3, 1) := by decide +kernel
theorem dX12_operand_213 : decode cX12_operand 213 = .ok (.if_icmp .ne 21, 3) := by decide +kernel
theorem dX12_operand_216 : decode cX12_operand 216 = .ok (.aload_n 0, 1) := by decide +kernel
theorem dX12_operand_217 : decode cX12_operand 217 = .ok (.getfield 184, 3) := by decide +kernel
theorem dX12_operand_220 : decode cX12_operand 220 = .ok (.bipush 60, 2) := by decide +kernel
theorem dX12_operand_222 : decode cX12_operand 222 = .ok (.if_icmp .lt 12, 3) := by decide +kernel
theorem dX12_operand_225 : decode cX12_operand 225 = .ok (.aload_n 0, 1) := by decide +kernel
theorem dX12_operand_226 : decode cX12_operand 226 = .ok (.getfield 184, 3) := by decide +kernel
theorem dX12_operand_229 : decode cX12_operand 229 = .ok (.bipush 62, 2) := by decide +kernel
theorem dX12_operand_231 : decode cX12_operand 231 = .ok (.if_icmp .le 9, 3) := by decide +kernel
theorem dX12_operand_234 : decode cX12_operand 234 = .ok (.aload_n 0, 1) := by decide +kernel
theorem dX12_operand_235 : decode cX12_operand 235 = .ok (.iconst 1, 1) := by decide +kernel
theorem dX12_operand_236 : decode cX12_operand 236 = .ok (.invokevirtual 200, 3) := by decide +kernel
theorem dX12_operand_239 : decode cX12_operand 239 = .ok (.ireturn, 1) := by decide +kernel
theorem dX12_operand_240 : decode cX12_operand 240 = .ok (.aload_n 0, 1) := by decide +kernel
theorem dX12_operand_241 : decode cX12_operand 241 = .ok (.getfield 184, 3) := by decide +kernel
theorem dX12_operand_244 : decode cX12_operand 244 = .ok (.istore 4, 2) := by decide +kernel
theorem dX12_operand_246 : decode cX12_operand 246 = .ok (.aload_n 0, 1) := by decide +kernel
theorem dX12_operand_247 : decode cX12_operand 247 = .ok (.invokevirtual 203, 3) := by decide +kernel
theorem dX12_operand_250 : decode cX12_operand 250 = .ok (.aload_n 0, 1) := by decide +kernel
theorem dX12_operand_251 : decode cX12_operand 251 = .ok (.getfield 174, 3) := by decide +kernel
theorem dX12_operand_254 : decode cX12_operand 254 = .ok (.iconst 2, 1) := by decide +kernel
theorem dX12_operand_255 : decode cX12_operand 255 = .ok (.if_icmp .eq 9, 3) := by decide +kernel
theorem dX12_operand_258 : decode cX12_operand 258 = .ok (.aload_n 0, 1) := by decide +kernel
theorem dX12_operand_259 : decode cX12_operand 259 = .ok (.iconst 1, 1) := by decide +kernel
theorem dX12_operand_260 : decode cX12_operand 260 = .ok (.invokevirtual 200, 3) := by decide +kernel
theorem dX12_operand_263 : decode cX12_operand 263 = .ok (.ireturn, 1) := by decide +kernel
theorem dX12_operand_264 : decode cX12_operand 264 = .ok (.aload_n 0, 1) := by decide +kernel
theorem dX12_operand_265 : decode cX12_operand 265 = .ok (.iload_n 3, 1) := by decide +kernel
theorem dX12_operand_266 : decode cX12_operand 266 = .ok (.iload 4, 2) := by decide +kernel
theorem dX12_operand_268 : decode cX12_operand 268 = .ok (.aload_n 0, 1) := by decide +kernel
theorem dX12_operand_269 : decode cX12_operand 269 = .ok (.getfield 184, 3) := by decide +kernel
theorem dX12_operand_272 : decode cX12_operand 272 = .ok (.invokevirtual 456, 3) := by decide +kernel
theorem dX12_operand_275 : decode cX12_operand 275 = .ok (.aload_n 0, 1) := by decide +kernel
theorem dX12_operand_276 : decode cX12_operand 276 = .ok (.invokevirtual 203, 3) := by decide +kernel
theorem dX12_operand_279 : decode cX12_operand 279 = .ok (.iconst 1, 1) := by decide +kernel
theorem dX12_operand_280 : decode cX12_operand 280 = .ok (.ireturn, 1) := by decide +kernel
theorem dX12_behind_0 : decode cX12_behind 0 = .ok (.aload_n 0, 1) := by decide +kernel
theorem dX12_behind_1 : decode cX12_behind 1 = .ok (.invokevirtual 472, 3) := by decide +kernel
theorem dX12_behind_4 : decode cX12_behind 4 = .ok (.aload_n 0, 1) := by decide +kernel
theorem dX12_behind_5 : decode cX12_behind 5 = .ok (.ldc2_w 139, 3) := by decide +kernel
theorem dX12_behind_8 : decode cX12_behind 8 = .ok (.invokevirtual 237, 3) := by decide +kernel
theorem dX12_behind_11 : decode cX12_behind 11 = .ok (.ifCond .ne 13, 3) := by decide +kernel
theorem dX12_behind_14 : decode cX12_behind 14 = .ok (.aload_n 0, 1) := by decide +kernel
theorem dX12_behind_15 : decode cX12_behind 15 = .ok (.ldc2_w 137, 3) := by decide +kernel
theorem dX12_behind_18 : decode cX12_behind 18 = .ok (.invokevirtual 237, 3) := by decide +kernel
theorem dX12_behind_21 : decode cX12_behind 21 = .ok (.ifCond .eq 71, 3) := by decide +kernel
theorem dX12_behind_24 : decode cX12_behind 24 = .ok (.aload_n 0, 1) := by decide +kernel
theorem dX12_behind_25 : decode cX12_behind 25 = .ok (.aload_n 0, 1) := by decide +kernel
theorem dX12_behind_26 : decode cX12_behind 26 = .ok (.ldc2_w 139, 3) := by decide +kernel
theorem dX12_behind_29 : decode cX12_behind 29 = .ok (.invokevirtual 237, 3) := by decide +kernel
theorem dX12_behind_32 : decode cX12_behind 32 = .ok (.ifCond .eq 8, 3) := by decide +kernel
theorem dX12_behind_35 : decode cX12_behind 35 = .ok (.bipush 21, 2) := by decide +kernel
theorem dX12_behind_37 : decode cX12_behind 37 = .ok (.goto 5, 3) := by decide +kernel
theorem dX12_behind_40 : decode cX12_behind 40 = .ok (.bipush 22, 2) := by decide +kernel
theorem dX12_behind_42 : decode cX12_behind 42 = .ok (.invokevirtual 475, 3) := by decide +kernel
theorem dX12_behind_45 : decode cX12_behind 45 = .ok (.aload_n 0, 1) := by decide +kernel
theorem dX12_behind_46 : decode cX12_behind 46 = .ok (.getfield 77, 3) := by decide +kernel
theorem dX12_behind_49 : decode cX12_behind 49 = .ok (.aload_n 0, 1) := by decide +kernel
theorem dX12_behind_50 : decode cX12_behind 50 = .ok (.getfield 453, 3) := by decide +kernel
theorem dX12_behind_53 : decode cX12_behind 53 = .ok (.aload_n 0, 1) := by decide +kernel
theorem dX12_behind_54 : decode cX12_behind 54 = .ok (.ldc2_w 139, 3) := by decide +kernel
theorem dX12_behind_57 : decode cX12_behind 57 = .ok (.invokevirtual 237, 3) := by decide +kernel
theorem dX12_behind_60 : decode cX12_behind 60 = .ok (.ifCond .eq 8, 3) := by decide +kernel
theorem dX12_behind_63 : decode cX12_behind 63 = .ok (.bipush 21, 2) := by decide +kernel
theorem dX12_behind_65 : decode cX12_behind 65 = .ok (.goto 5, 3) := by decide +kernel
theorem dX12_behind_68 : decode cX12_behind 68 = .ok (.bipush 22, 2) := by decide +kernel
theorem dX12_behind_70 : decode cX12_behind 70 = .ok (.iastore, 1) := by decide +kernel
theorem dX12_behind_71 : decode cX12_behind 71 = .ok (.aload_n 0, 1) := by decide +kernel
theorem dX12_behind_72 : decode cX12_behind 72 = .ok (.dup, 1) := by decide +kernel
theorem dX12_behind_73 : decode cX12_behind 73 = .ok (.getfield 453, 3) := by decide +kernel
theorem dX12_behind_76 : decode cX12_behind 76 = .ok (.iconst 1, 1) := by decide +kernel
theorem dX12_behind_77 : decode cX12_behind 77 = .ok (.iadd, 1) := by decide +kernel
theorem dX12_behind_78 : decode cX12_behind 78 = .ok (.putfield 453, 3) := by decide +kernel
theorem dX12_behind_81 : decode cX12_behind 81 = .ok (.aload_n 0, 1) := by decide +kernel
theorem dX12_behind_82 : decode cX12_behind 82 = .ok (.iconst 0, 1) := by decide +kernel
theorem dX12_behind_83 : decode cX12_behind 83 = .ok (.putfield 469, 3) := by decide +kernel
theorem dX12_behind_86 : decode cX12_behind 86 = .ok (.aload_n 0, 1) := by decide +kernel
theorem dX12_behind_87 : decode cX12_behind 87 = .ok (.invokevirtual 203, 3) := by decide +kernel
theorem dX12_behind_90 : decode cX12_behind 90 = .ok (.iconst 1, 1) := by decide +kernel
theorem dX12_behind_91 : decode cX12_behind 91 = .ok (.ireturn, 1) := by decide +kernel
theorem dX12_behind_92 : decode cX12_behind 92 = .ok (.aload_n 0, 1) := by decide +kernel
theorem dX12_behind_93 : decode cX12_behind 93 = .ok (.bipush 22, 2) := by decide +kernel
theorem dX12_behind_95 : decode cX12_behind 95 = .ok (.invokevirtual 475, 3) := by decide +kernel
theorem dX12_behind_98 : decode cX12_behind 98 = .ok (.aload_n 0, 1) := by decide +kernel
theorem dX12_behind_99 : decode cX12_behind 99 = .ok (.bipush 41, 2) := by decide +kernel
theorem dX12_behind_101 : decode cX12_behind 101 = .ok (.invokevirtual 197, 3) := by decide +kernel
theorem dX12_behind_104 : decode cX12_behind 104 = .ok (.ifCond .eq 10, 3) := by decide +kernel
theorem dX12_behind_107 : decode cX12_behind 107 = .ok (.aload_n 0, 1) := by decide +kernel
theorem dX12_behind_108 : decode cX12_behind 108 = .ok (.getfield 453, 3) := by decide +kernel
theorem dX12_behind_111 : decode cX12_behind 111 = .ok (.ifCond .ne 9, 3) := by decide +kernel
theorem dX12_behind_114 : decode cX12_behind 114 = .ok (.aload_n 0, 1) := by decide +kernel
theorem dX12_behind_115 : decode cX12_behind 115 = .ok (.iconst 1, 1) := by decide +kernel
theorem dX12_behind_116 : decode cX12_behind 116 = .ok (.invokevirtual 200, 3) := by decide +kernel
theorem dX12_behind_119 : decode cX12_behind 119 = .ok (.ireturn, 1) := by decide +kernel
theorem dX12_behind_120 : decode cX12_behind 120 = .ok (.aload_n 0, 1) := by decide +kernel
theorem dX12_behind_121 : decode cX12_behind 121 = .ok (.dup, 1) := by decide +kernel
theorem dX12_behind_122 : decode cX12_behind 122 = .ok (.getfield 453, 3) := by decide +kernel
theorem dX12_behind_125 : decode cX12_behind 125 = .ok (.iconst 1, 1) := by decide +kernel
theorem dX12_behind_126 : decode cX12_behind 126 = .ok (.isub, 1) := by decide +kernel
theorem dX12_behind_127 : decode cX12_behind 127 = .ok (.putfield 453, 3) := by decide +kernel
theorem dX12_behind_130 : decode cX12_behind 130 = .ok (.aload_n 0, 1) := by decide +kernel
theorem dX12_behind_131 : decode cX12_behind 131 = .ok (.dup, 1) := by decide +kernel
theorem dX12_behind_132 : decode cX12_behind 132 = .ok (.getfield 460, 3) := by decide +kernel
theorem dX12_behind_135 : decode cX12_behind 135 = .ok (.iconst 1, 1) := by decide +kernel
theorem dX12_behind_136 : decode cX12_behind 136 = .ok (.isub, 1) := by decide +kernel
theorem dX12_behind_137 : decode cX12_behind 137 = .ok (.putfield 460, 3) := by decide +kernel
theorem dX12_behind_140 : decode cX12_behind 140 = .ok (.aload_n 0, 1) := by decide +kernel
theorem dX12_behind_141 : decode cX12_behind 141 = .ok (.invokevirtual 203, 3) := by decide +kernel
theorem dX12_behind_144 : decode cX12_behind 144 = .ok (.iconst 1, 1) := by decide +kernel
theorem dX12_behind_145 : decode cX12_behind 145 = .ok (.ireturn, 1) := by decide +kernel
theorem dX12_sentence_0 : decode cX12_sentence 0 = .ok (.aload_n 0, 1) := by decide +kernel
theorem dX12_sentence_1 : decode cX12_sentence 1 = .ok (.iconst 0, 1) := by decide +kernel
theorem dX12_sentence_2 : decode cX12_sentence 2 = .ok (.putfield 1, 3) := by decide +kernel
theorem dX12_sentence_5 : decode cX12_sentence 5 = .ok (.aload_n 0, 1) := by decide +kernel
theorem dX12_sentence_6 : decode cX12_sentence 6 = .ok (.sipush 200, 3) := by decide +kernel
theorem dX12_sentence_9 : decode cX12_sentence 9 = .ok (.invokevirtual 264, 3) := by decide +kernel
theorem dX12_sentence_12 : decode cX12_sentence 12 = .ok (.aload_n 0, 1) := by decide +kernel
theorem dX12_sentence_13 : decode cX12_sentence 13 = .ok (.iconst 0, 1) := by decide +kernel
theorem dX12_sentence_14 : decode cX12_sentence 14 = .ok (.putfield 191, 3) := by decide +kernel
theorem dX12_sentence_17 : decode cX12_sentence 17 = .ok (.aload_n 0, 1) := by decide +kernel
theorem dX12_sentence_18 : decode cX12_sentence 18 = .ok (.iconst 0, 1) := by decide +kernel
theorem dX12_sentence_19 : decode cX12_sentence 19 = .ok (.putfield 450, 3) := by decide +kernel
theorem dX12_sentence_22 : decode cX12_sentence 22 = .ok (.aload_n 0, 1) := by decide +kernel
theorem dX12_sentence_23 : decode cX12_sentence 23 = .ok (.iconst 0, 1) := by decide +kernel
theorem dX12_sentence_24 : decode cX12_sentence 24 = .ok (.putfield 466, 3) := by decide +kernel
theorem dX12_sentence_27 : decode cX12_sentence 27 = .ok (.aload_n 0, 1) := by decide +kernel
theorem dX12_sentence_28 : decode cX12_sentence 28 = .ok (.iconst 0, 1) := by decide +kernel
theorem dX12_sentence_29 : decode cX12_sentence 29 = .ok (.putfield 453, 3) := by decide +kernel
theorem dX12_sentence_32 : decode cX12_sentence 32 = .ok (.aload_n 0, 1) := by decide +kernel
theorem dX12_sentence_33 : decode cX12_sentence 33 = .ok (.iconst 1, 1) := by decide +kernel
theorem dX12_sentence_34 : decode cX12_sentence 34 = .ok (.putfield 460, 3) := by decide +kernel
theorem dX12_sentence_37 : decode cX12_sentence 37 = .ok (.aload_n 0, 1) := by decide +kernel
theorem dX12_sentence_38 : decode cX12_sentence 38 = .ok (.iconst 0, 1) := by decide +kernel
theorem dX12_sentence_39 : decode cX12_sentence 39 = .ok (.putfield 469, 3) := by decide +kernel
theorem dX12_sentence_42 : decode cX12_sentence 42 = .ok (.aload_n 0, 1) := by decide +kernel
theorem dX12_sentence_43 : decode cX12_sentence 43 = .ok (.invokevirtual 203, 3) := by decide +kernel
theorem dX12_sentence_46 : decode cX12_sentence 46 = .ok (.iconst 1, 1) := by decide +kernel
theorem dX12_sentence_47 : decode cX12_sentence 47 = .ok (.istore_n 1, 1) := by decide +kernel
theorem dX12_sentence_48 : decode cX12_sentence 48 = .ok (.iload_n 1, 1) := by decide +kernel
theorem dX12_sentence_49 : decode cX12_sentence 49 = .ok (.ifCond .eq 83, 3) := by decide +kernel
theorem dX12_sentence_52 : decode cX12_sentence 52 = .ok (.aload_n 0, 1) := by decide +kernel
theorem dX12_sentence_53 : decode cX12_sentence 53 = .ok (.getfield 469, 3) := by decide +kernel
theorem dX12_sentence_56 : decode cX12_sentence 56 = .ok (.ifCond .eq 45, 3) := by decide +kernel
theorem dX12_sentence_59 : decode cX12_sentence 59 = .ok (.aload_n 0, 1) := by decide +kernel
theorem dX12_sentence_60 : decode cX12_sentence 60 = .ok (.getfield 174, 3) := by decide +kernel
theorem dX12_sentence_63 : decode cX12_sentence 63 = .ok (.ifCond .ne 38, 3) := by decide +kernel
theorem dX12_sentence_66 : decode cX12_sentence 66 = .ok (.aload_n 0, 1) := by decide +kernel
theorem dX12_sentence_67 : decode cX12_sentence 67 = .ok (.invokevirtual 472, 3) := by decide +kernel
theorem dX12_sentence_70 : decode cX12_sentence 70 = .ok (.aload_n 0, 1) := by decide +kernel
theorem dX12_sentence_71 : decode cX12_sentence 71 = .ok (.bipush 22, 2) := by decide +kernel
theorem dX12_sentence_73 : decode cX12_sentence 73 = .ok (.invokevirtual 475, 3) := by decide +kernel
theorem dX12_sentence_76 : decode cX12_sentence 76 = .ok (.aload_n 0, 1) := by decide +kernel
theorem dX12_sentence_77 : decode cX12_sentence 77 = .ok (.getfield 453, 3) := by decide +kernel
theorem dX12_sentence_80 : decode cX12_sentence 80 = .ok (.ifCond .le 16, 3) := by decide +kernel
theorem dX12_sentence_83 : decode cX12_sentence 83 = .ok (.aload_n 0, 1) := by decide +kernel
theorem dX12_sentence_84 : decode cX12_sentence 84 = .ok (.iconst 1, 1) := by decide +kernel
theorem dX12_sentence_85 : decode cX12_sentence 85 = .ok (.invokevirtual 200, 3) := by decide +kernel
theorem dX12_sentence_88 : decode cX12_sentence 88 = .ok (.pop, 1) := by decide +kernel
theorem dX12_sentence_89 : decode cX12_sentence 89 = .ok (.iconst (-1), 1) := by decide +kernel
theorem dX12_sentence_90 : decode cX12_sentence 90 = .ok (.aload_n 0, 1) := by decide +kernel
theorem dX12_sentence_91 : decode cX12_sentence 91 = .ok (.getfield 194, 3) := by decide +kernel
theorem dX12_sentence_94 : decode cX12_sentence 94 = .ok (.isub, 1) := by decide +kernel
theorem dX12_sentence_95 : decode cX12_sentence 95 = .ok (.ireturn, 1) := by decide +kernel
theorem dX12_sentence_96 : decode cX12_sentence 96 = .ok (.iconst 0, 1) := by decide +kernel
theorem dX12_sentence_97 : decode cX12_sentence 97 = .ok (.istore_n 1, 1) := by decide +kernel
theorem dX12_sentence_98 : decode cX12_sentence 98 = .ok (.goto (-50), 3) := by decide +kernel
theorem dX12_sentence_101 : decode cX12_sentence 101 = .ok (.aload_n 0, 1) := by decide +kernel
theorem dX12_sentence_102 : decode cX12_sentence 102 = .ok (.getfield 469, 3) := by decide +kernel
theorem dX12_sentence_105 : decode cX12_sentence 105 = .ok (.ifCond .eq 13, 3) := by decide +kernel
theorem dX12_sentence_108 : decode cX12_sentence 108 = .ok (.aload_n 0, 1) := by decide +kernel
theorem dX12_sentence_109 : decode cX12_sentence 109 = .ok (.invokevirtual 478, 3) := by decide +kernel
theorem dX12_sentence_112 : decode cX12_sentence 112 = .ok (.ifCond .ne (-64), 3) := by decide +kernel
theorem dX12_sentence_115 : decode cX12_sentence 115 = .ok (.goto 10, 3) := by decide +kernel
theorem dX12_sentence_118 : decode cX12_sentence 118 = .ok (.aload_n 0, 1) := by decide +kernel
theorem dX12_sentence_119 : decode cX12_sentence 119 = .ok (.invokevirtual 481, 3) := by decide +kernel
theorem dX12_sentence_122 : decode cX12_sentence 122 = .ok (.ifCond .ne (-74), 3) := by decide +kernel
theorem dX12_sentence_125 : decode cX12_sentence 125 = .ok (.iconst (-1), 1) := by decide +kernel
theorem dX12_sentence_126 : decode cX12_sentence 126 = .ok (.aload_n 0, 1) := by decide +kernel
theorem dX12_sentence_127 : decode cX12_sentence 127 = .ok (.getfield 194, 3) := by decide +kernel
theorem dX12_sentence_130 : decode cX12_sentence 130 = .ok (.isub, 1) := by decide +kernel
theorem dX12_sentence_131 : decode cX12_sentence 131 = .ok (.ireturn, 1) := by decide +kernel
theorem dX12_sentence_132 : decode cX12_sentence 132 = .ok (.aload_n 0, 1) := by decide +kernel
theorem dX12_sentence_133 : decode cX12_sentence 133 = .ok (.getfield 33, 3) := by decide +kernel
theorem dX12_sentence_136 : decode cX12_sentence 136 = .ok (.bipush 106, 2) := by decide +kernel
theorem dX12_sentence_138 : decode cX12_sentence 138 = .ok (.aload_n 0, 1) := by decide +kernel
theorem dX12_sentence_139 : decode cX12_sentence 139 = .ok (.getfield 450, 3) := by decide +kernel
theorem dX12_sentence_142 : decode cX12_sentence 142 = .ok (.iastore, 1) := by decide +kernel
theorem dX12_sentence_143 : decode cX12_sentence 143 = .ok (.iconst 0, 1) := by decide +kernel
theorem dX12_sentence_144 : decode cX12_sentence 144 = .ok (.istore_n 2, 1) := by decide +kernel
theorem dX12_sentence_145 : decode cX12_sentence 145 = .ok (.iload_n 2, 1) := by decide +kernel
theorem dX12_sentence_146 : decode cX12_sentence 146 = .ok (.iconst 3, 1) := by decide +kernel
theorem dX12_sentence_147 : decode cX12_sentence 147 = .ok (.aload_n 0, 1) := by decide +kernel
theorem dX12_sentence_148 : decode cX12_sentence 148 = .ok (.getfield 450, 3) := by decide +kernel
theorem dX12_sentence_151 : decode cX12_sentence 151 = .ok (.imul, 1) := by decide +kernel
theorem dX12_sentence_152 : decode cX12_sentence 152 = .ok (.if_icmp .ge 24, 3) := by decide +kernel
theorem dX12_sentence_155 : decode cX12_sentence 155 = .ok (.aload_n 0, 1) := by decide +kernel
theorem dX12_sentence_156 : decode cX12_sentence 156 = .ok (.getfield 33, 3) := by decide +kernel
theorem dX12_sentence_159 : decode cX12_sentence 159 = .ok (.bipush 107, 2) := by decide +kernel
theorem dX12_sentence_161 : decode cX12_sentence 161 = .ok (.iload_n 2, 1) := by decide +kernel
theorem dX12_sentence_162 : decode cX12_sentence 162 = .ok (.iadd, 1) := by decide +kernel
theorem dX12_sentence_163 : decode cX12_sentence 163 = .ok (.aload_n 0, 1) := by decide +kernel
theorem dX12_sentence_164 : decode cX12_sentence 164 = .ok (.getfield 40, 3) := by decide +kernel
theorem dX12_sentence_167 : decode cX12_sentence 167 = .ok (.iload_n 2, 1) := by decide +kernel
theorem dX12_sentence_168 : decode cX12_sentence 168 = .ok (.iaload, 1) := by decide +kernel
theorem dX12_sentence_169 : decode cX12_sentence 169 = .ok (.iastore, 1) := by decide +kernel
theorem dX12_sentence_170 : decode cX12_sentence 170 = .ok (.iinc 2 1, 3) := by decide +kernel
theorem dX12_sentence_173 : decode cX12_sentence 173 = .ok (.goto (-28), 3) := by decide +kernel
theorem dX12_sentence_176 : decode cX12_sentence 176 = .ok (.aload_n 0, 1) := by decide +kernel
theorem dX12_sentence_177 : decode cX12_sentence 177 = .ok (.getfield 466, 3) := by decide +kernel
theorem dX12_sentence_180 : decode cX12_sentence 180 = .ok (.ireturn, 1) := by decide +kernel
theorem dX12_isLeaf_0 : decode cX12_isLeaf 0 = .ok (.iload_n 2, 1) := by decide +kernel
theorem dX12_isLeaf_1 : decode cX12_isLeaf 1 = .ok (.tableswitch 165 0 7 #[47, 59, 71, 83, 95, 113, 135, 143], 47) := by decide +kernel
theorem dX12_isLeaf_48 : decode cX12_isLeaf 48 = .ok (.aload_n 0, 1) := by decide +kernel
theorem dX12_isLeaf_49 : decode cX12_isLeaf 49 = .ok (.getfield 33, 3) := by decide +kernel
theorem dX12_isLeaf_52 : decode cX12_isLeaf 52 = .ok (.bipush 63, 2) := by decide +kernel
theorem dX12_isLeaf_54 : decode cX12_isLeaf 54 = .ok (.iaload, 1) := by decide +kernel
theorem dX12_isLeaf_55 : decode cX12_isLeaf 55 = .ok (.iload_n 1, 1) := by decide +kernel
theorem dX12_isLeaf_56 : decode cX12_isLeaf 56 = .ok (.invokestatic 231, 3) := by decide +kernel
theorem dX12_isLeaf_59 : decode cX12_isLeaf 59 = .ok (.ireturn, 1) := by decide +kernel
theorem dX12_isLeaf_60 : decode cX12_isLeaf 60 = .ok (.aload_n 0, 1) := by decide +kernel
theorem dX12_isLeaf_61 : decode cX12_isLeaf 61 = .ok (.getfield 33, 3) := by decide +kernel
theorem dX12_isLeaf_64 : decode cX12_isLeaf 64 = .ok (.bipush 64, 2) := by decide +kernel
theorem dX12_isLeaf_66 : decode cX12_isLeaf 66 = .ok (.iaload, 1) := by decide +kernel
theorem dX12_isLeaf_67 : decode cX12_isLeaf 67 = .ok (.iload_n 1, 1) := by decide +kernel
theorem dX12_isLeaf_68 : decode cX12_isLeaf 68 = .ok (.invokestatic 231, 3) := by decide +kernel
theorem dX12_isLeaf_71 : decode cX12_isLeaf 71 = .ok (.ireturn, 1) := by decide +kernel
theorem dX12_isLeaf_72 : decode cX12_isLeaf 72 = .ok (.aload_n 0, 1) := by decide +kernel
theorem dX12_isLeaf_73 : decode cX12_isLeaf 73 = .ok (.getfield 33, 3) := by decide +kernel
theorem dX12_isLeaf_76 : decode cX12_isLeaf 76 = .ok (.bipush 29, 2) := by decide +kernel
theorem dX12_isLeaf_78 : decode cX12_isLeaf 78 = .ok (.iaload, 1) := by decide +kernel
theorem dX12_isLeaf_79 : decode cX12_isLeaf 79 = .ok (.iload_n 1, 1) := by decide +kernel
theorem dX12_isLeaf_80 : decode cX12_isLeaf 80 = .ok (.invokestatic 231, 3) := by decide +kernel
theorem dX12_isLeaf_83 : decode cX12_isLeaf 83 = .ok (.ireturn, 1) := by decide +kernel
theorem dX12_isLeaf_84 : decode cX12_isLeaf 84 = .ok (.aload_n 0, 1) := by decide +kernel
theorem dX12_isLeaf_85 : decode cX12_isLeaf 85 = .ok (.getfield 33, 3) := by decide +kernel
theorem dX12_isLeaf_88 : decode cX12_isLeaf 88 = .ok (.bipush 30, 2) := by decide +kernel
theorem dX12_isLeaf_90 : decode cX12_isLeaf 90 = .ok (.iaload, 1) := by decide +kernel
theorem dX12_isLeaf_91 : decode cX12_isLeaf 91 = .ok (.iload_n 1, 1) := by decide +kernel
theorem dX12_isLeaf_92 : decode cX12_isLeaf 92 = .ok (.invokestatic 231, 3) := by decide +kernel
theorem dX12_isLeaf_95 : decode cX12_isLeaf 95 = .ok (.ireturn, 1) := by decide +kernel
theorem dX12_isLeaf_96 : decode cX12_isLeaf 96 = .ok (.aload_n 0, 1) := by decide +kernel
theorem dX12_isLeaf_97 : decode cX12_isLeaf 97 = .ok (.getfield 33, 3) := by decide +kernel
theorem dX12_isLeaf_100 : decode cX12_isLeaf 100 = .ok (.bipush 90, 2) := by decide +kernel
theorem dX12_isLeaf_102 : decode cX12_isLeaf 102 = .ok (.iload_n 1, 1) := by decide +kernel
theorem dX12_isLeaf_103 : decode cX12_isLeaf 103 = .ok (.iadd, 1) := by decide +kernel
theorem dX12_isLeaf_104 : decode cX12_isLeaf 104 = .ok (.iaload, 1) := by decide +kernel
theorem dX12_isLeaf_105 : decode cX12_isLeaf 105 = .ok (.ifCond .ne 7, 3) := by decide +kernel
theorem dX12_isLeaf_108 : decode cX12_isLeaf 108 = .ok (.iconst 1, 1) := by decide +kernel
theorem dX12_isLeaf_109 : decode cX12_isLeaf 109 = .ok (.goto 4, 3) := by decide +kernel
theorem dX12_isLeaf_112 : decode cX12_isLeaf 112 = .ok (.iconst 0, 1) := by decide +kernel
theorem dX12_isLeaf_113 : decode cX12_isLeaf 113 = .ok (.ireturn, 1) := by decide +kernel
theorem dX12_isLeaf_114 : decode cX12_isLeaf 114 = .ok (.aload_n 0, 1) := by decide +kernel
theorem dX12_isLeaf_115 : decode cX12_isLeaf 115 = .ok (.getfield 33, 3) := by decide +kernel
theorem dX12_isLeaf_118 : decode cX12_isLeaf 118 = .ok (.bipush 31, 2) := by decide +kernel
theorem dX12_isLeaf_120 : decode cX12_isLeaf 120 = .ok (.iload_n 1, 1) := by decide +kernel
theorem dX12_isLeaf_121 : decode cX12_isLeaf 121 = .ok (.iadd, 1) := by decide +kernel
theorem dX12_isLeaf_122 : decode cX12_isLeaf 122 = .ok (.iaload, 1) := by decide +kernel
theorem dX12_isLeaf_123 : decode cX12_isLeaf 123 = .ok (.iload 4, 2) := by decide +kernel
theorem dX12_isLeaf_125 : decode cX12_isLeaf 125 = .ok (.iconst 1, 1) := by decide +kernel
theorem dX12_isLeaf_126 : decode cX12_isLeaf 126 = .ok (.iadd, 1) := by decide +kernel
theorem dX12_isLeaf_127 : decode cX12_isLeaf 127 = .ok (.if_icmp .ne 7, 3) := by decide +kernel
theorem dX12_isLeaf_130 : decode cX12_isLeaf 130 = .ok (.iconst 1, 1) := by decide +kernel
theorem dX12_isLeaf_131 : decode cX12_isLeaf 131 = .ok (.goto 4, 3) := by decide +kernel
theorem dX12_isLeaf_134 : decode cX12_isLeaf 134 = .ok (.iconst 0, 1) := by decide +kernel
theorem dX12_isLeaf_135 : decode cX12_isLeaf 135 = .ok (.ireturn, 1) := by decide +kernel
theorem dX12_isLeaf_136 : decode cX12_isLeaf 136 = .ok (.aload_n 0, 1) := by decide +kernel
theorem dX12_isLeaf_137 : decode cX12_isLeaf 137 = .ok (.iload_n 1, 1) := by decide +kernel
theorem dX12_isLeaf_138 : decode cX12_isLeaf 138 = .ok (.iload 4, 2) := by decide +kernel
theorem dX12_isLeaf_140 : decode cX12_isLeaf 140 = .ok (.invokevirtual 297, 3) := by decide +kernel
theorem dX12_isLeaf_143 : decode cX12_isLeaf 143 = .ok (.ireturn, 1) := by decide +kernel
theorem dX12_isLeaf_144 : decode cX12_isLeaf 144 = .ok (.aload_n 0, 1) := by decide +kernel
theorem dX12_isLeaf_145 : decode cX12_isLeaf 145 = .ok (.getfield 33, 3) := by decide +kernel
theorem dX12_isLeaf_148 : decode cX12_isLeaf 148 = .ok (.bipush 90, 2) := by decide +kernel
theorem dX12_isLeaf_150 : decode cX12_isLeaf 150 = .ok (.iload_n 1, 1) := by decide +kernel
theorem dX12_isLeaf_151 : decode cX12_isLeaf 151 = .ok (.iadd, 1) := by decide +kernel
theorem dX12_isLeaf_152 : decode cX12_isLeaf 152 = .ok (.iaload, 1) := by decide +kernel
theorem dX12_isLeaf_153 : decode cX12_isLeaf 153 = .ok (.iload 4, 2) := by decide +kernel
theorem dX12_isLeaf_155 : decode cX12_isLeaf 155 = .ok (.iconst 1, 1) := by decide +kernel
theorem dX12_isLeaf_156 : decode cX12_isLeaf 156 = .ok (.iadd, 1) := by decide +kernel
theorem dX12_isLeaf_157 : decode cX12_isLeaf 157 = .ok (.if_icmp .ne 7, 3) := by decide +kernel
theorem dX12_isLeaf_160 : decode cX12_isLeaf 160 = .ok (.iconst 1, 1) := by decide +kernel
theorem dX12_isLeaf_161 : decode cX12_isLeaf 161 = .ok (.goto 4, 3) := by decide +kernel
theorem dX12_isLeaf_164 : decode cX12_isLeaf 164 = .ok (.iconst 0, 1) := by decide +kernel
theorem dX12_isLeaf_165 : decode cX12_isLeaf 165 = .ok (.ireturn, 1) := by decide +kernel
theorem dX12_isLeaf_166 : decode cX12_isLeaf 166 = .ok (.iload_n 2, 1) := by decide +kernel
theorem dX12_isLeaf_167 : decode cX12_isLeaf 167 = .ok (.bipush 8, 2) := by decide +kernel
theorem dX12_isLeaf_169 : decode cX12_isLeaf 169 = .ok (.if_icmp .ne 11, 3) := by decide +kernel
theorem dX12_isLeaf_172 : decode cX12_isLeaf 172 = .ok (.aload_n 0, 1) := by decide +kernel
theorem dX12_isLeaf_173 : decode cX12_isLeaf 173 = .ok (.iload_n 1, 1) := by decide +kernel
theorem dX12_isLeaf_174 : decode cX12_isLeaf 174 = .ok (.invokevirtual 290, 3) := by decide +kernel
theorem dX12_isLeaf_177 : decode cX12_isLeaf 177 = .ok (.goto 40, 3) := by decide +kernel
theorem dX12_isLeaf_180 : decode cX12_isLeaf 180 = .ok (.iload_n 2, 1) := by decide +kernel
theorem dX12_isLeaf_181 : decode cX12_isLeaf 181 = .ok (.bipush 9, 2) := by decide +kernel
theorem dX12_isLeaf_183 : decode cX12_isLeaf 183 = .ok (.if_icmp .ne 15, 3) := by decide +kernel
theorem dX12_isLeaf_186 : decode cX12_isLeaf 186 = .ok (.aload_n 0, 1) := by decide +kernel
theorem dX12_isLeaf_187 : decode cX12_isLeaf 187 = .ok (.getfield 33, 3) := by decide +kernel
theorem dX12_isLeaf_190 : decode cX12_isLeaf 190 = .ok (.bipush 82, 2) := by decide +kernel
theorem dX12_isLeaf_192 : decode cX12_isLeaf 192 = .ok (.iload_n 1, 1) := by decide +kernel
theorem dX12_isLeaf_193 : decode cX12_isLeaf 193 = .ok (.iadd, 1) := by decide +kernel
theorem dX12_isLeaf_194 : decode cX12_isLeaf 194 = .ok (.iaload, 1) := by decide +kernel
theorem dX12_isLeaf_195 : decode cX12_isLeaf 195 = .ok (.goto 22, 3) := by decide +kernel
theorem dX12_isLeaf_198 : decode cX12_isLeaf 198 = .ok (.iload_n 2, 1) := by decide +kernel
theorem dX12_isLeaf_199 : decode cX12_isLeaf 199 = .ok (.bipush 10, 2) := by decide +kernel
theorem dX12_isLeaf_201 : decode cX12_isLeaf 201 = .ok (.if_icmp .ne 15, 3) := by decide +kernel
theorem dX12_isLeaf_204 : decode cX12_isLeaf 204 = .ok (.aload_n 0, 1) := by decide +kernel
theorem dX12_isLeaf_205 : decode cX12_isLeaf 205 = .ok (.getfield 33, 3) := by decide +kernel
theorem dX12_isLeaf_208 : decode cX12_isLeaf 208 = .ok (.bipush 98, 2) := by decide +kernel
theorem dX12_isLeaf_210 : decode cX12_isLeaf 210 = .ok (.iload_n 1, 1) := by decide +kernel
theorem dX12_isLeaf_211 : decode cX12_isLeaf 211 = .ok (.iadd, 1) := by decide +kernel
theorem dX12_isLeaf_212 : decode cX12_isLeaf 212 = .ok (.iaload, 1) := by decide +kernel
theorem dX12_isLeaf_213 : decode cX12_isLeaf 213 = .ok (.goto 4, 3) := by decide +kernel
theorem dX12_isLeaf_216 : decode cX12_isLeaf 216 = .ok (.iload_n 1, 1) := by decide +kernel
theorem dX12_isLeaf_217 : decode cX12_isLeaf 217 = .ok (.istore 5, 2) := by decide +kernel
theorem dX12_isLeaf_219 : decode cX12_isLeaf 219 = .ok (.iload_n 3, 1) := by decide +kernel
theorem dX12_isLeaf_220 : decode cX12_isLeaf 220 = .ok (.bipush 60, 2) := by decide +kernel
theorem dX12_isLeaf_222 : decode cX12_isLeaf 222 = .ok (.if_icmp .ne 18, 3) := by decide +kernel
theorem dX12_isLeaf_225 : decode cX12_isLeaf 225 = .ok (.iload 5, 2) := by decide +kernel
theorem dX12_isLeaf_227 : decode cX12_isLeaf 227 = .ok (.iload 4, 2) := by decide +kernel
theorem dX12_isLeaf_229 : decode cX12_isLeaf 229 = .ok (.if_icmp .ge 7, 3) := by decide +kernel
theorem dX12_isLeaf_232 : decode cX12_isLeaf 232 = .ok (.iconst 1, 1) := by decide +kernel
theorem dX12_isLeaf_233 : decode cX12_isLeaf 233 = .ok (.goto 40, 3) := by decide +kernel
theorem dX12_isLeaf_236 : decode cX12_isLeaf 236 = .ok (.iconst 0, 1) := by decide +kernel
theorem dX12_isLeaf_237 : decode cX12_isLeaf 237 = .ok (.goto 36, 3) := by decide +kernel
theorem dX12_isLeaf_240 : decode cX12_isLeaf 240 = .ok (.iload_n 3, 1) := by decide +kernel
theorem dX12_isLeaf_241 : decode cX12_isLeaf 241 = .ok (.bipush 61, 2) := by decide +kernel
theorem dX12_isLeaf_243 : decode cX12_isLeaf 243 = .ok (.if_icmp .ne 18, 3) := by decide +kernel
theorem dX12_isLeaf_246 : decode cX12_isLeaf 246 = .ok (.iload 5, 2) := by decide +kernel
theorem dX12_isLeaf_248 : decode cX12_isLeaf 248 = .ok (.iload 4, 2) := by decide +kernel
theorem dX12_isLeaf_250 : decode cX12_isLeaf 250 = .ok (.if_icmp .ne 7, 3) := by decide +kernel
theorem dX12_isLeaf_253 : decode cX12_isLeaf 253 = .ok (.iconst 1, 1) := by decide +kernel
theorem dX12_isLeaf_254 : decode cX12_isLeaf 254 = .ok (.goto 19, 3) := by decide +kernel
theorem dX12_isLeaf_257 : decode cX12_isLeaf 257 = .ok (.iconst 0, 1) := by decide +kernel
theorem dX12_isLeaf_258 : decode cX12_isLeaf 258 = .ok (.goto 15, 3) := by decide +kernel
theorem dX12_isLeaf_261 : decode cX12_isLeaf 261 = .ok (.iload 5, 2) := by decide +kernel
theorem dX12_isLeaf_263 : decode cX12_isLeaf 263 = .ok (.iload 4, 2) := by decide +kernel
theorem dX12_isLeaf_265 : decode cX12_isLeaf 265 = .ok (.if_icmp .le 7, 3) := by decide +kernel
theorem dX12_isLeaf_268 : decode cX12_isLeaf 268 = .ok (.iconst 1, 1) := by decide +kernel
theorem dX12_isLeaf_269 : decode cX12_isLeaf 269 = .ok (.goto 4, 3) := by decide +kernel
theorem dX12_isLeaf_272 : decode cX12_isLeaf 272 = .ok (.iconst 0, 1) := by decide +kernel
theorem dX12_isLeaf_273 : decode cX12_isLeaf 273 = .ok (.ireturn, 1) := by decide +kernel
theorem dX12_isSaid_0 : decode cX12_isSaid 0 = .ok (.iconst 0, 1) := by decide +kernel
theorem dX12_isSaid_1 : decode cX12_isSaid 1 = .ok (.istore_n 2, 1) := by decide +kernel
theorem dX12_isSaid_2 : decode cX12_isSaid 2 = .ok (.iconst 0, 1) := by decide +kernel
theorem dX12_isSaid_3 : decode cX12_isSaid 3 = .ok (.istore_n 3, 1) := by decide +kernel
theorem dX12_isSaid_4 : decode cX12_isSaid 4 = .ok (.iload_n 3, 1) := by decide +kernel
theorem dX12_isSaid_5 : decode cX12_isSaid 5 = .ok (.aload_n 0, 1) := by decide +kernel
theorem dX12_isSaid_6 : decode cX12_isSaid 6 = .ok (.getfield 33, 3) := by decide +kernel
theorem dX12_isSaid_9 : decode cX12_isSaid 9 = .ok (.bipush 106, 2) := by decide +kernel
theorem dX12_isSaid_11 : decode cX12_isSaid 11 = .ok (.iaload, 1) := by decide +kernel
theorem dX12_isSaid_12 : decode cX12_isSaid 12 = .ok (.if_icmp .ge 198, 3) := by decide +kernel
theorem dX12_isSaid_15 : decode cX12_isSaid 15 = .ok (.bipush 107, 2) := by decide +kernel
theorem dX12_isSaid_17 : decode cX12_isSaid 17 = .ok (.iconst 3, 1) := by decide +kernel
theorem dX12_isSaid_18 : decode cX12_isSaid 18 = .ok (.iload_n 3, 1) := by decide +kernel
theorem dX12_isSaid_19 : decode cX12_isSaid 19 = .ok (.imul, 1) := by decide +kernel
theorem dX12_isSaid_20 : decode cX12_isSaid 20 = .ok (.iadd, 1) := by decide +kernel
theorem dX12_isSaid_21 : decode cX12_isSaid 21 = .ok (.istore 4, 2) := by decide +kernel
theorem dX12_isSaid_23 : decode cX12_isSaid 23 = .ok (.aload_n 0, 1) := by decide +kernel
theorem dX12_isSaid_24 : decode cX12_isSaid 24 = .ok (.getfield 33, 3) := by decide +kernel
theorem dX12_isSaid_27 : decode cX12_isSaid 27 = .ok (.iload 4, 2) := by decide +kernel
theorem dX12_isSaid_29 : decode cX12_isSaid 29 = .ok (.iaload, 1) := by decide +kernel
theorem dX12_isSaid_30 : decode cX12_isSaid 30 = .ok (.bipush 20, 2) := by decide +kernel
theorem dX12_isSaid_32 : decode cX12_isSaid 32 = .ok (.if_icmp .ne 30, 3) := by decide +kernel
theorem dX12_isSaid_35 : decode cX12_isSaid 35 = .ok (.aload_n 0, 1) := by decide +kernel
theorem dX12_isSaid_36 : decode cX12_isSaid 36 = .ok (.getfield 80, 3) := by decide +kernel
theorem dX12_isSaid_39 : decode cX12_isSaid 39 = .ok (.iload_n 2, 1) := by decide +kernel
theorem dX12_isSaid_40 : decode cX12_isSaid 40 = .ok (.iconst 1, 1) := by decide +kernel
theorem dX12_isSaid_41 : decode cX12_isSaid 41 = .ok (.isub, 1) := by decide +kernel
theorem dX12_isSaid_42 : decode cX12_isSaid 42 = .ok (.aload_n 0, 1) := by decide +kernel
theorem dX12_isSaid_43 : decode cX12_isSaid 43 = .ok (.getfield 80, 3) := by decide +kernel
theorem dX12_isSaid_46 : decode cX12_isSaid 46 = .ok (.iload_n 2, 1) := by decide +kernel
theorem dX12_isSaid_47 : decode cX12_isSaid 47 = .ok (.iconst 1, 1) := by decide +kernel
theorem dX12_isSaid_48 : decode cX12_isSaid 48 = .ok (.isub, 1) := by decide +kernel
theorem dX12_isSaid_49 : decode cX12_isSaid 49 = .ok (.baload, 1) := by decide +kernel
theorem dX12_isSaid_50 : decode cX12_isSaid 50 = .ok (.ifCond .ne 7, 3) := by decide +kernel
theorem dX12_isSaid_53 : decode cX12_isSaid 53 = .ok (.iconst 1, 1) := by decide +kernel
theorem dX12_isSaid_54 : decode cX12_isSaid 54 = .ok (.goto 4, 3) := by decide +kernel
theorem dX12_isSaid_57 : decode cX12_isSaid 57 = .ok (.iconst 0, 1) := by decide +kernel
theorem dX12_isSaid_58 : decode cX12_isSaid 58 = .ok (.bastore, 1) := by decide +kernel
theorem dX12_isSaid_59 : decode cX12_isSaid 59 = .ok (.goto 145, 3) := by decide +kernel
theorem dX12_isSaid_62 : decode cX12_isSaid 62 = .ok (.aload_n 0, 1) := by decide +kernel
theorem dX12_isSaid_63 : decode cX12_isSaid 63 = .ok (.getfield 33, 3) := by decide +kernel
theorem dX12_isSaid_66 : decode cX12_isSaid 66 = .ok (.iload 4, 2) := by decide +kernel
theorem dX12_isSaid_68 : decode cX12_isSaid 68 = .ok (.iaload, 1) := by decide +kernel
theorem dX12_isSaid_69 : decode cX12_isSaid 69 = .ok (.bipush 21, 2) := by decide +kernel
theorem dX12_isSaid_71 : decode cX12_isSaid 71 = .ok (.if_icmp .eq 15, 3) := by decide +kernel
theorem dX12_isSaid_74 : decode cX12_isSaid 74 = .ok (.aload_n 0, 1) := by decide +kernel
theorem dX12_isSaid_75 : decode cX12_isSaid 75 = .ok (.getfield 33, 3) := by decide +kernel
theorem dX12_isSaid_78 : decode cX12_isSaid 78 = .ok (.iload 4, 2) := by decide +kernel
theorem dX12_isSaid_80 : decode cX12_isSaid 80 = .ok (.iaload, 1) := by decide +kernel
theorem dX12_isSaid_81 : decode cX12_isSaid 81 = .ok (.bipush 22, 2) := by decide +kernel
theorem dX12_isSaid_83 : decode cX12_isSaid 83 = .ok (.if_icmp .ne 82, 3) := by decide +kernel
theorem dX12_isSaid_86 : decode cX12_isSaid 86 = .ok (.iinc 2 (-1), 3) := by decide +kernel
theorem dX12_isSaid_89 : decode cX12_isSaid 89 = .ok (.aload_n 0, 1) := by decide +kernel
theorem dX12_isSaid_90 : decode cX12_isSaid 90 = .ok (.getfield 80, 3) := by decide +kernel
theorem dX12_isSaid_93 : decode cX12_isSaid 93 = .ok (.iload_n 2, 1) := by decide +kernel
theorem dX12_isSaid_94 : decode cX12_isSaid 94 = .ok (.iconst 1, 1) := by decide +kernel
theorem dX12_isSaid_95 : decode cX12_isSaid 95 = .ok (.isub, 1) := by decide +kernel
theorem dX12_isSaid_96 : decode cX12_isSaid 96 = .ok (.aload_n 0, 1) := by decide +kernel
theorem dX12_isSaid_97 : decode cX12_isSaid 97 = .ok (.getfield 33, 3) := by decide +kernel
theorem dX12_isSaid_100 : decode cX12_isSaid 100 = .ok (.iload 4, 2) := by decide +kernel
theorem dX12_isSaid_102 : decode cX12_isSaid 102 = .ok (.iaload, 1) := by decide +kernel
theorem dX12_isSaid_103 : decode cX12_isSaid 103 = .ok (.bipush 21, 2) := by decide +kernel
theorem dX12_isSaid_105 : decode cX12_isSaid 105 = .ok (.if_icmp .ne 31, 3) := by decide +kernel
theorem dX12_isSaid_108 : decode cX12_isSaid 108 = .ok (.aload_n 0, 1) := by decide +kernel
theorem dX12_isSaid_109 : decode cX12_isSaid 109 = .ok (.getfield 80, 3) := by decide +kernel
theorem dX12_isSaid_112 : decode cX12_isSaid 112 = .ok (.iload_n 2, 1) := by decide +kernel
theorem dX12_isSaid_113 : decode cX12_isSaid 113 = .ok (.iconst 1, 1) := by decide +kernel
theorem dX12_isSaid_114 : decode cX12_isSaid 114 = .ok (.isub, 1) := by decide +kernel
theorem dX12_isSaid_115 : decode cX12_isSaid 115 = .ok (.baload, 1) := by decide +kernel
theorem dX12_isSaid_116 : decode cX12_isSaid 116 = .ok (.ifCond .eq 16, 3) := by decide +kernel
theorem dX12_isSaid_119 : decode cX12_isSaid 119 = .ok (.aload_n 0, 1) := by decide +kernel
theorem dX12_isSaid_120 : decode cX12_isSaid 120 = .ok (.getfield 80, 3) := by decide +kernel
theorem dX12_isSaid_123 : decode cX12_isSaid 123 = .ok (.iload_n 2, 1) := by decide +kernel
theorem dX12_isSaid_124 : decode cX12_isSaid 124 = .ok (.baload, 1) := by decide +kernel
theorem dX12_isSaid_125 : decode cX12_isSaid 125 = .ok (.ifCond .eq 7, 3) := by decide +kernel
theorem dX12_isSaid_128 : decode cX12_isSaid 128 = .ok (.iconst 1, 1) := by decide +kernel
theorem dX12_isSaid_129 : decode cX12_isSaid 129 = .ok (.goto 32, 3) := by decide +kernel
theorem dX12_isSaid_132 : decode cX12_isSaid 132 = .ok (.iconst 0, 1) := by decide +kernel
theorem dX12_isSaid_133 : decode cX12_isSaid 133 = .ok (.goto 28, 3) := by decide +kernel
theorem dX12_isSaid_136 : decode cX12_isSaid 136 = .ok (.aload_n 0, 1) := by decide +kernel
theorem dX12_isSaid_137 : decode cX12_isSaid 137 = .ok (.getfield 80, 3) := by decide +kernel
theorem dX12_isSaid_140 : decode cX12_isSaid 140 = .ok (.iload_n 2, 1) := by decide +kernel
theorem dX12_isSaid_141 : decode cX12_isSaid 141 = .ok (.iconst 1, 1) := by decide +kernel
theorem dX12_isSaid_142 : decode cX12_isSaid 142 = .ok (.isub, 1) := by decide +kernel
theorem dX12_isSaid_143 : decode cX12_isSaid 143 = .ok (.baload, 1) := by decide +kernel
theorem dX12_isSaid_144 : decode cX12_isSaid 144 = .ok (.ifCond .ne 12, 3) := by decide +kernel
theorem dX12_isSaid_147 : decode cX12_isSaid 147 = .ok (.aload_n 0, 1) := by decide +kernel
theorem dX12_isSaid_148 : decode cX12_isSaid 148 = .ok (.getfield 80, 3) := by decide +kernel
theorem dX12_isSaid_151 : decode cX12_isSaid 151 = .ok (.iload_n 2, 1) := by decide +kernel
theorem dX12_isSaid_152 : decode cX12_isSaid 152 = .ok (.baload, 1) := by decide +kernel
theorem dX12_isSaid_153 : decode cX12_isSaid 153 = .ok (.ifCond .eq 7, 3) := by decide +kernel
theorem dX12_isSaid_156 : decode cX12_isSaid 156 = .ok (.iconst 1, 1) := by decide +kernel
theorem dX12_isSaid_157 : decode cX12_isSaid 157 = .ok (.goto 4, 3) := by decide +kernel
theorem dX12_isSaid_160 : decode cX12_isSaid 160 = .ok (.iconst 0, 1) := by decide +kernel
theorem dX12_isSaid_161 : decode cX12_isSaid 161 = .ok (.bastore, 1) := by decide +kernel
theorem dX12_isSaid_162 : decode cX12_isSaid 162 = .ok (.goto 42, 3) := by decide +kernel
theorem dX12_isSaid_165 : decode cX12_isSaid 165 = .ok (.aload_n 0, 1) := by decide +kernel
theorem dX12_isSaid_166 : decode cX12_isSaid 166 = .ok (.getfield 80, 3) := by decide +kernel
theorem dX12_isSaid_169 : decode cX12_isSaid 169 = .ok (.iload_n 2, 1) := by decide +kernel
theorem dX12_isSaid_170 : decode cX12_isSaid 170 = .ok (.aload_n 0, 1) := by decide +kernel
theorem dX12_isSaid_171 : decode cX12_isSaid 171 = .ok (.iload_n 1, 1) := by decide +kernel
theorem dX12_isSaid_172 : decode cX12_isSaid 172 = .ok (.aload_n 0, 1) := by decide +kernel
theorem dX12_isSaid_173 : decode cX12_isSaid 173 = .ok (.getfield 33, 3) := by decide +kernel
theorem dX12_isSaid_176 : decode cX12_isSaid 176 = .ok (.iload 4, 2) := by decide +kernel
theorem dX12_isSaid_178 : decode cX12_isSaid 178 = .ok (.iaload, 1) := by decide +kernel
theorem dX12_isSaid_179 : decode cX12_isSaid 179 = .ok (.aload_n 0, 1) := by decide +kernel
theorem dX12_isSaid_180 : decode cX12_isSaid 180 = .ok (.getfield 33, 3) := by decide +kernel
theorem dX12_isSaid_183 : decode cX12_isSaid 183 = .ok (.iload 4, 2) := by decide +kernel
theorem dX12_isSaid_185 : decode cX12_isSaid 185 = .ok (.iconst 1, 1) := by decide +kernel
theorem dX12_isSaid_186 : decode cX12_isSaid 186 = .ok (.iadd, 1) := by decide +kernel
theorem dX12_isSaid_187 : decode cX12_isSaid 187 = .ok (.iaload, 1) := by decide +kernel
theorem dX12_isSaid_188 : decode cX12_isSaid 188 = .ok (.aload_n 0, 1) := by decide +kernel
theorem dX12_isSaid_189 : decode cX12_isSaid 189 = .ok (.getfield 33, 3) := by decide +kernel
theorem dX12_isSaid_192 : decode cX12_isSaid 192 = .ok (.iload 4, 2) := by decide +kernel
theorem dX12_isSaid_194 : decode cX12_isSaid 194 = .ok (.iconst 2, 1) := by decide +kernel
theorem dX12_isSaid_195 : decode cX12_isSaid 195 = .ok (.iadd, 1) := by decide +kernel
theorem dX12_isSaid_196 : decode cX12_isSaid 196 = .ok (.iaload, 1) := by decide +kernel
theorem dX12_isSaid_197 : decode cX12_isSaid 197 = .ok (.invokevirtual 484, 3) := by decide +kernel
theorem dX12_isSaid_200 : decode cX12_isSaid 200 = .ok (.bastore, 1) := by decide +kernel
theorem dX12_isSaid_201 : decode cX12_isSaid 201 = .ok (.iinc 2 1, 3) := by decide +kernel
theorem dX12_isSaid_204 : decode cX12_isSaid 204 = .ok (.iinc 3 1, 3) := by decide +kernel
theorem dX12_isSaid_207 : decode cX12_isSaid 207 = .ok (.goto (-203), 3) := by decide +kernel
theorem dX12_isSaid_210 : decode cX12_isSaid 210 = .ok (.aload_n 0, 1) := by decide +kernel
theorem dX12_isSaid_211 : decode cX12_isSaid 211 = .ok (.getfield 80, 3) := by decide +kernel
theorem dX12_isSaid_214 : decode cX12_isSaid 214 = .ok (.iconst 0, 1) := by decide +kernel
theorem dX12_isSaid_215 : decode cX12_isSaid 215 = .ok (.baload, 1) := by decide +kernel
theorem dX12_isSaid_216 : decode cX12_isSaid 216 = .ok (.ireturn, 1) := by decide +kernel
theorem dX12_said_0 : decode cX12_said 0 = .ok (.aload_n 0, 1) := by decide +kernel
theorem dX12_said_1 : decode cX12_said 1 = .ok (.iconst 0, 1) := by decide +kernel
theorem dX12_said_2 : decode cX12_said 2 = .ok (.putfield 1, 3) := by decide +kernel
theorem dX12_said_5 : decode cX12_said 5 = .ok (.aload_n 0, 1) := by decide +kernel
theorem dX12_said_6 : decode cX12_said 6 = .ok (.getfield 33, 3) := by decide +kernel
theorem dX12_said_9 : decode cX12_said 9 = .ok (.bipush 106, 2) := by decide +kernel
theorem dX12_said_11 : decode cX12_said 11 = .ok (.iaload, 1) := by decide +kernel
theorem dX12_said_12 : decode cX12_said 12 = .ok (.ifCond .eq 8, 3) := by decide +kernel
theorem dX12_said_15 : decode cX12_said 15 = .ok (.iload_n 1, 1) := by decide +kernel
theorem dX12_said_16 : decode cX12_said 16 = .ok (.iconst (-1), 1) := by decide +kernel
theorem dX12_said_17 : decode cX12_said 17 = .ok (.if_icmp .ge 5, 3) := by decide +kernel
theorem dX12_said_20 : decode cX12_said 20 = .ok (.iconst (-1), 1) := by decide +kernel
theorem dX12_said_21 : decode cX12_said 21 = .ok (.ireturn, 1) := by decide +kernel
theorem dX12_said_22 : decode cX12_said 22 = .ok (.iconst 0, 1) := by decide +kernel
theorem dX12_said_23 : decode cX12_said 23 = .ok (.istore_n 2, 1) := by decide +kernel
theorem dX12_said_24 : decode cX12_said 24 = .ok (.iconst 0, 1) := by decide +kernel
theorem dX12_said_25 : decode cX12_said 25 = .ok (.istore_n 3, 1) := by decide +kernel
theorem dX12_said_26 : decode cX12_said 26 = .ok (.iload_n 3, 1) := by decide +kernel
theorem dX12_said_27 : decode cX12_said 27 = .ok (.aload_n 0, 1) := by decide +kernel
theorem dX12_said_28 : decode cX12_said 28 = .ok (.getfield 33, 3) := by decide +kernel
theorem dX12_said_31 : decode cX12_said 31 = .ok (.iconst 0, 1) := by decide +kernel
theorem dX12_said_32 : decode cX12_said 32 = .ok (.iaload, 1) := by decide +kernel
theorem dX12_said_33 : decode cX12_said 33 = .ok (.if_icmp .ge 30, 3) := by decide +kernel
theorem dX12_said_36 : decode cX12_said 36 = .ok (.aload_n 0, 1) := by decide +kernel
theorem dX12_said_37 : decode cX12_said 37 = .ok (.iload_n 3, 1) := by decide +kernel
theorem dX12_said_38 : decode cX12_said 38 = .ok (.invokevirtual 487, 3) := by decide +kernel
theorem dX12_said_41 : decode cX12_said 41 = .ok (.ifCond .ne 6, 3) := by decide +kernel
theorem dX12_said_44 : decode cX12_said 44 = .ok (.goto 13, 3) := by decide +kernel
theorem dX12_said_47 : decode cX12_said 47 = .ok (.iload_n 2, 1) := by decide +kernel
theorem dX12_said_48 : decode cX12_said 48 = .ok (.iload_n 1, 1) := by decide +kernel
theorem dX12_said_49 : decode cX12_said 49 = .ok (.if_icmp .ne 5, 3) := by decide +kernel
theorem dX12_said_52 : decode cX12_said 52 = .ok (.iload_n 3, 1) := by decide +kernel
theorem dX12_said_53 : decode cX12_said 53 = .ok (.ireturn, 1) := by decide +kernel
theorem dX12_said_54 : decode cX12_said 54 = .ok (.iinc 2 1, 3) := by decide +kernel
theorem dX12_said_57 : decode cX12_said 57 = .ok (.iinc 3 1, 3) := by decide +kernel
theorem dX12_said_60 : decode cX12_said 60 = .ok (.goto (-34), 3) := by decide +kernel
theorem dX12_said_63 : decode cX12_said 63 = .ok (.iload_n 1, 1) := by decide +kernel
theorem dX12_said_64 : decode cX12_said 64 = .ok (.iconst (-1), 1) := by decide +kernel
theorem dX12_said_65 : decode cX12_said 65 = .ok (.if_icmp .ne 7, 3) := by decide +kernel
theorem dX12_said_68 : decode cX12_said 68 = .ok (.iload_n 2, 1) := by decide +kernel
theorem dX12_said_69 : decode cX12_said 69 = .ok (.goto 4, 3) := by decide +kernel
theorem dX12_said_72 : decode cX12_said 72 = .ok (.iconst (-1), 1) := by decide +kernel
theorem dX12_said_73 : decode cX12_said 73 = .ok (.ireturn, 1) := by decide +kernel
theorem dX12_image_0 : decode cX12_image 0 = .ok (.aload_n 0, 1) := by decide +kernel
theorem dX12_image_1 : decode cX12_image 1 = .ok (.iconst 0, 1) := by decide +kernel
theorem dX12_image_2 : decode cX12_image 2 = .ok (.putfield 1, 3) := by decide +kernel
theorem dX12_image_5 : decode cX12_image 5 = .ok (.iload_n 1, 1) := by decide +kernel
theorem dX12_image_6 : decode cX12_image 6 = .ok (.iconst 0, 1) := by decide +kernel
theorem dX12_image_7 : decode cX12_image 7 = .ok (.iconst 1, 1) := by decide +kernel
theorem dX12_image_8 : decode cX12_image 8 = .ok (.invokestatic 206, 3) := by decide +kernel
theorem dX12_image_11 : decode cX12_image 11 = .ok (.ifCond .ne 5, 3) := by decide +kernel
theorem dX12_image_14 : decode cX12_image 14 = .ok (.iconst 0, 1) := by decide +kernel
theorem dX12_image_15 : decode cX12_image 15 = .ok (.ireturn, 1) := by decide +kernel
theorem dX12_image_16 : decode cX12_image 16 = .ok (.iconst 0, 1) := by decide +kernel
theorem dX12_image_17 : decode cX12_image 17 = .ok (.istore_n 2, 1) := by decide +kernel
theorem dX12_image_18 : decode cX12_image 18 = .ok (.iload_n 2, 1) := by decide +kernel
theorem dX12_image_19 : decode cX12_image 19 = .ok (.sipush 287, 3) := by decide +kernel
theorem dX12_image_22 : decode cX12_image 22 = .ok (.if_icmp .ge 27, 3) := by decide +kernel
theorem dX12_image_25 : decode cX12_image 25 = .ok (.aload_n 0, 1) := by decide +kernel
theorem dX12_image_26 : decode cX12_image 26 = .ok (.getfield 84, 3) := by decide +kernel
theorem dX12_image_29 : decode cX12_image 29 = .ok (.sipush 287, 3) := by decide +kernel
theorem dX12_image_32 : decode cX12_image 32 = .ok (.iload_n 1, 1) := by decide +kernel
theorem dX12_image_33 : decode cX12_image 33 = .ok (.imul, 1) := by decide +kernel
theorem dX12_image_34 : decode cX12_image 34 = .ok (.iload_n 2, 1) := by decide +kernel
theorem dX12_image_35 : decode cX12_image 35 = .ok (.iadd, 1) := by decide +kernel
theorem dX12_image_36 : decode cX12_image 36 = .ok (.aload_n 0, 1) := by decide +kernel
theorem dX12_image_37 : decode cX12_image 37 = .ok (.getfield 33, 3) := by decide +kernel
theorem dX12_image_40 : decode cX12_image 40 = .ok (.iload_n 2, 1) := by decide +kernel
theorem dX12_image_41 : decode cX12_image 41 = .ok (.iaload, 1) := by decide +kernel
theorem dX12_image_42 : decode cX12_image 42 = .ok (.iastore, 1) := by decide +kernel
theorem dX12_image_43 : decode cX12_image 43 = .ok (.iinc 2 1, 3) := by decide +kernel
theorem dX12_image_46 : decode cX12_image 46 = .ok (.goto (-28), 3) := by decide +kernel
theorem dX12_image_49 : decode cX12_image 49 = .ok (.iconst 0, 1) := by decide +kernel
theorem dX12_image_50 : decode cX12_image 50 = .ok (.istore_n 2, 1) := by decide +kernel
theorem dX12_image_51 : decode cX12_image 51 = .ok (.iload_n 2, 1) := by decide +kernel
theorem dX12_image_52 : decode cX12_image 52 = .ok (.bipush 15, 2) := by decide +kernel
theorem dX12_image_54 : decode cX12_image 54 = .ok (.if_icmp .ge 26, 3) := by decide +kernel
theorem dX12_image_57 : decode cX12_image 57 = .ok (.aload_n 0, 1) := by decide +kernel
theorem dX12_image_58 : decode cX12_image 58 = .ok (.getfield 87, 3) := by decide +kernel
theorem dX12_image_61 : decode cX12_image 61 = .ok (.bipush 15, 2) := by decide +kernel
theorem dX12_image_63 : decode cX12_image 63 = .ok (.iload_n 1, 1) := by decide +kernel
theorem dX12_image_64 : decode cX12_image 64 = .ok (.imul, 1) := by decide +kernel
theorem dX12_image_65 : decode cX12_image 65 = .ok (.iload_n 2, 1) := by decide +kernel
theorem dX12_image_66 : decode cX12_image 66 = .ok (.iadd, 1) := by decide +kernel
theorem dX12_image_67 : decode cX12_image 67 = .ok (.aload_n 0, 1) := by decide +kernel
theorem dX12_image_68 : decode cX12_image 68 = .ok (.getfield 43, 3) := by decide +kernel
theorem dX12_image_71 : decode cX12_image 71 = .ok (.iload_n 2, 1) := by decide +kernel
theorem dX12_image_72 : decode cX12_image 72 = .ok (.laload, 1) := by decide +kernel
theorem dX12_image_73 : decode cX12_image 73 = .ok (.lastore, 1) := by decide +kernel
theorem dX12_image_74 : decode cX12_image 74 = .ok (.iinc 2 1, 3) := by decide +kernel
theorem dX12_image_77 : decode cX12_image 77 = .ok (.goto (-26), 3) := by decide +kernel
theorem dX12_image_80 : decode cX12_image 80 = .ok (.aload_n 0, 1) := by decide +kernel
theorem dX12_image_81 : decode cX12_image 81 = .ok (.getfield 90, 3) := by decide +kernel
theorem dX12_image_84 : decode cX12_image 84 = .ok (.iload_n 1, 1) := by decide +kernel
theorem dX12_image_85 : decode cX12_image 85 = .ok (.iconst 1, 1) := by decide +kernel
theorem dX12_image_86 : decode cX12_image 86 = .ok (.bastore, 1) := by decide +kernel
theorem dX12_image_87 : decode cX12_image 87 = .ok (.iconst 1, 1) := by decide +kernel
theorem dX12_image_88 : decode cX12_image 88 = .ok (.ireturn, 1) := by decide +kernel
theorem dX12_restore_0 : decode cX12_restore 0 = .ok (.aload_n 0, 1) := by decide +kernel
theorem dX12_restore_1 : decode cX12_restore 1 = .ok (.iconst 0, 1) := by decide +kernel
theorem dX12_restore_2 : decode cX12_restore 2 = .ok (.putfield 1, 3) := by decide +kernel
theorem dX12_restore_5 : decode cX12_restore 5 = .ok (.iload_n 1, 1) := by decide +kernel
theorem dX12_restore_6 : decode cX12_restore 6 = .ok (.iconst 0, 1) := by decide +kernel
theorem dX12_restore_7 : decode cX12_restore 7 = .ok (.iconst 1, 1) := by decide +kernel
theorem dX12_restore_8 : decode cX12_restore 8 = .ok (.invokestatic 206, 3) := by decide +kernel
theorem dX12_restore_11 : decode cX12_restore 11 = .ok (.ifCond .eq 12, 3) := by decide +kernel
theorem dX12_restore_14 : decode cX12_restore 14 = .ok (.aload_n 0, 1) := by decide +kernel
theorem dX12_restore_15 : decode cX12_restore 15 = .ok (.getfield 90, 3) := by decide +kernel
theorem dX12_restore_18 : decode cX12_restore 18 = .ok (.iload_n 1, 1) := by decide +kernel
theorem dX12_restore_19 : decode cX12_restore 19 = .ok (.baload, 1) := by decide +kernel
theorem dX12_restore_20 : decode cX12_restore 20 = .ok (.ifCond .ne 5, 3) := by decide +kernel
theorem dX12_restore_23 : decode cX12_restore 23 = .ok (.iconst 0, 1) := by decide +kernel
theorem dX12_restore_24 : decode cX12_restore 24 = .ok (.ireturn, 1) := by decide +kernel
theorem dX12_restore_25 : decode cX12_restore 25 = .ok (.iconst 0, 1) := by decide +kernel
theorem dX12_restore_26 : decode cX12_restore 26 = .ok (.istore_n 2, 1) := by decide +kernel
theorem dX12_restore_27 : decode cX12_restore 27 = .ok (.iload_n 2, 1) := by decide +kernel
theorem dX12_restore_28 : decode cX12_restore 28 = .ok (.sipush 287, 3) := by decide +kernel
theorem dX12_restore_31 : decode cX12_restore 31 = .ok (.if_icmp .ge 27, 3) := by decide +kernel
theorem dX12_restore_34 : decode cX12_restore 34 = .ok (.aload_n 0, 1) := by decide +kernel
theorem dX12_restore_35 : decode cX12_restore 35 = .ok (.getfield 33, 3) := by decide +kernel
theorem dX12_restore_38 : decode cX12_restore 38 = .ok (.iload_n 2, 1) := by decide +kernel
theorem dX12_restore_39 : decode cX12_restore 39 = .ok (.aload_n 0, 1) := by decide +kernel
theorem dX12_restore_40 : decode cX12_restore 40 = .ok (.getfield 84, 3) := by decide +kernel
theorem dX12_restore_43 : decode cX12_restore 43 = .ok (.sipush 287, 3) := by decide +kernel
theorem dX12_restore_46 : decode cX12_restore 46 = .ok (.iload_n 1, 1) := by decide +kernel
theorem dX12_restore_47 : decode cX12_restore 47 = .ok (.imul, 1) := by decide +kernel
theorem dX12_restore_48 : decode cX12_restore 48 = .ok (.iload_n 2, 1) := by decide +kernel
theorem dX12_restore_49 : decode cX12_restore 49 = .ok (.iadd, 1) := by decide +kernel
theorem dX12_restore_50 : decode cX12_restore 50 = .ok (.iaload, 1) := by decide +kernel
theorem dX12_restore_51 : decode cX12_restore 51 = .ok (.iastore, 1) := by decide +kernel
theorem dX12_restore_52 : decode cX12_restore 52 = .ok (.iinc 2 1, 3) := by decide +kernel
theorem dX12_restore_55 : decode cX12_restore 55 = .ok (.goto (-28), 3) := by decide +kernel
theorem dX12_restore_58 : decode cX12_restore 58 = .ok (.iconst 0, 1) := by decide +kernel
theorem dX12_restore_59 : decode cX12_restore 59 = .ok (.istore_n 2, 1) := by decide +kernel
theorem dX12_restore_60 : decode cX12_restore 60 = .ok (.iload_n 2, 1) := by decide +kernel
theorem dX12_restore_61 : decode cX12_restore 61 = .ok (.bipush 15, 2) := by decide +kernel
theorem dX12_restore_63 : decode cX12_restore 63 = .ok (.if_icmp .ge 26, 3) := by decide +kernel
theorem dX12_restore_66 : decode cX12_restore 66 = .ok (.aload_n 0, 1) := by decide +kernel
theorem dX12_restore_67 : decode cX12_restore 67 = .ok (.getfield 43, 3) := by decide +kernel
theorem dX12_restore_70 : decode cX12_restore 70 = .ok (.iload_n 2, 1) := by decide +kernel
theorem dX12_restore_71 : decode cX12_restore 71 = .ok (.aload_n 0, 1) := by decide +kernel
theorem dX12_restore_72 : decode cX12_restore 72 = .ok (.getfield 87, 3) := by decide +kernel
theorem dX12_restore_75 : decode cX12_restore 75 = .ok (.bipush 15, 2) := by decide +kernel
theorem dX12_restore_77 : decode cX12_restore 77 = .ok (.iload_n 1, 1) := by decide +kernel
theorem dX12_restore_78 : decode cX12_restore 78 = .ok (.imul, 1) := by decide +kernel
theorem dX12_restore_79 : decode cX12_restore 79 = .ok (.iload_n 2, 1) := by decide +kernel
theorem dX12_restore_80 : decode cX12_restore 80 = .ok (.iadd, 1) := by decide +kernel
theorem dX12_restore_81 : decode cX12_restore 81 = .ok (.laload, 1) := by decide +kernel
theorem dX12_restore_82 : decode cX12_restore 82 = .ok (.lastore, 1) := by decide +kernel
theorem dX12_restore_83 : decode cX12_restore 83 = .ok (.iinc 2 1, 3) := by decide +kernel
theorem dX12_restore_86 : decode cX12_restore 86 = .ok (.goto (-26), 3) := by decide +kernel
theorem dX12_restore_89 : decode cX12_restore 89 = .ok (.aload_n 0, 1) := by decide +kernel
theorem dX12_restore_90 : decode cX12_restore 90 = .ok (.iconst 0, 1) := by decide +kernel
theorem dX12_restore_91 : decode cX12_restore 91 = .ok (.putfield 276, 3) := by decide +kernel
theorem dX12_restore_94 : decode cX12_restore 94 = .ok (.iconst 1, 1) := by decide +kernel
theorem dX12_restore_95 : decode cX12_restore 95 = .ok (.ireturn, 1) := by decide +kernel
theorem dX12_count_0 : decode cX12_count 0 = .ok (.aload_n 0, 1) := by decide +kernel
theorem dX12_count_1 : decode cX12_count 1 = .ok (.iconst 0, 1) := by decide +kernel
theorem dX12_count_2 : decode cX12_count 2 = .ok (.putfield 1, 3) := by decide +kernel
theorem dX12_count_5 : decode cX12_count 5 = .ok (.iload_n 1, 1) := by decide +kernel
theorem dX12_count_6 : decode cX12_count 6 = .ok (.iconst 5, 1) := by decide +kernel
theorem dX12_count_7 : decode cX12_count 7 = .ok (.if_icmp .ne 10, 3) := by decide +kernel
theorem dX12_count_10 : decode cX12_count 10 = .ok (.aload_n 0, 1) := by decide +kernel
theorem dX12_count_11 : decode cX12_count 11 = .ok (.getfield 7, 3) := by decide +kernel
theorem dX12_count_14 : decode cX12_count 14 = .ok (.goto 22, 3) := by decide +kernel
theorem dX12_count_17 : decode cX12_count 17 = .ok (.iload_n 1, 1) := by decide +kernel
theorem dX12_count_18 : decode cX12_count 18 = .ok (.iconst 0, 1) := by decide +kernel
theorem dX12_count_19 : decode cX12_count 19 = .ok (.iconst 4, 1) := by decide +kernel
theorem dX12_count_20 : decode cX12_count 20 = .ok (.invokestatic 206, 3) := by decide +kernel
theorem dX12_count_23 : decode cX12_count 23 = .ok (.ifCond .eq 12, 3) := by decide +kernel
theorem dX12_count_26 : decode cX12_count 26 = .ok (.aload_n 0, 1) := by decide +kernel
theorem dX12_count_27 : decode cX12_count 27 = .ok (.getfield 33, 3) := by decide +kernel
theorem dX12_count_30 : decode cX12_count 30 = .ok (.iload_n 1, 1) := by decide +kernel
theorem dX12_count_31 : decode cX12_count 31 = .ok (.iaload, 1) := by decide +kernel
theorem dX12_count_32 : decode cX12_count 32 = .ok (.goto 4, 3) := by decide +kernel
theorem dX12_count_35 : decode cX12_count 35 = .ok (.iconst (-1), 1) := by decide +kernel
theorem dX12_count_36 : decode cX12_count 36 = .ok (.ireturn, 1) := by decide +kernel
