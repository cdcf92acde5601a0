theorem dX12_isName_31 : decode cX12_isName 31 = .ok (.getfield 47, 3) := by decide +kernel
theorem dX12_isName_34 : decode cX12_isName 34 = .ok (.iload_n 2, 1) := by decide +kernel
theorem dX12_isName_35 : decode cX12_isName 35 = .ok (.laload, 1) := by decide +kernel
theorem dX12_isName_36 : decode cX12_isName 36 = .ok (.lcmp, 1) := by decide +kernel
theorem dX12_isName_37 : decode cX12_isName 37 = .ok (.ifCond .eq 7, 3) := by decide +kernel
theorem dX12_isName_40 : decode cX12_isName 40 = .ok (.iconst 1, 1) := by decide +kernel
theorem dX12_isName_41 : decode cX12_isName 41 = .ok (.goto 4, 3) := by decide +kernel
theorem dX12_isName_44 : decode cX12_isName 44 = .ok (.iconst 0, 1) := by decide +kernel
theorem dX12_isName_45 : decode cX12_isName 45 = .ok (.istore_n 1, 1) := by decide +kernel
theorem dX12_isName_46 : decode cX12_isName 46 = .ok (.iinc 2 1, 3) := by decide +kernel
theorem dX12_isName_49 : decode cX12_isName 49 = .ok (.goto (-33), 3) := by decide +kernel
theorem dX12_isName_52 : decode cX12_isName 52 = .ok (.iload_n 1, 1) := by decide +kernel
theorem dX12_isName_53 : decode cX12_isName 53 = .ok (.ireturn, 1) := by decide +kernel
theorem dX12_takes_0 : decode cX12_takes 0 = .ok (.aload_n 0, 1) := by decide +kernel
theorem dX12_takes_1 : decode cX12_takes 1 = .ok (.getfield 174, 3) := by decide +kernel
theorem dX12_takes_4 : decode cX12_takes 4 = .ok (.iconst 2, 1) := by decide +kernel
theorem dX12_takes_5 : decode cX12_takes 5 = .ok (.if_icmp .eq 9, 3) := by decide +kernel
theorem dX12_takes_8 : decode cX12_takes 8 = .ok (.aload_n 0, 1) := by decide +kernel
theorem dX12_takes_9 : decode cX12_takes 9 = .ok (.iconst 1, 1) := by decide +kernel
theorem dX12_takes_10 : decode cX12_takes 10 = .ok (.invokevirtual 200, 3) := by decide +kernel
theorem dX12_takes_13 : decode cX12_takes 13 = .ok (.ireturn, 1) := by decide +kernel
theorem dX12_takes_14 : decode cX12_takes 14 = .ok (.aload_n 0, 1) := by decide +kernel
theorem dX12_takes_15 : decode cX12_takes 15 = .ok (.getfield 184, 3) := by decide +kernel
theorem dX12_takes_18 : decode cX12_takes 18 = .ok (.iload_n 1, 1) := by decide +kernel
theorem dX12_takes_19 : decode cX12_takes 19 = .ok (.iload_n 2, 1) := by decide +kernel
theorem dX12_takes_20 : decode cX12_takes 20 = .ok (.invokestatic 206, 3) := by decide +kernel
theorem dX12_takes_23 : decode cX12_takes 23 = .ok (.ifCond .ne 9, 3) := by decide +kernel
theorem dX12_takes_26 : decode cX12_takes 26 = .ok (.aload_n 0, 1) := by decide +kernel
theorem dX12_takes_27 : decode cX12_takes 27 = .ok (.iconst 2, 1) := by decide +kernel
theorem dX12_takes_28 : decode cX12_takes 28 = .ok (.invokevirtual 200, 3) := by decide +kernel
theorem dX12_takes_31 : decode cX12_takes 31 = .ok (.ireturn, 1) := by decide +kernel
theorem dX12_takes_32 : decode cX12_takes 32 = .ok (.aload_n 0, 1) := by decide +kernel
theorem dX12_takes_33 : decode cX12_takes 33 = .ok (.aload_n 0, 1) := by decide +kernel
theorem dX12_takes_34 : decode cX12_takes 34 = .ok (.getfield 184, 3) := by decide +kernel
theorem dX12_takes_37 : decode cX12_takes 37 = .ok (.putfield 210, 3) := by decide +kernel
theorem dX12_takes_40 : decode cX12_takes 40 = .ok (.aload_n 0, 1) := by decide +kernel
theorem dX12_takes_41 : decode cX12_takes 41 = .ok (.invokevirtual 203, 3) := by decide +kernel
theorem dX12_takes_44 : decode cX12_takes 44 = .ok (.iconst 1, 1) := by decide +kernel
theorem dX12_takes_45 : decode cX12_takes 45 = .ok (.ireturn, 1) := by decide +kernel
theorem dX12_puts_0 : decode cX12_puts 0 = .ok (.aload_n 0, 1) := by decide +kernel
theorem dX12_puts_1 : decode cX12_puts 1 = .ok (.iload_n 2, 1) := by decide +kernel
theorem dX12_puts_2 : decode cX12_puts 2 = .ok (.iload_n 3, 1) := by decide +kernel
theorem dX12_puts_3 : decode cX12_puts 3 = .ok (.invokevirtual 213, 3) := by decide +kernel
theorem dX12_puts_6 : decode cX12_puts 6 = .ok (.ifCond .ne 5, 3) := by decide +kernel
theorem dX12_puts_9 : decode cX12_puts 9 = .ok (.iconst 0, 1) := by decide +kernel
theorem dX12_puts_10 : decode cX12_puts 10 = .ok (.ireturn, 1) := by decide +kernel
theorem dX12_puts_11 : decode cX12_puts 11 = .ok (.aload_n 0, 1) := by decide +kernel
theorem dX12_puts_12 : decode cX12_puts 12 = .ok (.getfield 37, 3) := by decide +kernel
theorem dX12_puts_15 : decode cX12_puts 15 = .ok (.iload_n 1, 1) := by decide +kernel
theorem dX12_puts_16 : decode cX12_puts 16 = .ok (.aload_n 0, 1) := by decide +kernel
theorem dX12_puts_17 : decode cX12_puts 17 = .ok (.getfield 210, 3) := by decide +kernel
theorem dX12_puts_20 : decode cX12_puts 20 = .ok (.iastore, 1) := by decide +kernel
theorem dX12_puts_21 : decode cX12_puts 21 = .ok (.iconst 1, 1) := by decide +kernel
theorem dX12_puts_22 : decode cX12_puts 22 = .ok (.ireturn, 1) := by decide +kernel
theorem dX12_isOneOf_0 : decode cX12_isOneOf 0 = .ok (.aload_n 0, 1) := by decide +kernel
theorem dX12_isOneOf_1 : decode cX12_isOneOf 1 = .ok (.iconst (-1), 1) := by decide +kernel
theorem dX12_isOneOf_2 : decode cX12_isOneOf 2 = .ok (.putfield 210, 3) := by decide +kernel
theorem dX12_isOneOf_5 : decode cX12_isOneOf 5 = .ok (.iconst 0, 1) := by decide +kernel
theorem dX12_isOneOf_6 : decode cX12_isOneOf 6 = .ok (.istore_n 3, 1) := by decide +kernel
theorem dX12_isOneOf_7 : decode cX12_isOneOf 7 = .ok (.iload_n 3, 1) := by decide +kernel
theorem dX12_isOneOf_8 : decode cX12_isOneOf 8 = .ok (.iload_n 2, 1) := by decide +kernel
theorem dX12_isOneOf_9 : decode cX12_isOneOf 9 = .ok (.if_icmp .ge 45, 3) := by decide +kernel
theorem dX12_isOneOf_12 : decode cX12_isOneOf 12 = .ok (.aload_n 0, 1) := by decide +kernel
theorem dX12_isOneOf_13 : decode cX12_isOneOf 13 = .ok (.aload_n 0, 1) := by decide +kernel
theorem dX12_isOneOf_14 : decode cX12_isOneOf 14 = .ok (.getfield 174, 3) := by decide +kernel
theorem dX12_isOneOf_17 : decode cX12_isOneOf 17 = .ok (.iconst 1, 1) := by decide +kernel
theorem dX12_isOneOf_18 : decode cX12_isOneOf 18 = .ok (.if_icmp .ne 23, 3) := by decide +kernel
theorem dX12_isOneOf_21 : decode cX12_isOneOf 21 = .ok (.aload_n 0, 1) := by decide +kernel
theorem dX12_isOneOf_22 : decode cX12_isOneOf 22 = .ok (.getfield 187, 3) := by decide +kernel
theorem dX12_isOneOf_25 : decode cX12_isOneOf 25 = .ok (.aload_n 0, 1) := by decide +kernel
theorem dX12_isOneOf_26 : decode cX12_isOneOf 26 = .ok (.getfield 47, 3) := by decide +kernel
theorem dX12_isOneOf_29 : decode cX12_isOneOf 29 = .ok (.iload_n 1, 1) := by decide +kernel
theorem dX12_isOneOf_30 : decode cX12_isOneOf 30 = .ok (.iload_n 3, 1) := by decide +kernel
theorem dX12_isOneOf_31 : decode cX12_isOneOf 31 = .ok (.iadd, 1) := by decide +kernel
theorem dX12_isOneOf_32 : decode cX12_isOneOf 32 = .ok (.laload, 1) := by decide +kernel
theorem dX12_isOneOf_33 : decode cX12_isOneOf 33 = .ok (.lcmp, 1) := by decide +kernel
theorem dX12_isOneOf_34 : decode cX12_isOneOf 34 = .ok (.ifCond .ne 7, 3) := by decide +kernel
theorem dX12_isOneOf_37 : decode cX12_isOneOf 37 = .ok (.iload_n 3, 1) := by decide +kernel
theorem dX12_isOneOf_38 : decode cX12_isOneOf 38 = .ok (.goto 7, 3) := by decide +kernel
theorem dX12_isOneOf_41 : decode cX12_isOneOf 41 = .ok (.aload_n 0, 1) := by decide +kernel
theorem dX12_isOneOf_42 : decode cX12_isOneOf 42 = .ok (.getfield 210, 3) := by decide +kernel
theorem dX12_isOneOf_45 : decode cX12_isOneOf 45 = .ok (.putfield 210, 3) := by decide +kernel
theorem dX12_isOneOf_48 : decode cX12_isOneOf 48 = .ok (.iinc 3 1, 3) := by decide +kernel
theorem dX12_isOneOf_51 : decode cX12_isOneOf 51 = .ok (.goto (-44), 3) := by decide +kernel
theorem dX12_isOneOf_54 : decode cX12_isOneOf 54 = .ok (.aload_n 0, 1) := by decide +kernel
theorem dX12_isOneOf_55 : decode cX12_isOneOf 55 = .ok (.getfield 210, 3) := by decide +kernel
theorem dX12_isOneOf_58 : decode cX12_isOneOf 58 = .ok (.ifCond .ge 11, 3) := by decide +kernel
theorem dX12_isOneOf_61 : decode cX12_isOneOf 61 = .ok (.aload_n 0, 1) := by decide +kernel
theorem dX12_isOneOf_62 : decode cX12_isOneOf 62 = .ok (.iconst 1, 1) := by decide +kernel
theorem dX12_isOneOf_63 : decode cX12_isOneOf 63 = .ok (.invokevirtual 200, 3) := by decide +kernel
theorem dX12_isOneOf_66 : decode cX12_isOneOf 66 = .ok (.ifCond .eq 7, 3) := by decide +kernel
theorem dX12_isOneOf_69 : decode cX12_isOneOf 69 = .ok (.iconst 1, 1) := by decide +kernel
theorem dX12_isOneOf_70 : decode cX12_isOneOf 70 = .ok (.goto 4, 3) := by decide +kernel
theorem dX12_isOneOf_73 : decode cX12_isOneOf 73 = .ok (.iconst 0, 1) := by decide +kernel
theorem dX12_isOneOf_74 : decode cX12_isOneOf 74 = .ok (.ireturn, 1) := by decide +kernel
theorem dX12_find_0 : decode cX12_find 0 = .ok (.iconst 0, 1) := by decide +kernel
theorem dX12_find_1 : decode cX12_find 1 = .ok (.istore_n 3, 1) := by decide +kernel
theorem dX12_find_2 : decode cX12_find 2 = .ok (.iload_n 3, 1) := by decide +kernel
theorem dX12_find_3 : decode cX12_find 3 = .ok (.iload_n 2, 1) := by decide +kernel
theorem dX12_find_4 : decode cX12_find 4 = .ok (.if_icmp .ge 27, 3) := by decide +kernel
theorem dX12_find_7 : decode cX12_find 7 = .ok (.aload_n 0, 1) := by decide +kernel
theorem dX12_find_8 : decode cX12_find 8 = .ok (.getfield 43, 3) := by decide +kernel
theorem dX12_find_11 : decode cX12_find 11 = .ok (.iload_n 1, 1) := by decide +kernel
theorem dX12_find_12 : decode cX12_find 12 = .ok (.iload_n 3, 1) := by decide +kernel
theorem dX12_find_13 : decode cX12_find 13 = .ok (.iadd, 1) := by decide +kernel
theorem dX12_find_14 : decode cX12_find 14 = .ok (.laload, 1) := by decide +kernel
theorem dX12_find_15 : decode cX12_find 15 = .ok (.aload_n 0, 1) := by decide +kernel
theorem dX12_find_16 : decode cX12_find 16 = .ok (.getfield 187, 3) := by decide +kernel
theorem dX12_find_19 : decode cX12_find 19 = .ok (.lcmp, 1) := by decide +kernel
theorem dX12_find_20 : decode cX12_find 20 = .ok (.ifCond .ne 5, 3) := by decide +kernel
theorem dX12_find_23 : decode cX12_find 23 = .ok (.iload_n 3, 1) := by decide +kernel
theorem dX12_find_24 : decode cX12_find 24 = .ok (.ireturn, 1) := by decide +kernel
theorem dX12_find_25 : decode cX12_find 25 = .ok (.iinc 3 1, 3) := by decide +kernel
theorem dX12_find_28 : decode cX12_find 28 = .ok (.goto (-26), 3) := by decide +kernel
theorem dX12_find_31 : decode cX12_find 31 = .ok (.iconst (-1), 1) := by decide +kernel
theorem dX12_find_32 : decode cX12_find 32 = .ok (.ireturn, 1) := by decide +kernel
theorem dX12_fresh_0 : decode cX12_fresh 0 = .ok (.aload_n 0, 1) := by decide +kernel
theorem dX12_fresh_1 : decode cX12_fresh 1 = .ok (.invokevirtual 217, 3) := by decide +kernel
theorem dX12_fresh_4 : decode cX12_fresh 4 = .ok (.ifCond .ne 9, 3) := by decide +kernel
theorem dX12_fresh_7 : decode cX12_fresh 7 = .ok (.aload_n 0, 1) := by decide +kernel
theorem dX12_fresh_8 : decode cX12_fresh 8 = .ok (.iconst 1, 1) := by decide +kernel
theorem dX12_fresh_9 : decode cX12_fresh 9 = .ok (.invokevirtual 200, 3) := by decide +kernel
theorem dX12_fresh_12 : decode cX12_fresh 12 = .ok (.ireturn, 1) := by decide +kernel
theorem dX12_fresh_13 : decode cX12_fresh 13 = .ok (.aload_n 0, 1) := by decide +kernel
theorem dX12_fresh_14 : decode cX12_fresh 14 = .ok (.bipush 15, 2) := by decide +kernel
theorem dX12_fresh_16 : decode cX12_fresh 16 = .ok (.aload_n 0, 1) := by decide +kernel
theorem dX12_fresh_17 : decode cX12_fresh 17 = .ok (.getfield 37, 3) := by decide +kernel
theorem dX12_fresh_20 : decode cX12_fresh 20 = .ok (.iconst 0, 1) := by decide +kernel
theorem dX12_fresh_21 : decode cX12_fresh 21 = .ok (.iaload, 1) := by decide +kernel
theorem dX12_fresh_22 : decode cX12_fresh 22 = .ok (.invokevirtual 221, 3) := by decide +kernel
theorem dX12_fresh_25 : decode cX12_fresh 25 = .ok (.ifCond .ge 18, 3) := by decide +kernel
theorem dX12_fresh_28 : decode cX12_fresh 28 = .ok (.aload_n 0, 1) := by decide +kernel
theorem dX12_fresh_29 : decode cX12_fresh 29 = .ok (.bipush 23, 2) := by decide +kernel
theorem dX12_fresh_31 : decode cX12_fresh 31 = .ok (.aload_n 0, 1) := by decide +kernel
theorem dX12_fresh_32 : decode cX12_fresh 32 = .ok (.getfield 37, 3) := by decide +kernel
theorem dX12_fresh_35 : decode cX12_fresh 35 = .ok (.iconst 1, 1) := by decide +kernel
theorem dX12_fresh_36 : decode cX12_fresh 36 = .ok (.iaload, 1) := by decide +kernel
theorem dX12_fresh_37 : decode cX12_fresh 37 = .ok (.invokevirtual 221, 3) := by decide +kernel
theorem dX12_fresh_40 : decode cX12_fresh 40 = .ok (.ifCond .lt 9, 3) := by decide +kernel
theorem dX12_fresh_43 : decode cX12_fresh 43 = .ok (.aload_n 0, 1) := by decide +kernel
theorem dX12_fresh_44 : decode cX12_fresh 44 = .ok (.iconst 3, 1) := by decide +kernel
theorem dX12_fresh_45 : decode cX12_fresh 45 = .ok (.invokevirtual 200, 3) := by decide +kernel
theorem dX12_fresh_48 : decode cX12_fresh 48 = .ok (.ireturn, 1) := by decide +kernel
theorem dX12_fresh_49 : decode cX12_fresh 49 = .ok (.aload_n 0, 1) := by decide +kernel
theorem dX12_fresh_50 : decode cX12_fresh 50 = .ok (.getfield 43, 3) := by decide +kernel
theorem dX12_fresh_53 : decode cX12_fresh 53 = .ok (.iload_n 1, 1) := by decide +kernel
theorem dX12_fresh_54 : decode cX12_fresh 54 = .ok (.aload_n 0, 1) := by decide +kernel
theorem dX12_fresh_55 : decode cX12_fresh 55 = .ok (.getfield 187, 3) := by decide +kernel
theorem dX12_fresh_58 : decode cX12_fresh 58 = .ok (.lastore, 1) := by decide +kernel
theorem dX12_fresh_59 : decode cX12_fresh 59 = .ok (.aload_n 0, 1) := by decide +kernel
theorem dX12_fresh_60 : decode cX12_fresh 60 = .ok (.invokevirtual 203, 3) := by decide +kernel
theorem dX12_fresh_63 : decode cX12_fresh 63 = .ok (.iconst 1, 1) := by decide +kernel
theorem dX12_fresh_64 : decode cX12_fresh 64 = .ok (.ireturn, 1) := by decide +kernel
theorem dX12_looksAt_0 : decode cX12_looksAt 0 = .ok (.aload_n 0, 1) := by decide +kernel
theorem dX12_looksAt_1 : decode cX12_looksAt 1 = .ok (.invokevirtual 217, 3) := by decide +kernel
theorem dX12_looksAt_4 : decode cX12_looksAt 4 = .ok (.ifCond .ne 9, 3) := by decide +kernel
theorem dX12_looksAt_7 : decode cX12_looksAt 7 = .ok (.aload_n 0, 1) := by decide +kernel
theorem dX12_looksAt_8 : decode cX12_looksAt 8 = .ok (.iconst 1, 1) := by decide +kernel
theorem dX12_looksAt_9 : decode cX12_looksAt 9 = .ok (.invokevirtual 200, 3) := by decide +kernel
theorem dX12_looksAt_12 : decode cX12_looksAt 12 = .ok (.ireturn, 1) := by decide +kernel
theorem dX12_looksAt_13 : decode cX12_looksAt 13 = .ok (.aload_n 0, 1) := by decide +kernel
theorem dX12_looksAt_14 : decode cX12_looksAt 14 = .ok (.aload_n 0, 1) := by decide +kernel
theorem dX12_looksAt_15 : decode cX12_looksAt 15 = .ok (.iload_n 1, 1) := by decide +kernel
theorem dX12_looksAt_16 : decode cX12_looksAt 16 = .ok (.iload_n 2, 1) := by decide +kernel
theorem dX12_looksAt_17 : decode cX12_looksAt 17 = .ok (.invokevirtual 221, 3) := by decide +kernel
theorem dX12_looksAt_20 : decode cX12_looksAt 20 = .ok (.putfield 210, 3) := by decide +kernel
theorem dX12_looksAt_23 : decode cX12_looksAt 23 = .ok (.aload_n 0, 1) := by decide +kernel
theorem dX12_looksAt_24 : decode cX12_looksAt 24 = .ok (.getfield 210, 3) := by decide +kernel
theorem dX12_looksAt_27 : decode cX12_looksAt 27 = .ok (.ifCond .ge 11, 3) := by decide +kernel
theorem dX12_looksAt_30 : decode cX12_looksAt 30 = .ok (.aload_n 0, 1) := by decide +kernel
theorem dX12_looksAt_31 : decode cX12_looksAt 31 = .ok (.iconst 3, 1) := by decide +kernel
theorem dX12_looksAt_32 : decode cX12_looksAt 32 = .ok (.invokevirtual 200, 3) := by decide +kernel
theorem dX12_looksAt_35 : decode cX12_looksAt 35 = .ok (.ifCond .eq 7, 3) := by decide +kernel
theorem dX12_looksAt_38 : decode cX12_looksAt 38 = .ok (.iconst 1, 1) := by decide +kernel
theorem dX12_looksAt_39 : decode cX12_looksAt 39 = .ok (.goto 4, 3) := by decide +kernel
theorem dX12_looksAt_42 : decode cX12_looksAt 42 = .ok (.iconst 0, 1) := by decide +kernel
theorem dX12_looksAt_43 : decode cX12_looksAt 43 = .ok (.ireturn, 1) := by decide +kernel
theorem dX12_takesName_0 : decode cX12_takesName 0 = .ok (.aload_n 0, 1) := by decide +kernel
theorem dX12_takesName_1 : decode cX12_takesName 1 = .ok (.iload_n 1, 1) := by decide +kernel
theorem dX12_takesName_2 : decode cX12_takesName 2 = .ok (.iload_n 2, 1) := by decide +kernel
theorem dX12_takesName_3 : decode cX12_takesName 3 = .ok (.invokevirtual 225, 3) := by decide +kernel
theorem dX12_takesName_6 : decode cX12_takesName 6 = .ok (.ifCond .ne 5, 3) := by decide +kernel
theorem dX12_takesName_9 : decode cX12_takesName 9 = .ok (.iconst 0, 1) := by decide +kernel
theorem dX12_takesName_10 : decode cX12_takesName 10 = .ok (.ireturn, 1) := by decide +kernel
theorem dX12_takesName_11 : decode cX12_takesName 11 = .ok (.aload_n 0, 1) := by decide +kernel
theorem dX12_takesName_12 : decode cX12_takesName 12 = .ok (.invokevirtual 203, 3) := by decide +kernel
theorem dX12_takesName_15 : decode cX12_takesName 15 = .ok (.iconst 1, 1) := by decide +kernel
theorem dX12_takesName_16 : decode cX12_takesName 16 = .ok (.ireturn, 1) := by decide +kernel
theorem dX12_once_0 : decode cX12_once 0 = .ok (.aload_n 0, 1) := by decide +kernel
theorem dX12_once_1 : decode cX12_once 1 = .ok (.getfield 228, 3) := by decide +kernel
theorem dX12_once_4 : decode cX12_once 4 = .ok (.iload_n 1, 1) := by decide +kernel
theorem dX12_once_5 : decode cX12_once 5 = .ok (.invokestatic 231, 3) := by decide +kernel
theorem dX12_once_8 : decode cX12_once 8 = .ok (.ifCond .eq 9, 3) := by decide +kernel
theorem dX12_once_11 : decode cX12_once 11 = .ok (.aload_n 0, 1) := by decide +kernel
theorem dX12_once_12 : decode cX12_once 12 = .ok (.iconst 3, 1) := by decide +kernel
theorem dX12_once_13 : decode cX12_once 13 = .ok (.invokevirtual 200, 3) := by decide +kernel
theorem dX12_once_16 : decode cX12_once 16 = .ok (.ireturn, 1) := by decide +kernel
theorem dX12_once_17 : decode cX12_once 17 = .ok (.aload_n 0, 1) := by decide +kernel
theorem dX12_once_18 : decode cX12_once 18 = .ok (.dup, 1) := by decide +kernel
theorem dX12_once_19 : decode cX12_once 19 = .ok (.getfield 228, 3) := by decide +kernel
theorem dX12_once_22 : decode cX12_once 22 = .ok (.iconst 1, 1) := by decide +kernel
theorem dX12_once_23 : decode cX12_once 23 = .ok (.iload_n 1, 1) := by decide +kernel
theorem dX12_once_24 : decode cX12_once 24 = .ok (.ishl, 1) := by decide +kernel
theorem dX12_once_25 : decode cX12_once 25 = .ok (.ior, 1) := by decide +kernel
theorem dX12_once_26 : decode cX12_once 26 = .ok (.putfield 228, 3) := by decide +kernel
theorem dX12_once_29 : decode cX12_once 29 = .ok (.aload_n 0, 1) := by decide +kernel
theorem dX12_once_30 : decode cX12_once 30 = .ok (.invokevirtual 203, 3) := by decide +kernel
theorem dX12_once_33 : decode cX12_once 33 = .ok (.aload_n 0, 1) := by decide +kernel
theorem dX12_once_34 : decode cX12_once 34 = .ok (.iload_n 2, 1) := by decide +kernel
theorem dX12_once_35 : decode cX12_once 35 = .ok (.iload_n 3, 1) := by decide +kernel
theorem dX12_once_36 : decode cX12_once 36 = .ok (.iload 4, 2) := by decide +kernel
theorem dX12_once_38 : decode cX12_once 38 = .ok (.invokevirtual 234, 3) := by decide +kernel
theorem dX12_once_41 : decode cX12_once 41 = .ok (.ireturn, 1) := by decide +kernel
theorem dX12_flag_0 : decode cX12_flag 0 = .ok (.aload_n 0, 1) := by decide +kernel
theorem dX12_flag_1 : decode cX12_flag 1 = .ok (.lload_n 1, 1) := by decide +kernel
theorem dX12_flag_2 : decode cX12_flag 2 = .ok (.invokevirtual 237, 3) := by decide +kernel
theorem dX12_flag_5 : decode cX12_flag 5 = .ok (.ifCond .ne 5, 3) := by decide +kernel
theorem dX12_flag_8 : decode cX12_flag 8 = .ok (.iconst 0, 1) := by decide +kernel
theorem dX12_flag_9 : decode cX12_flag 9 = .ok (.ireturn, 1) := by decide +kernel
theorem dX12_flag_10 : decode cX12_flag 10 = .ok (.aload_n 0, 1) := by decide +kernel
theorem dX12_flag_11 : decode cX12_flag 11 = .ok (.invokevirtual 203, 3) := by decide +kernel
theorem dX12_flag_14 : decode cX12_flag 14 = .ok (.iconst 1, 1) := by decide +kernel
theorem dX12_flag_15 : decode cX12_flag 15 = .ok (.iload_n 3, 1) := by decide +kernel
theorem dX12_flag_16 : decode cX12_flag 16 = .ok (.ishl, 1) := by decide +kernel
theorem dX12_flag_17 : decode cX12_flag 17 = .ok (.ireturn, 1) := by decide +kernel
theorem dX12_readMan_0 : decode cX12_readMan 0 = .ok (.aload_n 0, 1) := by decide +kernel
theorem dX12_readMan_1 : decode cX12_readMan 1 = .ok (.getfield 37, 3) := by decide +kernel
theorem dX12_readMan_4 : decode cX12_readMan 4 = .ok (.iconst 0, 1) := by decide +kernel
theorem dX12_readMan_5 : decode cX12_readMan 5 = .ok (.iaload, 1) := by decide +kernel
theorem dX12_readMan_6 : decode cX12_readMan 6 = .ok (.istore_n 1, 1) := by decide +kernel
theorem dX12_readMan_7 : decode cX12_readMan 7 = .ok (.iload_n 1, 1) := by decide +kernel
theorem dX12_readMan_8 : decode cX12_readMan 8 = .ok (.bipush 8, 2) := by decide +kernel
theorem dX12_readMan_10 : decode cX12_readMan 10 = .ok (.if_icmp .ne 9, 3) := by decide +kernel
theorem dX12_readMan_13 : decode cX12_readMan 13 = .ok (.aload_n 0, 1) := by decide +kernel
theorem dX12_readMan_14 : decode cX12_readMan 14 = .ok (.iconst 4, 1) := by decide +kernel
theorem dX12_readMan_15 : decode cX12_readMan 15 = .ok (.invokevirtual 200, 3) := by decide +kernel
theorem dX12_readMan_18 : decode cX12_readMan 18 = .ok (.ireturn, 1) := by decide +kernel
theorem dX12_readMan_19 : decode cX12_readMan 19 = .ok (.aload_n 0, 1) := by decide +kernel
theorem dX12_readMan_20 : decode cX12_readMan 20 = .ok (.invokevirtual 203, 3) := by decide +kernel
theorem dX12_readMan_23 : decode cX12_readMan 23 = .ok (.aload_n 0, 1) := by decide +kernel
theorem dX12_readMan_24 : decode cX12_readMan 24 = .ok (.bipush 15, 2) := by decide +kernel
theorem dX12_readMan_26 : decode cX12_readMan 26 = .ok (.iload_n 1, 1) := by decide +kernel
theorem dX12_readMan_27 : decode cX12_readMan 27 = .ok (.iadd, 1) := by decide +kernel
theorem dX12_readMan_28 : decode cX12_readMan 28 = .ok (.invokevirtual 254, 3) := by decide +kernel
theorem dX12_readMan_31 : decode cX12_readMan 31 = .ok (.ifCond .eq 44, 3) := by decide +kernel
theorem dX12_readMan_34 : decode cX12_readMan 34 = .ok (.aload_n 0, 1) := by decide +kernel
theorem dX12_readMan_35 : decode cX12_readMan 35 = .ok (.iconst 5, 1) := by decide +kernel
theorem dX12_readMan_36 : decode cX12_readMan 36 = .ok (.iload_n 1, 1) := by decide +kernel
theorem dX12_readMan_37 : decode cX12_readMan 37 = .ok (.iadd, 1) := by decide +kernel
theorem dX12_readMan_38 : decode cX12_readMan 38 = .ok (.iconst 0, 1) := by decide +kernel
theorem dX12_readMan_39 : decode cX12_readMan 39 = .ok (.bipush 30, 2) := by decide +kernel
theorem dX12_readMan_41 : decode cX12_readMan 41 = .ok (.invokevirtual 234, 3) := by decide +kernel
theorem dX12_readMan_44 : decode cX12_readMan 44 = .ok (.ifCond .eq 31, 3) := by decide +kernel
theorem dX12_readMan_47 : decode cX12_readMan 47 = .ok (.aload_n 0, 1) := by decide +kernel
theorem dX12_readMan_48 : decode cX12_readMan 48 = .ok (.bipush 13, 2) := by decide +kernel
theorem dX12_readMan_50 : decode cX12_readMan 50 = .ok (.iload_n 1, 1) := by decide +kernel
theorem dX12_readMan_51 : decode cX12_readMan 51 = .ok (.iadd, 1) := by decide +kernel
theorem dX12_readMan_52 : decode cX12_readMan 52 = .ok (.iconst 0, 1) := by decide +kernel
theorem dX12_readMan_53 : decode cX12_readMan 53 = .ok (.bipush 30, 2) := by decide +kernel
theorem dX12_readMan_55 : decode cX12_readMan 55 = .ok (.invokevirtual 234, 3) := by decide +kernel
theorem dX12_readMan_58 : decode cX12_readMan 58 = .ok (.ifCond .eq 17, 3) := by decide +kernel
theorem dX12_readMan_61 : decode cX12_readMan 61 = .ok (.aload_n 0, 1) := by decide +kernel
theorem dX12_readMan_62 : decode cX12_readMan 62 = .ok (.bipush 21, 2) := by decide +kernel
theorem dX12_readMan_64 : decode cX12_readMan 64 = .ok (.iload_n 1, 1) := by decide +kernel
theorem dX12_readMan_65 : decode cX12_readMan 65 = .ok (.iadd, 1) := by decide +kernel
theorem dX12_readMan_66 : decode cX12_readMan 66 = .ok (.iconst 0, 1) := by decide +kernel
theorem dX12_readMan_67 : decode cX12_readMan 67 = .ok (.bipush 9, 2) := by decide +kernel
theorem dX12_readMan_69 : decode cX12_readMan 69 = .ok (.invokevirtual 234, 3) := by decide +kernel
theorem dX12_readMan_72 : decode cX12_readMan 72 = .ok (.ifCond .ne 5, 3) := by decide +kernel
theorem dX12_readMan_75 : decode cX12_readMan 75 = .ok (.iconst 0, 1) := by decide +kernel
theorem dX12_readMan_76 : decode cX12_readMan 76 = .ok (.ireturn, 1) := by decide +kernel
theorem dX12_readMan_77 : decode cX12_readMan 77 = .ok (.aload_n 0, 1) := by decide +kernel
theorem dX12_readMan_78 : decode cX12_readMan 78 = .ok (.getfield 37, 3) := by decide +kernel
theorem dX12_readMan_81 : decode cX12_readMan 81 = .ok (.bipush 29, 2) := by decide +kernel
theorem dX12_readMan_83 : decode cX12_readMan 83 = .ok (.dup2, 1) := by decide +kernel
theorem dX12_readMan_84 : decode cX12_readMan 84 = .ok (.iaload, 1) := by decide +kernel
theorem dX12_readMan_85 : decode cX12_readMan 85 = .ok (.aload_n 0, 1) := by decide +kernel
theorem dX12_readMan_86 : decode cX12_readMan 86 = .ok (.ldc2_w 95, 3) := by decide +kernel
theorem dX12_readMan_89 : decode cX12_readMan 89 = .ok (.iload_n 1, 1) := by decide +kernel
theorem dX12_readMan_90 : decode cX12_readMan 90 = .ok (.invokevirtual 257, 3) := by decide +kernel
theorem dX12_readMan_93 : decode cX12_readMan 93 = .ok (.ior, 1) := by decide +kernel
theorem dX12_readMan_94 : decode cX12_readMan 94 = .ok (.iastore, 1) := by decide +kernel
theorem dX12_readMan_95 : decode cX12_readMan 95 = .ok (.aload_n 0, 1) := by decide +kernel
theorem dX12_readMan_96 : decode cX12_readMan 96 = .ok (.getfield 37, 3) := by decide +kernel
theorem dX12_readMan_99 : decode cX12_readMan 99 = .ok (.bipush 30, 2) := by decide +kernel
theorem dX12_readMan_101 : decode cX12_readMan 101 = .ok (.dup2, 1) := by decide +kernel
theorem dX12_readMan_102 : decode cX12_readMan 102 = .ok (.iaload, 1) := by decide +kernel
theorem dX12_readMan_103 : decode cX12_readMan 103 = .ok (.aload_n 0, 1) := by decide +kernel
theorem dX12_readMan_104 : decode cX12_readMan 104 = .ok (.ldc2_w 97, 3) := by decide +kernel
theorem dX12_readMan_107 : decode cX12_readMan 107 = .ok (.iload_n 1, 1) := by decide +kernel
theorem dX12_readMan_108 : decode cX12_readMan 108 = .ok (.invokevirtual 257, 3) := by decide +kernel
theorem dX12_readMan_111 : decode cX12_readMan 111 = .ok (.ior, 1) := by decide +kernel
theorem dX12_readMan_112 : decode cX12_readMan 112 = .ok (.iastore, 1) := by decide +kernel
theorem dX12_readMan_113 : decode cX12_readMan 113 = .ok (.aload_n 0, 1) := by decide +kernel
theorem dX12_readMan_114 : decode cX12_readMan 114 = .ok (.getfield 37, 3) := by decide +kernel
theorem dX12_readMan_117 : decode cX12_readMan 117 = .ok (.iconst 0, 1) := by decide +kernel
theorem dX12_readMan_118 : decode cX12_readMan 118 = .ok (.dup2, 1) := by decide +kernel
theorem dX12_readMan_119 : decode cX12_readMan 119 = .ok (.iaload, 1) := by decide +kernel
theorem dX12_readMan_120 : decode cX12_readMan 120 = .ok (.iconst 1, 1) := by decide +kernel
theorem dX12_readMan_121 : decode cX12_readMan 121 = .ok (.iadd, 1) := by decide +kernel
theorem dX12_readMan_122 : decode cX12_readMan 122 = .ok (.iastore, 1) := by decide +kernel
theorem dX12_readMan_123 : decode cX12_readMan 123 = .ok (.iconst 1, 1) := by decide +kernel
theorem dX12_readMan_124 : decode cX12_readMan 124 = .ok (.ireturn, 1) := by decide +kernel
theorem dX12_readOrder_0 : decode cX12_readOrder 0 = .ok (.aload_n 0, 1) := by decide +kernel
theorem dX12_readOrder_1 : decode cX12_readOrder 1 = .ok (.getfield 37, 3) := by decide +kernel
theorem dX12_readOrder_4 : decode cX12_readOrder 4 = .ok (.iconst 1, 1) := by decide +kernel
theorem dX12_readOrder_5 : decode cX12_readOrder 5 = .ok (.iaload, 1) := by decide +kernel
theorem dX12_readOrder_6 : decode cX12_readOrder 6 = .ok (.istore_n 1, 1) := by decide +kernel
theorem dX12_readOrder_7 : decode cX12_readOrder 7 = .ok (.iload_n 1, 1) := by decide +kernel
theorem dX12_readOrder_8 : decode cX12_readOrder 8 = .ok (.bipush 7, 2) := by decide +kernel
theorem dX12_readOrder_10 : decode cX12_readOrder 10 = .ok (.if_icmp .ne 9, 3) := by decide +kernel
theorem dX12_readOrder_13 : decode cX12_readOrder 13 = .ok (.aload_n 0, 1) := by decide +kernel
theorem dX12_readOrder_14 : decode cX12_readOrder 14 = .ok (.iconst 4, 1) := by decide +kernel
theorem dX12_readOrder_15 : decode cX12_readOrder 15 = .ok (.invokevirtual 200, 3) := by decide +kernel
theorem dX12_readOrder_18 : decode cX12_readOrder 18 = .ok (.ireturn, 1) := by decide +kernel
theorem dX12_readOrder_19 : decode cX12_readOrder 19 = .ok (.aload_n 0, 1) := by decide +kernel
theorem dX12_readOrder_20 : decode cX12_readOrder 20 = .ok (.invokevirtual 203, 3) := by decide +kernel
theorem dX12_readOrder_23 : decode cX12_readOrder 23 = .ok (.aload_n 0, 1) := by decide +kernel
theorem dX12_readOrder_24 : decode cX12_readOrder 24 = .ok (.bipush 23, 2) := by decide +kernel
theorem dX12_readOrder_26 : decode cX12_readOrder 26 = .ok (.iload_n 1, 1) := by decide +kernel
theorem dX12_readOrder_27 : decode cX12_readOrder 27 = .ok (.iadd, 1) := by decide +kernel
theorem dX12_readOrder_28 : decode cX12_readOrder 28 = .ok (.invokevirtual 254, 3) := by decide +kernel
theorem dX12_readOrder_31 : decode cX12_readOrder 31 = .ok (.ifCond .eq 12, 3) := by decide +kernel
theorem dX12_readOrder_34 : decode cX12_readOrder 34 = .ok (.aload_n 0, 1) := by decide +kernel
theorem dX12_readOrder_35 : decode cX12_readOrder 35 = .ok (.iconst 5, 1) := by decide +kernel
theorem dX12_readOrder_36 : decode cX12_readOrder 36 = .ok (.iconst 3, 1) := by decide +kernel
theorem dX12_readOrder_37 : decode cX12_readOrder 37 = .ok (.invokevirtual 261, 3) := by decide +kernel
theorem dX12_readOrder_40 : decode cX12_readOrder 40 = .ok (.ifCond .ne 5, 3) := by decide +kernel
theorem dX12_readOrder_43 : decode cX12_readOrder 43 = .ok (.iconst 0, 1) := by decide +kernel
theorem dX12_readOrder_44 : decode cX12_readOrder 44 = .ok (.ireturn, 1) := by decide +kernel
theorem dX12_readOrder_45 : decode cX12_readOrder 45 = .ok (.aload_n 0, 1) := by decide +kernel
theorem dX12_readOrder_46 : decode cX12_readOrder 46 = .ok (.getfield 37, 3) := by decide +kernel
theorem dX12_readOrder_49 : decode cX12_readOrder 49 = .ok (.bipush 39, 2) := by decide +kernel
theorem dX12_readOrder_51 : decode cX12_readOrder 51 = .ok (.iload_n 1, 1) := by decide +kernel
theorem dX12_readOrder_52 : decode cX12_readOrder 52 = .ok (.iadd, 1) := by decide +kernel
theorem dX12_readOrder_53 : decode cX12_readOrder 53 = .ok (.aload_n 0, 1) := by decide +kernel
theorem dX12_readOrder_54 : decode cX12_readOrder 54 = .ok (.getfield 210, 3) := by decide +kernel
theorem dX12_readOrder_57 : decode cX12_readOrder 57 = .ok (.iconst 1, 1) := by decide +kernel
theorem dX12_readOrder_58 : decode cX12_readOrder 58 = .ok (.iadd, 1) := by decide +kernel
theorem dX12_readOrder_59 : decode cX12_readOrder 59 = .ok (.iastore, 1) := by decide +kernel
theorem dX12_readOrder_60 : decode cX12_readOrder 60 = .ok (.aload_n 0, 1) := by decide +kernel
theorem dX12_readOrder_61 : decode cX12_readOrder 61 = .ok (.invokevirtual 203, 3) := by decide +kernel
theorem dX12_readOrder_64 : decode cX12_readOrder 64 = .ok (.aload_n 0, 1) := by decide +kernel
theorem dX12_readOrder_65 : decode cX12_readOrder 65 = .ok (.iconst 5, 1) := by decide +kernel
theorem dX12_readOrder_66 : decode cX12_readOrder 66 = .ok (.iconst 3, 1) := by decide +kernel
theorem dX12_readOrder_67 : decode cX12_readOrder 67 = .ok (.invokevirtual 261, 3) := by decide +kernel
theorem dX12_readOrder_70 : decode cX12_readOrder 70 = .ok (.ifCond .ne 5, 3) := by decide +kernel
theorem dX12_readOrder_73 : decode cX12_readOrder 73 = .ok (.iconst 0, 1) := by decide +kernel
theorem dX12_readOrder_74 : decode cX12_readOrder 74 = .ok (.ireturn, 1) := by decide +kernel
theorem dX12_readOrder_75 : decode cX12_readOrder 75 = .ok (.aload_n 0, 1) := by decide +kernel
theorem dX12_readOrder_76 : decode cX12_readOrder 76 = .ok (.getfield 37, 3) := by decide +kernel
theorem dX12_readOrder_79 : decode cX12_readOrder 79 = .ok (.bipush 46, 2) := by decide +kernel
theorem dX12_readOrder_81 : decode cX12_readOrder 81 = .ok (.iload_n 1, 1) := by decide +kernel
theorem dX12_readOrder_82 : decode cX12_readOrder 82 = .ok (.iadd, 1) := by decide +kernel
theorem dX12_readOrder_83 : decode cX12_readOrder 83 = .ok (.aload_n 0, 1) := by decide +kernel
theorem dX12_readOrder_84 : decode cX12_readOrder 84 = .ok (.getfield 210, 3) := by decide +kernel
theorem dX12_readOrder_87 : decode cX12_readOrder 87 = .ok (.iconst 1, 1) := by decide +kernel
theorem dX12_readOrder_88 : decode cX12_readOrder 88 = .ok (.iadd, 1) := by decide +kernel
theorem dX12_readOrder_89 : decode cX12_readOrder 89 = .ok (.iastore, 1) := by decide +kernel
theorem dX12_readOrder_90 : decode cX12_readOrder 90 = .ok (.iconst 0, 1) := by decide +kernel
theorem dX12_readOrder_91 : decode cX12_readOrder 91 = .ok (.istore_n 2, 1) := by decide +kernel
theorem dX12_readOrder_92 : decode cX12_readOrder 92 = .ok (.iload_n 2, 1) := by decide +kernel
theorem dX12_readOrder_93 : decode cX12_readOrder 93 = .ok (.iload_n 1, 1) := by decide +kernel
theorem dX12_readOrder_94 : decode cX12_readOrder 94 = .ok (.if_icmp .ge 57, 3) := by decide +kernel
theorem dX12_readOrder_97 : decode cX12_readOrder 97 = .ok (.aload_n 0, 1) := by decide +kernel
theorem dX12_readOrder_98 : decode cX12_readOrder 98 = .ok (.getfield 37, 3) := by decide +kernel
theorem dX12_readOrder_101 : decode cX12_readOrder 101 = .ok (.bipush 39, 2) := by decide +kernel
theorem dX12_readOrder_103 : decode cX12_readOrder 103 = .ok (.iload_n 2, 1) := by decide +kernel
theorem dX12_readOrder_104 : decode cX12_readOrder 104 = .ok (.iadd, 1) := by decide +kernel
theorem dX12_readOrder_105 : decode cX12_readOrder 105 = .ok (.iaload, 1) := by decide +kernel
theorem dX12_readOrder_106 : decode cX12_readOrder 106 = .ok (.aload_n 0, 1) := by decide +kernel
theorem dX12_readOrder_107 : decode cX12_readOrder 107 = .ok (.getfield 37, 3) := by decide +kernel
theorem dX12_readOrder_110 : decode cX12_readOrder 110 = .ok (.bipush 39, 2) := by decide +kernel
theorem dX12_readOrder_112 : decode cX12_readOrder 112 = .ok (.iload_n 1, 1) := by decide +kernel
theorem dX12_readOrder_113 : decode cX12_readOrder 113 = .ok (.iadd, 1) := by decide +kernel
theorem dX12_readOrder_114 : decode cX12_readOrder 114 = .ok (.iaload, 1) := by decide +kernel
theorem dX12_readOrder_115 : decode cX12_readOrder 115 = .ok (.if_icmp .ne 30, 3) := by decide +kernel
theorem dX12_readOrder_118 : decode cX12_readOrder 118 = .ok (.aload_n 0, 1) := by decide +kernel
theorem dX12_readOrder_119 : decode cX12_readOrder 119 = .ok (.getfield 37, 3) := by decide +kernel
theorem dX12_readOrder_122 : decode cX12_readOrder 122 = .ok (.bipush 46, 2) := by decide +kernel
theorem dX12_readOrder_124 : decode cX12_readOrder 124 = .ok (.iload_n 2, 1) := by decide +kernel
theorem dX12_readOrder_125 : decode cX12_readOrder 125 = .ok (.iadd, 1) := by decide +kernel
theorem dX12_readOrder_126 : decode cX12_readOrder 126 = .ok (.iaload, 1) := by decide +kernel
theorem dX12_readOrder_127 : decode cX12_readOrder 127 = .ok (.aload_n 0, 1) := by decide +kernel
theorem dX12_readOrder_128 : decode cX12_readOrder 128 = .ok (.getfield 37, 3) := by decide +kernel
theorem dX12_readOrder_131 : decode cX12_readOrder 131 = .ok (.bipush 46, 2) := by decide +kernel
theorem dX12_readOrder_133 : decode cX12_readOrder 133 = .ok (.iload_n 1, 1) := by decide +kernel
theorem dX12_readOrder_134 : decode cX12_readOrder 134 = .ok (.iadd, 1) := by decide +kernel
theorem dX12_readOrder_135 : decode cX12_readOrder 135 = .ok (.iaload, 1) := by decide +kernel
theorem dX12_readOrder_136 : decode cX12_readOrder 136 = .ok (.if_icmp .ne 9, 3) := by decide +kernel
theorem dX12_readOrder_139 : decode cX12_readOrder 139 = .ok (.aload_n 0, 1) := by decide +kernel
theorem dX12_readOrder_140 : decode cX12_readOrder 140 = .ok (.iconst 3, 1) := by decide +kernel
theorem dX12_readOrder_141 : decode cX12_readOrder 141 = .ok (.invokevirtual 200, 3) := by decide +kernel
theorem dX12_readOrder_144 : decode cX12_readOrder 144 = .ok (.ireturn, 1) := by decide +kernel
theorem dX12_readOrder_145 : decode cX12_readOrder 145 = .ok (.iinc 2 1, 3) := by decide +kernel
theorem dX12_readOrder_148 : decode cX12_readOrder 148 = .ok (.goto (-56), 3) := by decide +kernel
theorem dX12_readOrder_151 : decode cX12_readOrder 151 = .ok (.aload_n 0, 1) := by decide +kernel
theorem dX12_readOrder_152 : decode cX12_readOrder 152 = .ok (.invokevirtual 203, 3) := by decide +kernel
theorem dX12_readOrder_155 : decode cX12_readOrder 155 = .ok (.aload_n 0, 1) := by decide +kernel
theorem dX12_readOrder_156 : decode cX12_readOrder 156 = .ok (.getfield 37, 3) := by decide +kernel
theorem dX12_readOrder_159 : decode cX12_readOrder 159 = .ok (.iconst 1, 1) := by decide +kernel
theorem dX12_readOrder_160 : decode cX12_readOrder 160 = .ok (.dup2, 1) := by decide +kernel
theorem dX12_readOrder_161 : decode cX12_readOrder 161 = .ok (.iaload, 1) := by decide +kernel
theorem dX12_readOrder_162 : decode cX12_readOrder 162 = .ok (.iconst 1, 1) := by decide +kernel
theorem dX12_readOrder_163 : decode cX12_readOrder 163 = .ok (.iadd, 1) := by decide +kernel
theorem dX12_readOrder_164 : decode cX12_readOrder 164 = .ok (.iastore, 1) := by decide +kernel
theorem dX12_readOrder_165 : decode cX12_readOrder 165 = .ok (.iconst 1, 1) := by decide +kernel
theorem dX12_readOrder_166 : decode cX12_readOrder 166 = .ok (.ireturn, 1) := by decide +kernel
theorem dX12_readUnder_0 : decode cX12_readUnder 0 = .ok (.aload_n 0, 1) := by decide +kernel
theorem dX12_readUnder_1 : decode cX12_readUnder 1 = .ok (.invokevirtual 203, 3) := by decide +kernel
theorem dX12_readUnder_4 : decode cX12_readUnder 4 = .ok (.aload_n 0, 1) := by decide +kernel
theorem dX12_readUnder_5 : decode cX12_readUnder 5 = .ok (.bipush 15, 2) := by decide +kernel
theorem dX12_readUnder_7 : decode cX12_readUnder 7 = .ok (.aload_n 0, 1) := by decide +kernel
theorem dX12_readUnder_8 : decode cX12_readUnder 8 = .ok (.getfield 37, 3) := by decide +kernel
theorem dX12_readUnder_11 : decode cX12_readUnder 11 = .ok (.iconst 0, 1) := by decide +kernel
theorem dX12_readUnder_12 : decode cX12_readUnder 12 = .ok (.iaload, 1) := by decide +kernel
theorem dX12_readUnder_13 : decode cX12_readUnder 13 = .ok (.invokevirtual 225, 3) := by decide +kernel
theorem dX12_readUnder_16 : decode cX12_readUnder 16 = .ok (.ifCond .ne 5, 3) := by decide +kernel
theorem dX12_readUnder_19 : decode cX12_readUnder 19 = .ok (.iconst 0, 1) := by decide +kernel
theorem dX12_readUnder_20 : decode cX12_readUnder 20 = .ok (.ireturn, 1) := by decide +kernel
theorem dX12_readUnder_21 : decode cX12_readUnder 21 = .ok (.aload_n 0, 1) := by decide +kernel
theorem dX12_readUnder_22 : decode cX12_readUnder 22 = .ok (.getfield 210, 3) := by decide +kernel
theorem dX12_readUnder_25 : decode cX12_readUnder 25 = .ok (.istore_n 1, 1) := by decide +kernel
theorem dX12_readUnder_26 : decode cX12_readUnder 26 = .ok (.aload_n 0, 1) := by decide +kernel
theorem dX12_readUnder_27 : decode cX12_readUnder 27 = .ok (.getfield 37, 3) := by decide +kernel
theorem dX12_readUnder_30 : decode cX12_readUnder 30 = .ok (.bipush 31, 2) := by decide +kernel
theorem dX12_readUnder_32 : decode cX12_readUnder 32 = .ok (.iload_n 1, 1) := by decide +kernel
theorem dX12_readUnder_33 : decode cX12_readUnder 33 = .ok (.iadd, 1) := by decide +kernel
theorem dX12_readUnder_34 : decode cX12_readUnder 34 = .ok (.iaload, 1) := by decide +kernel
theorem dX12_readUnder_35 : decode cX12_readUnder 35 = .ok (.ifCond .le 9, 3) := by decide +kernel
theorem dX12_readUnder_38 : decode cX12_readUnder 38 = .ok (.aload_n 0, 1) := by decide +kernel
theorem dX12_readUnder_39 : decode cX12_readUnder 39 = .ok (.iconst 3, 1) := by decide +kernel
theorem dX12_readUnder_40 : decode cX12_readUnder 40 = .ok (.invokevirtual 200, 3) := by decide +kernel
theorem dX12_readUnder_43 : decode cX12_readUnder 43 = .ok (.ireturn, 1) := by decide +kernel
theorem dX12_readUnder_44 : decode cX12_readUnder 44 = .ok (.aload_n 0, 1) := by decide +kernel
theorem dX12_readUnder_45 : decode cX12_readUnder 45 = .ok (.invokevirtual 203, 3) := by decide +kernel
theorem dX12_readUnder_48 : decode cX12_readUnder 48 = .ok (.aload_n 0, 1) := by decide +kernel
theorem dX12_readUnder_49 : decode cX12_readUnder 49 = .ok (.bipush 15, 2) := by decide +kernel
theorem dX12_readUnder_51 : decode cX12_readUnder 51 = .ok (.aload_n 0, 1) := by decide +kernel
theorem dX12_readUnder_52 : decode cX12_readUnder 52 = .ok (.getfield 37, 3) := by decide +kernel
theorem dX12_readUnder_55 : decode cX12_readUnder 55 = .ok (.iconst 0, 1) := by decide +kernel
theorem dX12_readUnder_56 : decode cX12_readUnder 56 = .ok (.iaload, 1) := by decide +kernel
theorem dX12_readUnder_57 : decode cX12_readUnder 57 = .ok (.invokevirtual 225, 3) := by decide +kernel
theorem dX12_readUnder_60 : decode cX12_readUnder 60 = .ok (.ifCond .ne 5, 3) := by decide +kernel
theorem dX12_readUnder_63 : decode cX12_readUnder 63 = .ok (.iconst 0, 1) := by decide +kernel
theorem dX12_readUnder_64 : decode cX12_readUnder 64 = .ok (.ireturn, 1) := by decide +kernel
theorem dX12_readUnder_65 : decode cX12_readUnder 65 = .ok (.aload_n 0, 1) := by decide +kernel
theorem dX12_readUnder_66 : decode cX12_readUnder 66 = .ok (.getfield 210, 3) := by decide +kernel
theorem dX12_readUnder_69 : decode cX12_readUnder 69 = .ok (.istore_n 2, 1) := by decide +kernel
theorem dX12_readUnder_70 : decode cX12_readUnder 70 = .ok (.iload_n 2, 1) := by decide +kernel
theorem dX12_readUnder_71 : decode cX12_readUnder 71 = .ok (.ifCond .lt 29, 3) := by decide +kernel
theorem dX12_readUnder_74 : decode cX12_readUnder 74 = .ok (.iload_n 2, 1) := by decide +kernel
theorem dX12_readUnder_75 : decode cX12_readUnder 75 = .ok (.iload_n 1, 1) := by decide +kernel
theorem dX12_readUnder_76 : decode cX12_readUnder 76 = .ok (.if_icmp .ne 9, 3) := by decide +kernel
theorem dX12_readUnder_79 : decode cX12_readUnder 79 = .ok (.aload_n 0, 1) := by decide +kernel
theorem dX12_readUnder_80 : decode cX12_readUnder 80 = .ok (.iconst 3, 1) := by decide +kernel
theorem dX12_readUnder_81 : decode cX12_readUnder 81 = .ok (.invokevirtual 200, 3) := by decide +kernel
theorem dX12_readUnder_84 : decode cX12_readUnder 84 = .ok (.ireturn, 1) := by decide +kernel
theorem dX12_readUnder_85 : decode cX12_readUnder 85 = .ok (.aload_n 0, 1) := by decide +kernel
theorem dX12_readUnder_86 : decode cX12_readUnder 86 = .ok (.getfield 37, 3) := by decide +kernel
theorem dX12_readUnder_89 : decode cX12_readUnder 89 = .ok (.bipush 31, 2) := by decide +kernel
theorem dX12_readUnder_91 : decode cX12_readUnder 91 = .ok (.iload_n 2, 1) := by decide +kernel
theorem dX12_readUnder_92 : decode cX12_readUnder 92 = .ok (.iadd, 1) := by decide +kernel
theorem dX12_readUnder_93 : decode cX12_readUnder 93 = .ok (.iaload, 1) := by decide +kernel
theorem dX12_readUnder_94 : decode cX12_readUnder 94 = .ok (.iconst 1, 1) := by decide +kernel
theorem dX12_readUnder_95 : decode cX12_readUnder 95 = .ok (.isub, 1) := by decide +kernel
theorem dX12_readUnder_96 : decode cX12_readUnder 96 = .ok (.istore_n 2, 1) := by decide +kernel
theorem dX12_readUnder_97 : decode cX12_readUnder 97 = .ok (.goto (-27), 3) := by decide +kernel
theorem dX12_readUnder_100 : decode cX12_readUnder 100 = .ok (.aload_n 0, 1) := by decide +kernel
theorem dX12_readUnder_101 : decode cX12_readUnder 101 = .ok (.getfield 37, 3) := by decide +kernel
theorem dX12_readUnder_104 : decode cX12_readUnder 104 = .ok (.bipush 31, 2) := by decide +kernel
theorem dX12_readUnder_106 : decode cX12_readUnder 106 = .ok (.iload_n 1, 1) := by decide +kernel
theorem dX12_readUnder_107 : decode cX12_readUnder 107 = .ok (.iadd, 1) := by decide +kernel
theorem dX12_readUnder_108 : decode cX12_readUnder 108 = .ok (.aload_n 0, 1) := by decide +kernel
theorem dX12_readUnder_109 : decode cX12_readUnder 109 = .ok (.getfield 210, 3) := by decide +kernel
theorem dX12_readUnder_112 : decode cX12_readUnder 112 = .ok (.iconst 1, 1) := by decide +kernel
theorem dX12_readUnder_113 : decode cX12_readUnder 113 = .ok (.iadd, 1) := by decide +kernel
theorem dX12_readUnder_114 : decode cX12_readUnder 114 = .ok (.iastore, 1) := by decide +kernel
theorem dX12_readUnder_115 : decode cX12_readUnder 115 = .ok (.aload_n 0, 1) := by decide +kernel
theorem dX12_readUnder_116 : decode cX12_readUnder 116 = .ok (.invokevirtual 203, 3) := by decide +kernel
theorem dX12_readUnder_119 : decode cX12_readUnder 119 = .ok (.iconst 1, 1) := by decide +kernel
theorem dX12_readUnder_120 : decode cX12_readUnder 120 = .ok (.ireturn, 1) := by decide +kernel
theorem dX12_line_0 : decode cX12_line 0 = .ok (.aload_n 0, 1) := by decide +kernel
theorem dX12_line_1 : decode cX12_line 1 = .ok (.ldc2_w 93, 3) := by decide +kernel
theorem dX12_line_4 : decode cX12_line 4 = .ok (.invokevirtual 237, 3) := by decide +kernel
theorem dX12_line_7 : decode cX12_line 7 = .ok (.ifCond .eq 8, 3) := by decide +kernel
theorem dX12_line_10 : decode cX12_line 10 = .ok (.aload_n 0, 1) := by decide +kernel
theorem dX12_line_11 : decode cX12_line 11 = .ok (.invokevirtual 241, 3) := by decide +kernel
theorem dX12_line_14 : decode cX12_line 14 = .ok (.ireturn, 1) := by decide +kernel
theorem dX12_line_15 : decode cX12_line 15 = .ok (.aload_n 0, 1) := by decide +kernel
theorem dX12_line_16 : decode cX12_line 16 = .ok (.ldc2_w 99, 3) := by decide +kernel
theorem dX12_line_19 : decode cX12_line 19 = .ok (.invokevirtual 237, 3) := by decide +kernel
theorem dX12_line_22 : decode cX12_line 22 = .ok (.ifCond .eq 8, 3) := by decide +kernel
theorem dX12_line_25 : decode cX12_line 25 = .ok (.aload_n 0, 1) := by decide +kernel
theorem dX12_line_26 : decode cX12_line 26 = .ok (.invokevirtual 244, 3) := by decide +kernel
theorem dX12_line_29 : decode cX12_line 29 = .ok (.ireturn, 1) := by decide +kernel
theorem dX12_line_30 : decode cX12_line 30 = .ok (.aload_n 0, 1) := by decide +kernel
theorem dX12_line_31 : decode cX12_line 31 = .ok (.ldc2_w 101, 3) := by decide +kernel
theorem dX12_line_34 : decode cX12_line 34 = .ok (.invokevirtual 237, 3) := by decide +kernel
theorem dX12_line_37 : decode cX12_line 37 = .ok (.ifCond .eq 8, 3) := by decide +kernel
theorem dX12_line_40 : decode cX12_line 40 = .ok (.aload_n 0, 1) := by decide +kernel
theorem dX12_line_41 : decode cX12_line 41 = .ok (.invokevirtual 247, 3) := by decide +kernel
theorem dX12_line_44 : decode cX12_line 44 = .ok (.ireturn, 1) := by decide +kernel
theorem dX12_line_45 : decode cX12_line 45 = .ok (.aload_n 0, 1) := by decide +kernel
theorem dX12_line_46 : decode cX12_line 46 = .ok (.ldc2_w 109, 3) := by decide +kernel
theorem dX12_line_49 : decode cX12_line 49 = .ok (.invokevirtual 237, 3) := by decide +kernel
theorem dX12_line_52 : decode cX12_line 52 = .ok (.ifCond .eq 67, 3) := by decide +kernel
theorem dX12_line_55 : decode cX12_line 55 = .ok (.aload_n 0, 1) := by decide +kernel
theorem dX12_line_56 : decode cX12_line 56 = .ok (.getfield 37, 3) := by decide +kernel
theorem dX12_line_59 : decode cX12_line 59 = .ok (.iconst 2, 1) := by decide +kernel
theorem dX12_line_60 : decode cX12_line 60 = .ok (.iaload, 1) := by decide +kernel
theorem dX12_line_61 : decode cX12_line 61 = .ok (.istore_n 1, 1) := by decide +kernel
theorem dX12_line_62 : decode cX12_line 62 = .ok (.iload_n 1, 1) := by decide +kernel
theorem dX12_line_63 : decode cX12_line 63 = .ok (.iconst 4, 1) := by decide +kernel
theorem dX12_line_64 : decode cX12_line 64 = .ok (.if_icmp .ne 9, 3) := by decide +kernel
theorem dX12_line_67 : decode cX12_line 67 = .ok (.aload_n 0, 1) := by decide +kernel
theorem dX12_line_68 : decode cX12_line 68 = .ok (.iconst 4, 1) := by decide +kernel
theorem dX12_line_69 : decode cX12_line 69 = .ok (.invokevirtual 200, 3) := by decide +kernel
theorem dX12_line_72 : decode cX12_line 72 = .ok (.ireturn, 1) := by decide +kernel
theorem dX12_line_73 : decode cX12_line 73 = .ok (.aload_n 0, 1) := by decide +kernel
theorem dX12_line_74 : decode cX12_line 74 = .ok (.invokevirtual 203, 3) := by decide +kernel
theorem dX12_line_77 : decode cX12_line 77 = .ok (.aload_n 0, 1) := by decide +kernel
theorem dX12_line_78 : decode cX12_line 78 = .ok (.bipush 53, 2) := by decide +kernel
theorem dX12_line_80 : decode cX12_line 80 = .ok (.iload_n 1, 1) := by decide +kernel
theorem dX12_line_81 : decode cX12_line 81 = .ok (.iadd, 1) := by decide +kernel
theorem dX12_line_82 : decode cX12_line 82 = .ok (.iconst 0, 1) := by decide +kernel
theorem dX12_line_83 : decode cX12_line 83 = .ok (.bipush 30, 2) := by decide +kernel
theorem dX12_line_85 : decode cX12_line 85 = .ok (.invokevirtual 234, 3) := by decide +kernel
theorem dX12_line_88 : decode cX12_line 88 = .ok (.ifCond .eq 17, 3) := by decide +kernel
theorem dX12_line_91 : decode cX12_line 91 = .ok (.aload_n 0, 1) := by decide +kernel
theorem dX12_line_92 : decode cX12_line 92 = .ok (.bipush 57, 2) := by decide +kernel
theorem dX12_line_94 : decode cX12_line 94 = .ok (.iload_n 1, 1) := by decide +kernel
theorem dX12_line_95 : decode cX12_line 95 = .ok (.iadd, 1) := by decide +kernel
theorem dX12_line_96 : decode cX12_line 96 = .ok (.iconst 0, 1) := by decide +kernel
theorem dX12_line_97 : decode cX12_line 97 = .ok (.bipush 30, 2) := by decide +kernel
theorem dX12_line_99 : decode cX12_line 99 = .ok (.invokevirtual 234, 3) := by decide +kernel
theorem dX12_line_102 : decode cX12_line 102 = .ok (.ifCond .ne 5, 3) := by decide +kernel
theorem dX12_line_105 : decode cX12_line 105 = .ok (.iconst 0, 1) := by decide +kernel
theorem dX12_line_106 : decode cX12_line 106 = .ok (.ireturn, 1) := by decide +kernel
theorem dX12_line_107 : decode cX12_line 107 = .ok (.aload_n 0, 1) := by decide +kernel
theorem dX12_line_108 : decode cX12_line 108 = .ok (.getfield 37, 3) := by decide +kernel
theorem dX12_line_111 : decode cX12_line 111 = .ok (.iconst 2, 1) := by decide +kernel
theorem dX12_line_112 : decode cX12_line 112 = .ok (.dup2, 1) := by decide +kernel
theorem dX12_line_113 : decode cX12_line 113 = .ok (.iaload, 1) := by decide +kernel
theorem dX12_line_114 : decode cX12_line 114 = .ok (.iconst 1, 1) := by decide +kernel
theorem dX12_line_115 : decode cX12_line 115 = .ok (.iadd, 1) := by decide +kernel
theorem dX12_line_116 : decode cX12_line 116 = .ok (.iastore, 1) := by decide +kernel
theorem dX12_line_117 : decode cX12_line 117 = .ok (.iconst 1, 1) := by decide +kernel
theorem dX12_line_118 : decode cX12_line 118 = .ok (.ireturn, 1) := by decide +kernel
theorem dX12_line_119 : decode cX12_line 119 = .ok (.aload_n 0, 1) := by decide +kernel
theorem dX12_line_120 : decode cX12_line 120 = .ok (.ldc2_w 111, 3) := by decide +kernel
theorem dX12_line_123 : decode cX12_line 123 = .ok (.invokevirtual 237, 3) := by decide +kernel
theorem dX12_line_126 : decode cX12_line 126 = .ok (.ifCond .eq 12, 3) := by decide +kernel
theorem dX12_line_129 : decode cX12_line 129 = .ok (.aload_n 0, 1) := by decide +kernel
theorem dX12_line_130 : decode cX12_line 130 = .ok (.iconst 0, 1) := by decide +kernel
theorem dX12_line_131 : decode cX12_line 131 = .ok (.iconst 3, 1) := by decide +kernel
theorem dX12_line_132 : decode cX12_line 132 = .ok (.iconst 1, 1) := by decide +kernel
theorem dX12_line_133 : decode cX12_line 133 = .ok (.iconst 5, 1) := by decide +kernel
theorem dX12_line_134 : decode cX12_line 134 = .ok (.invokevirtual 250, 3) := by decide +kernel
theorem dX12_line_137 : decode cX12_line 137 = .ok (.ireturn, 1) := by decide +kernel
theorem dX12_line_138 : decode cX12_line 138 = .ok (.aload_n 0, 1) := by decide +kernel
theorem dX12_line_139 : decode cX12_line 139 = .ok (.ldc2_w 113, 3) := by decide +kernel
theorem dX12_line_142 : decode cX12_line 142 = .ok (.invokevirtual 237, 3) := by decide +kernel
theorem dX12_line_145 : decode cX12_line 145 = .ok (.ifCond .eq 15, 3) := by decide +kernel
theorem dX12_line_148 : decode cX12_line 148 = .ok (.aload_n 0, 1) := by decide +kernel
theorem dX12_line_149 : decode cX12_line 149 = .ok (.iconst 1, 1) := by decide +kernel
theorem dX12_line_150 : decode cX12_line 150 = .ok (.iconst 4, 1) := by decide +kernel
theorem dX12_line_151 : decode cX12_line 151 = .ok (.iconst 1, 1) := by decide +kernel
theorem dX12_line_152 : decode cX12_line 152 = .ok (.bipush 30, 2) := by decide +kernel
theorem dX12_line_154 : decode cX12_line 154 = .ok (.invokevirtual 250, 3) := by decide +kernel
theorem dX12_line_157 : decode cX12_line 157 = .ok (.goto 8, 3) := by decide +kernel
theorem dX12_line_160 : decode cX12_line 160 = .ok (.aload_n 0, 1) := by decide +kernel
theorem dX12_line_161 : decode cX12_line 161 = .ok (.iconst 1, 1) := by decide +kernel
theorem dX12_line_162 : decode cX12_line 162 = .ok (.invokevirtual 200, 3) := by decide +kernel
theorem dX12_line_165 : decode cX12_line 165 = .ok (.ireturn, 1) := by decide +kernel
theorem dX12_army_0 : decode cX12_army 0 = .ok (.aload_n 0, 1) := by decide +kernel
theorem dX12_army_1 : decode cX12_army 1 = .ok (.iconst 0, 1) := by decide +kernel
theorem dX12_army_2 : decode cX12_army 2 = .ok (.putfield 1, 3) := by decide +kernel
theorem dX12_army_5 : decode cX12_army 5 = .ok (.aload_n 0, 1) := by decide +kernel
theorem dX12_army_6 : decode cX12_army 6 = .ok (.sipush 900, 3) := by decide +kernel
theorem dX12_army_9 : decode cX12_army 9 = .ok (.invokevirtual 264, 3) := by decide +kernel
theorem dX12_army_12 : decode cX12_army 12 = .ok (.aload_n 0, 1) := by decide +kernel
theorem dX12_army_13 : decode cX12_army 13 = .ok (.iconst 0, 1) := by decide +kernel
theorem dX12_army_14 : decode cX12_army 14 = .ok (.putfield 191, 3) := by decide +kernel
theorem dX12_army_17 : decode cX12_army 17 = .ok (.aload_n 0, 1) := by decide +kernel
theorem dX12_army_18 : decode cX12_army 18 = .ok (.iconst 0, 1) := by decide +kernel
theorem dX12_army_19 : decode cX12_army 19 = .ok (.putfield 267, 3) := by decide +kernel
theorem dX12_army_22 : decode cX12_army 22 = .ok (.aload_n 0, 1) := by decide +kernel
theorem dX12_army_23 : decode cX12_army 23 = .ok (.iconst 0, 1) := by decide +kernel
theorem dX12_army_24 : decode cX12_army 24 = .ok (.putfield 228, 3) := by decide +kernel
theorem dX12_army_27 : decode cX12_army 27 = .ok (.aload_n 0, 1) := by decide +kernel
theorem dX12_army_28 : decode cX12_army 28 = .ok (.invokevirtual 161, 3) := by decide +kernel
theorem dX12_army_31 : decode cX12_army 31 = .ok (.aload_n 0, 1) := by decide +kernel
theorem dX12_army_32 : decode cX12_army 32 = .ok (.invokevirtual 203, 3) := by decide +kernel
theorem dX12_army_35 : decode cX12_army 35 = .ok (.aload_n 0, 1) := by decide +kernel
theorem dX12_army_36 : decode cX12_army 36 = .ok (.getfield 174, 3) := by decide +kernel
theorem dX12_army_39 : decode cX12_army 39 = .ok (.ifCond .eq 39, 3) := by decide +kernel
theorem dX12_army_42 : decode cX12_army 42 = .ok (.aload_n 0, 1) := by decide +kernel
theorem dX12_army_43 : decode cX12_army 43 = .ok (.invokevirtual 270, 3) := by decide +kernel
theorem dX12_army_46 : decode cX12_army 46 = .ok (.ifCond .eq 12, 3) := by decide +kernel
theorem dX12_army_49 : decode cX12_army 49 = .ok (.aload_n 0, 1) := by decide +kernel
theorem dX12_army_50 : decode cX12_army 50 = .ok (.bipush 59, 2) := by decide +kernel
theorem dX12_army_52 : decode cX12_army 52 = .ok (.invokevirtual 273, 3) := by decide +kernel
theorem dX12_army_55 : decode cX12_army 55 = .ok (.ifCond .ne 10, 3) := by decide +kernel
theorem dX12_army_58 : decode cX12_army 58 = .ok (.iconst (-1), 1) := by decide +kernel
theorem dX12_army_59 : decode cX12_army 59 = .ok (.aload_n 0, 1) := by decide +kernel
theorem dX12_army_60 : decode cX12_army 60 = .ok (.getfield 194, 3) := by decide +kernel
theorem dX12_army_63 : decode cX12_army 63 = .ok (.isub, 1) := by decide +kernel
theorem dX12_army_64 : decode cX12_army 64 = .ok (.ireturn, 1) := by decide +kernel
theorem dX12_army_65 : decode cX12_army 65 = .ok (.aload_n 0, 1) := by decide +kernel
theorem dX12_army_66 : decode cX12_army 66 = .ok (.dup, 1) := by decide +kernel
theorem dX12_army_67 : decode cX12_army 67 = .ok (.getfield 267, 3) := by decide +kernel
theorem dX12_army_70 : decode cX12_army 70 = .ok (.iconst 1, 1) := by decide +kernel
theorem dX12_army_71 : decode cX12_army 71 = .ok (.iadd, 1) := by decide +kernel
theorem dX12_army_72 : decode cX12_army 72 = .ok (.putfield 267, 3) := by decide +kernel
theorem dX12_army_75 : decode cX12_army 75 = .ok (.goto (-40), 3) := by decide +kernel
theorem dX12_army_78 : decode cX12_army 78 = .ok (.iconst 0, 1) := by decide +kernel
theorem dX12_army_79 : decode cX12_army 79 = .ok (.istore_n 1, 1) := by decide +kernel
theorem dX12_army_80 : decode cX12_army 80 = .ok (.iload_n 1, 1) := by decide +kernel
theorem dX12_army_81 : decode cX12_army 81 = .ok (.sipush 287, 3) := by decide +kernel
theorem dX12_army_84 : decode cX12_army 84 = .ok (.if_icmp .ge 31, 3) := by decide +kernel
theorem dX12_army_87 : decode cX12_army 87 = .ok (.aload_n 0, 1) := by decide +kernel
theorem dX12_army_88 : decode cX12_army 88 = .ok (.getfield 33, 3) := by decide +kernel
theorem dX12_army_91 : decode cX12_army 91 = .ok (.iload_n 1, 1) := by decide +kernel
theorem dX12_army_92 : decode cX12_army 92 = .ok (.iload_n 1, 1) := by decide +kernel
theorem dX12_army_93 : decode cX12_army 93 = .ok (.bipush 61, 2) := by decide +kernel
theorem dX12_army_95 : decode cX12_army 95 = .ok (.if_icmp .ge 12, 3) := by decide +kernel
theorem dX12_army_98 : decode cX12_army 98 = .ok (.aload_n 0, 1) := by decide +kernel
theorem dX12_army_99 : decode cX12_army 99 = .ok (.getfield 37, 3) := by decide +kernel
theorem dX12_army_102 : decode cX12_army 102 = .ok (.iload_n 1, 1) := by decide +kernel
theorem dX12_army_103 : decode cX12_army 103 = .ok (.iaload, 1) := by decide +kernel
theorem dX12_army_104 : decode cX12_army 104 = .ok (.goto 4, 3) := by decide +kernel
theorem dX12_army_107 : decode cX12_army 107 = .ok (.iconst 0, 1) := by decide +kernel
theorem dX12_army_108 : decode cX12_army 108 = .ok (.iastore, 1) := by decide +kernel
theorem dX12_army_109 : decode cX12_army 109 = .ok (.iinc 1 1, 3) := by decide +kernel
theorem dX12_army_112 : decode cX12_army 112 = .ok (.goto (-32), 3) := by decide +kernel
theorem dX12_army_115 : decode cX12_army 115 = .ok (.iconst 0, 1) := by decide +kernel
theorem dX12_army_116 : decode cX12_army 116 = .ok (.istore_n 1, 1) := by decide +kernel
theorem dX12_army_117 : decode cX12_army 117 = .ok (.iload_n 1, 1) := by decide +kernel
theorem dX12_army_118 : decode cX12_army 118 = .ok (.bipush 15, 2) := by decide +kernel
theorem dX12_army_120 : decode cX12_army 120 = .ok (.if_icmp .ge 24, 3) := by decide +kernel
theorem dX12_army_123 : decode cX12_army 123 = .ok (.aload_n 0, 1) := by decide +kernel
theorem dX12_army_124 : decode cX12_army 124 = .ok (.getfield 43, 3) := by decide +kernel
theorem dX12_army_127 : decode cX12_army 127 = .ok (.iload_n 1, 1) := by decide +kernel
theorem dX12_army_128 : decode cX12_army 128 = .ok (.aload_n 0, 1) := by decide +kernel
theorem dX12_army_129 : decode cX12_army 129 = .ok (.getfield 43, 3) := by decide +kernel
theorem dX12_army_132 : decode cX12_army 132 = .ok (.bipush 15, 2) := by decide +kernel
theorem dX12_army_134 : decode cX12_army 134 = .ok (.iload_n 1, 1) := by decide +kernel
theorem dX12_army_135 : decode cX12_army 135 = .ok (.iadd, 1) := by decide +kernel
theorem dX12_army_136 : decode cX12_army 136 = .ok (.laload, 1) := by decide +kernel
theorem dX12_army_137 : decode cX12_army 137 = .ok (.lastore, 1) := by decide +kernel
theorem dX12_army_138 : decode cX12_army 138 = .ok (.iinc 1 1, 3) := by decide +kernel
theorem dX12_army_141 : decode cX12_army 141 = .ok (.goto (-24), 3) := by decide +kernel
theorem dX12_army_144 : decode cX12_army 144 = .ok (.iconst 0, 1) := by decide +kernel
theorem dX12_army_145 : decode cX12_army 145 = .ok (.istore_n 1, 1) := by decide +kernel
theorem dX12_army_146 : decode cX12_army 146 = .ok (.iload_n 1, 1) := by decide +kernel
theorem dX12_army_147 : decode cX12_army 147 = .ok (.bipush 8, 2) := by decide +kernel
theorem dX12_army_149 : decode cX12_army 149 = .ok (.if_icmp .ge 44, 3) := by decide +kernel
theorem dX12_army_152 : decode cX12_army 152 = .ok (.aload_n 0, 1) := by decide +kernel
theorem dX12_army_153 : decode cX12_army 153 = .ok (.getfield 33, 3) := by decide +kernel
theorem dX12_army_156 : decode cX12_army 156 = .ok (.bipush 66, 2) := by decide +kernel
theorem dX12_army_158 : decode cX12_army 158 = .ok (.iload_n 1, 1) := by decide +kernel
theorem dX12_army_159 : decode cX12_army 159 = .ok (.iadd, 1) := by decide +kernel
theorem dX12_army_160 : decode cX12_army 160 = .ok (.aload_n 0, 1) := by decide +kernel
theorem dX12_army_161 : decode cX12_army 161 = .ok (.getfield 33, 3) := by decide +kernel
theorem dX12_army_164 : decode cX12_army 164 = .ok (.iconst 5, 1) := by decide +kernel
theorem dX12_army_165 : decode cX12_army 165 = .ok (.iload_n 1, 1) := by decide +kernel
theorem dX12_army_166 : decode cX12_army 166 = .ok (.iadd, 1) := by decide +kernel
theorem dX12_army_167 : decode cX12_army 167 = .ok (.iaload, 1) := by decide +kernel
theorem dX12_army_168 : decode cX12_army 168 = .ok (.iastore, 1) := by decide +kernel
theorem dX12_army_169 : decode cX12_army 169 = .ok (.aload_n 0, 1) := by decide +kernel
theorem dX12_army_170 : decode cX12_army 170 = .ok (.getfield 33, 3) := by decide +kernel
theorem dX12_army_173 : decode cX12_army 173 = .ok (.bipush 74, 2) := by decide +kernel
theorem dX12_army_175 : decode cX12_army 175 = .ok (.iload_n 1, 1) := by decide +kernel
theorem dX12_army_176 : decode cX12_army 176 = .ok (.iadd, 1) := by decide +kernel
theorem dX12_army_177 : decode cX12_army 177 = .ok (.aload_n 0, 1) := by decide +kernel
theorem dX12_army_178 : decode cX12_army 178 = .ok (.getfield 33, 3) := by decide +kernel
theorem dX12_army_181 : decode cX12_army 181 = .ok (.bipush 13, 2) := by decide +kernel
theorem dX12_army_183 : decode cX12_army 183 = .ok (.iload_n 1, 1) := by decide +kernel
theorem dX12_army_184 : decode cX12_army 184 = .ok (.iadd, 1) := by decide +kernel
theorem dX12_army_185 : decode cX12_army 185 = .ok (.iaload, 1) := by decide +kernel
theorem dX12_army_186 : decode cX12_army 186 = .ok (.iastore, 1) := by decide +kernel
theorem dX12_army_187 : decode cX12_army 187 = .ok (.iinc 1 1, 3) := by decide +kernel
theorem dX12_army_190 : decode cX12_army 190 = .ok (.goto (-44), 3) := by decide +kernel
theorem dX12_army_193 : decode cX12_army 193 = .ok (.aload_n 0, 1) := by decide +kernel
theorem dX12_army_194 : decode cX12_army 194 = .ok (.iconst 0, 1) := by decide +kernel
theorem dX12_army_195 : decode cX12_army 195 = .ok (.putfield 276, 3) := by decide +kernel
theorem dX12_army_198 : decode cX12_army 198 = .ok (.aload_n 0, 1) := by decide +kernel
theorem dX12_army_199 : decode cX12_army 199 = .ok (.getfield 267, 3) := by decide +kernel
theorem dX12_army_202 : decode cX12_army 202 = .ok (.ireturn, 1) := by decide +kernel
theorem dX12_fault_0 : decode cX12_fault 0 = .ok (.aload_n 0, 1) := by decide +kernel
theorem dX12_fault_1 : decode cX12_fault 1 = .ok (.iconst 0, 1) := by decide +kernel
theorem dX12_fault_2 : decode cX12_fault 2 = .ok (.putfield 1, 3) := by decide +kernel
theorem dX12_fault_5 : decode cX12_fault 5 = .ok (.aload_n 0, 1) := by decide +kernel
theorem dX12_fault_6 : decode cX12_fault 6 = .ok (.getfield 191, 3) := by decide +kernel
theorem dX12_fault_9 : decode cX12_fault 9 = .ok (.ireturn, 1) := by decide +kernel
theorem dX12_isMan_0 : decode cX12_isMan 0 = .ok (.iload_n 1, 1) := by decide +kernel
theorem dX12_isMan_1 : decode cX12_isMan 1 = .ok (.iconst 0, 1) := by decide +kernel
theorem dX12_isMan_2 : decode cX12_isMan 2 = .ok (.aload_n 0, 1) := by decide +kernel
theorem dX12_isMan_3 : decode cX12_isMan 3 = .ok (.getfield 33, 3) := by decide +kernel
theorem dX12_isMan_6 : decode cX12_isMan 6 = .ok (.iconst 0, 1) := by decide +kernel
theorem dX12_isMan_7 : decode cX12_isMan 7 = .ok (.iaload, 1) := by decide +kernel
theorem dX12_isMan_8 : decode cX12_isMan 8 = .ok (.iconst 1, 1) := by decide +kernel
theorem dX12_isMan_9 : decode cX12_isMan 9 = .ok (.isub, 1) := by decide +kernel
theorem dX12_isMan_10 : decode cX12_isMan 10 = .ok (.invokestatic 206, 3) := by decide +kernel
theorem dX12_isMan_13 : decode cX12_isMan 13 = .ok (.ireturn, 1) := by decide +kernel
theorem dX12_isOrder_0 : decode cX12_isOrder 0 = .ok (.iload_n 1, 1) := by decide +kernel
theorem dX12_isOrder_1 : decode cX12_isOrder 1 = .ok (.iconst 0, 1) := by decide +kernel
theorem dX12_isOrder_2 : decode cX12_isOrder 2 = .ok (.aload_n 0, 1) := by decide +kernel
theorem dX12_isOrder_3 : decode cX12_isOrder 3 = .ok (.getfield 33, 3) := by decide +kernel
theorem dX12_isOrder_6 : decode cX12_isOrder 6 = .ok (.iconst 1, 1) := by decide +kernel
theorem dX12_isOrder_7 : decode cX12_isOrder 7 = .ok (.iaload, 1) := by decide +kernel
theorem dX12_isOrder_8 : decode cX12_isOrder 8 = .ok (.iconst 1, 1) := by decide +kernel
theorem dX12_isOrder_9 : decode cX12_isOrder 9 = .ok (.isub, 1) := by decide +kernel
theorem dX12_isOrder_10 : decode cX12_isOrder 10 = .ok (.invokestatic 206, 3) := by decide +kernel
theorem dX12_isOrder_13 : decode cX12_isOrder 13 = .ok (.ireturn, 1) := by decide +kernel
theorem dX12_browOf_0 : decode cX12_browOf 0 = .ok (.aload_n 0, 1) := by decide +kernel
theorem dX12_browOf_1 : decode cX12_browOf 1 = .ok (.getfield 33, 3) := by decide +kernel
theorem dX12_browOf_4 : decode cX12_browOf 4 = .ok (.bipush 64, 2) := by decide +kernel
theorem dX12_browOf_6 : decode cX12_browOf 6 = .ok (.iaload, 1) := by decide +kernel
theorem dX12_browOf_7 : decode cX12_browOf 7 = .ok (.iload_n 1, 1) := by decide +kernel
theorem dX12_browOf_8 : decode cX12_browOf 8 = .ok (.invokestatic 231, 3) := by decide +kernel
theorem dX12_browOf_11 : decode cX12_browOf 11 = .ok (.ifCond .eq 22, 3) := by decide +kernel
theorem dX12_browOf_14 : decode cX12_browOf 14 = .ok (.bipush 9, 2) := by decide +kernel
theorem dX12_browOf_16 : decode cX12_browOf 16 = .ok (.aload_n 0, 1) := by decide +kernel
theorem dX12_browOf_17 : decode cX12_browOf 17 = .ok (.getfield 33, 3) := by decide +kernel
theorem dX12_browOf_20 : decode cX12_browOf 20 = .ok (.bipush 21, 2) := by decide +kernel
theorem dX12_browOf_22 : decode cX12_browOf 22 = .ok (.iload_n 1, 1) := by decide +kernel
theorem dX12_browOf_23 : decode cX12_browOf 23 = .ok (.iadd, 1) := by decide +kernel
theorem dX12_browOf_24 : decode cX12_browOf 24 = .ok (.iaload, 1) := by decide +kernel
theorem dX12_browOf_25 : decode cX12_browOf 25 = .ok (.iconst 3, 1) := by decide +kernel
theorem dX12_browOf_26 : decode cX12_browOf 26 = .ok (.iadd, 1) := by decide +kernel
theorem dX12_browOf_27 : decode cX12_browOf 27 = .ok (.invokestatic 279, 3) := by decide +kernel
theorem dX12_browOf_30 : decode cX12_browOf 30 = .ok (.goto 12, 3) := by decide +kernel
theorem dX12_browOf_33 : decode cX12_browOf 33 = .ok (.aload_n 0, 1) := by decide +kernel
theorem dX12_browOf_34 : decode cX12_browOf 34 = .ok (.getfield 33, 3) := by decide +kernel
theorem dX12_browOf_37 : decode cX12_browOf 37 = .ok (.bipush 21, 2) := by decide +kernel
theorem dX12_browOf_39 : decode cX12_browOf 39 = .ok (.iload_n 1, 1) := by decide +kernel
theorem dX12_browOf_40 : decode cX12_browOf 40 = .ok (.iadd, 1) := by decide +kernel
theorem dX12_browOf_41 : decode cX12_browOf 41 = .ok (.iaload, 1) := by decide +kernel
theorem dX12_browOf_42 : decode cX12_browOf 42 = .ok (.ireturn, 1) := by decide +kernel
theorem dX12_farBy_0 : decode cX12_farBy 0 = .ok (.iload_n 0, 1) := by decide +kernel
theorem dX12_farBy_1 : decode cX12_farBy 1 = .ok (.iload_n 2, 1) := by decide +kernel
theorem dX12_farBy_2 : decode cX12_farBy 2 = .ok (.isub, 1) := by decide +kernel
theorem dX12_farBy_3 : decode cX12_farBy 3 = .ok (.invokestatic 282, 3) := by decide +kernel
theorem dX12_farBy_6 : decode cX12_farBy 6 = .ok (.iload_n 1, 1) := by decide +kernel
theorem dX12_farBy_7 : decode cX12_farBy 7 = .ok (.iload_n 3, 1) := by decide +kernel
theorem dX12_farBy_8 : decode cX12_farBy 8 = .ok (.isub, 1) := by decide +kernel
theorem dX12_farBy_9 : decode cX12_farBy 9 = .ok (.invokestatic 282, 3) := by decide +kernel
theorem dX12_farBy_12 : decode cX12_farBy 12 = .ok (.iadd, 1) := by decide +kernel
theorem dX12_farBy_13 : decode cX12_farBy 13 = .ok (.ireturn, 1) := by decide +kernel
theorem dX12_isShown_0 : decode cX12_isShown 0 = .ok (.iload_n 1, 1) := by decide +kernel
theorem dX12_isShown_1 : decode cX12_isShown 1 = .ok (.ifCond .le 27, 3) := by decide +kernel
theorem dX12_isShown_4 : decode cX12_isShown 4 = .ok (.iload_n 2, 1) := by decide +kernel
theorem dX12_isShown_5 : decode cX12_isShown 5 = .ok (.iload_n 3, 1) := by decide +kernel
theorem dX12_isShown_6 : decode cX12_isShown 6 = .ok (.iload 4, 2) := by decide +kernel
theorem dX12_isShown_8 : decode cX12_isShown 8 = .ok (.iload 5, 2) := by decide +kernel
theorem dX12_isShown_10 : decode cX12_isShown 10 = .ok (.invokestatic 286, 3) := by decide +kernel
theorem dX12_isShown_13 : decode cX12_isShown 13 = .ok (.iload_n 1, 1) := by decide +kernel
theorem dX12_isShown_14 : decode cX12_isShown 14 = .ok (.aload_n 0, 1) := by decide +kernel
theorem dX12_isShown_15 : decode cX12_isShown 15 = .ok (.getfield 33, 3) := by decide +kernel
theorem dX12_isShown_18 : decode cX12_isShown 18 = .ok (.iconst 3, 1) := by decide +kernel
theorem dX12_isShown_19 : decode cX12_isShown 19 = .ok (.iaload, 1) := by decide +kernel
theorem dX12_isShown_20 : decode cX12_isShown 20 = .ok (.imul, 1) := by decide +kernel
theorem dX12_isShown_21 : decode cX12_isShown 21 = .ok (.if_icmp .gt 7, 3) := by decide +kernel
theorem dX12_isShown_24 : decode cX12_isShown 24 = .ok (.iconst 1, 1) := by decide +kernel
theorem dX12_isShown_25 : decode cX12_isShown 25 = .ok (.goto 4, 3) := by decide +kernel
theorem dX12_isShown_28 : decode cX12_isShown 28 = .ok (.iconst 0, 1) := by decide +kernel
theorem dX12_isShown_29 : decode cX12_isShown 29 = .ok (.ireturn, 1) := by decide +kernel
theorem dX12_seesOne_0 : decode cX12_seesOne 0 = .ok (.iload_n 1, 1) := by decide +kernel
theorem dX12_seesOne_1 : decode cX12_seesOne 1 = .ok (.iload_n 2, 1) := by decide +kernel
theorem dX12_seesOne_2 : decode cX12_seesOne 2 = .ok (.if_icmp .eq 69, 3) := by decide +kernel
theorem dX12_seesOne_5 : decode cX12_seesOne 5 = .ok (.aload_n 0, 1) := by decide +kernel
theorem dX12_seesOne_6 : decode cX12_seesOne 6 = .ok (.getfield 33, 3) := by decide +kernel
theorem dX12_seesOne_9 : decode cX12_seesOne 9 = .ok (.bipush 63, 2) := by decide +kernel
theorem dX12_seesOne_11 : decode cX12_seesOne 11 = .ok (.iaload, 1) := by decide +kernel
theorem dX12_seesOne_12 : decode cX12_seesOne 12 = .ok (.iload_n 1, 1) := by decide +kernel
theorem dX12_seesOne_13 : decode cX12_seesOne 13 = .ok (.invokestatic 231, 3) := by decide +kernel
theorem dX12_seesOne_16 : decode cX12_seesOne 16 = .ok (.ifCond .ne 55, 3) := by decide +kernel
theorem dX12_seesOne_19 : decode cX12_seesOne 19 = .ok (.aload_n 0, 1) := by decide +kernel
theorem dX12_seesOne_20 : decode cX12_seesOne 20 = .ok (.aload_n 0, 1) := by decide +kernel
theorem dX12_seesOne_21 : decode cX12_seesOne 21 = .ok (.iload_n 2, 1) := by decide +kernel
theorem dX12_seesOne_22 : decode cX12_seesOne 22 = .ok (.invokevirtual 290, 3) := by decide +kernel
theorem dX12_seesOne_25 : decode cX12_seesOne 25 = .ok (.aload_n 0, 1) := by decide +kernel
theorem dX12_seesOne_26 : decode cX12_seesOne 26 = .ok (.getfield 33, 3) := by decide +kernel
theorem dX12_seesOne_29 : decode cX12_seesOne 29 = .ok (.bipush 66, 2) := by decide +kernel
theorem dX12_seesOne_31 : decode cX12_seesOne 31 = .ok (.iload_n 2, 1) := by decide +kernel
theorem dX12_seesOne_32 : decode cX12_seesOne 32 = .ok (.iadd, 1) := by decide +kernel
theorem dX12_seesOne_33 : decode cX12_seesOne 33 = .ok (.iaload, 1) := by decide +kernel
theorem dX12_seesOne_34 : decode cX12_seesOne 34 = .ok (.aload_n 0, 1) := by decide +kernel
theorem dX12_seesOne_35 : decode cX12_seesOne 35 = .ok (.getfield 33, 3) := by decide +kernel
theorem dX12_seesOne_38 : decode cX12_seesOne 38 = .ok (.bipush 74, 2) := by decide +kernel
theorem dX12_seesOne_40 : decode cX12_seesOne 40 = .ok (.iload_n 2, 1) := by decide +kernel
theorem dX12_seesOne_41 : decode cX12_seesOne 41 = .ok (.iadd, 1) := by decide +kernel
theorem dX12_seesOne_42 : decode cX12_seesOne 42 = .ok (.iaload, 1) := by decide +kernel
theorem dX12_seesOne_43 : decode cX12_seesOne 43 = .ok (.aload_n 0, 1) := by decide +kernel
theorem dX12_seesOne_44 : decode cX12_seesOne 44 = .ok (.getfield 33, 3) := by decide +kernel
theorem dX12_seesOne_47 : decode cX12_seesOne 47 = .ok (.bipush 66, 2) := by decide +kernel
theorem dX12_seesOne_49 : decode cX12_seesOne 49 = .ok (.iload_n 1, 1) := by decide +kernel
theorem dX12_seesOne_50 : decode cX12_seesOne 50 = .ok (.iadd, 1) := by decide +kernel
theorem dX12_seesOne_51 : decode cX12_seesOne 51 = .ok (.iaload, 1) := by decide +kernel
theorem dX12_seesOne_52 : decode cX12_seesOne 52 = .ok (.aload_n 0, 1) := by decide +kernel
theorem dX12_seesOne_53 : decode cX12_seesOne 53 = .ok (.getfield 33, 3) := by decide +kernel
theorem dX12_seesOne_56 : decode cX12_seesOne 56 = .ok (.bipush 74, 2) := by decide +kernel
theorem dX12_seesOne_58 : decode cX12_seesOne 58 = .ok (.iload_n 1, 1) := by decide +kernel
theorem dX12_seesOne_59 : decode cX12_seesOne 59 = .ok (.iadd, 1) := by decide +kernel
theorem dX12_seesOne_60 : decode cX12_seesOne 60 = .ok (.iaload, 1) := by decide +kernel
theorem dX12_seesOne_61 : decode cX12_seesOne 61 = .ok (.invokevirtual 293, 3) := by decide +kernel
theorem dX12_seesOne_64 : decode cX12_seesOne 64 = .ok (.ifCond .eq 7, 3) := by decide +kernel
theorem dX12_seesOne_67 : decode cX12_seesOne 67 = .ok (.iconst 1, 1) := by decide +kernel
theorem dX12_seesOne_68 : decode cX12_seesOne 68 = .ok (.goto 4, 3) := by decide +kernel
theorem dX12_seesOne_71 : decode cX12_seesOne 71 = .ok (.iconst 0, 1) := by decide +kernel
theorem dX12_seesOne_72 : decode cX12_seesOne 72 = .ok (.ireturn, 1) := by decide +kernel
theorem dX12_readsOne_0 : decode cX12_readsOne 0 = .ok (.aload_n 0, 1) := by decide +kernel
theorem dX12_readsOne_1 : decode cX12_readsOne 1 = .ok (.getfield 33, 3) := by decide +kernel
theorem dX12_readsOne_4 : decode cX12_readsOne 4 = .ok (.bipush 31, 2) := by decide +kernel
theorem dX12_readsOne_6 : decode cX12_readsOne 6 = .ok (.iload_n 1, 1) := by decide +kernel
theorem dX12_readsOne_7 : decode cX12_readsOne 7 = .ok (.iadd, 1) := by decide +kernel
theorem dX12_readsOne_8 : decode cX12_readsOne 8 = .ok (.iaload, 1) := by decide +kernel
theorem dX12_readsOne_9 : decode cX12_readsOne 9 = .ok (.iload_n 2, 1) := by decide +kernel
theorem dX12_readsOne_10 : decode cX12_readsOne 10 = .ok (.iconst 1, 1) := by decide +kernel
theorem dX12_readsOne_11 : decode cX12_readsOne 11 = .ok (.iadd, 1) := by decide +kernel
theorem dX12_readsOne_12 : decode cX12_readsOne 12 = .ok (.if_icmp .ne 16, 3) := by decide +kernel
theorem dX12_readsOne_15 : decode cX12_readsOne 15 = .ok (.aload_n 0, 1) := by decide +kernel
theorem dX12_readsOne_16 : decode cX12_readsOne 16 = .ok (.iload_n 1, 1) := by decide +kernel
theorem dX12_readsOne_17 : decode cX12_readsOne 17 = .ok (.iload_n 2, 1) := by decide +kernel
theorem dX12_readsOne_18 : decode cX12_readsOne 18 = .ok (.invokevirtual 297, 3) := by decide +kernel
theorem dX12_readsOne_21 : decode cX12_readsOne 21 = .ok (.ifCond .eq 7, 3) := by decide +kernel
theorem dX12_readsOne_24 : decode cX12_readsOne 24 = .ok (.iconst 1, 1) := by decide +kernel
theorem dX12_readsOne_25 : decode cX12_readsOne 25 = .ok (.goto 4, 3) := by decide +kernel
theorem dX12_readsOne_28 : decode cX12_readsOne 28 = .ok (.iconst 0, 1) := by decide +kernel
theorem dX12_readsOne_29 : decode cX12_readsOne 29 = .ok (.ireturn, 1) := by decide +kernel
theorem dX12_readersOf_0 : decode cX12_readersOf 0 = .ok (.iconst 0, 1) := by decide +kernel
theorem dX12_readersOf_1 : decode cX12_readersOf 1 = .ok (.istore_n 2, 1) := by decide +kernel
theorem dX12_readersOf_2 : decode cX12_readersOf 2 = .ok (.iconst 0, 1) := by decide +kernel
theorem dX12_readersOf_3 : decode cX12_readersOf 3 = .ok (.istore_n 3, 1) := by decide +kernel
theorem dX12_readersOf_4 : decode cX12_readersOf 4 = .ok (.iload_n 3, 1) := by decide +kernel
theorem dX12_readersOf_5 : decode cX12_readersOf 5 = .ok (.aload_n 0, 1) := by decide +kernel
theorem dX12_readersOf_6 : decode cX12_readersOf 6 = .ok (.getfield 33, 3) := by decide +kernel
theorem dX12_readersOf_9 : decode cX12_readersOf 9 = .ok (.iconst 0, 1) := by decide +kernel
theorem dX12_readersOf_10 : decode cX12_readersOf 10 = .ok (.iaload, 1) := by decide +kernel
theorem dX12_readersOf_11 : decode cX12_readersOf 11 = .ok (.if_icmp .ge 28, 3) := by decide +kernel
theorem dX12_readersOf_14 : decode cX12_readersOf 14 = .ok (.iload_n 2, 1) := by decide +kernel
theorem dX12_readersOf_15 : decode cX12_readersOf 15 = .ok (.aload_n 0, 1) := by decide +kernel
theorem dX12_readersOf_16 : decode cX12_readersOf 16 = .ok (.iload_n 3, 1) := by decide +kernel
theorem dX12_readersOf_17 : decode cX12_readersOf 17 = .ok (.iload_n 1, 1) := by decide +kernel
theorem dX12_readersOf_18 : decode cX12_readersOf 18 = .ok (.invokevirtual 300, 3) := by decide +kernel
theorem dX12_readersOf_21 : decode cX12_readersOf 21 = .ok (.ifCond .eq 9, 3) := by decide +kernel
theorem dX12_readersOf_24 : decode cX12_readersOf 24 = .ok (.iconst 1, 1) := by decide +kernel
theorem dX12_readersOf_25 : decode cX12_readersOf 25 = .ok (.iload_n 3, 1) := by decide +kernel
theorem dX12_readersOf_26 : decode cX12_readersOf 26 = .ok (.ishl, 1) := by decide +kernel
theorem dX12_readersOf_27 : decode cX12_readersOf 27 = .ok (.goto 4, 3) := by decide +kernel
theorem dX12_readersOf_30 : decode cX12_readersOf 30 = .ok (.iconst 0, 1) := by decide +kernel
theorem dX12_readersOf_31 : decode cX12_readersOf 31 = .ok (.ior, 1) := by decide +kernel
theorem dX12_readersOf_32 : decode cX12_readersOf 32 = .ok (.istore_n 2, 1) := by decide +kernel
theorem dX12_readersOf_33 : decode cX12_readersOf 33 = .ok (.iinc 3 1, 3) := by decide +kernel
theorem dX12_readersOf_36 : decode cX12_readersOf 36 = .ok (.goto (-32), 3) := by decide +kernel
theorem dX12_readersOf_39 : decode cX12_readersOf 39 = .ok (.iload_n 2, 1) := by decide +kernel
theorem dX12_readersOf_40 : decode cX12_readersOf 40 = .ok (.ireturn, 1) := by decide +kernel
theorem dX12_seenBy_0 : decode cX12_seenBy 0 = .ok (.iconst 0, 1) := by decide +kernel
theorem dX12_seenBy_1 : decode cX12_seenBy 1 = .ok (.istore_n 2, 1) := by decide +kernel
theorem dX12_seenBy_2 : decode cX12_seenBy 2 = .ok (.iconst 0, 1) := by decide +kernel
theorem dX12_seenBy_3 : decode cX12_seenBy 3 = .ok (.istore_n 3, 1) := by decide +kernel
theorem dX12_seenBy_4 : decode cX12_seenBy 4 = .ok (.iload_n 3, 1) := by decide +kernel
theorem dX12_seenBy_5 : decode cX12_seenBy 5 = .ok (.aload_n 0, 1) := by decide +kernel
theorem dX12_seenBy_6 : decode cX12_seenBy 6 = .ok (.getfield 33, 3) := by decide +kernel
theorem dX12_seenBy_9 : decode cX12_seenBy 9 = .ok (.iconst 0, 1) := by decide +kernel
theorem dX12_seenBy_10 : decode cX12_seenBy 10 = .ok (.iaload, 1) := by decide +kernel
theorem dX12_seenBy_11 : decode cX12_seenBy 11 = .ok (.if_icmp .ge 28, 3) := by decide +kernel
theorem dX12_seenBy_14 : decode cX12_seenBy 14 = .ok (.iload_n 2, 1) := by decide +kernel
theorem dX12_seenBy_15 : decode cX12_seenBy 15 = .ok (.aload_n 0, 1) := by decide +kernel
theorem dX12_seenBy_16 : decode cX12_seenBy 16 = .ok (.iload_n 1, 1) := by decide +kernel
theorem dX12_seenBy_17 : decode cX12_seenBy 17 = .ok (.iload_n 3, 1) := by decide +kernel
theorem dX12_seenBy_18 : decode cX12_seenBy 18 = .ok (.invokevirtual 297, 3) := by decide +kernel
theorem dX12_seenBy_21 : decode cX12_seenBy 21 = .ok (.ifCond .eq 9, 3) := by decide +kernel
theorem dX12_seenBy_24 : decode cX12_seenBy 24 = .ok (.iconst 1, 1) := by decide +kernel
theorem dX12_seenBy_25 : decode cX12_seenBy 25 = .ok (.iload_n 3, 1) := by decide +kernel
theorem dX12_seenBy_26 : decode cX12_seenBy 26 = .ok (.ishl, 1) := by decide +kernel
theorem dX12_seenBy_27 : decode cX12_seenBy 27 = .ok (.goto 4, 3) := by decide +kernel
theorem dX12_seenBy_30 : decode cX12_seenBy 30 = .ok (.iconst 0, 1) := by decide +kernel
theorem dX12_seenBy_31 : decode cX12_seenBy 31 = .ok (.ior, 1) := by decide +kernel
theorem dX12_seenBy_32 : decode cX12_seenBy 32 = .ok (.istore_n 2, 1) := by decide +kernel
theorem dX12_seenBy_33 : decode cX12_seenBy 33 = .ok (.iinc 3 1, 3) := by decide +kernel
theorem dX12_seenBy_36 : decode cX12_seenBy 36 = .ok (.goto (-32), 3) := by decide +kernel
theorem dX12_seenBy_39 : decode cX12_seenBy 39 = .ok (.iload_n 2, 1) := by decide +kernel
theorem dX12_seenBy_40 : decode cX12_seenBy 40 = .ok (.ireturn, 1) := by decide +kernel
theorem dX12_foesOf_0 : decode cX12_foesOf 0 = .ok (.iconst 0, 1) := by decide +kernel
theorem dX12_foesOf_1 : decode cX12_foesOf 1 = .ok (.istore 4, 2) := by decide +kernel
theorem dX12_foesOf_3 : decode cX12_foesOf 3 = .ok (.iconst 0, 1) := by decide +kernel
theorem dX12_foesOf_4 : decode cX12_foesOf 4 = .ok (.istore 5, 2) := by decide +kernel
theorem dX12_foesOf_6 : decode cX12_foesOf 6 = .ok (.iload 5, 2) := by decide +kernel
theorem dX12_foesOf_8 : decode cX12_foesOf 8 = .ok (.aload_n 0, 1) := by decide +kernel
theorem dX12_foesOf_9 : decode cX12_foesOf 9 = .ok (.getfield 33, 3) := by decide +kernel
theorem dX12_foesOf_12 : decode cX12_foesOf 12 = .ok (.iconst 2, 1) := by decide +kernel
theorem dX12_foesOf_13 : decode cX12_foesOf 13 = .ok (.iaload, 1) := by decide +kernel
theorem dX12_foesOf_14 : decode cX12_foesOf 14 = .ok (.if_icmp .ge 56, 3) := by decide +kernel
theorem dX12_foesOf_17 : decode cX12_foesOf 17 = .ok (.iload 4, 2) := by decide +kernel
theorem dX12_foesOf_19 : decode cX12_foesOf 19 = .ok (.aload_n 0, 1) := by decide +kernel
theorem dX12_foesOf_20 : decode cX12_foesOf 20 = .ok (.aload_n 0, 1) := by decide +kernel
theorem dX12_foesOf_21 : decode cX12_foesOf 21 = .ok (.iload_n 1, 1) := by decide +kernel
theorem dX12_foesOf_22 : decode cX12_foesOf 22 = .ok (.invokevirtual 290, 3) := by decide +kernel
theorem dX12_foesOf_25 : decode cX12_foesOf 25 = .ok (.iload_n 2, 1) := by decide +kernel
theorem dX12_foesOf_26 : decode cX12_foesOf 26 = .ok (.iload_n 3, 1) := by decide +kernel
theorem dX12_foesOf_27 : decode cX12_foesOf 27 = .ok (.aload_n 0, 1) := by decide +kernel
theorem dX12_foesOf_28 : decode cX12_foesOf 28 = .ok (.getfield 33, 3) := by decide +kernel
theorem dX12_foesOf_31 : decode cX12_foesOf 31 = .ok (.bipush 53, 2) := by decide +kernel
theorem dX12_foesOf_33 : decode cX12_foesOf 33 = .ok (.iload 5, 2) := by decide +kernel
theorem dX12_foesOf_35 : decode cX12_foesOf 35 = .ok (.iadd, 1) := by decide +kernel
theorem dX12_foesOf_36 : decode cX12_foesOf 36 = .ok (.iaload, 1) := by decide +kernel
theorem dX12_foesOf_37 : decode cX12_foesOf 37 = .ok (.aload_n 0, 1) := by decide +kernel
theorem dX12_foesOf_38 : decode cX12_foesOf 38 = .ok (.getfield 33, 3) := by decide +kernel
theorem dX12_foesOf_41 : decode cX12_foesOf 41 = .ok (.bipush 57, 2) := by decide +kernel
theorem dX12_foesOf_43 : decode cX12_foesOf 43 = .ok (.iload 5, 2) := by decide +kernel
theorem dX12_foesOf_45 : decode cX12_foesOf 45 = .ok (.iadd, 1) := by decide +kernel
theorem dX12_foesOf_46 : decode cX12_foesOf 46 = .ok (.iaload, 1) := by decide +kernel
theorem dX12_foesOf_47 : decode cX12_foesOf 47 = .ok (.invokevirtual 293, 3) := by decide +kernel
theorem dX12_foesOf_50 : decode cX12_foesOf 50 = .ok (.ifCond .eq 10, 3) := by decide +kernel
theorem dX12_foesOf_53 : decode cX12_foesOf 53 = .ok (.iconst 1, 1) := by decide +kernel
theorem dX12_foesOf_54 : decode cX12_foesOf 54 = .ok (.iload 5, 2) := by decide +kernel
theorem dX12_foesOf_56 : decode cX12_foesOf 56 = .ok (.ishl, 1) := by decide +kernel
theorem dX12_foesOf_57 : decode cX12_foesOf 57 = .ok (.goto 4, 3) := by decide +kernel
theorem dX12_foesOf_60 : decode cX12_foesOf 60 = .ok (.iconst 0, 1) := by decide +kernel
theorem dX12_foesOf_61 : decode cX12_foesOf 61 = .ok (.ior, 1) := by decide +kernel
theorem dX12_foesOf_62 : decode cX12_foesOf 62 = .ok (.istore 4, 2) := by decide +kernel
theorem dX12_foesOf_64 : decode cX12_foesOf 64 = .ok (.iinc 5 1, 3) := by decide +kernel
theorem dX12_foesOf_67 : decode cX12_foesOf 67 = .ok (.goto (-61), 3) := by decide +kernel
theorem dX12_foesOf_70 : decode cX12_foesOf 70 = .ok (.iload 4, 2) := by decide +kernel
theorem dX12_foesOf_72 : decode cX12_foesOf 72 = .ok (.ireturn, 1) := by decide +kernel
theorem dX12_allUnder_0 : decode cX12_allUnder 0 = .ok (.iconst 0, 1) := by decide +kernel
theorem dX12_allUnder_1 : decode cX12_allUnder 1 = .ok (.istore_n 2, 1) := by decide +kernel
theorem dX12_allUnder_2 : decode cX12_allUnder 2 = .ok (.iconst 0, 1) := by decide +kernel
theorem dX12_allUnder_3 : decode cX12_allUnder 3 = .ok (.istore_n 3, 1) := by decide +kernel
theorem dX12_allUnder_4 : decode cX12_allUnder 4 = .ok (.iload_n 3, 1) := by decide +kernel
theorem dX12_allUnder_5 : decode cX12_allUnder 5 = .ok (.aload_n 0, 1) := by decide +kernel
theorem dX12_allUnder_6 : decode cX12_allUnder 6 = .ok (.getfield 33, 3) := by decide +kernel
theorem dX12_allUnder_9 : decode cX12_allUnder 9 = .ok (.iconst 0, 1) := by decide +kernel
theorem dX12_allUnder_10 : decode cX12_allUnder 10 = .ok (.iaload, 1) := by decide +kernel
theorem dX12_allUnder_11 : decode cX12_allUnder 11 = .ok (.if_icmp .ge 60, 3) := by decide +kernel
theorem dX12_allUnder_14 : decode cX12_allUnder 14 = .ok (.aload_n 0, 1) := by decide +kernel
theorem dX12_allUnder_15 : decode cX12_allUnder 15 = .ok (.getfield 33, 3) := by decide +kernel
theorem dX12_allUnder_18 : decode cX12_allUnder 18 = .ok (.bipush 31, 2) := by decide +kernel
theorem dX12_allUnder_20 : decode cX12_allUnder 20 = .ok (.iload_n 3, 1) := by decide +kernel
theorem dX12_allUnder_21 : decode cX12_allUnder 21 = .ok (.iadd, 1) := by decide +kernel
theorem dX12_allUnder_22 : decode cX12_allUnder 22 = .ok (.iaload, 1) := by decide +kernel
theorem dX12_allUnder_23 : decode cX12_allUnder 23 = .ok (.iconst 1, 1) := by decide +kernel
theorem dX12_allUnder_24 : decode cX12_allUnder 24 = .ok (.isub, 1) := by decide +kernel
theorem dX12_allUnder_25 : decode cX12_allUnder 25 = .ok (.istore 4, 2) := by decide +kernel
theorem dX12_allUnder_27 : decode cX12_allUnder 27 = .ok (.iload 4, 2) := by decide +kernel
theorem dX12_allUnder_29 : decode cX12_allUnder 29 = .ok (.ifCond .lt 36, 3) := by decide +kernel
theorem dX12_allUnder_32 : decode cX12_allUnder 32 = .ok (.iload_n 2, 1) := by decide +kernel
theorem dX12_allUnder_33 : decode cX12_allUnder 33 = .ok (.iload 4, 2) := by decide +kernel
theorem dX12_allUnder_35 : decode cX12_allUnder 35 = .ok (.iload_n 1, 1) := by decide +kernel
theorem dX12_allUnder_36 : decode cX12_allUnder 36 = .ok (.if_icmp .ne 9, 3) := by decide +kernel
theorem dX12_allUnder_39 : decode cX12_allUnder 39 = .ok (.iconst 1, 1) := by decide +kernel
theorem dX12_allUnder_40 : decode cX12_allUnder 40 = .ok (.iload_n 3, 1) := by decide +kernel
theorem dX12_allUnder_41 : decode cX12_allUnder 41 = .ok (.ishl, 1) := by decide +kernel
theorem dX12_allUnder_42 : decode cX12_allUnder 42 = .ok (.goto 4, 3) := by decide +kernel
theorem dX12_allUnder_45 : decode cX12_allUnder 45 = .ok (.iconst 0, 1) := by decide +kernel
theorem dX12_allUnder_46 : decode cX12_allUnder 46 = .ok (.ior, 1) := by decide +kernel
theorem dX12_allUnder_47 : decode cX12_allUnder 47 = .ok (.istore_n 2, 1) := by decide +kernel
theorem dX12_allUnder_48 : decode cX12_allUnder 48 = .ok (.aload_n 0, 1) := by decide +kernel
theorem dX12_allUnder_49 : decode cX12_allUnder 49 = .ok (.getfield 33, 3) := by decide +kernel
theorem dX12_allUnder_52 : decode cX12_allUnder 52 = .ok (.bipush 31, 2) := by decide +kernel
theorem dX12_allUnder_54 : decode cX12_allUnder 54 = .ok (.iload 4, 2) := by decide +kernel
theorem dX12_allUnder_56 : decode cX12_allUnder 56 = .ok (.iadd, 1) := by decide +kernel
theorem dX12_allUnder_57 : decode cX12_allUnder 57 = .ok (.iaload, 1) := by decide +kernel
theorem dX12_allUnder_58 : decode cX12_allUnder 58 = .ok (.iconst 1, 1) := by decide +kernel
theorem dX12_allUnder_59 : decode cX12_allUnder 59 = .ok (.isub, 1) := by decide +kernel
theorem dX12_allUnder_60 : decode cX12_allUnder 60 = .ok (.istore 4, 2) := by decide +kernel
theorem dX12_allUnder_62 : decode cX12_allUnder 62 = .ok (.goto (-35), 3) := by decide +kernel
theorem dX12_allUnder_65 : decode cX12_allUnder 65 = .ok (.iinc 3 1, 3) := by decide +kernel
theorem dX12_allUnder_68 : decode cX12_allUnder 68 = .ok (.goto (-64), 3) := by decide +kernel
theorem dX12_allUnder_71 : decode cX12_allUnder 71 = .ok (.iload_n 2, 1) := by decide +kernel
theorem dX12_allUnder_72 : decode cX12_allUnder 72 = .ok (.ireturn, 1) := by decide +kernel
theorem dX12_havers_0 : decode cX12_havers 0 = .ok (.iconst 0, 1) := by decide +kernel
theorem dX12_havers_1 : decode cX12_havers 1 = .ok (.istore_n 2, 1) := by decide +kernel
theorem dX12_havers_2 : decode cX12_havers 2 = .ok (.iconst 0, 1) := by decide +kernel
theorem dX12_havers_3 : decode cX12_havers 3 = .ok (.istore_n 3, 1) := by decide +kernel
theorem dX12_havers_4 : decode cX12_havers 4 = .ok (.iload_n 3, 1) := by decide +kernel
theorem dX12_havers_5 : decode cX12_havers 5 = .ok (.aload_n 0, 1) := by decide +kernel
theorem dX12_havers_6 : decode cX12_havers 6 = .ok (.getfield 33, 3) := by decide +kernel
theorem dX12_havers_9 : decode cX12_havers 9 = .ok (.iconst 0, 1) := by decide +kernel
theorem dX12_havers_10 : decode cX12_havers 10 = .ok (.iaload, 1) := by decide +kernel
theorem dX12_havers_11 : decode cX12_havers 11 = .ok (.if_icmp .ge 34, 3) := by decide +kernel
theorem dX12_havers_14 : decode cX12_havers 14 = .ok (.iload_n 2, 1) := by decide +kernel
theorem dX12_havers_15 : decode cX12_havers 15 = .ok (.aload_n 0, 1) := by decide +kernel
theorem dX12_havers_16 : decode cX12_havers 16 = .ok (.getfield 33, 3) := by decide +kernel
theorem dX12_havers_19 : decode cX12_havers 19 = .ok (.bipush 90, 2) := by decide +kernel
theorem dX12_havers_21 : decode cX12_havers 21 = .ok (.iload_n 3, 1) := by decide +kernel
theorem dX12_havers_22 : decode cX12_havers 22 = .ok (.iadd, 1) := by decide +kernel
theorem dX12_havers_23 : decode cX12_havers 23 = .ok (.iaload, 1) := by decide +kernel
theorem dX12_havers_24 : decode cX12_havers 24 = .ok (.iload_n 1, 1) := by decide +kernel
theorem dX12_havers_25 : decode cX12_havers 25 = .ok (.iconst 1, 1) := by decide +kernel
theorem dX12_havers_26 : decode cX12_havers 26 = .ok (.iadd, 1) := by decide +kernel
theorem dX12_havers_27 : decode cX12_havers 27 = .ok (.if_icmp .ne 9, 3) := by decide +kernel
theorem dX12_havers_30 : decode cX12_havers 30 = .ok (.iconst 1, 1) := by decide +kernel
theorem dX12_havers_31 : decode cX12_havers 31 = .ok (.iload_n 3, 1) := by decide +kernel
theorem dX12_havers_32 : decode cX12_havers 32 = .ok (.ishl, 1) := by decide +kernel
theorem dX12_havers_33 : decode cX12_havers 33 = .ok (.goto 4, 3) := by decide +kernel
theorem dX12_havers_36 : decode cX12_havers 36 = .ok (.iconst 0, 1) := by decide +kernel
theorem dX12_havers_37 : decode cX12_havers 37 = .ok (.ior, 1) := by decide +kernel
theorem dX12_havers_38 : decode cX12_havers 38 = .ok (.istore_n 2, 1) := by decide +kernel
theorem dX12_havers_39 : decode cX12_havers 39 = .ok (.iinc 3 1, 3) := by decide +kernel
theorem dX12_havers_42 : decode cX12_havers 42 = .ok (.goto (-38), 3) := by decide +kernel
theorem dX12_havers_45 : decode cX12_havers 45 = .ok (.iload_n 2, 1) := by decide +kernel
theorem dX12_havers_46 : decode cX12_havers 46 = .ok (.ireturn, 1) := by decide +kernel
theorem dX12_orderly_0 : decode cX12_orderly 0 = .ok (.iconst 0, 1) := by decide +kernel
theorem dX12_orderly_1 : decode cX12_orderly 1 = .ok (.istore_n 1, 1) := by decide +kernel
theorem dX12_orderly_2 : decode cX12_orderly 2 = .ok (.iconst 0, 1) := by decide +kernel
theorem dX12_orderly_3 : decode cX12_orderly 3 = .ok (.istore_n 2, 1) := by decide +kernel
theorem dX12_orderly_4 : decode cX12_orderly 4 = .ok (.iload_n 2, 1) := by decide +kernel
theorem dX12_orderly_5 : decode cX12_orderly 5 = .ok (.aload_n 0, 1) := by decide +kernel
theorem dX12_orderly_6 : decode cX12_orderly 6 = .ok (.getfield 33, 3) := by decide +kernel
theorem dX12_orderly_9 : decode cX12_orderly 9 = .ok (.iconst 0, 1) := by decide +kernel
theorem dX12_orderly_10 : decode cX12_orderly 10 = .ok (.iaload, 1) := by decide +kernel
theorem dX12_orderly_11 : decode cX12_orderly 11 = .ok (.if_icmp .ge 31, 3) := by decide +kernel
theorem dX12_orderly_14 : decode cX12_orderly 14 = .ok (.iload_n 1, 1) := by decide +kernel
theorem dX12_orderly_15 : decode cX12_orderly 15 = .ok (.aload_n 0, 1) := by decide +kernel
theorem dX12_orderly_16 : decode cX12_orderly 16 = .ok (.getfield 33, 3) := by decide +kernel
theorem dX12_orderly_19 : decode cX12_orderly 19 = .ok (.bipush 90, 2) := by decide +kernel
theorem dX12_orderly_21 : decode cX12_orderly 21 = .ok (.iload_n 2, 1) := by decide +kernel
theorem dX12_orderly_22 : decode cX12_orderly 22 = .ok (.iadd, 1) := by decide +kernel
theorem dX12_orderly_23 : decode cX12_orderly 23 = .ok (.iaload, 1) := by decide +kernel
theorem dX12_orderly_24 : decode cX12_orderly 24 = .ok (.ifCond .le 9, 3) := by decide +kernel
theorem dX12_orderly_27 : decode cX12_orderly 27 = .ok (.iconst 1, 1) := by decide +kernel
theorem dX12_orderly_28 : decode cX12_orderly 28 = .ok (.iload_n 2, 1) := by decide +kernel
theorem dX12_orderly_29 : decode cX12_orderly 29 = .ok (.ishl, 1) := by decide +kernel
theorem dX12_orderly_30 : decode cX12_orderly 30 = .ok (.goto 4, 3) := by decide +kernel
theorem dX12_orderly_33 : decode cX12_orderly 33 = .ok (.iconst 0, 1) := by decide +kernel
theorem dX12_orderly_34 : decode cX12_orderly 34 = .ok (.ior, 1) := by decide +kernel
theorem dX12_orderly_35 : decode cX12_orderly 35 = .ok (.istore_n 1, 1) := by decide +kernel
theorem dX12_orderly_36 : decode cX12_orderly 36 = .ok (.iinc 2 1, 3) := by decide +kernel
theorem dX12_orderly_39 : decode cX12_orderly 39 = .ok (.goto (-35), 3) := by decide +kernel
theorem dX12_orderly_42 : decode cX12_orderly 42 = .ok (.iload_n 1, 1) := by decide +kernel
theorem dX12_orderly_43 : decode cX12_orderly 43 = .ok (.ireturn, 1) := by decide +kernel
theorem dX12_man_0 : decode cX12_man 0 = .ok (.aload_n 0, 1) := by decide +kernel
theorem dX12_man_1 : decode cX12_man 1 = .ok (.aload_n 0, 1) := by decide +kernel
theorem dX12_man_2 : decode cX12_man 2 = .ok (.iload_n 1, 1) := by decide +kernel
theorem dX12_man_3 : decode cX12_man 3 = .ok (.invokevirtual 303, 3) := by decide +kernel
theorem dX12_man_6 : decode cX12_man 6 = .ok (.ifCond .eq 13, 3) := by decide +kernel
theorem dX12_man_9 : decode cX12_man 9 = .ok (.iload_n 2, 1) := by decide +kernel
theorem dX12_man_10 : decode cX12_man 10 = .ok (.iconst 0, 1) := by decide +kernel
theorem dX12_man_11 : decode cX12_man 11 = .ok (.bipush 9, 2) := by decide +kernel
theorem dX12_man_13 : decode cX12_man 13 = .ok (.invokestatic 206, 3) := by decide +kernel
theorem dX12_man_16 : decode cX12_man 16 = .ok (.ifCond .ne 7, 3) := by decide +kernel
theorem dX12_man_19 : decode cX12_man 19 = .ok (.iconst 1, 1) := by decide +kernel
theorem dX12_man_20 : decode cX12_man 20 = .ok (.goto 4, 3) := by decide +kernel
theorem dX12_man_23 : decode cX12_man 23 = .ok (.iconst 0, 1) := by decide +kernel
theorem dX12_man_24 : decode cX12_man 24 = .ok (.invokevirtual 306, 3) := by decide +kernel
theorem dX12_man_27 : decode cX12_man 27 = .ok (.ifCond .eq 5, 3) := by decide +kernel
theorem dX12_man_30 : decode cX12_man 30 = .ok (.iconst 0, 1) := by decide +kernel
theorem dX12_man_31 : decode cX12_man 31 = .ok (.ireturn, 1) := by decide +kernel
theorem dX12_man_32 : decode cX12_man 32 = .ok (.iload_n 2, 1) := by decide +kernel
theorem dX12_man_33 : decode cX12_man 33 = .ok (.tableswitch 145 0 8 #[51, 61, 71, 77, 89, 101, 111, 123, 135], 51) := by decide +kernel
theorem dX12_man_84 : decode cX12_man 84 = .ok (.aload_n 0, 1) := by decide +kernel
theorem dX12_man_85 : decode cX12_man 85 = .ok (.getfield 33, 3) := by decide +kernel
theorem dX12_man_88 : decode cX12_man 88 = .ok (.bipush 66, 2) := by decide +kernel
theorem dX12_man_90 : decode cX12_man 90 = .ok (.iload_n 1, 1) := by decide +kernel
theorem dX12_man_91 : decode cX12_man 91 = .ok (.iadd, 1) := by decide +kernel
theorem dX12_man_92 : decode cX12_man 92 = .ok (.iaload, 1) := by decide +kernel
theorem dX12_man_93 : decode cX12_man 93 = .ok (.ireturn, 1) := by decide +kernel
theorem dX12_man_94 : decode cX12_man 94 = .ok (.aload_n 0, 1) := by decide +kernel
theorem dX12_man_95 : decode cX12_man 95 = .ok (.getfield 33, 3) := by decide +kernel
theorem dX12_man_98 : decode cX12_man 98 = .ok (.bipush 74, 2) := by decide +kernel
theorem dX12_man_100 : decode cX12_man 100 = .ok (.iload_n 1, 1) := by decide +kernel
theorem dX12_man_101 : decode cX12_man 101 = .ok (.iadd, 1) := by decide +kernel
theorem dX12_man_102 : decode cX12_man 102 = .ok (.iaload, 1) := by decide +kernel
theorem dX12_man_103 : decode cX12_man 103 = .ok (.ireturn, 1) := by decide +kernel
theorem dX12_man_104 : decode cX12_man 104 = .ok (.aload_n 0, 1) := by decide +kernel
theorem dX12_man_105 : decode cX12_man 105 = .ok (.iload_n 1, 1) := by decide +kernel
theorem dX12_man_106 : decode cX12_man 106 = .ok (.invokevirtual 290, 3) := by decide +kernel
theorem dX12_man_109 : decode cX12_man 109 = .ok (.ireturn, 1) := by decide +kernel
theorem dX12_man_110 : decode cX12_man 110 = .ok (.aload_n 0, 1) := by decide +kernel
theorem dX12_man_111 : decode cX12_man 111 = .ok (.getfield 33, 3) := by decide +kernel
theorem dX12_man_114 : decode cX12_man 114 = .ok (.bipush 63, 2) := by decide +kernel
theorem dX12_man_116 : decode cX12_man 116 = .ok (.iaload, 1) := by decide +kernel
theorem dX12_man_117 : decode cX12_man 117 = .ok (.iload_n 1, 1) := by decide +kernel
theorem dX12_man_118 : decode cX12_man 118 = .ok (.ishr, 1) := by decide +kernel
theorem dX12_man_119 : decode cX12_man 119 = .ok (.iconst 1, 1) := by decide +kernel
theorem dX12_man_120 : decode cX12_man 120 = .ok (.iand, 1) := by decide +kernel
theorem dX12_man_121 : decode cX12_man 121 = .ok (.ireturn, 1) := by decide +kernel
theorem dX12_man_122 : decode cX12_man 122 = .ok (.aload_n 0, 1) := by decide +kernel
theorem dX12_man_123 : decode cX12_man 123 = .ok (.getfield 33, 3) := by decide +kernel
theorem dX12_man_126 : decode cX12_man 126 = .ok (.bipush 64, 2) := by decide +kernel
theorem dX12_man_128 : decode cX12_man 128 = .ok (.iaload, 1) := by decide +kernel
theorem dX12_man_129 : decode cX12_man 129 = .ok (.iload_n 1, 1) := by decide +kernel
theorem dX12_man_130 : decode cX12_man 130 = .ok (.ishr, 1) := by decide +kernel
theorem dX12_man_131 : decode cX12_man 131 = .ok (.iconst 1, 1) := by decide +kernel
theorem dX12_man_132 : decode cX12_man 132 = .ok (.iand, 1) := by decide +kernel
theorem dX12_man_133 : decode cX12_man 133 = .ok (.ireturn, 1) := by decide +kernel
theorem dX12_man_134 : decode cX12_man 134 = .ok (.aload_n 0, 1) := by decide +kernel
theorem dX12_man_135 : decode cX12_man 135 = .ok (.getfield 33, 3) := by decide +kernel
theorem dX12_man_138 : decode cX12_man 138 = .ok (.bipush 82, 2) := by decide +kernel
theorem dX12_man_140 : decode cX12_man 140 = .ok (.iload_n 1, 1) := by decide +kernel
theorem dX12_man_141 : decode cX12_man 141 = .ok (.iadd, 1) := by decide +kernel
theorem dX12_man_142 : decode cX12_man 142 = .ok (.iaload, 1) := by decide +kernel
theorem dX12_man_143 : decode cX12_man 143 = .ok (.ireturn, 1) := by decide +kernel
theorem dX12_man_144 : decode cX12_man 144 = .ok (.aload_n 0, 1) := by decide +kernel
theorem dX12_man_145 : decode cX12_man 145 = .ok (.getfield 33, 3) := by decide +kernel
theorem dX12_man_148 : decode cX12_man 148 = .ok (.bipush 90, 2) := by decide +kernel
theorem dX12_man_150 : decode cX12_man 150 = .ok (.iload_n 1, 1) := by decide +kernel
theorem dX12_man_151 : decode cX12_man 151 = .ok (.iadd, 1) := by decide +kernel
theorem dX12_man_152 : decode cX12_man 152 = .ok (.iaload, 1) := by decide +kernel
theorem dX12_man_153 : decode cX12_man 153 = .ok (.iconst 1, 1) := by decide +kernel
theorem dX12_man_154 : decode cX12_man 154 = .ok (.isub, 1) := by decide +kernel
theorem dX12_man_155 : decode cX12_man 155 = .ok (.ireturn, 1) := by decide +kernel
theorem dX12_man_156 : decode cX12_man 156 = .ok (.aload_n 0, 1) := by decide +kernel
theorem dX12_man_157 : decode cX12_man 157 = .ok (.getfield 33, 3) := by decide +kernel
theorem dX12_man_160 : decode cX12_man 160 = .ok (.bipush 65, 2) := by decide +kernel
theorem dX12_man_162 : decode cX12_man 162 = .ok (.iaload, 1) := by decide +kernel
theorem dX12_man_163 : decode cX12_man 163 = .ok (.iload_n 1, 1) := by decide +kernel
theorem dX12_man_164 : decode cX12_man 164 = .ok (.ishr, 1) := by decide +kernel
theorem dX12_man_165 : decode cX12_man 165 = .ok (.iconst 1, 1) := by decide +kernel
theorem dX12_man_166 : decode cX12_man 166 = .ok (.iand, 1) := by decide +kernel
theorem dX12_man_167 : decode cX12_man 167 = .ok (.ireturn, 1) := by decide +kernel
theorem dX12_man_168 : decode cX12_man 168 = .ok (.aload_n 0, 1) := by decide +kernel
theorem dX12_man_169 : decode cX12_man 169 = .ok (.getfield 33, 3) := by decide +kernel
theorem dX12_man_172 : decode cX12_man 172 = .ok (.bipush 98, 2) := by decide +kernel
theorem dX12_man_174 : decode cX12_man 174 = .ok (.iload_n 1, 1) := by decide +kernel
theorem dX12_man_175 : decode cX12_man 175 = .ok (.iadd, 1) := by decide +kernel
theorem dX12_man_176 : decode cX12_man 176 = .ok (.iaload, 1) := by decide +kernel
theorem dX12_man_177 : decode cX12_man 177 = .ok (.ireturn, 1) := by decide +kernel
theorem dX12_man_178 : decode cX12_man 178 = .ok (.aload_n 0, 1) := by decide +kernel
theorem dX12_man_179 : decode cX12_man 179 = .ok (.getfield 33, 3) := by decide +kernel
theorem dX12_man_182 : decode cX12_man 182 = .ok (.bipush 31, 2) := by decide +kernel
theorem dX12_man_184 : decode cX12_man 184 = .ok (.iload_n 1, 1) := by decide +kernel
theorem dX12_man_185 : decode cX12_man 185 = .ok (.iadd, 1) := by decide +kernel
theorem dX12_man_186 : decode cX12_man 186 = .ok (.iaload, 1) := by decide +kernel
theorem dX12_man_187 : decode cX12_man 187 = .ok (.iconst 1, 1) := by decide +kernel
theorem dX12_man_188 : decode cX12_man 188 = .ok (.isub, 1) := by decide +kernel
theorem dX12_man_189 : decode cX12_man 189 = .ok (.ireturn, 1) := by decide +kernel
theorem dX12_order_0 : decode cX12_order 0 = .ok (.aload_n 0, 1) := by decide +kernel
theorem dX12_order_1 : decode cX12_order 1 = .ok (.iconst 0, 1) := by decide +kernel
theorem dX12_order_2 : decode cX12_order 2 = .ok (.putfield 1, 3) := by decide +kernel
theorem dX12_order_5 : decode cX12_order 5 = .ok (.aload_n 0, 1) := by decide +kernel
theorem dX12_order_6 : decode cX12_order 6 = .ok (.iload_n 1, 1) := by decide +kernel
theorem dX12_order_7 : decode cX12_order 7 = .ok (.invokevirtual 310, 3) := by decide +kernel
theorem dX12_order_10 : decode cX12_order 10 = .ok (.ifCond .ne 5, 3) := by decide +kernel
theorem dX12_order_13 : decode cX12_order 13 = .ok (.iconst (-1), 1) := by decide +kernel
theorem dX12_order_14 : decode cX12_order 14 = .ok (.ireturn, 1) := by decide +kernel
theorem dX12_order_15 : decode cX12_order 15 = .ok (.iload_n 2, 1) := by decide +kernel
theorem dX12_order_16 : decode cX12_order 16 = .ok (.ifCond .ne 15, 3) := by decide +kernel
theorem dX12_order_19 : decode cX12_order 19 = .ok (.aload_n 0, 1) := by decide +kernel
theorem dX12_order_20 : decode cX12_order 20 = .ok (.getfield 33, 3) := by decide +kernel
theorem dX12_order_23 : decode cX12_order 23 = .ok (.bipush 39, 2) := by decide +kernel
theorem dX12_order_25 : decode cX12_order 25 = .ok (.iload_n 1, 1) := by decide +kernel
theorem dX12_order_26 : decode cX12_order 26 = .ok (.iadd, 1) := by decide +kernel
theorem dX12_order_27 : decode cX12_order 27 = .ok (.iaload, 1) := by decide +kernel
theorem dX12_order_28 : decode cX12_order 28 = .ok (.goto 34, 3) := by decide +kernel
theorem dX12_order_31 : decode cX12_order 31 = .ok (.iload_n 2, 1) := by decide +kernel
theorem dX12_order_32 : decode cX12_order 32 = .ok (.iconst 1, 1) := by decide +kernel
theorem dX12_order_33 : decode cX12_order 33 = .ok (.if_icmp .ne 15, 3) := by decide +kernel
theorem dX12_order_36 : decode cX12_order 36 = .ok (.aload_n 0, 1) := by decide +kernel
theorem dX12_order_37 : decode cX12_order 37 = .ok (.getfield 33, 3) := by decide +kernel
theorem dX12_order_40 : decode cX12_order 40 = .ok (.bipush 46, 2) := by decide +kernel
theorem dX12_order_42 : decode cX12_order 42 = .ok (.iload_n 1, 1) := by decide +kernel
theorem dX12_order_43 : decode cX12_order 43 = .ok (.iadd, 1) := by decide +kernel
theorem dX12_order_44 : decode cX12_order 44 = .ok (.iaload, 1) := by decide +kernel
theorem dX12_order_45 : decode cX12_order 45 = .ok (.goto 17, 3) := by decide +kernel
theorem dX12_order_48 : decode cX12_order 48 = .ok (.iload_n 2, 1) := by decide +kernel
theorem dX12_order_49 : decode cX12_order 49 = .ok (.iconst 2, 1) := by decide +kernel
theorem dX12_order_50 : decode cX12_order 50 = .ok (.if_icmp .ne 11, 3) := by decide +kernel
theorem dX12_order_53 : decode cX12_order 53 = .ok (.aload_n 0, 1) := by decide +kernel
theorem dX12_order_54 : decode cX12_order 54 = .ok (.iload_n 1, 1) := by decide +kernel
theorem dX12_order_55 : decode cX12_order 55 = .ok (.invokevirtual 313, 3) := by decide +kernel
theorem dX12_order_58 : decode cX12_order 58 = .ok (.goto 4, 3) := by decide +kernel
theorem dX12_order_61 : decode cX12_order 61 = .ok (.iconst (-1), 1) := by decide +kernel
theorem dX12_order_62 : decode cX12_order 62 = .ok (.ireturn, 1) := by decide +kernel
theorem dX12_now_0 : decode cX12_now 0 = .ok (.aload_n 0, 1) := by decide +kernel
theorem dX12_now_1 : decode cX12_now 1 = .ok (.iconst 0, 1) := by decide +kernel
theorem dX12_now_2 : decode cX12_now 2 = .ok (.putfield 1, 3) := by decide +kernel
theorem dX12_now_5 : decode cX12_now 5 = .ok (.iconst 0, 1) := by decide +kernel
theorem dX12_now_6 : decode cX12_now 6 = .ok (.istore_n 2, 1) := by decide +kernel
theorem dX12_now_7 : decode cX12_now 7 = .ok (.iconst 0, 1) := by decide +kernel
theorem dX12_now_8 : decode cX12_now 8 = .ok (.istore_n 3, 1) := by decide +kernel
theorem dX12_now_9 : decode cX12_now 9 = .ok (.iload_n 3, 1) := by decide +kernel
theorem dX12_now_10 : decode cX12_now 10 = .ok (.aload_n 0, 1) := by decide +kernel
theorem dX12_now_11 : decode cX12_now 11 = .ok (.getfield 33, 3) := by decide +kernel
theorem dX12_now_14 : decode cX12_now 14 = .ok (.iconst 0, 1) := by decide +kernel
theorem dX12_now_15 : decode cX12_now 15 = .ok (.iaload, 1) := by decide +kernel
theorem dX12_now_16 : decode cX12_now 16 = .ok (.if_icmp .ge 21, 3) := by decide +kernel
theorem dX12_now_19 : decode cX12_now 19 = .ok (.iload_n 2, 1) := by decide +kernel
theorem dX12_now_20 : decode cX12_now 20 = .ok (.aload_n 0, 1) := by decide +kernel
theorem dX12_now_21 : decode cX12_now 21 = .ok (.getfield 33, 3) := by decide +kernel
theorem dX12_now_24 : decode cX12_now 24 = .ok (.bipush 98, 2) := by decide +kernel
theorem dX12_now_26 : decode cX12_now 26 = .ok (.iload_n 3, 1) := by decide +kernel
theorem dX12_now_27 : decode cX12_now 27 = .ok (.iadd, 1) := by decide +kernel
theorem dX12_now_28 : decode cX12_now 28 = .ok (.iaload, 1) := by decide +kernel
theorem dX12_now_29 : decode cX12_now 29 = .ok (.iadd, 1) := by decide +kernel
theorem dX12_now_30 : decode cX12_now 30 = .ok (.istore_n 2, 1) := by decide +kernel
theorem dX12_now_31 : decode cX12_now 31 = .ok (.iinc 3 1, 3) := by decide +kernel
theorem dX12_now_34 : decode cX12_now 34 = .ok (.goto (-25), 3) := by decide +kernel
theorem dX12_now_37 : decode cX12_now 37 = .ok (.iload_n 1, 1) := by decide +kernel
theorem dX12_now_38 : decode cX12_now 38 = .ok (.tableswitch 89 0 6 #[42, 50, 58, 66, 71, 79, 81], 42) := by decide +kernel
theorem dX12_now_80 : decode cX12_now 80 = .ok (.aload_n 0, 1) := by decide +kernel
theorem dX12_now_81 : decode cX12_now 81 = .ok (.getfield 33, 3) := by decide +kernel
theorem dX12_now_84 : decode cX12_now 84 = .ok (.bipush 61, 2) := by decide +kernel
theorem dX12_now_86 : decode cX12_now 86 = .ok (.iaload, 1) := by decide +kernel
theorem dX12_now_87 : decode cX12_now 87 = .ok (.ireturn, 1) := by decide +kernel
theorem dX12_now_88 : decode cX12_now 88 = .ok (.aload_n 0, 1) := by decide +kernel
theorem dX12_now_89 : decode cX12_now 89 = .ok (.getfield 33, 3) := by decide +kernel
theorem dX12_now_92 : decode cX12_now 92 = .ok (.bipush 63, 2) := by decide +kernel
theorem dX12_now_94 : decode cX12_now 94 = .ok (.iaload, 1) := by decide +kernel
theorem dX12_now_95 : decode cX12_now 95 = .ok (.ireturn, 1) := by decide +kernel
theorem dX12_now_96 : decode cX12_now 96 = .ok (.aload_n 0, 1) := by decide +kernel
theorem dX12_now_97 : decode cX12_now 97 = .ok (.getfield 33, 3) := by decide +kernel
theorem dX12_now_100 : decode cX12_now 100 = .ok (.bipush 64, 2) := by decide +kernel
theorem dX12_now_102 : decode cX12_now 102 = .ok (.iaload, 1) := by decide +kernel
theorem dX12_now_103 : decode cX12_now 103 = .ok (.ireturn, 1) := by decide +kernel
theorem dX12_now_104 : decode cX12_now 104 = .ok (.aload_n 0, 1) := by decide +kernel
theorem dX12_now_105 : decode cX12_now 105 = .ok (.invokevirtual 316, 3) := by decide +kernel
theorem dX12_now_108 : decode cX12_now 108 = .ok (.ireturn, 1) := by decide +kernel
theorem dX12_now_109 : decode cX12_now 109 = .ok (.aload_n 0, 1) := by decide +kernel
theorem dX12_now_110 : decode cX12_now 110 = .ok (.getfield 33, 3) := by decide +kernel
theorem dX12_now_113 : decode cX12_now 113 = .ok (.bipush 65, 2) := by decide +kernel
theorem dX12_now_115 : decode cX12_now 115 = .ok (.iaload, 1) := by decide +kernel
theorem dX12_now_116 : decode cX12_now 116 = .ok (.ireturn, 1) := by decide +kernel
theorem dX12_now_117 : decode cX12_now 117 = .ok (.iload_n 2, 1) := by decide +kernel
theorem dX12_now_118 : decode cX12_now 118 = .ok (.ireturn, 1) := by decide +kernel
theorem dX12_now_119 : decode cX12_now 119 = .ok (.aload_n 0, 1) := by decide +kernel
theorem dX12_now_120 : decode cX12_now 120 = .ok (.getfield 33, 3) := by decide +kernel
theorem dX12_now_123 : decode cX12_now 123 = .ok (.bipush 62, 2) := by decide +kernel
theorem dX12_now_125 : decode cX12_now 125 = .ok (.iaload, 1) := by decide +kernel
theorem dX12_now_126 : decode cX12_now 126 = .ok (.ireturn, 1) := by decide +kernel
theorem dX12_now_127 : decode cX12_now 127 = .ok (.iconst (-1), 1) := by decide +kernel
theorem dX12_now_128 : decode cX12_now 128 = .ok (.ireturn, 1) := by decide +kernel
theorem dX12_orderBy_0 : decode cX12_orderBy 0 = .ok (.iconst 0, 1) := by decide +kernel
theorem dX12_orderBy_1 : decode cX12_orderBy 1 = .ok (.istore_n 3, 1) := by decide +kernel
theorem dX12_orderBy_2 : decode cX12_orderBy 2 = .ok (.iload_n 3, 1) := by decide +kernel
theorem dX12_orderBy_3 : decode cX12_orderBy 3 = .ok (.aload_n 0, 1) := by decide +kernel
theorem dX12_orderBy_4 : decode cX12_orderBy 4 = .ok (.getfield 33, 3) := by decide +kernel
theorem dX12_orderBy_7 : decode cX12_orderBy 7 = .ok (.iconst 1, 1) := by decide +kernel
theorem dX12_orderBy_8 : decode cX12_orderBy 8 = .ok (.iaload, 1) := by decide +kernel
theorem dX12_orderBy_9 : decode cX12_orderBy 9 = .ok (.if_icmp .ge 37, 3) := by decide +kernel
theorem dX12_orderBy_12 : decode cX12_orderBy 12 = .ok (.aload_n 0, 1) := by decide +kernel
theorem dX12_orderBy_13 : decode cX12_orderBy 13 = .ok (.getfield 33, 3) := by decide +kernel
theorem dX12_orderBy_16 : decode cX12_orderBy 16 = .ok (.bipush 39, 2) := by decide +kernel
theorem dX12_orderBy_18 : decode cX12_orderBy 18 = .ok (.iload_n 3, 1) := by decide +kernel
theorem dX12_orderBy_19 : decode cX12_orderBy 19 = .ok (.iadd, 1) := by decide +kernel
theorem dX12_orderBy_20 : decode cX12_orderBy 20 = .ok (.iaload, 1) := by decide +kernel
theorem dX12_orderBy_21 : decode cX12_orderBy 21 = .ok (.iload_n 1, 1) := by decide +kernel
theorem dX12_orderBy_22 : decode cX12_orderBy 22 = .ok (.if_icmp .ne 18, 3) := by decide +kernel
theorem dX12_orderBy_25 : decode cX12_orderBy 25 = .ok (.aload_n 0, 1) := by decide +kernel
theorem dX12_orderBy_26 : decode cX12_orderBy 26 = .ok (.getfield 33, 3) := by decide +kernel
theorem dX12_orderBy_29 : decode cX12_orderBy 29 = .ok (.bipush 46, 2) := by decide +kernel
theorem dX12_orderBy_31 : decode cX12_orderBy 31 = .ok (.iload_n 3, 1) := by decide +kernel
theorem dX12_orderBy_32 : decode cX12_orderBy 32 = .ok (.iadd, 1) := by decide +kernel
theorem dX12_orderBy_33 : decode cX12_orderBy 33 = .ok (.iaload, 1) := by decide +kernel
theorem dX12_orderBy_34 : decode cX12_orderBy 34 = .ok (.iload_n 2, 1) := by decide +kernel
theorem dX12_orderBy_35 : decode cX12_orderBy 35 = .ok (.if_icmp .ne 5, 3) := by decide +kernel
theorem dX12_orderBy_38 : decode cX12_orderBy 38 = .ok (.iload_n 3, 1) := by decide +kernel
theorem dX12_orderBy_39 : decode cX12_orderBy 39 = .ok (.ireturn, 1) := by decide +kernel
theorem dX12_orderBy_40 : decode cX12_orderBy 40 = .ok (.iinc 3 1, 3) := by decide +kernel
theorem dX12_orderBy_43 : decode cX12_orderBy 43 = .ok (.goto (-41), 3) := by decide +kernel
theorem dX12_orderBy_46 : decode cX12_orderBy 46 = .ok (.iconst (-1), 1) := by decide +kernel
theorem dX12_orderBy_47 : decode cX12_orderBy 47 = .ok (.ireturn, 1) := by decide +kernel
theorem dX12_hears_0 : decode cX12_hears 0 = .ok (.aload_n 0, 1) := by decide +kernel
theorem dX12_hears_1 : decode cX12_hears 1 = .ok (.getfield 33, 3) := by decide +kernel
theorem dX12_hears_4 : decode cX12_hears 4 = .ok (.bipush 29, 2) := by decide +kernel
theorem dX12_hears_6 : decode cX12_hears 6 = .ok (.iaload, 1) := by decide +kernel
theorem dX12_hears_7 : decode cX12_hears 7 = .ok (.iload_n 1, 1) := by decide +kernel
theorem dX12_hears_8 : decode cX12_hears 8 = .ok (.invokestatic 231, 3) := by decide +kernel
theorem dX12_hears_11 : decode cX12_hears 11 = .ok (.ifCond .eq 16, 3) := by decide +kernel
theorem dX12_hears_14 : decode cX12_hears 14 = .ok (.aload_n 0, 1) := by decide +kernel
theorem dX12_hears_15 : decode cX12_hears 15 = .ok (.getfield 33, 3) := by decide +kernel
theorem dX12_hears_18 : decode cX12_hears 18 = .ok (.bipush 90, 2) := by decide +kernel
theorem dX12_hears_20 : decode cX12_hears 20 = .ok (.iload_n 1, 1) := by decide +kernel
theorem dX12_hears_21 : decode cX12_hears 21 = .ok (.iadd, 1) := by decide +kernel
theorem dX12_hears_22 : decode cX12_hears 22 = .ok (.iaload, 1) := by decide +kernel
theorem dX12_hears_23 : decode cX12_hears 23 = .ok (.ifCond .le 4, 3) := by decide +kernel
theorem dX12_hears_26 : decode cX12_hears 26 = .ok (.return_, 1) := by decide +kernel
theorem dX12_hears_27 : decode cX12_hears 27 = .ok (.aload_n 0, 1) := by decide +kernel
theorem dX12_hears_28 : decode cX12_hears 28 = .ok (.getfield 33, 3) := by decide +kernel
theorem dX12_hears_31 : decode cX12_hears 31 = .ok (.bipush 82, 2) := by decide +kernel
theorem dX12_hears_33 : decode cX12_hears 33 = .ok (.iload_n 1, 1) := by decide +kernel
theorem dX12_hears_34 : decode cX12_hears 34 = .ok (.iadd, 1) := by decide +kernel
theorem dX12_hears_35 : decode cX12_hears 35 = .ok (.iaload, 1) := by decide +kernel
theorem dX12_hears_36 : decode cX12_hears 36 = .ok (.istore_n 3, 1) := by decide +kernel
theorem dX12_hears_37 : decode cX12_hears 37 = .ok (.aload_n 0, 1) := by decide +kernel
theorem dX12_hears_38 : decode cX12_hears 38 = .ok (.getfield 33, 3) := by decide +kernel
theorem dX12_hears_41 : decode cX12_hears 41 = .ok (.bipush 82, 2) := by decide +kernel
theorem dX12_hears_43 : decode cX12_hears 43 = .ok (.iload_n 1, 1) := by decide +kernel
theorem dX12_hears_44 : decode cX12_hears 44 = .ok (.iadd, 1) := by decide +kernel
theorem dX12_hears_45 : decode cX12_hears 45 = .ok (.iload_n 3, 1) := by decide +kernel
theorem dX12_hears_46 : decode cX12_hears 46 = .ok (.ifCond .ne 7, 3) := by decide +kernel
theorem dX12_hears_49 : decode cX12_hears 49 = .ok (.iload_n 2, 1) := by decide +kernel
theorem dX12_hears_50 : decode cX12_hears 50 = .ok (.goto 4, 3) := by decide +kernel
theorem dX12_hears_53 : decode cX12_hears 53 = .ok (.iconst 0, 1) := by decide +kernel
theorem dX12_hears_54 : decode cX12_hears 54 = .ok (.iastore, 1) := by decide +kernel
theorem dX12_hears_55 : decode cX12_hears 55 = .ok (.iload_n 3, 1) := by decide +kernel
theorem dX12_hears_56 : decode cX12_hears 56 = .ok (.ifCond .ne 4, 3) := by decide +kernel
theorem dX12_hears_59 : decode cX12_hears 59 = .ok (.return_, 1) := by decide +kernel
theorem dX12_hears_60 : decode cX12_hears 60 = .ok (.aload_n 0, 1) := by decide +kernel
theorem dX12_hears_61 : decode cX12_hears 61 = .ok (.iload_n 3, 1) := by decide +kernel
theorem dX12_hears_62 : decode cX12_hears 62 = .ok (.iload_n 2, 1) := by decide +kernel
theorem dX12_hears_63 : decode cX12_hears 63 = .ok (.invokevirtual 319, 3) := by decide +kernel
theorem dX12_hears_66 : decode cX12_hears 66 = .ok (.istore 4, 2) := by decide +kernel
theorem dX12_hears_68 : decode cX12_hears 68 = .ok (.iload 4, 2) := by decide +kernel
theorem dX12_hears_70 : decode cX12_hears 70 = .ok (.ifCond .ge 29, 3) := by decide +kernel
theorem dX12_hears_73 : decode cX12_hears 73 = .ok (.aload_n 0, 1) := by decide +kernel
theorem dX12_hears_74 : decode cX12_hears 74 = .ok (.getfield 33, 3) := by decide +kernel
theorem dX12_hears_77 : decode cX12_hears 77 = .ok (.bipush 98, 2) := by decide +kernel
theorem dX12_hears_79 : decode cX12_hears 79 = .ok (.iload_n 1, 1) := by decide +kernel
theorem dX12_hears_80 : decode cX12_hears 80 = .ok (.iadd, 1) := by decide +kernel
theorem dX12_hears_81 : decode cX12_hears 81 = .ok (.bipush 99, 2) := by decide +kernel
theorem dX12_hears_83 : decode cX12_hears 83 = .ok (.aload_n 0, 1) := by decide +kernel
theorem dX12_hears_84 : decode cX12_hears 84 = .ok (.getfield 33, 3) := by decide +kernel
theorem dX12_hears_87 : decode cX12_hears 87 = .ok (.bipush 98, 2) := by decide +kernel
theorem dX12_hears_89 : decode cX12_hears 89 = .ok (.iload_n 1, 1) := by decide +kernel
theorem dX12_hears_90 : decode cX12_hears 90 = .ok (.iadd, 1) := by decide +kernel
theorem dX12_hears_91 : decode cX12_hears 91 = .ok (.iaload, 1) := by decide +kernel
theorem dX12_hears_92 : decode cX12_hears 92 = .ok (.iconst 1, 1) := by decide +kernel
theorem dX12_hears_93 : decode cX12_hears 93 = .ok (.iadd, 1) := by decide +kernel
theorem dX12_hears_94 : decode cX12_hears 94 = .ok (.invokestatic 279, 3) := by decide +kernel
theorem dX12_hears_97 : decode cX12_hears 97 = .ok (.iastore, 1) := by decide +kernel
theorem dX12_hears_98 : decode cX12_hears 98 = .ok (.return_, 1) := by decide +kernel
theorem dX12_hears_99 : decode cX12_hears 99 = .ok (.aload_n 0, 1) := by decide +kernel
theorem dX12_hears_100 : decode cX12_hears 100 = .ok (.getfield 33, 3) := by decide +kernel
theorem dX12_hears_103 : decode cX12_hears 103 = .ok (.bipush 90, 2) := by decide +kernel
theorem dX12_hears_105 : decode cX12_hears 105 = .ok (.iload_n 1, 1) := by decide +kernel
theorem dX12_hears_106 : decode cX12_hears 106 = .ok (.iadd, 1) := by decide +kernel
theorem dX12_hears_107 : decode cX12_hears 107 = .ok (.iload 4, 2) := by decide +kernel
theorem dX12_hears_109 : decode cX12_hears 109 = .ok (.iconst 1, 1) := by decide +kernel
theorem dX12_hears_110 : decode cX12_hears 110 = .ok (.iadd, 1) := by decide +kernel
theorem dX12_hears_111 : decode cX12_hears 111 = .ok (.iastore, 1) := by decide +kernel
theorem dX12_hears_112 : decode cX12_hears 112 = .ok (.aload_n 0, 1) := by decide +kernel
theorem dX12_hears_113 : decode cX12_hears 113 = .ok (.getfield 33, 3) := by decide +kernel
theorem dX12_hears_116 : decode cX12_hears 116 = .ok (.bipush 65, 2) := by decide +kernel
theorem dX12_hears_118 : decode cX12_hears 118 = .ok (.dup2, 1) := by decide +kernel
theorem dX12_hears_119 : decode cX12_hears 119 = .ok (.iaload, 1) := by decide +kernel
theorem dX12_hears_120 : decode cX12_hears 120 = .ok (.iconst 1, 1) := by decide +kernel
theorem dX12_hears_121 : decode cX12_hears 121 = .ok (.iload_n 1, 1) := by decide +kernel
theorem dX12_hears_122 : decode cX12_hears 122 = .ok (.ishl, 1) := by decide +kernel
theorem dX12_hears_123 : decode cX12_hears 123 = .ok (.ior, 1) := by decide +kernel
theorem dX12_hears_124 : decode cX12_hears 124 = .ok (.iastore, 1) := by decide +kernel
theorem dX12_hears_125 : decode cX12_hears 125 = .ok (.return_, 1) := by decide +kernel
theorem dX12_lifts_0 : decode cX12_lifts 0 = .ok (.aload_n 0, 1) := by decide +kernel
theorem dX12_lifts_1 : decode cX12_lifts 1 = .ok (.iload_n 1, 1) := by decide +kernel
theorem dX12_lifts_2 : decode cX12_lifts 2 = .ok (.invokevirtual 322, 3) := by decide +kernel
theorem dX12_lifts_5 : decode cX12_lifts 5 = .ok (.istore_n 3, 1) := by decide +kernel
theorem dX12_lifts_6 : decode cX12_lifts 6 = .ok (.iconst 0, 1) := by decide +kernel
theorem dX12_lifts_7 : decode cX12_lifts 7 = .ok (.istore 4, 2) := by decide +kernel
theorem dX12_lifts_9 : decode cX12_lifts 9 = .ok (.iload 4, 2) := by decide +kernel
theorem dX12_lifts_11 : decode cX12_lifts 11 = .ok (.aload_n 0, 1) := by decide +kernel
theorem dX12_lifts_12 : decode cX12_lifts 12 = .ok (.getfield 33, 3) := by decide +kernel
theorem dX12_lifts_15 : decode cX12_lifts 15 = .ok (.iconst 0, 1) := by decide +kernel
theorem dX12_lifts_16 : decode cX12_lifts 16 = .ok (.iaload, 1) := by decide +kernel
theorem dX12_lifts_17 : decode cX12_lifts 17 = .ok (.if_icmp .ge 25, 3) := by decide +kernel
theorem dX12_lifts_20 : decode cX12_lifts 20 = .ok (.iload_n 3, 1) := by decide +kernel
theorem dX12_lifts_21 : decode cX12_lifts 21 = .ok (.iload 4, 2) := by decide +kernel
theorem dX12_lifts_23 : decode cX12_lifts 23 = .ok (.invokestatic 231, 3) := by decide +kernel
theorem dX12_lifts_26 : decode cX12_lifts 26 = .ok (.ifCond .eq 10, 3) := by decide +kernel
theorem dX12_lifts_29 : decode cX12_lifts 29 = .ok (.aload_n 0, 1) := by decide +kernel
theorem dX12_lifts_30 : decode cX12_lifts 30 = .ok (.iload 4, 2) := by decide +kernel
theorem dX12_lifts_32 : decode cX12_lifts 32 = .ok (.iload_n 2, 1) := by decide +kernel
theorem dX12_lifts_33 : decode cX12_lifts 33 = .ok (.invokevirtual 325, 3) := by decide +kernel
theorem dX12_lifts_36 : decode cX12_lifts 36 = .ok (.iinc 4 1, 3) := by decide +kernel
theorem dX12_lifts_39 : decode cX12_lifts 39 = .ok (.goto (-30), 3) := by decide +kernel
theorem dX12_lifts_42 : decode cX12_lifts 42 = .ok (.aload_n 0, 1) := by decide +kernel
theorem dX12_lifts_43 : decode cX12_lifts 43 = .ok (.getfield 33, 3) := by decide +kernel
theorem dX12_lifts_46 : decode cX12_lifts 46 = .ok (.bipush 62, 2) := by decide +kernel
theorem dX12_lifts_48 : decode cX12_lifts 48 = .ok (.dup2, 1) := by decide +kernel
theorem dX12_lifts_49 : decode cX12_lifts 49 = .ok (.iaload, 1) := by decide +kernel
theorem dX12_lifts_50 : decode cX12_lifts 50 = .ok (.iconst 1, 1) := by decide +kernel
theorem dX12_lifts_51 : decode cX12_lifts 51 = .ok (.iadd, 1) := by decide +kernel
theorem dX12_lifts_52 : decode cX12_lifts 52 = .ok (.iastore, 1) := by decide +kernel
theorem dX12_lifts_53 : decode cX12_lifts 53 = .ok (.return_, 1) := by decide +kernel
theorem dX12_gives_0 : decode cX12_gives 0 = .ok (.aload_n 0, 1) := by decide +kernel
theorem dX12_gives_1 : decode cX12_gives 1 = .ok (.iload_n 1, 1) := by decide +kernel
theorem dX12_gives_2 : decode cX12_gives 2 = .ok (.aload_n 0, 1) := by decide +kernel
theorem dX12_gives_3 : decode cX12_gives 3 = .ok (.getfield 33, 3) := by decide +kernel
theorem dX12_gives_6 : decode cX12_gives 6 = .ok (.bipush 39, 2) := by decide +kernel
theorem dX12_gives_8 : decode cX12_gives 8 = .ok (.iload_n 2, 1) := by decide +kernel
theorem dX12_gives_9 : decode cX12_gives 9 = .ok (.iadd, 1) := by decide +kernel
theorem dX12_gives_10 : decode cX12_gives 10 = .ok (.iaload, 1) := by decide +kernel
theorem dX12_gives_11 : decode cX12_gives 11 = .ok (.invokevirtual 329, 3) := by decide +kernel
theorem dX12_gives_14 : decode cX12_gives 14 = .ok (.aload_n 0, 1) := by decide +kernel
theorem dX12_gives_15 : decode cX12_gives 15 = .ok (.iload_n 1, 1) := by decide +kernel
theorem dX12_gives_16 : decode cX12_gives 16 = .ok (.aload_n 0, 1) := by decide +kernel
theorem dX12_gives_17 : decode cX12_gives 17 = .ok (.getfield 33, 3) := by decide +kernel
theorem dX12_gives_20 : decode cX12_gives 20 = .ok (.bipush 46, 2) := by decide +kernel
theorem dX12_gives_22 : decode cX12_gives 22 = .ok (.iload_n 2, 1) := by decide +kernel
theorem dX12_gives_23 : decode cX12_gives 23 = .ok (.iadd, 1) := by decide +kernel
theorem dX12_gives_24 : decode cX12_gives 24 = .ok (.iaload, 1) := by decide +kernel
theorem dX12_gives_25 : decode cX12_gives 25 = .ok (.invokevirtual 329, 3) := by decide +kernel
theorem dX12_gives_28 : decode cX12_gives 28 = .ok (.return_, 1) := by decide +kernel
theorem dX12_hour_0 : decode cX12_hour 0 = .ok (.iconst 0, 1) := by decide +kernel
theorem dX12_hour_1 : decode cX12_hour 1 = .ok (.istore_n 1, 1) := by decide +kernel
theorem dX12_hour_2 : decode cX12_hour 2 = .ok (.iload_n 1, 1) := by decide +kernel
theorem dX12_hour_3 : decode cX12_hour 3 = .ok (.aload_n 0, 1) := by decide +kernel
theorem dX12_hour_4 : decode cX12_hour 4 = .ok (.getfield 33, 3) := by decide +kernel
theorem dX12_hour_7 : decode cX12_hour 7 = .ok (.iconst 0, 1) := by decide +kernel
theorem dX12_hour_8 : decode cX12_hour 8 = .ok (.iaload, 1) := by decide +kernel
theorem dX12_hour_9 : decode cX12_hour 9 = .ok (.if_icmp .ge 42, 3) := by decide +kernel
theorem dX12_hour_12 : decode cX12_hour 12 = .ok (.aload_n 0, 1) := by decide +kernel
theorem dX12_hour_13 : decode cX12_hour 13 = .ok (.getfield 50, 3) := by decide +kernel
theorem dX12_hour_16 : decode cX12_hour 16 = .ok (.iload_n 1, 1) := by decide +kernel
theorem dX12_hour_17 : decode cX12_hour 17 = .ok (.aload_n 0, 1) := by decide +kernel
theorem dX12_hour_18 : decode cX12_hour 18 = .ok (.getfield 33, 3) := by decide +kernel
theorem dX12_hour_21 : decode cX12_hour 21 = .ok (.bipush 65, 2) := by decide +kernel
theorem dX12_hour_23 : decode cX12_hour 23 = .ok (.iaload, 1) := by decide +kernel
theorem dX12_hour_24 : decode cX12_hour 24 = .ok (.iload_n 1, 1) := by decide +kernel
theorem dX12_hour_25 : decode cX12_hour 25 = .ok (.invokestatic 231, 3) := by decide +kernel
theorem dX12_hour_28 : decode cX12_hour 28 = .ok (.ifCond .eq 15, 3) := by decide +kernel
theorem dX12_hour_31 : decode cX12_hour 31 = .ok (.aload_n 0, 1) := by decide +kernel
theorem dX12_hour_32 : decode cX12_hour 32 = .ok (.getfield 33, 3) := by decide +kernel
theorem dX12_hour_35 : decode cX12_hour 35 = .ok (.bipush 90, 2) := by decide +kernel
theorem dX12_hour_37 : decode cX12_hour 37 = .ok (.iload_n 1, 1) := by decide +kernel
theorem dX12_hour_38 : decode cX12_hour 38 = .ok (.iadd, 1) := by decide +kernel
theorem dX12_hour_39 : decode cX12_hour 39 = .ok (.iaload, 1) := by decide +kernel
theorem dX12_hour_40 : decode cX12_hour 40 = .ok (.goto 4, 3) := by decide +kernel
theorem dX12_hour_43 : decode cX12_hour 43 = .ok (.iconst 0, 1) := by decide +kernel
theorem dX12_hour_44 : decode cX12_hour 44 = .ok (.iastore, 1) := by decide +kernel
theorem dX12_hour_45 : decode cX12_hour 45 = .ok (.iinc 1 1, 3) := by decide +kernel
theorem dX12_hour_48 : decode cX12_hour 48 = .ok (.goto (-46), 3) := by decide +kernel
theorem dX12_hour_51 : decode cX12_hour 51 = .ok (.aload_n 0, 1) := by decide +kernel
theorem dX12_hour_52 : decode cX12_hour 52 = .ok (.getfield 33, 3) := by decide +kernel
theorem dX12_hour_55 : decode cX12_hour 55 = .ok (.bipush 65, 2) := by decide +kernel
theorem dX12_hour_57 : decode cX12_hour 57 = .ok (.iconst 0, 1) := by decide +kernel
theorem dX12_hour_58 : decode cX12_hour 58 = .ok (.iastore, 1) := by decide +kernel
theorem dX12_hour_59 : decode cX12_hour 59 = .ok (.iconst 0, 1) := by decide +kernel
theorem dX12_hour_60 : decode cX12_hour 60 = .ok (.istore_n 1, 1) := by decide +kernel
theorem dX12_hour_61 : decode cX12_hour 61 = .ok (.iload_n 1, 1) := by decide +kernel
theorem dX12_hour_62 : decode cX12_hour 62 = .ok (.aload_n 0, 1) := by decide +kernel
theorem dX12_hour_63 : decode cX12_hour 63 = .ok (.getfield 33, 3) := by decide +kernel
theorem dX12_hour_66 : decode cX12_hour 66 = .ok (.iconst 0, 1) := by decide +kernel
theorem dX12_hour_67 : decode cX12_hour 67 = .ok (.iaload, 1) := by decide +kernel
theorem dX12_hour_68 : decode cX12_hour 68 = .ok (.if_icmp .ge 39, 3) := by decide +kernel
theorem dX12_hour_71 : decode cX12_hour 71 = .ok (.aload_n 0, 1) := by decide +kernel
theorem dX12_hour_72 : decode cX12_hour 72 = .ok (.getfield 50, 3) := by decide +kernel
theorem dX12_hour_75 : decode cX12_hour 75 = .ok (.iload_n 1, 1) := by decide +kernel
theorem dX12_hour_76 : decode cX12_hour 76 = .ok (.iaload, 1) := by decide +kernel
theorem dX12_hour_77 : decode cX12_hour 77 = .ok (.ifCond .le 24, 3) := by decide +kernel
theorem dX12_hour_80 : decode cX12_hour 80 = .ok (.aload_n 0, 1) := by decide +kernel
theorem dX12_hour_81 : decode cX12_hour 81 = .ok (.iload_n 1, 1) := by decide +kernel
theorem dX12_hour_82 : decode cX12_hour 82 = .ok (.invokevirtual 290, 3) := by decide +kernel
theorem dX12_hour_85 : decode cX12_hour 85 = .ok (.ifCond .le 16, 3) := by decide +kernel
theorem dX12_hour_88 : decode cX12_hour 88 = .ok (.aload_n 0, 1) := by decide +kernel
theorem dX12_hour_89 : decode cX12_hour 89 = .ok (.iload_n 1, 1) := by decide +kernel
theorem dX12_hour_90 : decode cX12_hour 90 = .ok (.aload_n 0, 1) := by decide +kernel
theorem dX12_hour_91 : decode cX12_hour 91 = .ok (.getfield 50, 3) := by decide +kernel
theorem dX12_hour_94 : decode cX12_hour 94 = .ok (.iload_n 1, 1) := by decide +kernel
theorem dX12_hour_95 : decode cX12_hour 95 = .ok (.iaload, 1) := by decide +kernel
theorem dX12_hour_96 : decode cX12_hour 96 = .ok (.iconst 1, 1) := by decide +kernel
theorem dX12_hour_97 : decode cX12_hour 97 = .ok (.isub, 1) := by decide +kernel
theorem dX12_hour_98 : decode cX12_hour 98 = .ok (.invokevirtual 332, 3) := by decide +kernel
theorem dX12_hour_101 : decode cX12_hour 101 = .ok (.iinc 1 1, 3) := by decide +kernel
theorem dX12_hour_104 : decode cX12_hour 104 = .ok (.goto (-43), 3) := by decide +kernel
theorem dX12_hour_107 : decode cX12_hour 107 = .ok (.aload_n 0, 1) := by decide +kernel
theorem dX12_hour_108 : decode cX12_hour 108 = .ok (.getfield 33, 3) := by decide +kernel
theorem dX12_hour_111 : decode cX12_hour 111 = .ok (.bipush 61, 2) := by decide +kernel
theorem dX12_hour_113 : decode cX12_hour 113 = .ok (.dup2, 1) := by decide +kernel
theorem dX12_hour_114 : decode cX12_hour 114 = .ok (.iaload, 1) := by decide +kernel
theorem dX12_hour_115 : decode cX12_hour 115 = .ok (.iconst 1, 1) := by decide +kernel
theorem dX12_hour_116 : decode cX12_hour 116 = .ok (.iadd, 1) := by decide +kernel
theorem dX12_hour_117 : decode cX12_hour 117 = .ok (.iastore, 1) := by decide +kernel
theorem dX12_hour_118 : decode cX12_hour 118 = .ok (.aload_n 0, 1) := by decide +kernel
theorem dX12_hour_119 : decode cX12_hour 119 = .ok (.getfield 33, 3) := by decide +kernel
theorem dX12_hour_122 : decode cX12_hour 122 = .ok (.bipush 61, 2) := by decide +kernel
theorem dX12_hour_124 : decode cX12_hour 124 = .ok (.iaload, 1) := by decide +kernel
theorem dX12_hour_125 : decode cX12_hour 125 = .ok (.aload_n 0, 1) := by decide +kernel
theorem dX12_hour_126 : decode cX12_hour 126 = .ok (.getfield 33, 3) := by decide +kernel
theorem dX12_hour_129 : decode cX12_hour 129 = .ok (.iconst 4, 1) := by decide +kernel
theorem dX12_hour_130 : decode cX12_hour 130 = .ok (.iaload, 1) := by decide +kernel
theorem dX12_hour_131 : decode cX12_hour 131 = .ok (.irem, 1) := by decide +kernel
theorem dX12_hour_132 : decode cX12_hour 132 = .ok (.ifCond .ne 11, 3) := by decide +kernel
theorem dX12_hour_135 : decode cX12_hour 135 = .ok (.aload_n 0, 1) := by decide +kernel
theorem dX12_hour_136 : decode cX12_hour 136 = .ok (.getfield 33, 3) := by decide +kernel
theorem dX12_hour_139 : decode cX12_hour 139 = .ok (.bipush 64, 2) := by decide +kernel
theorem dX12_hour_141 : decode cX12_hour 141 = .ok (.iconst 0, 1) := by decide +kernel
theorem dX12_hour_142 : decode cX12_hour 142 = .ok (.iastore, 1) := by decide +kernel
theorem dX12_hour_143 : decode cX12_hour 143 = .ok (.return_, 1) := by decide +kernel
theorem dX12_goesOn_0 : decode cX12_goesOn 0 = .ok (.iconst 0, 1) := by decide +kernel
theorem dX12_goesOn_1 : decode cX12_goesOn 1 = .ok (.istore_n 2, 1) := by decide +kernel
theorem dX12_goesOn_2 : decode cX12_goesOn 2 = .ok (.iload_n 2, 1) := by decide +kernel
theorem dX12_goesOn_3 : decode cX12_goesOn 3 = .ok (.iload_n 1, 1) := by decide +kernel
theorem dX12_goesOn_4 : decode cX12_goesOn 4 = .ok (.if_icmp .ge 26, 3) := by decide +kernel
theorem dX12_goesOn_7 : decode cX12_goesOn 7 = .ok (.aload_n 0, 1) := by decide +kernel
theorem dX12_goesOn_8 : decode cX12_goesOn 8 = .ok (.getfield 33, 3) := by decide +kernel
theorem dX12_goesOn_11 : decode cX12_goesOn 11 = .ok (.bipush 61, 2) := by decide +kernel
theorem dX12_goesOn_13 : decode cX12_goesOn 13 = .ok (.iaload, 1) := by decide +kernel
theorem dX12_goesOn_14 : decode cX12_goesOn 14 = .ok (.sipush 400, 3) := by decide +kernel
theorem dX12_goesOn_17 : decode cX12_goesOn 17 = .ok (.if_icmp .ge 13, 3) := by decide +kernel
theorem dX12_goesOn_20 : decode cX12_goesOn 20 = .ok (.aload_n 0, 1) := by decide +kernel
theorem dX12_goesOn_21 : decode cX12_goesOn 21 = .ok (.invokevirtual 335, 3) := by decide +kernel
theorem dX12_goesOn_24 : decode cX12_goesOn 24 = .ok (.iinc 2 1, 3) := by decide +kernel
theorem dX12_goesOn_27 : decode cX12_goesOn 27 = .ok (.goto (-25), 3) := by decide +kernel
theorem dX12_goesOn_30 : decode cX12_goesOn 30 = .ok (.iload_n 2, 1) := by decide +kernel
theorem dX12_goesOn_31 : decode cX12_goesOn 31 = .ok (.ireturn, 1) := by decide +kernel
theorem dX12_xBy_0 : decode cX12_xBy 0 = .ok (.aload_n 0, 1) := by decide +kernel
theorem dX12_xBy_1 : decode cX12_xBy 1 = .ok (.getfield 33, 3) := by decide +kernel
theorem dX12_xBy_4 : decode cX12_xBy 4 = .ok (.bipush 66, 2) := by decide +kernel
theorem dX12_xBy_6 : decode cX12_xBy 6 = .ok (.iload_n 1, 1) := by decide +kernel
theorem dX12_xBy_7 : decode cX12_xBy 7 = .ok (.iadd, 1) := by decide +kernel
theorem dX12_xBy_8 : decode cX12_xBy 8 = .ok (.iaload, 1) := by decide +kernel
theorem dX12_xBy_9 : decode cX12_xBy 9 = .ok (.iload_n 2, 1) := by decide +kernel
theorem dX12_xBy_10 : decode cX12_xBy 10 = .ok (.ifCond .ne 7, 3) := by decide +kernel
theorem dX12_xBy_13 : decode cX12_xBy 13 = .ok (.iconst 1, 1) := by decide +kernel
theorem dX12_xBy_14 : decode cX12_xBy 14 = .ok (.goto 13, 3) := by decide +kernel
theorem dX12_xBy_17 : decode cX12_xBy 17 = .ok (.iload_n 2, 1) := by decide +kernel
theorem dX12_xBy_18 : decode cX12_xBy 18 = .ok (.iconst 2, 1) := by decide +kernel
theorem dX12_xBy_19 : decode cX12_xBy 19 = .ok (.if_icmp .ne 7, 3) := by decide +kernel
theorem dX12_xBy_22 : decode cX12_xBy 22 = .ok (.iconst (-1), 1) := by decide +kernel
theorem dX12_xBy_23 : decode cX12_xBy 23 = .ok (.goto 4, 3) := by decide +kernel
theorem dX12_xBy_26 : decode cX12_xBy 26 = .ok (.iconst 0, 1) := by decide +kernel
theorem dX12_xBy_27 : decode cX12_xBy 27 = .ok (.iadd, 1) := by decide +kernel
theorem dX12_xBy_28 : decode cX12_xBy 28 = .ok (.ireturn, 1) := by decide +kernel
theorem dX12_yBy_0 : decode cX12_yBy 0 = .ok (.aload_n 0, 1) := by decide +kernel
theorem dX12_yBy_1 : decode cX12_yBy 1 = .ok (.getfield 33, 3) := by decide +kernel
theorem dX12_yBy_4 : decode cX12_yBy 4 = .ok (.bipush 74, 2) := by decide +kernel
theorem dX12_yBy_6 : decode cX12_yBy 6 = .ok (.iload_n 1, 1) := by decide +kernel
theorem dX12_yBy_7 : decode cX12_yBy 7 = .ok (.iadd, 1) := by decide +kernel
theorem dX12_yBy_8 : decode cX12_yBy 8 = .ok (.iaload, 1) := by decide +kernel
theorem dX12_yBy_9 : decode cX12_yBy 9 = .ok (.iload_n 2, 1) := by decide +kernel
theorem dX12_yBy_10 : decode cX12_yBy 10 = .ok (.iconst 1, 1) := by decide +kernel
theorem dX12_yBy_11 : decode cX12_yBy 11 = .ok (.if_icmp .ne 7, 3) := by decide +kernel
theorem dX12_yBy_14 : decode cX12_yBy 14 = .ok (.iconst 1, 1) := by decide +kernel
theorem dX12_yBy_15 : decode cX12_yBy 15 = .ok (.goto 13, 3) := by decide +kernel
theorem dX12_yBy_18 : decode cX12_yBy 18 = .ok (.iload_n 2, 1) := by decide +kernel
theorem dX12_yBy_19 : decode cX12_yBy 19 = .ok (.iconst 3, 1) := by decide +kernel
theorem dX12_yBy_20 : decode cX12_yBy 20 = .ok (.if_icmp .ne 7, 3) := by decide +kernel
theorem dX12_yBy_23 : decode cX12_yBy 23 = .ok (.iconst (-1), 1) := by decide +kernel
theorem dX12_yBy_24 : decode cX12_yBy 24 = .ok (.goto 4, 3) := by decide +kernel
theorem dX12_yBy_27 : decode cX12_yBy 27 = .ok (.iconst 0, 1) := by decide +kernel
theorem dX12_yBy_28 : decode cX12_yBy 28 = .ok (.iadd, 1) := by decide +kernel
theorem dX12_yBy_29 : decode cX12_yBy 29 = .ok (.ireturn, 1) := by decide +kernel
theorem dX12_whyGo_0 : decode cX12_whyGo 0 = .ok (.aload_n 0, 1) := by decide +kernel
theorem dX12_whyGo_1 : decode cX12_whyGo 1 = .ok (.iload_n 1, 1) := by decide +kernel
theorem dX12_whyGo_2 : decode cX12_whyGo 2 = .ok (.iload_n 2, 1) := by decide +kernel
theorem dX12_whyGo_3 : decode cX12_whyGo 3 = .ok (.invokevirtual 338, 3) := by decide +kernel
theorem dX12_whyGo_6 : decode cX12_whyGo 6 = .ok (.iconst 0, 1) := by decide +kernel
theorem dX12_whyGo_7 : decode cX12_whyGo 7 = .ok (.bipush 30, 2) := by decide +kernel
theorem dX12_whyGo_9 : decode cX12_whyGo 9 = .ok (.invokestatic 206, 3) := by decide +kernel
theorem dX12_whyGo_12 : decode cX12_whyGo 12 = .ok (.ifCond .eq 22, 3) := by decide +kernel
theorem dX12_whyGo_15 : decode cX12_whyGo 15 = .ok (.aload_n 0, 1) := by decide +kernel
theorem dX12_whyGo_16 : decode cX12_whyGo 16 = .ok (.iload_n 1, 1) := by decide +kernel
theorem dX12_whyGo_17 : decode cX12_whyGo 17 = .ok (.iload_n 2, 1) := by decide +kernel
theorem dX12_whyGo_18 : decode cX12_whyGo 18 = .ok (.invokevirtual 341, 3) := by decide +kernel
theorem dX12_whyGo_21 : decode cX12_whyGo 21 = .ok (.iconst 0, 1) := by decide +kernel
theorem dX12_whyGo_22 : decode cX12_whyGo 22 = .ok (.bipush 30, 2) := by decide +kernel
theorem dX12_whyGo_24 : decode cX12_whyGo 24 = .ok (.invokestatic 206, 3) := by decide +kernel
theorem dX12_whyGo_27 : decode cX12_whyGo 27 = .ok (.ifCond .eq 7, 3) := by decide +kernel
theorem dX12_whyGo_30 : decode cX12_whyGo 30 = .ok (.iconst 0, 1) := by decide +kernel
theorem dX12_whyGo_31 : decode cX12_whyGo 31 = .ok (.goto 4, 3) := by decide +kernel
theorem dX12_whyGo_34 : decode cX12_whyGo 34 = .ok (.iconst 1, 1) := by decide +kernel
theorem dX12_whyGo_35 : decode cX12_whyGo 35 = .ok (.ireturn, 1) := by decide +kernel
theorem dX12_goes_0 : decode cX12_goes 0 = .ok (.aload_n 0, 1) := by decide +kernel
theorem dX12_goes_1 : decode cX12_goes 1 = .ok (.iload_n 1, 1) := by decide +kernel
theorem dX12_goes_2 : decode cX12_goes 2 = .ok (.iload_n 2, 1) := by decide +kernel
theorem dX12_goes_3 : decode cX12_goes 3 = .ok (.invokevirtual 338, 3) := by decide +kernel
theorem dX12_goes_6 : decode cX12_goes 6 = .ok (.istore_n 3, 1) := by decide +kernel
theorem dX12_goes_7 : decode cX12_goes 7 = .ok (.aload_n 0, 1) := by decide +kernel
theorem dX12_goes_8 : decode cX12_goes 8 = .ok (.getfield 33, 3) := by decide +kernel
theorem dX12_goes_11 : decode cX12_goes 11 = .ok (.bipush 74, 2) := by decide +kernel
theorem dX12_goes_13 : decode cX12_goes 13 = .ok (.iload_n 1, 1) := by decide +kernel
theorem dX12_goes_14 : decode cX12_goes 14 = .ok (.iadd, 1) := by decide +kernel
theorem dX12_goes_15 : decode cX12_goes 15 = .ok (.aload_n 0, 1) := by decide +kernel
theorem dX12_goes_16 : decode cX12_goes 16 = .ok (.iload_n 1, 1) := by decide +kernel
theorem dX12_goes_17 : decode cX12_goes 17 = .ok (.iload_n 2, 1) := by decide +kernel
theorem dX12_goes_18 : decode cX12_goes 18 = .ok (.invokevirtual 341, 3) := by decide +kernel
theorem dX12_goes_21 : decode cX12_goes 21 = .ok (.iastore, 1) := by decide +kernel
theorem dX12_goes_22 : decode cX12_goes 22 = .ok (.aload_n 0, 1) := by decide +kernel
theorem dX12_goes_23 : decode cX12_goes 23 = .ok (.getfield 33, 3) := by decide +kernel
theorem dX12_goes_26 : decode cX12_goes 26 = .ok (.bipush 66, 2) := by decide +kernel
theorem dX12_goes_28 : decode cX12_goes 28 = .ok (.iload_n 1, 1) := by decide +kernel
theorem dX12_goes_29 : decode cX12_goes 29 = .ok (.iadd, 1) := by decide +kernel
theorem dX12_goes_30 : decode cX12_goes 30 = .ok (.iload_n 3, 1) := by decide +kernel
theorem dX12_goes_31 : decode cX12_goes 31 = .ok (.iastore, 1) := by decide +kernel
theorem dX12_goes_32 : decode cX12_goes 32 = .ok (.return_, 1) := by decide +kernel
theorem dX12_keep_0 : decode cX12_keep 0 = .ok (.aload_n 0, 1) := by decide +kernel
theorem dX12_keep_1 : decode cX12_keep 1 = .ok (.getfield 276, 3) := by decide +kernel
theorem dX12_keep_4 : decode cX12_keep 4 = .ok (.bipush 8, 2) := by decide +kernel
theorem dX12_keep_6 : decode cX12_keep 6 = .ok (.if_icmp .ne 39, 3) := by decide +kernel
theorem dX12_keep_9 : decode cX12_keep 9 = .ok (.iconst 0, 1) := by decide +kernel
theorem dX12_keep_10 : decode cX12_keep 10 = .ok (.istore_n 1, 1) := by decide +kernel
theorem dX12_keep_11 : decode cX12_keep 11 = .ok (.iload_n 1, 1) := by decide +kernel
theorem dX12_keep_12 : decode cX12_keep 12 = .ok (.sipush 315, 3) := by decide +kernel
theorem dX12_keep_15 : decode cX12_keep 15 = .ok (.if_icmp .ge 24, 3) := by decide +kernel
theorem dX12_keep_18 : decode cX12_keep 18 = .ok (.aload_n 0, 1) := by decide +kernel
theorem dX12_keep_19 : decode cX12_keep 19 = .ok (.getfield 53, 3) := by decide +kernel
theorem dX12_keep_22 : decode cX12_keep 22 = .ok (.iload_n 1, 1) := by decide +kernel
theorem dX12_keep_23 : decode cX12_keep 23 = .ok (.aload_n 0, 1) := by decide +kernel
theorem dX12_keep_24 : decode cX12_keep 24 = .ok (.getfield 53, 3) := by decide +kernel
theorem dX12_keep_27 : decode cX12_keep 27 = .ok (.iload_n 1, 1) := by decide +kernel
theorem dX12_keep_28 : decode cX12_keep 28 = .ok (.bipush 45, 2) := by decide +kernel
theorem dX12_keep_30 : decode cX12_keep 30 = .ok (.iadd, 1) := by decide +kernel
theorem dX12_keep_31 : decode cX12_keep 31 = .ok (.iaload, 1) := by decide +kernel
theorem dX12_keep_32 : decode cX12_keep 32 = .ok (.iastore, 1) := by decide +kernel
theorem dX12_keep_33 : decode cX12_keep 33 = .ok (.iinc 1 1, 3) := by decide +kernel
theorem dX12_keep_36 : decode cX12_keep 36 = .ok (.goto (-25), 3) := by decide +kernel
theorem dX12_keep_39 : decode cX12_keep 39 = .ok (.aload_n 0, 1) := by decide +kernel
theorem dX12_keep_40 : decode cX12_keep 40 = .ok (.bipush 7, 2) := by decide +kernel
theorem dX12_keep_42 : decode cX12_keep 42 = .ok (.putfield 276, 3) := by decide +kernel
theorem dX12_keep_45 : decode cX12_keep 45 = .ok (.iconst 0, 1) := by decide +kernel
theorem dX12_keep_46 : decode cX12_keep 46 = .ok (.istore_n 1, 1) := by decide +kernel
theorem dX12_keep_47 : decode cX12_keep 47 = .ok (.iload_n 1, 1) := by decide +kernel
theorem dX12_keep_48 : decode cX12_keep 48 = .ok (.bipush 45, 2) := by decide +kernel
theorem dX12_keep_50 : decode cX12_keep 50 = .ok (.if_icmp .ge 32, 3) := by decide +kernel
theorem dX12_keep_53 : decode cX12_keep 53 = .ok (.aload_n 0, 1) := by decide +kernel
theorem dX12_keep_54 : decode cX12_keep 54 = .ok (.getfield 53, 3) := by decide +kernel
theorem dX12_keep_57 : decode cX12_keep 57 = .ok (.bipush 45, 2) := by decide +kernel
theorem dX12_keep_59 : decode cX12_keep 59 = .ok (.aload_n 0, 1) := by decide +kernel
theorem dX12_keep_60 : decode cX12_keep 60 = .ok (.getfield 276, 3) := by decide +kernel
theorem dX12_keep_63 : decode cX12_keep 63 = .ok (.imul, 1) := by decide +kernel
theorem dX12_keep_64 : decode cX12_keep 64 = .ok (.iload_n 1, 1) := by decide +kernel
theorem dX12_keep_65 : decode cX12_keep 65 = .ok (.iadd, 1) := by decide +kernel
theorem dX12_keep_66 : decode cX12_keep 66 = .ok (.aload_n 0, 1) := by decide +kernel
theorem dX12_keep_67 : decode cX12_keep 67 = .ok (.getfield 33, 3) := by decide +kernel
theorem dX12_keep_70 : decode cX12_keep 70 = .ok (.bipush 61, 2) := by decide +kernel
theorem dX12_keep_72 : decode cX12_keep 72 = .ok (.iload_n 1, 1) := by decide +kernel
theorem dX12_keep_73 : decode cX12_keep 73 = .ok (.iadd, 1) := by decide +kernel
theorem dX12_keep_74 : decode cX12_keep 74 = .ok (.iaload, 1) := by decide +kernel
theorem dX12_keep_75 : decode cX12_keep 75 = .ok (.iastore, 1) := by decide +kernel
theorem dX12_keep_76 : decode cX12_keep 76 = .ok (.iinc 1 1, 3) := by decide +kernel
theorem dX12_keep_79 : decode cX12_keep 79 = .ok (.goto (-32), 3) := by decide +kernel
theorem dX12_keep_82 : decode cX12_keep 82 = .ok (.aload_n 0, 1) := by decide +kernel
theorem dX12_keep_83 : decode cX12_keep 83 = .ok (.dup, 1) := by decide +kernel
theorem dX12_keep_84 : decode cX12_keep 84 = .ok (.getfield 276, 3) := by decide +kernel
theorem dX12_keep_87 : decode cX12_keep 87 = .ok (.iconst 1, 1) := by decide +kernel
theorem dX12_keep_88 : decode cX12_keep 88 = .ok (.iadd, 1) := by decide +kernel
theorem dX12_keep_89 : decode cX12_keep 89 = .ok (.putfield 276, 3) := by decide +kernel
theorem dX12_keep_92 : decode cX12_keep 92 = .ok (.return_, 1) := by decide +kernel
theorem dX12_lift_0 : decode cX12_lift 0 = .ok (.aload_n 0, 1) := by decide +kernel
theorem dX12_lift_1 : decode cX12_lift 1 = .ok (.iconst 0, 1) := by decide +kernel
theorem dX12_lift_2 : decode cX12_lift 2 = .ok (.putfield 1, 3) := by decide +kernel
theorem dX12_lift_5 : decode cX12_lift 5 = .ok (.aload_n 0, 1) := by decide +kernel
theorem dX12_lift_6 : decode cX12_lift 6 = .ok (.iload_n 1, 1) := by decide +kernel
theorem dX12_lift_7 : decode cX12_lift 7 = .ok (.invokevirtual 303, 3) := by decide +kernel
theorem dX12_lift_10 : decode cX12_lift 10 = .ok (.ifCond .eq 12, 3) := by decide +kernel
theorem dX12_lift_13 : decode cX12_lift 13 = .ok (.iload_n 2, 1) := by decide +kernel
theorem dX12_lift_14 : decode cX12_lift 14 = .ok (.iconst 1, 1) := by decide +kernel
theorem dX12_lift_15 : decode cX12_lift 15 = .ok (.iconst 3, 1) := by decide +kernel
theorem dX12_lift_16 : decode cX12_lift 16 = .ok (.invokestatic 206, 3) := by decide +kernel
theorem dX12_lift_19 : decode cX12_lift 19 = .ok (.ifCond .ne 5, 3) := by decide +kernel
theorem dX12_lift_22 : decode cX12_lift 22 = .ok (.iconst (-1), 1) := by decide +kernel
theorem dX12_lift_23 : decode cX12_lift 23 = .ok (.ireturn, 1) := by decide +kernel
theorem dX12_lift_24 : decode cX12_lift 24 = .ok (.aload_n 0, 1) := by decide +kernel
theorem dX12_lift_25 : decode cX12_lift 25 = .ok (.iload_n 1, 1) := by decide +kernel
theorem dX12_lift_26 : decode cX12_lift 26 = .ok (.invokevirtual 290, 3) := by decide +kernel
theorem dX12_lift_29 : decode cX12_lift 29 = .ok (.ifCond .ne 5, 3) := by decide +kernel
theorem dX12_lift_32 : decode cX12_lift 32 = .ok (.iconst 1, 1) := by decide +kernel
theorem dX12_lift_33 : decode cX12_lift 33 = .ok (.ireturn, 1) := by decide +kernel
theorem dX12_lift_34 : decode cX12_lift 34 = .ok (.aload_n 0, 1) := by decide +kernel
theorem dX12_lift_35 : decode cX12_lift 35 = .ok (.invokevirtual 344, 3) := by decide +kernel
theorem dX12_lift_38 : decode cX12_lift 38 = .ok (.aload_n 0, 1) := by decide +kernel
theorem dX12_lift_39 : decode cX12_lift 39 = .ok (.iload_n 1, 1) := by decide +kernel
theorem dX12_lift_40 : decode cX12_lift 40 = .ok (.iload_n 2, 1) := by decide +kernel
theorem dX12_lift_41 : decode cX12_lift 41 = .ok (.invokevirtual 329, 3) := by decide +kernel
theorem dX12_lift_44 : decode cX12_lift 44 = .ok (.iconst 0, 1) := by decide +kernel
theorem dX12_lift_45 : decode cX12_lift 45 = .ok (.ireturn, 1) := by decide +kernel
theorem dX12_give_0 : decode cX12_give 0 = .ok (.aload_n 0, 1) := by decide +kernel
theorem dX12_give_1 : decode cX12_give 1 = .ok (.iconst 0, 1) := by decide +kernel
theorem dX12_give_2 : decode cX12_give 2 = .ok (.putfield 1, 3) := by decide +kernel
theorem dX12_give_5 : decode cX12_give 5 = .ok (.aload_n 0, 1) := by decide +kernel
theorem dX12_give_6 : decode cX12_give 6 = .ok (.iload_n 1, 1) := by decide +kernel
theorem dX12_give_7 : decode cX12_give 7 = .ok (.invokevirtual 303, 3) := by decide +kernel
theorem dX12_give_10 : decode cX12_give 10 = .ok (.ifCond .eq 11, 3) := by decide +kernel
theorem dX12_give_13 : decode cX12_give 13 = .ok (.aload_n 0, 1) := by decide +kernel
theorem dX12_give_14 : decode cX12_give 14 = .ok (.iload_n 2, 1) := by decide +kernel
theorem dX12_give_15 : decode cX12_give 15 = .ok (.invokevirtual 310, 3) := by decide +kernel
theorem dX12_give_18 : decode cX12_give 18 = .ok (.ifCond .ne 5, 3) := by decide +kernel
theorem dX12_give_21 : decode cX12_give 21 = .ok (.iconst (-1), 1) := by decide +kernel
theorem dX12_give_22 : decode cX12_give 22 = .ok (.ireturn, 1) := by decide +kernel
theorem dX12_give_23 : decode cX12_give 23 = .ok (.aload_n 0, 1) := by decide +kernel
theorem dX12_give_24 : decode cX12_give 24 = .ok (.iload_n 1, 1) := by decide +kernel
theorem dX12_give_25 : decode cX12_give 25 = .ok (.invokevirtual 290, 3) := by decide +kernel
theorem dX12_give_28 : decode cX12_give 28 = .ok (.ifCond .ne 5, 3) := by decide +kernel
theorem dX12_give_31 : decode cX12_give 31 = .ok (.iconst 1, 1) := by decide +kernel
theorem dX12_give_32 : decode cX12_give 32 = .ok (.ireturn, 1) := by decide +kernel
theorem dX12_give_33 : decode cX12_give 33 = .ok (.aload_n 0, 1) := by decide +kernel
theorem dX12_give_34 : decode cX12_give 34 = .ok (.invokevirtual 344, 3) := by decide +kernel
theorem dX12_give_37 : decode cX12_give 37 = .ok (.aload_n 0, 1) := by decide +kernel
theorem dX12_give_38 : decode cX12_give 38 = .ok (.iload_n 1, 1) := by decide +kernel
theorem dX12_give_39 : decode cX12_give 39 = .ok (.iload_n 2, 1) := by decide +kernel
theorem dX12_give_40 : decode cX12_give 40 = .ok (.invokevirtual 332, 3) := by decide +kernel
theorem dX12_give_43 : decode cX12_give 43 = .ok (.iconst 0, 1) := by decide +kernel
theorem dX12_give_44 : decode cX12_give 44 = .ok (.ireturn, 1) := by decide +kernel
theorem dX12_turns_0 : decode cX12_turns 0 = .ok (.aload_n 0, 1) := by decide +kernel
theorem dX12_turns_1 : decode cX12_turns 1 = .ok (.iconst 0, 1) := by decide +kernel
theorem dX12_turns_2 : decode cX12_turns 2 = .ok (.putfield 1, 3) := by decide +kernel
theorem dX12_turns_5 : decode cX12_turns 5 = .ok (.aload_n 0, 1) := by decide +kernel
theorem dX12_turns_6 : decode cX12_turns 6 = .ok (.iload_n 2, 1) := by decide +kernel
theorem dX12_turns_7 : decode cX12_turns 7 = .ok (.invokevirtual 303, 3) := by decide +kernel
theorem dX12_turns_10 : decode cX12_turns 10 = .ok (.ifCond .ne 5, 3) := by decide +kernel
theorem dX12_turns_13 : decode cX12_turns 13 = .ok (.iconst (-1), 1) := by decide +kernel
theorem dX12_turns_14 : decode cX12_turns 14 = .ok (.ireturn, 1) := by decide +kernel
theorem dX12_turns_15 : decode cX12_turns 15 = .ok (.aload_n 0, 1) := by decide +kernel
theorem dX12_turns_16 : decode cX12_turns 16 = .ok (.getfield 33, 3) := by decide +kernel
theorem dX12_turns_19 : decode cX12_turns 19 = .ok (.iload_n 1, 1) := by decide +kernel
theorem dX12_turns_20 : decode cX12_turns 20 = .ok (.iaload, 1) := by decide +kernel
theorem dX12_turns_21 : decode cX12_turns 21 = .ok (.iload_n 2, 1) := by decide +kernel
theorem dX12_turns_22 : decode cX12_turns 22 = .ok (.ishr, 1) := by decide +kernel
theorem dX12_turns_23 : decode cX12_turns 23 = .ok (.iconst 1, 1) := by decide +kernel
theorem dX12_turns_24 : decode cX12_turns 24 = .ok (.iand, 1) := by decide +kernel
theorem dX12_turns_25 : decode cX12_turns 25 = .ok (.iload_n 3, 1) := by decide +kernel
theorem dX12_turns_26 : decode cX12_turns 26 = .ok (.if_icmp .ne 5, 3) := by decide +kernel
theorem dX12_turns_29 : decode cX12_turns 29 = .ok (.iconst 1, 1) := by decide +kernel
theorem dX12_turns_30 : decode cX12_turns 30 = .ok (.ireturn, 1) := by decide +kernel
theorem dX12_turns_31 : decode cX12_turns 31 = .ok (.aload_n 0, 1) := by decide +kernel
theorem dX12_turns_32 : decode cX12_turns 32 = .ok (.invokevirtual 344, 3) := by decide +kernel
theorem dX12_turns_35 : decode cX12_turns 35 = .ok (.aload_n 0, 1) := by decide +kernel
theorem dX12_turns_36 : decode cX12_turns 36 = .ok (.getfield 33, 3) := by decide +kernel
theorem dX12_turns_39 : decode cX12_turns 39 = .ok (.iload_n 1, 1) := by decide +kernel
theorem dX12_turns_40 : decode cX12_turns 40 = .ok (.dup2, 1) := by decide +kernel
theorem dX12_turns_41 : decode cX12_turns 41 = .ok (.iaload, 1) := by decide +kernel
theorem dX12_turns_42 : decode cX12_turns 42 = .ok (.iconst 1, 1) := by decide +kernel
theorem dX12_turns_43 : decode cX12_turns 43 = .ok (.iload_n 2, 1) := by decide +kernel
theorem dX12_turns_44 : decode cX12_turns 44 = .ok (.ishl, 1) := by decide +kernel
theorem dX12_turns_45 : decode cX12_turns 45 = .ok (.ixor, 1) := by decide +kernel
theorem dX12_turns_46 : decode cX12_turns 46 = .ok (.iastore, 1) := by decide +kernel
theorem dX12_turns_47 : decode cX12_turns 47 = .ok (.iconst 0, 1) := by decide +kernel
theorem dX12_turns_48 : decode cX12_turns 48 = .ok (.ireturn, 1) := by decide +kernel
theorem dX12_sleep_0 : decode cX12_sleep 0 = .ok (.aload_n 0, 1) := by decide +kernel
theorem dX12_sleep_1 : decode cX12_sleep 1 = .ok (.bipush 63, 2) := by decide +kernel
theorem dX12_sleep_3 : decode cX12_sleep 3 = .ok (.iload_n 1, 1) := by decide +kernel
theorem dX12_sleep_4 : decode cX12_sleep 4 = .ok (.iconst 1, 1) := by decide +kernel
theorem dX12_sleep_5 : decode cX12_sleep 5 = .ok (.invokevirtual 347, 3) := by decide +kernel
theorem dX12_sleep_8 : decode cX12_sleep 8 = .ok (.ireturn, 1) := by decide +kernel
theorem dX12_wake_0 : decode cX12_wake 0 = .ok (.aload_n 0, 1) := by decide +kernel
theorem dX12_wake_1 : decode cX12_wake 1 = .ok (.bipush 63, 2) := by decide +kernel
theorem dX12_wake_3 : decode cX12_wake 3 = .ok (.iload_n 1, 1) := by decide +kernel
theorem dX12_wake_4 : decode cX12_wake 4 = .ok (.iconst 0, 1) := by decide +kernel
theorem dX12_wake_5 : decode cX12_wake 5 = .ok (.invokevirtual 347, 3) := by decide +kernel
theorem dX12_wake_8 : decode cX12_wake 8 = .ok (.ireturn, 1) := by decide +kernel
theorem dX12_soot_0 : decode cX12_soot 0 = .ok (.aload_n 0, 1) := by decide +kernel
theorem dX12_soot_1 : decode cX12_soot 1 = .ok (.bipush 64, 2) := by decide +kernel
theorem dX12_soot_3 : decode cX12_soot 3 = .ok (.iload_n 1, 1) := by decide +kernel
theorem dX12_soot_4 : decode cX12_soot 4 = .ok (.iconst 1, 1) := by decide +kernel
theorem dX12_soot_5 : decode cX12_soot 5 = .ok (.invokevirtual 347, 3) := by decide +kernel
theorem dX12_soot_8 : decode cX12_soot 8 = .ok (.ireturn, 1) := by decide +kernel
theorem dX12_go_0 : decode cX12_go 0 = .ok (.aload_n 0, 1) := by decide +kernel
theorem dX12_go_1 : decode cX12_go 1 = .ok (.iconst 0, 1) := by decide +kernel
theorem dX12_go_2 : decode cX12_go 2 = .ok (.putfield 1, 3) := by decide +kernel
theorem dX12_go_5 : decode cX12_go 5 = .ok (.aload_n 0, 1) := by decide +kernel
theorem dX12_go_6 : decode cX12_go 6 = .ok (.iload_n 1, 1) := by decide +kernel
theorem dX12_go_7 : decode cX12_go 7 = .ok (.invokevirtual 303, 3) := by decide +kernel
theorem dX12_go_10 : decode cX12_go 10 = .ok (.ifCond .eq 12, 3) := by decide +kernel
theorem dX12_go_13 : decode cX12_go 13 = .ok (.iload_n 2, 1) := by decide +kernel
theorem dX12_go_14 : decode cX12_go 14 = .ok (.iconst 0, 1) := by decide +kernel
theorem dX12_go_15 : decode cX12_go 15 = .ok (.iconst 3, 1) := by decide +kernel
theorem dX12_go_16 : decode cX12_go 16 = .ok (.invokestatic 206, 3) := by decide +kernel
theorem dX12_go_19 : decode cX12_go 19 = .ok (.ifCond .ne 5, 3) := by decide +kernel
theorem dX12_go_22 : decode cX12_go 22 = .ok (.iconst (-1), 1) := by decide +kernel
theorem dX12_go_23 : decode cX12_go 23 = .ok (.ireturn, 1) := by decide +kernel
theorem dX12_go_24 : decode cX12_go 24 = .ok (.aload_n 0, 1) := by decide +kernel
theorem dX12_go_25 : decode cX12_go 25 = .ok (.iload_n 1, 1) := by decide +kernel
theorem dX12_go_26 : decode cX12_go 26 = .ok (.iload_n 2, 1) := by decide +kernel
theorem dX12_go_27 : decode cX12_go 27 = .ok (.invokevirtual 351, 3) := by decide +kernel
theorem dX12_go_30 : decode cX12_go 30 = .ok (.ifCond .le 5, 3) := by decide +kernel
theorem dX12_go_33 : decode cX12_go 33 = .ok (.iconst 1, 1) := by decide +kernel
theorem dX12_go_34 : decode cX12_go 34 = .ok (.ireturn, 1) := by decide +kernel
theorem dX12_go_35 : decode cX12_go 35 = .ok (.aload_n 0, 1) := by decide +kernel
theorem dX12_go_36 : decode cX12_go 36 = .ok (.invokevirtual 344, 3) := by decide +kernel
theorem dX12_go_39 : decode cX12_go 39 = .ok (.aload_n 0, 1) := by decide +kernel
theorem dX12_go_40 : decode cX12_go 40 = .ok (.iload_n 1, 1) := by decide +kernel
theorem dX12_go_41 : decode cX12_go 41 = .ok (.iload_n 2, 1) := by decide +kernel
theorem dX12_go_42 : decode cX12_go 42 = .ok (.invokevirtual 354, 3) := by decide +kernel
theorem dX12_go_45 : decode cX12_go 45 = .ok (.iconst 0, 1) := by decide +kernel
theorem dX12_go_46 : decode cX12_go 46 = .ok (.ireturn, 1) := by decide +kernel
theorem dX12_hours_0 : decode cX12_hours 0 = .ok (.aload_n 0, 1) := by decide +kernel
theorem dX12_hours_1 : decode cX12_hours 1 = .ok (.iconst 0, 1) := by decide +kernel
theorem dX12_hours_2 : decode cX12_hours 2 = .ok (.putfield 1, 3) := by decide +kernel
theorem dX12_hours_5 : decode cX12_hours 5 = .ok (.iload_n 1, 1) := by decide +kernel
theorem dX12_hours_6 : decode cX12_hours 6 = .ok (.iconst 1, 1) := by decide +kernel
theorem dX12_hours_7 : decode cX12_hours 7 = .ok (.bipush 60, 2) := by decide +kernel
theorem dX12_hours_9 : decode cX12_hours 9 = .ok (.invokestatic 206, 3) := by decide +kernel
theorem dX12_hours_12 : decode cX12_hours 12 = .ok (.ifCond .ne 5, 3) := by decide +kernel
theorem dX12_hours_15 : decode cX12_hours 15 = .ok (.iconst (-1), 1) := by decide +kernel
theorem dX12_hours_16 : decode cX12_hours 16 = .ok (.ireturn, 1) := by decide +kernel
theorem dX12_hours_17 : decode cX12_hours 17 = .ok (.aload_n 0, 1) := by decide +kernel
theorem dX12_hours_18 : decode cX12_hours 18 = .ok (.getfield 33, 3) := by decide +kernel
theorem dX12_hours_21 : decode cX12_hours 21 = .ok (.bipush 61, 2) := by decide +kernel
theorem dX12_hours_23 : decode cX12_hours 23 = .ok (.iaload, 1) := by decide +kernel
theorem dX12_hours_24 : decode cX12_hours 24 = .ok (.sipush 400, 3) := by decide +kernel
theorem dX12_hours_27 : decode cX12_hours 27 = .ok (.if_icmp .ne 5, 3) := by decide +kernel
theorem dX12_hours_30 : decode cX12_hours 30 = .ok (.iconst 0, 1) := by decide +kernel
theorem dX12_hours_31 : decode cX12_hours 31 = .ok (.ireturn, 1) := by decide +kernel
theorem dX12_hours_32 : decode cX12_hours 32 = .ok (.aload_n 0, 1) := by decide +kernel
theorem dX12_hours_33 : decode cX12_hours 33 = .ok (.invokevirtual 344, 3) := by decide +kernel
theorem dX12_hours_36 : decode cX12_hours 36 = .ok (.aload_n 0, 1) := by decide +kernel
theorem dX12_hours_37 : decode cX12_hours 37 = .ok (.iload_n 1, 1) := by decide +kernel
theorem dX12_hours_38 : decode cX12_hours 38 = .ok (.invokevirtual 357, 3) := by decide +kernel
theorem dX12_hours_41 : decode cX12_hours 41 = .ok (.ireturn, 1) := by decide +kernel
theorem dX12_undo_0 : decode cX12_undo 0 = .ok (.aload_n 0, 1) := by decide +kernel
theorem dX12_undo_1 : decode cX12_undo 1 = .ok (.iconst 0, 1) := by decide +kernel
theorem dX12_undo_2 : decode cX12_undo 2 = .ok (.putfield 1, 3) := by decide +kernel
theorem dX12_undo_5 : decode cX12_undo 5 = .ok (.aload_n 0, 1) := by decide +kernel
theorem dX12_undo_6 : decode cX12_undo 6 = .ok (.getfield 276, 3) := by decide +kernel
theorem dX12_undo_9 : decode cX12_undo 9 = .ok (.ifCond .ne 5, 3) := by decide +kernel
theorem dX12_undo_12 : decode cX12_undo 12 = .ok (.iconst (-1), 1) := by decide +kernel
theorem dX12_undo_13 : decode cX12_undo 13 = .ok (.ireturn, 1) := by decide +kernel
theorem dX12_undo_14 : decode cX12_undo 14 = .ok (.aload_n 0, 1) := by decide +kernel
theorem dX12_undo_15 : decode cX12_undo 15 = .ok (.dup, 1) := by decide +kernel
theorem dX12_undo_16 : decode cX12_undo 16 = .ok (.getfield 276, 3) := by decide +kernel
theorem dX12_undo_19 : decode cX12_undo 19 = .ok (.iconst 1, 1) := by decide +kernel
theorem dX12_undo_20 : decode cX12_undo 20 = .ok (.isub, 1) := by decide +kernel
theorem dX12_undo_21 : decode cX12_undo 21 = .ok (.putfield 276, 3) := by decide +kernel
theorem dX12_undo_24 : decode cX12_undo 24 = .ok (.iconst 0, 1) := by decide +kernel
theorem dX12_undo_25 : decode cX12_undo 25 = .ok (.istore_n 1, 1) := by decide +kernel
theorem dX12_undo_26 : decode cX12_undo 26 = .ok (.iload_n 1, 1) := by decide +kernel
theorem dX12_undo_27 : decode cX12_undo 27 = .ok (.bipush 45, 2) := by decide +kernel
theorem dX12_undo_29 : decode cX12_undo 29 = .ok (.if_icmp .ge 32, 3) := by decide +kernel
theorem dX12_undo_32 : decode cX12_undo 32 = .ok (.aload_n 0, 1) := by decide +kernel
theorem dX12_undo_33 : decode cX12_undo 33 = .ok (.getfield 33, 3) := by decide +kernel
theorem dX12_undo_36 : decode cX12_undo 36 = .ok (.bipush 61, 2) := by decide +kernel
theorem dX12_undo_38 : decode cX12_undo 38 = .ok (.iload_n 1, 1) := by decide +kernel
theorem dX12_undo_39 : decode cX12_undo 39 = .ok (.iadd, 1) := by decide +kernel
theorem dX12_undo_40 : decode cX12_undo 40 = .ok (.aload_n 0, 1) := by decide +kernel
theorem dX12_undo_41 : decode cX12_undo 41 = .ok (.getfield 53, 3) := by decide +kernel
theorem dX12_undo_44 : decode cX12_undo 44 = .ok (.bipush 45, 2) := by decide +kernel
theorem dX12_undo_46 : decode cX12_undo 46 = .ok (.aload_n 0, 1) := by decide +kernel
theorem dX12_undo_47 : decode cX12_undo 47 = .ok (.getfield 276, 3) := by decide +kernel
theorem dX12_undo_50 : decode cX12_undo 50 = .ok (.imul, 1) := by decide +kernel
theorem dX12_undo_51 : decode cX12_undo 51 = .ok (.iload_n 1, 1) := by decide +kernel
theorem dX12_undo_52 : decode cX12_undo 52 = .ok (.iadd, 1) := by decide +kernel
theorem dX12_undo_53 : decode cX12_undo 53 = .ok (.iaload, 1) := by decide +kernel
theorem dX12_undo_54 : decode cX12_undo 54 = .ok (.iastore, 1) := by decide +kernel
theorem dX12_undo_55 : decode cX12_undo 55 = .ok (.iinc 1 1, 3) := by decide +kernel
theorem dX12_undo_58 : decode cX12_undo 58 = .ok (.goto (-32), 3) := by decide +kernel
theorem dX12_undo_61 : decode cX12_undo 61 = .ok (.aload_n 0, 1) := by decide +kernel
theorem dX12_undo_62 : decode cX12_undo 62 = .ok (.getfield 276, 3) := by decide +kernel
theorem dX12_undo_65 : decode cX12_undo 65 = .ok (.ireturn, 1) := by decide +kernel
theorem dX12_tries_0 : decode cX12_tries 0 = .ok (.iconst 0, 1) := by decide +kernel
theorem dX12_tries_1 : decode cX12_tries 1 = .ok (.istore_n 1, 1) := by decide +kernel
theorem dX12_tries_2 : decode cX12_tries 2 = .ok (.iload_n 1, 1) := by decide +kernel
theorem dX12_tries_3 : decode cX12_tries 3 = .ok (.bipush 45, 2) := by decide +kernel
theorem dX12_tries_5 : decode cX12_tries 5 = .ok (.if_icmp .ge 24, 3) := by decide +kernel
theorem dX12_tries_8 : decode cX12_tries 8 = .ok (.aload_n 0, 1) := by decide +kernel
theorem dX12_tries_9 : decode cX12_tries 9 = .ok (.getfield 56, 3) := by decide +kernel
theorem dX12_tries_12 : decode cX12_tries 12 = .ok (.iload_n 1, 1) := by decide +kernel
theorem dX12_tries_13 : decode cX12_tries 13 = .ok (.aload_n 0, 1) := by decide +kernel
theorem dX12_tries_14 : decode cX12_tries 14 = .ok (.getfield 33, 3) := by decide +kernel
theorem dX12_tries_17 : decode cX12_tries 17 = .ok (.bipush 61, 2) := by decide +kernel
theorem dX12_tries_19 : decode cX12_tries 19 = .ok (.iload_n 1, 1) := by decide +kernel
theorem dX12_tries_20 : decode cX12_tries 20 = .ok (.iadd, 1) := by decide +kernel
theorem dX12_tries_21 : decode cX12_tries 21 = .ok (.iaload, 1) := by decide +kernel
theorem dX12_tries_22 : decode cX12_tries 22 = .ok (.iastore, 1) := by decide +kernel
theorem dX12_tries_23 : decode cX12_tries 23 = .ok (.iinc 1 1, 3) := by decide +kernel
theorem dX12_tries_26 : decode cX12_tries 26 = .ok (.goto (-24), 3) := by decide +kernel
theorem dX12_tries_29 : decode cX12_tries 29 = .ok (.return_, 1) := by decide +kernel
theorem dX12_back_0 : decode cX12_back 0 = .ok (.iconst 0, 1) := by decide +kernel
theorem dX12_back_1 : decode cX12_back 1 = .ok (.istore_n 1, 1) := by decide +kernel
theorem dX12_back_2 : decode cX12_back 2 = .ok (.iload_n 1, 1) := by decide +kernel
theorem dX12_back_3 : decode cX12_back 3 = .ok (.bipush 45, 2) := by decide +kernel
theorem dX12_back_5 : decode cX12_back 5 = .ok (.if_icmp .ge 24, 3) := by decide +kernel
theorem dX12_back_8 : decode cX12_back 8 = .ok (.aload_n 0, 1) := by decide +kernel
theorem dX12_back_9 : decode cX12_back 9 = .ok (.getfield 33, 3) := by decide +kernel
theorem dX12_back_12 : decode cX12_back 12 = .ok (.bipush 61, 2) := by decide +kernel
theorem dX12_back_14 : decode cX12_back 14 = .ok (.iload_n 1, 1) := by decide +kernel
theorem dX12_back_15 : decode cX12_back 15 = .ok (.iadd, 1) := by decide +kernel
theorem dX12_back_16 : decode cX12_back 16 = .ok (.aload_n 0, 1) := by decide +kernel
theorem dX12_back_17 : decode cX12_back 17 = .ok (.getfield 56, 3) := by decide +kernel
theorem dX12_back_20 : decode cX12_back 20 = .ok (.iload_n 1, 1) := by decide +kernel
theorem dX12_back_21 : decode cX12_back 21 = .ok (.iaload, 1) := by decide +kernel
theorem dX12_back_22 : decode cX12_back 22 = .ok (.iastore, 1) := by decide +kernel
theorem dX12_back_23 : decode cX12_back 23 = .ok (.iinc 1 1, 3) := by decide +kernel
theorem dX12_back_26 : decode cX12_back 26 = .ok (.goto (-24), 3) := by decide +kernel
theorem dX12_back_29 : decode cX12_back 29 = .ok (.return_, 1) := by decide +kernel
theorem dX12_sees_0 : decode cX12_sees 0 = .ok (.aload_n 0, 1) := by decide +kernel
theorem dX12_sees_1 : decode cX12_sees 1 = .ok (.iconst 0, 1) := by decide +kernel
theorem dX12_sees_2 : decode cX12_sees 2 = .ok (.putfield 1, 3) := by decide +kernel
theorem dX12_sees_5 : decode cX12_sees 5 = .ok (.aload_n 0, 1) := by decide +kernel
theorem dX12_sees_6 : decode cX12_sees 6 = .ok (.iload_n 1, 1) := by decide +kernel
theorem dX12_sees_7 : decode cX12_sees 7 = .ok (.invokevirtual 303, 3) := by decide +kernel
theorem dX12_sees_10 : decode cX12_sees 10 = .ok (.ifCond .eq 11, 3) := by decide +kernel
theorem dX12_sees_13 : decode cX12_sees 13 = .ok (.aload_n 0, 1) := by decide +kernel
theorem dX12_sees_14 : decode cX12_sees 14 = .ok (.iload_n 1, 1) := by decide +kernel
theorem dX12_sees_15 : decode cX12_sees 15 = .ok (.invokevirtual 360, 3) := by decide +kernel
theorem dX12_sees_18 : decode cX12_sees 18 = .ok (.goto 4, 3) := by decide +kernel
theorem dX12_sees_21 : decode cX12_sees 21 = .ok (.iconst (-1), 1) := by decide +kernel
theorem dX12_sees_22 : decode cX12_sees 22 = .ok (.ireturn, 1) := by decide +kernel
theorem dX12_reads_0 : decode cX12_reads 0 = .ok (.aload_n 0, 1) := by decide +kernel
theorem dX12_reads_1 : decode cX12_reads 1 = .ok (.iconst 0, 1) := by decide +kernel
theorem dX12_reads_2 : decode cX12_reads 2 = .ok (.putfield 1, 3) := by decide +kernel
theorem dX12_reads_5 : decode cX12_reads 5 = .ok (.aload_n 0, 1) := by decide +kernel
theorem dX12_reads_6 : decode cX12_reads 6 = .ok (.iload_n 1, 1) := by decide +kernel
theorem dX12_reads_7 : decode cX12_reads 7 = .ok (.invokevirtual 303, 3) := by decide +kernel
theorem dX12_reads_10 : decode cX12_reads 10 = .ok (.ifCond .eq 11, 3) := by decide +kernel
theorem dX12_reads_13 : decode cX12_reads 13 = .ok (.aload_n 0, 1) := by decide +kernel
theorem dX12_reads_14 : decode cX12_reads 14 = .ok (.iload_n 1, 1) := by decide +kernel
theorem dX12_reads_15 : decode cX12_reads 15 = .ok (.invokevirtual 322, 3) := by decide +kernel
theorem dX12_reads_18 : decode cX12_reads 18 = .ok (.goto 4, 3) := by decide +kernel
theorem dX12_reads_21 : decode cX12_reads 21 = .ok (.iconst (-1), 1) := by decide +kernel
theorem dX12_reads_22 : decode cX12_reads 22 = .ok (.ireturn, 1) := by decide +kernel
theorem dX12_foes_0 : decode cX12_foes 0 = .ok (.aload_n 0, 1) := by decide +kernel
theorem dX12_foes_1 : decode cX12_foes 1 = .ok (.iconst 0, 1) := by decide +kernel
theorem dX12_foes_2 : decode cX12_foes 2 = .ok (.putfield 1, 3) := by decide +kernel
theorem dX12_foes_5 : decode cX12_foes 5 = .ok (.aload_n 0, 1) := by decide +kernel
theorem dX12_foes_6 : decode cX12_foes 6 = .ok (.iload_n 1, 1) := by decide +kernel
theorem dX12_foes_7 : decode cX12_foes 7 = .ok (.invokevirtual 303, 3) := by decide +kernel
theorem dX12_foes_10 : decode cX12_foes 10 = .ok (.ifCond .eq 29, 3) := by decide +kernel
theorem dX12_foes_13 : decode cX12_foes 13 = .ok (.aload_n 0, 1) := by decide +kernel
theorem dX12_foes_14 : decode cX12_foes 14 = .ok (.iload_n 1, 1) := by decide +kernel
theorem dX12_foes_15 : decode cX12_foes 15 = .ok (.aload_n 0, 1) := by decide +kernel
theorem dX12_foes_16 : decode cX12_foes 16 = .ok (.getfield 33, 3) := by decide +kernel
theorem dX12_foes_19 : decode cX12_foes 19 = .ok (.bipush 66, 2) := by decide +kernel
theorem dX12_foes_21 : decode cX12_foes 21 = .ok (.iload_n 1, 1) := by decide +kernel
theorem dX12_foes_22 : decode cX12_foes 22 = .ok (.iadd, 1) := by decide +kernel
theorem dX12_foes_23 : decode cX12_foes 23 = .ok (.iaload, 1) := by decide +kernel
theorem dX12_foes_24 : decode cX12_foes 24 = .ok (.aload_n 0, 1) := by decide +kernel
theorem dX12_foes_25 : decode cX12_foes 25 = .ok (.getfield 33, 3) := by decide +kernel
theorem dX12_foes_28 : decode cX12_foes 28 = .ok (.bipush 74, 2) := by decide +kernel
theorem dX12_foes_30 : decode cX12_foes 30 = .ok (.iload_n 1, 1) := by decide +kernel
theorem dX12_foes_31 : decode cX12_foes 31 = .ok (.iadd, 1) := by decide +kernel
theorem dX12_foes_32 : decode cX12_foes 32 = .ok (.iaload, 1) := by decide +kernel
theorem dX12_foes_33 : decode cX12_foes 33 = .ok (.invokevirtual 363, 3) := by decide +kernel
theorem dX12_foes_36 : decode cX12_foes 36 = .ok (.goto 4, 3) := by decide +kernel
theorem dX12_foes_39 : decode cX12_foes 39 = .ok (.iconst (-1), 1) := by decide +kernel
theorem dX12_foes_40 : decode cX12_foes 40 = .ok (.ireturn, 1) := by decide +kernel
theorem dX12_reachOf_0 : decode cX12_reachOf 0 = .ok (.aload_n 0, 1) := by decide +kernel
theorem dX12_reachOf_1 : decode cX12_reachOf 1 = .ok (.invokevirtual 366, 3) := by decide +kernel
theorem dX12_reachOf_4 : decode cX12_reachOf 4 = .ok (.aload_n 0, 1) := by decide +kernel
theorem dX12_reachOf_5 : decode cX12_reachOf 5 = .ok (.iload_n 1, 1) := by decide +kernel
theorem dX12_reachOf_6 : decode cX12_reachOf 6 = .ok (.iload_n 2, 1) := by decide +kernel
theorem dX12_reachOf_7 : decode cX12_reachOf 7 = .ok (.invokevirtual 332, 3) := by decide +kernel
theorem dX12_reachOf_10 : decode cX12_reachOf 10 = .ok (.aload_n 0, 1) := by decide +kernel
theorem dX12_reachOf_11 : decode cX12_reachOf 11 = .ok (.bipush 20, 2) := by decide +kernel
theorem dX12_reachOf_13 : decode cX12_reachOf 13 = .ok (.invokevirtual 357, 3) := by decide +kernel
theorem dX12_reachOf_16 : decode cX12_reachOf 16 = .ok (.pop, 1) := by decide +kernel
theorem dX12_reachOf_17 : decode cX12_reachOf 17 = .ok (.aload_n 0, 1) := by decide +kernel
theorem dX12_reachOf_18 : decode cX12_reachOf 18 = .ok (.iload_n 2, 1) := by decide +kernel
theorem dX12_reachOf_19 : decode cX12_reachOf 19 = .ok (.invokevirtual 313, 3) := by decide +kernel
theorem dX12_reachOf_22 : decode cX12_reachOf 22 = .ok (.istore_n 3, 1) := by decide +kernel
theorem dX12_reachOf_23 : decode cX12_reachOf 23 = .ok (.aload_n 0, 1) := by decide +kernel
theorem dX12_reachOf_24 : decode cX12_reachOf 24 = .ok (.invokevirtual 369, 3) := by decide +kernel
theorem dX12_reachOf_27 : decode cX12_reachOf 27 = .ok (.iload_n 3, 1) := by decide +kernel
theorem dX12_reachOf_28 : decode cX12_reachOf 28 = .ok (.ireturn, 1) := by decide +kernel
theorem dX12_reach_0 : decode cX12_reach 0 = .ok (.aload_n 0, 1) := by decide +kernel
theorem dX12_reach_1 : decode cX12_reach 1 = .ok (.iconst 0, 1) := by decide +kernel
theorem dX12_reach_2 : decode cX12_reach 2 = .ok (.putfield 1, 3) := by decide +kernel
theorem dX12_reach_5 : decode cX12_reach 5 = .ok (.aload_n 0, 1) := by decide +kernel
theorem dX12_reach_6 : decode cX12_reach 6 = .ok (.iload_n 1, 1) := by decide +kernel
theorem dX12_reach_7 : decode cX12_reach 7 = .ok (.invokevirtual 303, 3) := by decide +kernel
theorem dX12_reach_10 : decode cX12_reach 10 = .ok (.ifCond .eq 28, 3) := by decide +kernel
theorem dX12_reach_13 : decode cX12_reach 13 = .ok (.aload_n 0, 1) := by decide +kernel
theorem dX12_reach_14 : decode cX12_reach 14 = .ok (.iload_n 2, 1) := by decide +kernel
theorem dX12_reach_15 : decode cX12_reach 15 = .ok (.invokevirtual 310, 3) := by decide +kernel
theorem dX12_reach_18 : decode cX12_reach 18 = .ok (.ifCond .eq 20, 3) := by decide +kernel
theorem dX12_reach_21 : decode cX12_reach 21 = .ok (.aload_n 0, 1) := by decide +kernel
theorem dX12_reach_22 : decode cX12_reach 22 = .ok (.iload_n 1, 1) := by decide +kernel
theorem dX12_reach_23 : decode cX12_reach 23 = .ok (.invokevirtual 290, 3) := by decide +kernel
theorem dX12_reach_26 : decode cX12_reach 26 = .ok (.ifCond .le 12, 3) := by decide +kernel
theorem dX12_reach_29 : decode cX12_reach 29 = .ok (.aload_n 0, 1) := by decide +kernel
theorem dX12_reach_30 : decode cX12_reach 30 = .ok (.iload_n 1, 1) := by decide +kernel
theorem dX12_reach_31 : decode cX12_reach 31 = .ok (.iload_n 2, 1) := by decide +kernel
theorem dX12_reach_32 : decode cX12_reach 32 = .ok (.invokevirtual 372, 3) := by decide +kernel
theorem dX12_reach_35 : decode cX12_reach 35 = .ok (.goto 4, 3) := by decide +kernel
theorem dX12_reach_38 : decode cX12_reach 38 = .ok (.iconst (-1), 1) := by decide +kernel
theorem dX12_reach_39 : decode cX12_reach 39 = .ok (.ireturn, 1) := by decide +kernel
theorem dX12_soon_0 : decode cX12_soon 0 = .ok (.aload_n 0, 1) := by decide +kernel
theorem dX12_soon_1 : decode cX12_soon 1 = .ok (.iconst 0, 1) := by decide +kernel
theorem dX12_soon_2 : decode cX12_soon 2 = .ok (.putfield 1, 3) := by decide +kernel
theorem dX12_soon_5 : decode cX12_soon 5 = .ok (.aload_n 0, 1) := by decide +kernel
theorem dX12_soon_6 : decode cX12_soon 6 = .ok (.iload_n 1, 1) := by decide +kernel
theorem dX12_soon_7 : decode cX12_soon 7 = .ok (.invokevirtual 303, 3) := by decide +kernel
theorem dX12_soon_10 : decode cX12_soon 10 = .ok (.ifCond .eq 19, 3) := by decide +kernel
theorem dX12_soon_13 : decode cX12_soon 13 = .ok (.aload_n 0, 1) := by decide +kernel
theorem dX12_soon_14 : decode cX12_soon 14 = .ok (.iload_n 2, 1) := by decide +kernel
theorem dX12_soon_15 : decode cX12_soon 15 = .ok (.invokevirtual 310, 3) := by decide +kernel
theorem dX12_soon_18 : decode cX12_soon 18 = .ok (.ifCond .eq 11, 3) := by decide +kernel
theorem dX12_soon_21 : decode cX12_soon 21 = .ok (.aload_n 0, 1) := by decide +kernel
theorem dX12_soon_22 : decode cX12_soon 22 = .ok (.iload_n 1, 1) := by decide +kernel
theorem dX12_soon_23 : decode cX12_soon 23 = .ok (.invokevirtual 290, 3) := by decide +kernel
theorem dX12_soon_26 : decode cX12_soon 26 = .ok (.ifCond .ne 5, 3) := by decide +kernel
theorem dX12_soon_29 : decode cX12_soon 29 = .ok (.iconst (-1), 1) := by decide +kernel
theorem dX12_soon_30 : decode cX12_soon 30 = .ok (.ireturn, 1) := by decide +kernel
theorem dX12_soon_31 : decode cX12_soon 31 = .ok (.aload_n 0, 1) := by decide +kernel
theorem dX12_soon_32 : decode cX12_soon 32 = .ok (.iload_n 1, 1) := by decide +kernel
theorem dX12_soon_33 : decode cX12_soon 33 = .ok (.invokevirtual 375, 3) := by decide +kernel
theorem dX12_soon_36 : decode cX12_soon 36 = .ok (.istore_n 3, 1) := by decide +kernel
theorem dX12_soon_37 : decode cX12_soon 37 = .ok (.aload_n 0, 1) := by decide +kernel
theorem dX12_soon_38 : decode cX12_soon 38 = .ok (.invokevirtual 366, 3) := by decide +kernel
theorem dX12_soon_41 : decode cX12_soon 41 = .ok (.aload_n 0, 1) := by decide +kernel
theorem dX12_soon_42 : decode cX12_soon 42 = .ok (.iload_n 1, 1) := by decide +kernel
theorem dX12_soon_43 : decode cX12_soon 43 = .ok (.iload_n 2, 1) := by decide +kernel
theorem dX12_soon_44 : decode cX12_soon 44 = .ok (.invokevirtual 332, 3) := by decide +kernel
theorem dX12_soon_47 : decode cX12_soon 47 = .ok (.iconst (-1), 1) := by decide +kernel
theorem dX12_soon_48 : decode cX12_soon 48 = .ok (.istore 4, 2) := by decide +kernel
theorem dX12_soon_50 : decode cX12_soon 50 = .ok (.iconst 0, 1) := by decide +kernel
theorem dX12_soon_51 : decode cX12_soon 51 = .ok (.istore 5, 2) := by decide +kernel
theorem dX12_soon_53 : decode cX12_soon 53 = .ok (.iload 5, 2) := by decide +kernel
theorem dX12_soon_55 : decode cX12_soon 55 = .ok (.bipush 20, 2) := by decide +kernel
theorem dX12_soon_57 : decode cX12_soon 57 = .ok (.if_icmp .gt 49, 3) := by decide +kernel
theorem dX12_soon_60 : decode cX12_soon 60 = .ok (.iload 4, 2) := by decide +kernel
theorem dX12_soon_62 : decode cX12_soon 62 = .ok (.ifCond .ge 44, 3) := by decide +kernel
theorem dX12_soon_65 : decode cX12_soon 65 = .ok (.aload_n 0, 1) := by decide +kernel
theorem dX12_soon_66 : decode cX12_soon 66 = .ok (.iload_n 2, 1) := by decide +kernel
theorem dX12_soon_67 : decode cX12_soon 67 = .ok (.invokevirtual 313, 3) := by decide +kernel
theorem dX12_soon_70 : decode cX12_soon 70 = .ok (.iload_n 3, 1) := by decide +kernel
theorem dX12_soon_71 : decode cX12_soon 71 = .ok (.iand, 1) := by decide +kernel
theorem dX12_soon_72 : decode cX12_soon 72 = .ok (.iload_n 3, 1) := by decide +kernel
theorem dX12_soon_73 : decode cX12_soon 73 = .ok (.if_icmp .ne 7, 3) := by decide +kernel
theorem dX12_soon_76 : decode cX12_soon 76 = .ok (.iload 5, 2) := by decide +kernel
theorem dX12_soon_78 : decode cX12_soon 78 = .ok (.istore 4, 2) := by decide +kernel
theorem dX12_soon_80 : decode cX12_soon 80 = .ok (.aload_n 0, 1) := by decide +kernel
theorem dX12_soon_81 : decode cX12_soon 81 = .ok (.getfield 33, 3) := by decide +kernel
theorem dX12_soon_84 : decode cX12_soon 84 = .ok (.bipush 61, 2) := by decide +kernel
theorem dX12_soon_86 : decode cX12_soon 86 = .ok (.iaload, 1) := by decide +kernel
theorem dX12_soon_87 : decode cX12_soon 87 = .ok (.sipush 400, 3) := by decide +kernel
theorem dX12_soon_90 : decode cX12_soon 90 = .ok (.if_icmp .ne 6, 3) := by decide +kernel
theorem dX12_soon_93 : decode cX12_soon 93 = .ok (.goto 13, 3) := by decide +kernel
theorem dX12_soon_96 : decode cX12_soon 96 = .ok (.aload_n 0, 1) := by decide +kernel
theorem dX12_soon_97 : decode cX12_soon 97 = .ok (.invokevirtual 335, 3) := by decide +kernel
theorem dX12_soon_100 : decode cX12_soon 100 = .ok (.iinc 5 1, 3) := by decide +kernel
theorem dX12_soon_103 : decode cX12_soon 103 = .ok (.goto (-50), 3) := by decide +kernel
theorem dX12_soon_106 : decode cX12_soon 106 = .ok (.aload_n 0, 1) := by decide +kernel
theorem dX12_soon_107 : decode cX12_soon 107 = .ok (.invokevirtual 369, 3) := by decide +kernel
theorem dX12_soon_110 : decode cX12_soon 110 = .ok (.iload 4, 2) := by decide +kernel
theorem dX12_soon_112 : decode cX12_soon 112 = .ok (.ireturn, 1) := by decide +kernel
theorem dX12_best_0 : decode cX12_best 0 = .ok (.aload_n 0, 1) := by decide +kernel
theorem dX12_best_1 : decode cX12_best 1 = .ok (.iconst 0, 1) := by decide +kernel
theorem dX12_best_2 : decode cX12_best 2 = .ok (.putfield 1, 3) := by decide +kernel
theorem dX12_best_5 : decode cX12_best 5 = .ok (.aload_n 0, 1) := by decide +kernel
theorem dX12_best_6 : decode cX12_best 6 = .ok (.iload_n 1, 1) := by decide +kernel
theorem dX12_best_7 : decode cX12_best 7 = .ok (.invokevirtual 310, 3) := by decide +kernel
theorem dX12_best_10 : decode cX12_best 10 = .ok (.ifCond .ne 5, 3) := by decide +kernel
theorem dX12_best_13 : decode cX12_best 13 = .ok (.iconst (-1), 1) := by decide +kernel
theorem dX12_best_14 : decode cX12_best 14 = .ok (.ireturn, 1) := by decide +kernel
theorem dX12_best_15 : decode cX12_best 15 = .ok (.iconst (-1), 1) := by decide +kernel
theorem dX12_best_16 : decode cX12_best 16 = .ok (.istore_n 2, 1) := by decide +kernel
theorem dX12_best_17 : decode cX12_best 17 = .ok (.iconst (-1), 1) := by decide +kernel
theorem dX12_best_18 : decode cX12_best 18 = .ok (.istore_n 3, 1) := by decide +kernel
theorem dX12_best_19 : decode cX12_best 19 = .ok (.iconst 0, 1) := by decide +kernel
theorem dX12_best_20 : decode cX12_best 20 = .ok (.istore 4, 2) := by decide +kernel
theorem dX12_best_22 : decode cX12_best 22 = .ok (.iload 4, 2) := by decide +kernel
theorem dX12_best_24 : decode cX12_best 24 = .ok (.aload_n 0, 1) := by decide +kernel
theorem dX12_best_25 : decode cX12_best 25 = .ok (.getfield 33, 3) := by decide +kernel
theorem dX12_best_28 : decode cX12_best 28 = .ok (.iconst 0, 1) := by decide +kernel
theorem dX12_best_29 : decode cX12_best 29 = .ok (.iaload, 1) := by decide +kernel
theorem dX12_best_30 : decode cX12_best 30 = .ok (.if_icmp .ge 48, 3) := by decide +kernel
theorem dX12_best_33 : decode cX12_best 33 = .ok (.aload_n 0, 1) := by decide +kernel
theorem dX12_best_34 : decode cX12_best 34 = .ok (.iload 4, 2) := by decide +kernel
theorem dX12_best_36 : decode cX12_best 36 = .ok (.invokevirtual 290, 3) := by decide +kernel
theorem dX12_best_39 : decode cX12_best 39 = .ok (.ifCond .ne 6, 3) := by decide +kernel
theorem dX12_best_42 : decode cX12_best 42 = .ok (.goto 30, 3) := by decide +kernel
theorem dX12_best_45 : decode cX12_best 45 = .ok (.aload_n 0, 1) := by decide +kernel
theorem dX12_best_46 : decode cX12_best 46 = .ok (.iload 4, 2) := by decide +kernel
theorem dX12_best_48 : decode cX12_best 48 = .ok (.iload_n 1, 1) := by decide +kernel
theorem dX12_best_49 : decode cX12_best 49 = .ok (.invokevirtual 372, 3) := by decide +kernel
theorem dX12_best_52 : decode cX12_best 52 = .ok (.invokestatic 378, 3) := by decide +kernel
theorem dX12_best_55 : decode cX12_best 55 = .ok (.istore 5, 2) := by decide +kernel
theorem dX12_best_57 : decode cX12_best 57 = .ok (.iload 5, 2) := by decide +kernel
theorem dX12_best_59 : decode cX12_best 59 = .ok (.iload_n 3, 1) := by decide +kernel
theorem dX12_best_60 : decode cX12_best 60 = .ok (.if_icmp .gt 6, 3) := by decide +kernel
theorem dX12_best_63 : decode cX12_best 63 = .ok (.goto 9, 3) := by decide +kernel
theorem dX12_best_66 : decode cX12_best 66 = .ok (.iload 5, 2) := by decide +kernel
theorem dX12_best_68 : decode cX12_best 68 = .ok (.istore_n 3, 1) := by decide +kernel
theorem dX12_best_69 : decode cX12_best 69 = .ok (.iload 4, 2) := by decide +kernel
theorem dX12_best_71 : decode cX12_best 71 = .ok (.istore_n 2, 1) := by decide +kernel
theorem dX12_best_72 : decode cX12_best 72 = .ok (.iinc 4 1, 3) := by decide +kernel
theorem dX12_best_75 : decode cX12_best 75 = .ok (.goto (-53), 3) := by decide +kernel
theorem dX12_best_78 : decode cX12_best 78 = .ok (.iload_n 2, 1) := by decide +kernel
theorem dX12_best_79 : decode cX12_best 79 = .ok (.ireturn, 1) := by decide +kernel
theorem dX12_seersAt_0 : decode cX12_seersAt 0 = .ok (.iconst 0, 1) := by decide +kernel
theorem dX12_seersAt_1 : decode cX12_seersAt 1 = .ok (.istore 4, 2) := by decide +kernel
theorem dX12_seersAt_3 : decode cX12_seersAt 3 = .ok (.iconst 0, 1) := by decide +kernel
theorem dX12_seersAt_4 : decode cX12_seersAt 4 = .ok (.istore 5, 2) := by decide +kernel
theorem dX12_seersAt_6 : decode cX12_seersAt 6 = .ok (.iload 5, 2) := by decide +kernel
theorem dX12_seersAt_8 : decode cX12_seersAt 8 = .ok (.aload_n 0, 1) := by decide +kernel
theorem dX12_seersAt_9 : decode cX12_seersAt 9 = .ok (.getfield 33, 3) := by decide +kernel
theorem dX12_seersAt_12 : decode cX12_seersAt 12 = .ok (.iconst 0, 1) := by decide +kernel
theorem dX12_seersAt_13 : decode cX12_seersAt 13 = .ok (.iaload, 1) := by decide +kernel
theorem dX12_seersAt_14 : decode cX12_seersAt 14 = .ok (.if_icmp .ge 69, 3) := by decide +kernel
theorem dX12_seersAt_17 : decode cX12_seersAt 17 = .ok (.iload 4, 2) := by decide +kernel
theorem dX12_seersAt_19 : decode cX12_seersAt 19 = .ok (.aload_n 0, 1) := by decide +kernel
theorem dX12_seersAt_20 : decode cX12_seersAt 20 = .ok (.getfield 33, 3) := by decide +kernel
theorem dX12_seersAt_23 : decode cX12_seersAt 23 = .ok (.bipush 31, 2) := by decide +kernel
theorem dX12_seersAt_25 : decode cX12_seersAt 25 = .ok (.iload 5, 2) := by decide +kernel
theorem dX12_seersAt_27 : decode cX12_seersAt 27 = .ok (.iadd, 1) := by decide +kernel
theorem dX12_seersAt_28 : decode cX12_seersAt 28 = .ok (.iaload, 1) := by decide +kernel
theorem dX12_seersAt_29 : decode cX12_seersAt 29 = .ok (.iload_n 1, 1) := by decide +kernel
theorem dX12_seersAt_30 : decode cX12_seersAt 30 = .ok (.iconst 1, 1) := by decide +kernel
theorem dX12_seersAt_31 : decode cX12_seersAt 31 = .ok (.iadd, 1) := by decide +kernel
theorem dX12_seersAt_32 : decode cX12_seersAt 32 = .ok (.if_icmp .ne 41, 3) := by decide +kernel
theorem dX12_seersAt_35 : decode cX12_seersAt 35 = .ok (.aload_n 0, 1) := by decide +kernel
theorem dX12_seersAt_36 : decode cX12_seersAt 36 = .ok (.aload_n 0, 1) := by decide +kernel
theorem dX12_seersAt_37 : decode cX12_seersAt 37 = .ok (.iload_n 1, 1) := by decide +kernel
theorem dX12_seersAt_38 : decode cX12_seersAt 38 = .ok (.invokevirtual 290, 3) := by decide +kernel
theorem dX12_seersAt_41 : decode cX12_seersAt 41 = .ok (.iload_n 2, 1) := by decide +kernel
theorem dX12_seersAt_42 : decode cX12_seersAt 42 = .ok (.iload_n 3, 1) := by decide +kernel
theorem dX12_seersAt_43 : decode cX12_seersAt 43 = .ok (.aload_n 0, 1) := by decide +kernel
theorem dX12_seersAt_44 : decode cX12_seersAt 44 = .ok (.getfield 33, 3) := by decide +kernel
theorem dX12_seersAt_47 : decode cX12_seersAt 47 = .ok (.bipush 66, 2) := by decide +kernel
theorem dX12_seersAt_49 : decode cX12_seersAt 49 = .ok (.iload 5, 2) := by decide +kernel
theorem dX12_seersAt_51 : decode cX12_seersAt 51 = .ok (.iadd, 1) := by decide +kernel
theorem dX12_seersAt_52 : decode cX12_seersAt 52 = .ok (.iaload, 1) := by decide +kernel
theorem dX12_seersAt_53 : decode cX12_seersAt 53 = .ok (.aload_n 0, 1) := by decide +kernel
theorem dX12_seersAt_54 : decode cX12_seersAt 54 = .ok (.getfield 33, 3) := by decide +kernel
theorem dX12_seersAt_57 : decode cX12_seersAt 57 = .ok (.bipush 74, 2) := by decide +kernel
theorem dX12_seersAt_59 : decode cX12_seersAt 59 = .ok (.iload 5, 2) := by decide +kernel
theorem dX12_seersAt_61 : decode cX12_seersAt 61 = .ok (.iadd, 1) := by decide +kernel
theorem dX12_seersAt_62 : decode cX12_seersAt 62 = .ok (.iaload, 1) := by decide +kernel
theorem dX12_seersAt_63 : decode cX12_seersAt 63 = .ok (.invokevirtual 293, 3) := by decide +kernel
theorem dX12_seersAt_66 : decode cX12_seersAt 66 = .ok (.ifCond .eq 7, 3) := by decide +kernel
theorem dX12_seersAt_69 : decode cX12_seersAt 69 = .ok (.iconst 1, 1) := by decide +kernel
theorem dX12_seersAt_70 : decode cX12_seersAt 70 = .ok (.goto 4, 3) := by decide +kernel
theorem dX12_seersAt_73 : decode cX12_seersAt 73 = .ok (.iconst 0, 1) := by decide +kernel
theorem dX12_seersAt_74 : decode cX12_seersAt 74 = .ok (.iadd, 1) := by decide +kernel
theorem dX12_seersAt_75 : decode cX12_seersAt 75 = .ok (.istore 4, 2) := by decide +kernel
theorem dX12_seersAt_77 : decode cX12_seersAt 77 = .ok (.iinc 5 1, 3) := by decide +kernel
theorem dX12_seersAt_80 : decode cX12_seersAt 80 = .ok (.goto (-74), 3) := by decide +kernel
theorem dX12_seersAt_83 : decode cX12_seersAt 83 = .ok (.iload 4, 2) := by decide +kernel
theorem dX12_seersAt_85 : decode cX12_seersAt 85 = .ok (.ireturn, 1) := by decide +kernel
theorem dX12_stand_0 : decode cX12_stand 0 = .ok (.aload_n 0, 1) := by decide +kernel
theorem dX12_stand_1 : decode cX12_stand 1 = .ok (.iconst 0, 1) := by decide +kernel
theorem dX12_stand_2 : decode cX12_stand 2 = .ok (.putfield 1, 3) := by decide +kernel
theorem dX12_stand_5 : decode cX12_stand 5 = .ok (.aload_n 0, 1) := by decide +kernel
theorem dX12_stand_6 : decode cX12_stand 6 = .ok (.iload_n 1, 1) := by decide +kernel
theorem dX12_stand_7 : decode cX12_stand 7 = .ok (.invokevirtual 303, 3) := by decide +kernel
theorem dX12_stand_10 : decode cX12_stand 10 = .ok (.ifCond .ne 5, 3) := by decide +kernel
theorem dX12_stand_13 : decode cX12_stand 13 = .ok (.iconst (-1), 1) := by decide +kernel
theorem dX12_stand_14 : decode cX12_stand 14 = .ok (.ireturn, 1) := by decide +kernel
theorem dX12_stand_15 : decode cX12_stand 15 = .ok (.iconst (-1), 1) := by decide +kernel
theorem dX12_stand_16 : decode cX12_stand 16 = .ok (.istore_n 2, 1) := by decide +kernel
theorem dX12_stand_17 : decode cX12_stand 17 = .ok (.ldc_w 381, 3) := by decide +kernel
theorem dX12_stand_20 : decode cX12_stand 20 = .ok (.istore_n 3, 1) := by decide +kernel
theorem dX12_stand_21 : decode cX12_stand 21 = .ok (.iconst 0, 1) := by decide +kernel
theorem dX12_stand_22 : decode cX12_stand 22 = .ok (.istore 4, 2) := by decide +kernel
theorem dX12_stand_24 : decode cX12_stand 24 = .ok (.iload 4, 2) := by decide +kernel
theorem dX12_stand_26 : decode cX12_stand 26 = .ok (.bipush 30, 2) := by decide +kernel
theorem dX12_stand_28 : decode cX12_stand 28 = .ok (.if_icmp .gt 102, 3) := by decide +kernel
theorem dX12_stand_31 : decode cX12_stand 31 = .ok (.iconst 0, 1) := by decide +kernel
theorem dX12_stand_32 : decode cX12_stand 32 = .ok (.istore 5, 2) := by decide +kernel
theorem dX12_stand_34 : decode cX12_stand 34 = .ok (.iload 5, 2) := by decide +kernel
theorem dX12_stand_36 : decode cX12_stand 36 = .ok (.bipush 30, 2) := by decide +kernel
theorem dX12_stand_38 : decode cX12_stand 38 = .ok (.if_icmp .gt 86, 3) := by decide +kernel
theorem dX12_stand_41 : decode cX12_stand 41 = .ok (.aload_n 0, 1) := by decide +kernel
theorem dX12_stand_42 : decode cX12_stand 42 = .ok (.iload_n 1, 1) := by decide +kernel
theorem dX12_stand_43 : decode cX12_stand 43 = .ok (.iload 5, 2) := by decide +kernel
theorem dX12_stand_45 : decode cX12_stand 45 = .ok (.iload 4, 2) := by decide +kernel
theorem dX12_stand_47 : decode cX12_stand 47 = .ok (.invokevirtual 382, 3) := by decide +kernel
theorem dX12_stand_50 : decode cX12_stand 50 = .ok (.istore 6, 2) := by decide +kernel
theorem dX12_stand_52 : decode cX12_stand 52 = .ok (.iload 5, 2) := by decide +kernel
theorem dX12_stand_54 : decode cX12_stand 54 = .ok (.iload 4, 2) := by decide +kernel
theorem dX12_stand_56 : decode cX12_stand 56 = .ok (.aload_n 0, 1) := by decide +kernel
theorem dX12_stand_57 : decode cX12_stand 57 = .ok (.getfield 33, 3) := by decide +kernel
theorem dX12_stand_60 : decode cX12_stand 60 = .ok (.bipush 66, 2) := by decide +kernel
theorem dX12_stand_62 : decode cX12_stand 62 = .ok (.iload_n 1, 1) := by decide +kernel
theorem dX12_stand_63 : decode cX12_stand 63 = .ok (.iadd, 1) := by decide +kernel
theorem dX12_stand_64 : decode cX12_stand 64 = .ok (.iaload, 1) := by decide +kernel
theorem dX12_stand_65 : decode cX12_stand 65 = .ok (.aload_n 0, 1) := by decide +kernel
theorem dX12_stand_66 : decode cX12_stand 66 = .ok (.getfield 33, 3) := by decide +kernel
theorem dX12_stand_69 : decode cX12_stand 69 = .ok (.bipush 74, 2) := by decide +kernel
theorem dX12_stand_71 : decode cX12_stand 71 = .ok (.iload_n 1, 1) := by decide +kernel
theorem dX12_stand_72 : decode cX12_stand 72 = .ok (.iadd, 1) := by decide +kernel
theorem dX12_stand_73 : decode cX12_stand 73 = .ok (.iaload, 1) := by decide +kernel
theorem dX12_stand_74 : decode cX12_stand 74 = .ok (.invokestatic 286, 3) := by decide +kernel
theorem dX12_stand_77 : decode cX12_stand 77 = .ok (.istore 7, 2) := by decide +kernel
theorem dX12_stand_79 : decode cX12_stand 79 = .ok (.iload 6, 2) := by decide +kernel
theorem dX12_stand_81 : decode cX12_stand 81 = .ok (.iload_n 2, 1) := by decide +kernel
theorem dX12_stand_82 : decode cX12_stand 82 = .ok (.if_icmp .lt 36, 3) := by decide +kernel
theorem dX12_stand_85 : decode cX12_stand 85 = .ok (.iload 6, 2) := by decide +kernel
theorem dX12_stand_87 : decode cX12_stand 87 = .ok (.iload_n 2, 1) := by decide +kernel
theorem dX12_stand_88 : decode cX12_stand 88 = .ok (.if_icmp .ne 12, 3) := by decide +kernel
theorem dX12_stand_91 : decode cX12_stand 91 = .ok (.iload 7, 2) := by decide +kernel
theorem dX12_stand_93 : decode cX12_stand 93 = .ok (.iload_n 3, 1) := by decide +kernel
theorem dX12_stand_94 : decode cX12_stand 94 = .ok (.if_icmp .lt 6, 3) := by decide +kernel
theorem dX12_stand_97 : decode cX12_stand 97 = .ok (.goto 21, 3) := by decide +kernel
theorem dX12_stand_100 : decode cX12_stand 100 = .ok (.iload 6, 2) := by decide +kernel
theorem dX12_stand_102 : decode cX12_stand 102 = .ok (.istore_n 2, 1) := by decide +kernel
theorem dX12_stand_103 : decode cX12_stand 103 = .ok (.iload 7, 2) := by decide +kernel
theorem dX12_stand_105 : decode cX12_stand 105 = .ok (.istore_n 3, 1) := by decide +kernel
theorem dX12_stand_106 : decode cX12_stand 106 = .ok (.aload_n 0, 1) := by decide +kernel
theorem dX12_stand_107 : decode cX12_stand 107 = .ok (.iload 5, 2) := by decide +kernel
theorem dX12_stand_109 : decode cX12_stand 109 = .ok (.putfield 59, 3) := by decide +kernel
theorem dX12_stand_112 : decode cX12_stand 112 = .ok (.aload_n 0, 1) := by decide +kernel
theorem dX12_stand_113 : decode cX12_stand 113 = .ok (.iload 4, 2) := by decide +kernel
theorem dX12_stand_115 : decode cX12_stand 115 = .ok (.putfield 62, 3) := by decide +kernel
theorem dX12_stand_118 : decode cX12_stand 118 = .ok (.iinc 5 1, 3) := by decide +kernel
theorem dX12_stand_121 : decode cX12_stand 121 = .ok (.goto (-87), 3) := by decide +kernel
theorem dX12_stand_124 : decode cX12_stand 124 = .ok (.iinc 4 1, 3) := by decide +kernel
theorem dX12_stand_127 : decode cX12_stand 127 = .ok (.goto (-103), 3) := by decide +kernel
theorem dX12_stand_130 : decode cX12_stand 130 = .ok (.iload_n 2, 1) := by decide +kernel
theorem dX12_stand_131 : decode cX12_stand 131 = .ok (.ireturn, 1) := by decide +kernel
theorem dX12_hide_0 : decode cX12_hide 0 = .ok (.aload_n 0, 1) := by decide +kernel
theorem dX12_hide_1 : decode cX12_hide 1 = .ok (.iconst 0, 1) := by decide +kernel
theorem dX12_hide_2 : decode cX12_hide 2 = .ok (.putfield 1, 3) := by decide +kernel
theorem dX12_hide_5 : decode cX12_hide 5 = .ok (.aload_n 0, 1) := by decide +kernel
theorem dX12_hide_6 : decode cX12_hide 6 = .ok (.iload_n 1, 1) := by decide +kernel
theorem dX12_hide_7 : decode cX12_hide 7 = .ok (.invokevirtual 303, 3) := by decide +kernel
theorem dX12_hide_10 : decode cX12_hide 10 = .ok (.ifCond .ne 5, 3) := by decide +kernel
theorem dX12_hide_13 : decode cX12_hide 13 = .ok (.iconst (-1), 1) := by decide +kernel
theorem dX12_hide_14 : decode cX12_hide 14 = .ok (.ireturn, 1) := by decide +kernel
theorem dX12_hide_15 : decode cX12_hide 15 = .ok (.ldc_w 381, 3) := by decide +kernel
theorem dX12_hide_18 : decode cX12_hide 18 = .ok (.istore_n 2, 1) := by decide +kernel
theorem dX12_hide_19 : decode cX12_hide 19 = .ok (.iconst 0, 1) := by decide +kernel
theorem dX12_hide_20 : decode cX12_hide 20 = .ok (.istore_n 3, 1) := by decide +kernel
theorem dX12_hide_21 : decode cX12_hide 21 = .ok (.iload_n 3, 1) := by decide +kernel
theorem dX12_hide_22 : decode cX12_hide 22 = .ok (.bipush 30, 2) := by decide +kernel
theorem dX12_hide_24 : decode cX12_hide 24 = .ok (.if_icmp .gt 96, 3) := by decide +kernel
theorem dX12_hide_27 : decode cX12_hide 27 = .ok (.iconst 0, 1) := by decide +kernel
theorem dX12_hide_28 : decode cX12_hide 28 = .ok (.istore 4, 2) := by decide +kernel
theorem dX12_hide_30 : decode cX12_hide 30 = .ok (.iload 4, 2) := by decide +kernel
theorem dX12_hide_32 : decode cX12_hide 32 = .ok (.bipush 30, 2) := by decide +kernel
theorem dX12_hide_34 : decode cX12_hide 34 = .ok (.if_icmp .gt 80, 3) := by decide +kernel
theorem dX12_hide_37 : decode cX12_hide 37 = .ok (.iload 4, 2) := by decide +kernel
theorem dX12_hide_39 : decode cX12_hide 39 = .ok (.iload_n 3, 1) := by decide +kernel
theorem dX12_hide_40 : decode cX12_hide 40 = .ok (.aload_n 0, 1) := by decide +kernel
theorem dX12_hide_41 : decode cX12_hide 41 = .ok (.getfield 33, 3) := by decide +kernel
theorem dX12_hide_44 : decode cX12_hide 44 = .ok (.bipush 66, 2) := by decide +kernel
theorem dX12_hide_46 : decode cX12_hide 46 = .ok (.iload_n 1, 1) := by decide +kernel
theorem dX12_hide_47 : decode cX12_hide 47 = .ok (.iadd, 1) := by decide +kernel
theorem dX12_hide_48 : decode cX12_hide 48 = .ok (.iaload, 1) := by decide +kernel
theorem dX12_hide_49 : decode cX12_hide 49 = .ok (.aload_n 0, 1) := by decide +kernel
theorem dX12_hide_50 : decode cX12_hide 50 = .ok (.getfield 33, 3) := by decide +kernel
theorem dX12_hide_53 : decode cX12_hide 53 = .ok (.bipush 74, 2) := by decide +kernel
theorem dX12_hide_55 : decode cX12_hide 55 = .ok (.iload_n 1, 1) := by decide +kernel
theorem dX12_hide_56 : decode cX12_hide 56 = .ok (.iadd, 1) := by decide +kernel
theorem dX12_hide_57 : decode cX12_hide 57 = .ok (.iaload, 1) := by decide +kernel
theorem dX12_hide_58 : decode cX12_hide 58 = .ok (.invokestatic 286, 3) := by decide +kernel
theorem dX12_hide_61 : decode cX12_hide 61 = .ok (.istore 5, 2) := by decide +kernel
theorem dX12_hide_63 : decode cX12_hide 63 = .ok (.iload 5, 2) := by decide +kernel
theorem dX12_hide_65 : decode cX12_hide 65 = .ok (.iload_n 2, 1) := by decide +kernel
theorem dX12_hide_66 : decode cX12_hide 66 = .ok (.if_icmp .ge 42, 3) := by decide +kernel
theorem dX12_hide_69 : decode cX12_hide 69 = .ok (.aload_n 0, 1) := by decide +kernel
theorem dX12_hide_70 : decode cX12_hide 70 = .ok (.iload_n 1, 1) := by decide +kernel
theorem dX12_hide_71 : decode cX12_hide 71 = .ok (.iload 4, 2) := by decide +kernel
theorem dX12_hide_73 : decode cX12_hide 73 = .ok (.iload_n 3, 1) := by decide +kernel
theorem dX12_hide_74 : decode cX12_hide 74 = .ok (.invokevirtual 363, 3) := by decide +kernel
theorem dX12_hide_77 : decode cX12_hide 77 = .ok (.ifCond .ne 31, 3) := by decide +kernel
theorem dX12_hide_80 : decode cX12_hide 80 = .ok (.aload_n 0, 1) := by decide +kernel
theorem dX12_hide_81 : decode cX12_hide 81 = .ok (.iload_n 1, 1) := by decide +kernel
theorem dX12_hide_82 : decode cX12_hide 82 = .ok (.iload 4, 2) := by decide +kernel
theorem dX12_hide_84 : decode cX12_hide 84 = .ok (.iload_n 3, 1) := by decide +kernel
theorem dX12_hide_85 : decode cX12_hide 85 = .ok (.invokevirtual 382, 3) := by decide +kernel
theorem dX12_hide_88 : decode cX12_hide 88 = .ok (.ifCond .ne 6, 3) := by decide +kernel
theorem dX12_hide_91 : decode cX12_hide 91 = .ok (.goto 17, 3) := by decide +kernel
theorem dX12_hide_94 : decode cX12_hide 94 = .ok (.iload 5, 2) := by decide +kernel
theorem dX12_hide_96 : decode cX12_hide 96 = .ok (.istore_n 2, 1) := by decide +kernel
theorem dX12_hide_97 : decode cX12_hide 97 = .ok (.aload_n 0, 1) := by decide +kernel
theorem dX12_hide_98 : decode cX12_hide 98 = .ok (.iload 4, 2) := by decide +kernel
theorem dX12_hide_100 : decode cX12_hide 100 = .ok (.putfield 59, 3) := by decide +kernel
theorem dX12_hide_103 : decode cX12_hide 103 = .ok (.aload_n 0, 1) := by decide +kernel
theorem dX12_hide_104 : decode cX12_hide 104 = .ok (.iload_n 3, 1) := by decide +kernel
theorem dX12_hide_105 : decode cX12_hide 105 = .ok (.putfield 62, 3) := by decide +kernel
theorem dX12_hide_108 : decode cX12_hide 108 = .ok (.iinc 4 1, 3) := by decide +kernel
theorem dX12_hide_111 : decode cX12_hide 111 = .ok (.goto (-81), 3) := by decide +kernel
theorem dX12_hide_114 : decode cX12_hide 114 = .ok (.iinc 3 1, 3) := by decide +kernel
theorem dX12_hide_117 : decode cX12_hide 117 = .ok (.goto (-96), 3) := by decide +kernel
theorem dX12_hide_120 : decode cX12_hide 120 = .ok (.iload_n 2, 1) := by decide +kernel
theorem dX12_hide_121 : decode cX12_hide 121 = .ok (.ldc_w 381, 3) := by decide +kernel
theorem dX12_hide_124 : decode cX12_hide 124 = .ok (.if_icmp .ne 7, 3) := by decide +kernel
theorem dX12_hide_127 : decode cX12_hide 127 = .ok (.iconst (-1), 1) := by decide +kernel
theorem dX12_hide_128 : decode cX12_hide 128 = .ok (.goto 4, 3) := by decide +kernel
theorem dX12_hide_131 : decode cX12_hide 131 = .ok (.iload_n 2, 1) := by decide +kernel
theorem dX12_hide_132 : decode cX12_hide 132 = .ok (.ireturn, 1) := by decide +kernel
theorem dX12_cell_0 : decode cX12_cell 0 = .ok (.aload_n 0, 1) := by decide +kernel
theorem dX12_cell_1 : decode cX12_cell 1 = .ok (.iconst 0, 1) := by decide +kernel
theorem dX12_cell_2 : decode cX12_cell 2 = .ok (.putfield 1, 3) := by decide +kernel
theorem dX12_cell_5 : decode cX12_cell 5 = .ok (.iload_n 1, 1) := by decide +kernel
theorem dX12_cell_6 : decode cX12_cell 6 = .ok (.ifCond .ne 10, 3) := by decide +kernel
theorem dX12_cell_9 : decode cX12_cell 9 = .ok (.aload_n 0, 1) := by decide +kernel
theorem dX12_cell_10 : decode cX12_cell 10 = .ok (.getfield 59, 3) := by decide +kernel
theorem dX12_cell_13 : decode cX12_cell 13 = .ok (.goto 16, 3) := by decide +kernel
theorem dX12_cell_16 : decode cX12_cell 16 = .ok (.iload_n 1, 1) := by decide +kernel
theorem dX12_cell_17 : decode cX12_cell 17 = .ok (.iconst 1, 1) := by decide +kernel
theorem dX12_cell_18 : decode cX12_cell 18 = .ok (.if_icmp .ne 10, 3) := by decide +kernel
theorem dX12_cell_21 : decode cX12_cell 21 = .ok (.aload_n 0, 1) := by decide +kernel
theorem dX12_cell_22 : decode cX12_cell 22 = .ok (.getfield 62, 3) := by decide +kernel
theorem dX12_cell_25 : decode cX12_cell 25 = .ok (.goto 4, 3) := by decide +kernel
theorem dX12_cell_28 : decode cX12_cell 28 = .ok (.iconst (-1), 1) := by decide +kernel
theorem dX12_cell_29 : decode cX12_cell 29 = .ok (.ireturn, 1) := by decide +kernel
theorem dX12_wrongBy_0 : decode cX12_wrongBy 0 = .ok (.iconst 0, 1) := by decide +kernel
theorem dX12_wrongBy_1 : decode cX12_wrongBy 1 = .ok (.istore_n 2, 1) := by decide +kernel
theorem dX12_wrongBy_2 : decode cX12_wrongBy 2 = .ok (.iconst 0, 1) := by decide +kernel
theorem dX12_wrongBy_3 : decode cX12_wrongBy 3 = .ok (.istore_n 3, 1) := by decide +kernel
theorem dX12_wrongBy_4 : decode cX12_wrongBy 4 = .ok (.iload_n 3, 1) := by decide +kernel
theorem dX12_wrongBy_5 : decode cX12_wrongBy 5 = .ok (.aload_n 0, 1) := by decide +kernel
theorem dX12_wrongBy_6 : decode cX12_wrongBy 6 = .ok (.getfield 18, 3) := by decide +kernel
theorem dX12_wrongBy_9 : decode cX12_wrongBy 9 = .ok (.if_icmp .ge 79, 3) := by decide +kernel
theorem dX12_wrongBy_12 : decode cX12_wrongBy 12 = .ok (.iload_n 2, 1) := by decide +kernel
theorem dX12_wrongBy_13 : decode cX12_wrongBy 13 = .ok (.aload_n 0, 1) := by decide +kernel
theorem dX12_wrongBy_14 : decode cX12_wrongBy 14 = .ok (.iload_n 3, 1) := by decide +kernel
theorem dX12_wrongBy_15 : decode cX12_wrongBy 15 = .ok (.invokevirtual 385, 3) := by decide +kernel
theorem dX12_wrongBy_18 : decode cX12_wrongBy 18 = .ok (.ifCond .le 24, 3) := by decide +kernel
theorem dX12_wrongBy_21 : decode cX12_wrongBy 21 = .ok (.aload_n 0, 1) := by decide +kernel
theorem dX12_wrongBy_22 : decode cX12_wrongBy 22 = .ok (.iload_n 3, 1) := by decide +kernel
theorem dX12_wrongBy_23 : decode cX12_wrongBy 23 = .ok (.invokevirtual 385, 3) := by decide +kernel
theorem dX12_wrongBy_26 : decode cX12_wrongBy 26 = .ok (.aload_n 0, 1) := by decide +kernel
theorem dX12_wrongBy_27 : decode cX12_wrongBy 27 = .ok (.getfield 33, 3) := by decide +kernel
theorem dX12_wrongBy_30 : decode cX12_wrongBy 30 = .ok (.bipush 39, 2) := by decide +kernel
theorem dX12_wrongBy_32 : decode cX12_wrongBy 32 = .ok (.iload_n 1, 1) := by decide +kernel
theorem dX12_wrongBy_33 : decode cX12_wrongBy 33 = .ok (.iadd, 1) := by decide +kernel
theorem dX12_wrongBy_34 : decode cX12_wrongBy 34 = .ok (.iaload, 1) := by decide +kernel
theorem dX12_wrongBy_35 : decode cX12_wrongBy 35 = .ok (.if_icmp .eq 7, 3) := by decide +kernel
theorem dX12_wrongBy_38 : decode cX12_wrongBy 38 = .ok (.iconst 1, 1) := by decide +kernel
theorem dX12_wrongBy_39 : decode cX12_wrongBy 39 = .ok (.goto 4, 3) := by decide +kernel
theorem dX12_wrongBy_42 : decode cX12_wrongBy 42 = .ok (.iconst 0, 1) := by decide +kernel
theorem dX12_wrongBy_43 : decode cX12_wrongBy 43 = .ok (.iadd, 1) := by decide +kernel
theorem dX12_wrongBy_44 : decode cX12_wrongBy 44 = .ok (.istore_n 2, 1) := by decide +kernel
theorem dX12_wrongBy_45 : decode cX12_wrongBy 45 = .ok (.iload_n 2, 1) := by decide +kernel
theorem dX12_wrongBy_46 : decode cX12_wrongBy 46 = .ok (.aload_n 0, 1) := by decide +kernel
theorem dX12_wrongBy_47 : decode cX12_wrongBy 47 = .ok (.iload_n 3, 1) := by decide +kernel
theorem dX12_wrongBy_48 : decode cX12_wrongBy 48 = .ok (.iconst 1, 1) := by decide +kernel
theorem dX12_wrongBy_49 : decode cX12_wrongBy 49 = .ok (.iadd, 1) := by decide +kernel
theorem dX12_wrongBy_50 : decode cX12_wrongBy 50 = .ok (.invokevirtual 385, 3) := by decide +kernel
theorem dX12_wrongBy_53 : decode cX12_wrongBy 53 = .ok (.ifCond .le 26, 3) := by decide +kernel
theorem dX12_wrongBy_56 : decode cX12_wrongBy 56 = .ok (.aload_n 0, 1) := by decide +kernel
theorem dX12_wrongBy_57 : decode cX12_wrongBy 57 = .ok (.iload_n 3, 1) := by decide +kernel
theorem dX12_wrongBy_58 : decode cX12_wrongBy 58 = .ok (.iconst 1, 1) := by decide +kernel
theorem dX12_wrongBy_59 : decode cX12_wrongBy 59 = .ok (.iadd, 1) := by decide +kernel
theorem dX12_wrongBy_60 : decode cX12_wrongBy 60 = .ok (.invokevirtual 385, 3) := by decide +kernel
theorem dX12_wrongBy_63 : decode cX12_wrongBy 63 = .ok (.aload_n 0, 1) := by decide +kernel
theorem dX12_wrongBy_64 : decode cX12_wrongBy 64 = .ok (.getfield 33, 3) := by decide +kernel
theorem dX12_wrongBy_67 : decode cX12_wrongBy 67 = .ok (.bipush 46, 2) := by decide +kernel
theorem dX12_wrongBy_69 : decode cX12_wrongBy 69 = .ok (.iload_n 1, 1) := by decide +kernel
theorem dX12_wrongBy_70 : decode cX12_wrongBy 70 = .ok (.iadd, 1) := by decide +kernel
theorem dX12_wrongBy_71 : decode cX12_wrongBy 71 = .ok (.iaload, 1) := by decide +kernel
theorem dX12_wrongBy_72 : decode cX12_wrongBy 72 = .ok (.if_icmp .eq 7, 3) := by decide +kernel
theorem dX12_wrongBy_75 : decode cX12_wrongBy 75 = .ok (.iconst 1, 1) := by decide +kernel
theorem dX12_wrongBy_76 : decode cX12_wrongBy 76 = .ok (.goto 4, 3) := by decide +kernel
theorem dX12_wrongBy_79 : decode cX12_wrongBy 79 = .ok (.iconst 0, 1) := by decide +kernel
theorem dX12_wrongBy_80 : decode cX12_wrongBy 80 = .ok (.iadd, 1) := by decide +kernel
theorem dX12_wrongBy_81 : decode cX12_wrongBy 81 = .ok (.istore_n 2, 1) := by decide +kernel
theorem dX12_wrongBy_82 : decode cX12_wrongBy 82 = .ok (.iinc 3 2, 3) := by decide +kernel
theorem dX12_wrongBy_85 : decode cX12_wrongBy 85 = .ok (.goto (-81), 3) := by decide +kernel
theorem dX12_wrongBy_88 : decode cX12_wrongBy 88 = .ok (.iload_n 2, 1) := by decide +kernel
theorem dX12_wrongBy_89 : decode cX12_wrongBy 89 = .ok (.ireturn, 1) := by decide +kernel
theorem dX12_leftBy_0 : decode cX12_leftBy 0 = .ok (.iconst 0, 1) := by decide +kernel
theorem dX12_leftBy_1 : decode cX12_leftBy 1 = .ok (.istore_n 3, 1) := by decide +kernel
theorem dX12_leftBy_2 : decode cX12_leftBy 2 = .ok (.iconst 1, 1) := by decide +kernel
theorem dX12_leftBy_3 : decode cX12_leftBy 3 = .ok (.istore 4, 2) := by decide +kernel
theorem dX12_leftBy_5 : decode cX12_leftBy 5 = .ok (.iload 4, 2) := by decide +kernel
theorem dX12_leftBy_7 : decode cX12_leftBy 7 = .ok (.iconst 4, 1) := by decide +kernel
theorem dX12_leftBy_8 : decode cX12_leftBy 8 = .ok (.if_icmp .ge 72, 3) := by decide +kernel
theorem dX12_leftBy_11 : decode cX12_leftBy 11 = .ok (.iconst 0, 1) := by decide +kernel
theorem dX12_leftBy_12 : decode cX12_leftBy 12 = .ok (.istore 5, 2) := by decide +kernel
theorem dX12_leftBy_14 : decode cX12_leftBy 14 = .ok (.iconst 0, 1) := by decide +kernel
theorem dX12_leftBy_15 : decode cX12_leftBy 15 = .ok (.istore 6, 2) := by decide +kernel
theorem dX12_leftBy_17 : decode cX12_leftBy 17 = .ok (.iload 6, 2) := by decide +kernel
theorem dX12_leftBy_19 : decode cX12_leftBy 19 = .ok (.aload_n 0, 1) := by decide +kernel
theorem dX12_leftBy_20 : decode cX12_leftBy 20 = .ok (.getfield 33, 3) := by decide +kernel
theorem dX12_leftBy_23 : decode cX12_leftBy 23 = .ok (.iconst 1, 1) := by decide +kernel
theorem dX12_leftBy_24 : decode cX12_leftBy 24 = .ok (.iaload, 1) := by decide +kernel
theorem dX12_leftBy_25 : decode cX12_leftBy 25 = .ok (.if_icmp .ge 42, 3) := by decide +kernel
theorem dX12_leftBy_28 : decode cX12_leftBy 28 = .ok (.iload 5, 2) := by decide +kernel
theorem dX12_leftBy_30 : decode cX12_leftBy 30 = .ok (.iload_n 1, 1) := by decide +kernel
theorem dX12_leftBy_31 : decode cX12_leftBy 31 = .ok (.iload 6, 2) := by decide +kernel
theorem dX12_leftBy_33 : decode cX12_leftBy 33 = .ok (.invokestatic 231, 3) := by decide +kernel
theorem dX12_leftBy_36 : decode cX12_leftBy 36 = .ok (.ifCond .eq 21, 3) := by decide +kernel
theorem dX12_leftBy_39 : decode cX12_leftBy 39 = .ok (.aload_n 0, 1) := by decide +kernel
theorem dX12_leftBy_40 : decode cX12_leftBy 40 = .ok (.getfield 33, 3) := by decide +kernel
theorem dX12_leftBy_43 : decode cX12_leftBy 43 = .ok (.iload_n 2, 1) := by decide +kernel
theorem dX12_leftBy_44 : decode cX12_leftBy 44 = .ok (.iload 6, 2) := by decide +kernel
theorem dX12_leftBy_46 : decode cX12_leftBy 46 = .ok (.iadd, 1) := by decide +kernel
theorem dX12_leftBy_47 : decode cX12_leftBy 47 = .ok (.iaload, 1) := by decide +kernel
theorem dX12_leftBy_48 : decode cX12_leftBy 48 = .ok (.iload 4, 2) := by decide +kernel
theorem dX12_leftBy_50 : decode cX12_leftBy 50 = .ok (.if_icmp .ne 7, 3) := by decide +kernel
theorem dX12_leftBy_53 : decode cX12_leftBy 53 = .ok (.iconst 1, 1) := by decide +kernel
theorem dX12_leftBy_54 : decode cX12_leftBy 54 = .ok (.goto 4, 3) := by decide +kernel
theorem dX12_leftBy_57 : decode cX12_leftBy 57 = .ok (.iconst 0, 1) := by decide +kernel
theorem dX12_leftBy_58 : decode cX12_leftBy 58 = .ok (.iadd, 1) := by decide +kernel
theorem dX12_leftBy_59 : decode cX12_leftBy 59 = .ok (.istore 5, 2) := by decide +kernel
theorem dX12_leftBy_61 : decode cX12_leftBy 61 = .ok (.iinc 6 1, 3) := by decide +kernel
theorem dX12_leftBy_64 : decode cX12_leftBy 64 = .ok (.goto (-47), 3) := by decide +kernel
theorem dX12_leftBy_67 : decode cX12_leftBy 67 = .ok (.iload_n 3, 1) := by decide +kernel
theorem dX12_leftBy_68 : decode cX12_leftBy 68 = .ok (.iload 5, 2) := by decide +kernel
theorem dX12_leftBy_70 : decode cX12_leftBy 70 = .ok (.invokestatic 388, 3) := by decide +kernel
theorem dX12_leftBy_73 : decode cX12_leftBy 73 = .ok (.istore_n 3, 1) := by decide +kernel
theorem dX12_leftBy_74 : decode cX12_leftBy 74 = .ok (.iinc 4 1, 3) := by decide +kernel
theorem dX12_leftBy_77 : decode cX12_leftBy 77 = .ok (.goto (-72), 3) := by decide +kernel
theorem dX12_leftBy_80 : decode cX12_leftBy 80 = .ok (.iload_n 3, 1) := by decide +kernel
theorem dX12_leftBy_81 : decode cX12_leftBy 81 = .ok (.ireturn, 1) := by decide +kernel
theorem dX12_meant_0 : decode cX12_meant 0 = .ok (.aload_n 0, 1) := by decide +kernel
theorem dX12_meant_1 : decode cX12_meant 1 = .ok (.iconst 0, 1) := by decide +kernel
theorem dX12_meant_2 : decode cX12_meant 2 = .ok (.putfield 1, 3) := by decide +kernel
theorem dX12_meant_5 : decode cX12_meant 5 = .ok (.aload_n 0, 1) := by decide +kernel
theorem dX12_meant_6 : decode cX12_meant 6 = .ok (.sipush 940, 3) := by decide +kernel
theorem dX12_meant_9 : decode cX12_meant 9 = .ok (.invokevirtual 264, 3) := by decide +kernel
theorem dX12_meant_12 : decode cX12_meant 12 = .ok (.aload_n 0, 1) := by decide +kernel
theorem dX12_meant_13 : decode cX12_meant 13 = .ok (.getfield 18, 3) := by decide +kernel
theorem dX12_meant_16 : decode cX12_meant 16 = .ok (.iconst 2, 1) := by decide +kernel
theorem dX12_meant_17 : decode cX12_meant 17 = .ok (.bipush 12, 2) := by decide +kernel
theorem dX12_meant_19 : decode cX12_meant 19 = .ok (.invokestatic 206, 3) := by decide +kernel
theorem dX12_meant_22 : decode cX12_meant 22 = .ok (.ifCond .eq 22, 3) := by decide +kernel
theorem dX12_meant_25 : decode cX12_meant 25 = .ok (.aload_n 0, 1) := by decide +kernel
theorem dX12_meant_26 : decode cX12_meant 26 = .ok (.getfield 18, 3) := by decide +kernel
theorem dX12_meant_29 : decode cX12_meant 29 = .ok (.iconst 2, 1) := by decide +kernel
theorem dX12_meant_30 : decode cX12_meant 30 = .ok (.irem, 1) := by decide +kernel
theorem dX12_meant_31 : decode cX12_meant 31 = .ok (.iconst 1, 1) := by decide +kernel
theorem dX12_meant_32 : decode cX12_meant 32 = .ok (.if_icmp .eq 12, 3) := by decide +kernel
theorem dX12_meant_35 : decode cX12_meant 35 = .ok (.aload_n 0, 1) := by decide +kernel
theorem dX12_meant_36 : decode cX12_meant 36 = .ok (.getfield 33, 3) := by decide +kernel
theorem dX12_meant_39 : decode cX12_meant 39 = .ok (.iconst 1, 1) := by decide +kernel
theorem dX12_meant_40 : decode cX12_meant 40 = .ok (.iaload, 1) := by decide +kernel
theorem dX12_meant_41 : decode cX12_meant 41 = .ok (.ifCond .ne 5, 3) := by decide +kernel
theorem dX12_meant_44 : decode cX12_meant 44 = .ok (.iconst (-1), 1) := by decide +kernel
theorem dX12_meant_45 : decode cX12_meant 45 = .ok (.ireturn, 1) := by decide +kernel
theorem dX12_meant_46 : decode cX12_meant 46 = .ok (.iconst 0, 1) := by decide +kernel
theorem dX12_meant_47 : decode cX12_meant 47 = .ok (.istore_n 1, 1) := by decide +kernel
theorem dX12_meant_48 : decode cX12_meant 48 = .ok (.iload_n 1, 1) := by decide +kernel
theorem dX12_meant_49 : decode cX12_meant 49 = .ok (.aload_n 0, 1) := by decide +kernel
theorem dX12_meant_50 : decode cX12_meant 50 = .ok (.getfield 18, 3) := by decide +kernel
theorem dX12_meant_53 : decode cX12_meant 53 = .ok (.if_icmp .ge 20, 3) := by decide +kernel
theorem dX12_meant_56 : decode cX12_meant 56 = .ok (.aload_n 0, 1) := by decide +kernel
theorem dX12_meant_57 : decode cX12_meant 57 = .ok (.iload_n 1, 1) := by decide +kernel
theorem dX12_meant_58 : decode cX12_meant 58 = .ok (.invokevirtual 385, 3) := by decide +kernel
theorem dX12_meant_61 : decode cX12_meant 61 = .ok (.iconst 3, 1) := by decide +kernel
theorem dX12_meant_62 : decode cX12_meant 62 = .ok (.if_icmp .le 5, 3) := by decide +kernel
theorem dX12_meant_65 : decode cX12_meant 65 = .ok (.iconst (-1), 1) := by decide +kernel
theorem dX12_meant_66 : decode cX12_meant 66 = .ok (.ireturn, 1) := by decide +kernel
theorem dX12_meant_67 : decode cX12_meant 67 = .ok (.iinc 1 1, 3) := by decide +kernel
theorem dX12_meant_70 : decode cX12_meant 70 = .ok (.goto (-22), 3) := by decide +kernel
theorem dX12_meant_73 : decode cX12_meant 73 = .ok (.ldc_w 381, 3) := by decide +kernel
theorem dX12_meant_76 : decode cX12_meant 76 = .ok (.istore_n 1, 1) := by decide +kernel
theorem dX12_meant_77 : decode cX12_meant 77 = .ok (.iconst 0, 1) := by decide +kernel
theorem dX12_meant_78 : decode cX12_meant 78 = .ok (.istore_n 2, 1) := by decide +kernel
theorem dX12_meant_79 : decode cX12_meant 79 = .ok (.iconst 0, 1) := by decide +kernel
theorem dX12_meant_80 : decode cX12_meant 80 = .ok (.istore_n 3, 1) := by decide +kernel
theorem dX12_meant_81 : decode cX12_meant 81 = .ok (.iload_n 3, 1) := by decide +kernel
theorem dX12_meant_82 : decode cX12_meant 82 = .ok (.aload_n 0, 1) := by decide +kernel
theorem dX12_meant_83 : decode cX12_meant 83 = .ok (.getfield 33, 3) := by decide +kernel
theorem dX12_meant_86 : decode cX12_meant 86 = .ok (.iconst 1, 1) := by decide +kernel
theorem dX12_meant_87 : decode cX12_meant 87 = .ok (.iaload, 1) := by decide +kernel
theorem dX12_meant_88 : decode cX12_meant 88 = .ok (.if_icmp .ge 46, 3) := by decide +kernel
theorem dX12_meant_91 : decode cX12_meant 91 = .ok (.aload_n 0, 1) := by decide +kernel
theorem dX12_meant_92 : decode cX12_meant 92 = .ok (.iload_n 3, 1) := by decide +kernel
theorem dX12_meant_93 : decode cX12_meant 93 = .ok (.invokevirtual 391, 3) := by decide +kernel
theorem dX12_meant_96 : decode cX12_meant 96 = .ok (.istore 4, 2) := by decide +kernel
theorem dX12_meant_98 : decode cX12_meant 98 = .ok (.iload 4, 2) := by decide +kernel
theorem dX12_meant_100 : decode cX12_meant 100 = .ok (.iload_n 1, 1) := by decide +kernel
theorem dX12_meant_101 : decode cX12_meant 101 = .ok (.if_icmp .le 6, 3) := by decide +kernel
theorem dX12_meant_104 : decode cX12_meant 104 = .ok (.goto 24, 3) := by decide +kernel
theorem dX12_meant_107 : decode cX12_meant 107 = .ok (.iload 4, 2) := by decide +kernel
theorem dX12_meant_109 : decode cX12_meant 109 = .ok (.iload_n 1, 1) := by decide +kernel
theorem dX12_meant_110 : decode cX12_meant 110 = .ok (.if_icmp .ge 9, 3) := by decide +kernel
theorem dX12_meant_113 : decode cX12_meant 113 = .ok (.iconst 1, 1) := by decide +kernel
theorem dX12_meant_114 : decode cX12_meant 114 = .ok (.iload_n 3, 1) := by decide +kernel
theorem dX12_meant_115 : decode cX12_meant 115 = .ok (.ishl, 1) := by decide +kernel
theorem dX12_meant_116 : decode cX12_meant 116 = .ok (.goto 8, 3) := by decide +kernel
theorem dX12_meant_119 : decode cX12_meant 119 = .ok (.iload_n 2, 1) := by decide +kernel
theorem dX12_meant_120 : decode cX12_meant 120 = .ok (.iconst 1, 1) := by decide +kernel
theorem dX12_meant_121 : decode cX12_meant 121 = .ok (.iload_n 3, 1) := by decide +kernel
theorem dX12_meant_122 : decode cX12_meant 122 = .ok (.ishl, 1) := by decide +kernel
theorem dX12_meant_123 : decode cX12_meant 123 = .ok (.ior, 1) := by decide +kernel
theorem dX12_meant_124 : decode cX12_meant 124 = .ok (.istore_n 2, 1) := by decide +kernel
theorem dX12_meant_125 : decode cX12_meant 125 = .ok (.iload 4, 2) := by decide +kernel
theorem dX12_meant_127 : decode cX12_meant 127 = .ok (.istore_n 1, 1) := by decide +kernel
theorem dX12_meant_128 : decode cX12_meant 128 = .ok (.iinc 3 1, 3) := by decide +kernel
theorem dX12_meant_131 : decode cX12_meant 131 = .ok (.goto (-50), 3) := by decide +kernel
theorem dX12_meant_134 : decode cX12_meant 134 = .ok (.aload_n 0, 1) := by decide +kernel
theorem dX12_meant_135 : decode cX12_meant 135 = .ok (.iload_n 1, 1) := by decide +kernel
theorem dX12_meant_136 : decode cX12_meant 136 = .ok (.putfield 65, 3) := by decide +kernel
theorem dX12_meant_139 : decode cX12_meant 139 = .ok (.aload_n 0, 1) := by decide +kernel
theorem dX12_meant_140 : decode cX12_meant 140 = .ok (.aload_n 0, 1) := by decide +kernel
theorem dX12_meant_141 : decode cX12_meant 141 = .ok (.iload_n 2, 1) := by decide +kernel
theorem dX12_meant_142 : decode cX12_meant 142 = .ok (.bipush 46, 2) := by decide +kernel
theorem dX12_meant_144 : decode cX12_meant 144 = .ok (.invokevirtual 394, 3) := by decide +kernel
theorem dX12_meant_147 : decode cX12_meant 147 = .ok (.aload_n 0, 1) := by decide +kernel
theorem dX12_meant_148 : decode cX12_meant 148 = .ok (.iload_n 2, 1) := by decide +kernel
theorem dX12_meant_149 : decode cX12_meant 149 = .ok (.bipush 39, 2) := by decide +kernel
theorem dX12_meant_151 : decode cX12_meant 151 = .ok (.invokevirtual 394, 3) := by decide +kernel
theorem dX12_meant_154 : decode cX12_meant 154 = .ok (.if_icmp .ge 7, 3) := by decide +kernel
theorem dX12_meant_157 : decode cX12_meant 157 = .ok (.iconst 1, 1) := by decide +kernel
theorem dX12_meant_158 : decode cX12_meant 158 = .ok (.goto 4, 3) := by decide +kernel
theorem dX12_meant_161 : decode cX12_meant 161 = .ok (.iconst 0, 1) := by decide +kernel
theorem dX12_meant_162 : decode cX12_meant 162 = .ok (.putfield 68, 3) := by decide +kernel
theorem dX12_meant_165 : decode cX12_meant 165 = .ok (.iload_n 2, 1) := by decide +kernel
theorem dX12_meant_166 : decode cX12_meant 166 = .ok (.ireturn, 1) := by decide +kernel
theorem dX12_wrong_0 : decode cX12_wrong 0 = .ok (.aload_n 0, 1) := by decide +kernel
theorem dX12_wrong_1 : decode cX12_wrong 1 = .ok (.iconst 0, 1) := by decide +kernel
theorem dX12_wrong_2 : decode cX12_wrong 2 = .ok (.putfield 1, 3) := by decide +kernel
theorem dX12_wrong_5 : decode cX12_wrong 5 = .ok (.aload_n 0, 1) := by decide +kernel
theorem dX12_wrong_6 : decode cX12_wrong 6 = .ok (.getfield 65, 3) := by decide +kernel
theorem dX12_wrong_9 : decode cX12_wrong 9 = .ok (.ireturn, 1) := by decide +kernel
theorem dX12_look_0 : decode cX12_look 0 = .ok (.aload_n 0, 1) := by decide +kernel
theorem dX12_look_1 : decode cX12_look 1 = .ok (.iconst 0, 1) := by decide +kernel
theorem dX12_look_2 : decode cX12_look 2 = .ok (.putfield 1, 3) := by decide +kernel
theorem dX12_look_5 : decode cX12_look 5 = .ok (.aload_n 0, 1) := by decide +kernel
theorem dX12_look_6 : decode cX12_look 6 = .ok (.getfield 68, 3) := by decide +kernel
theorem dX12_look_9 : decode cX12_look 9 = .ok (.ireturn, 1) := by decide +kernel
theorem dX12_code_0 : decode cX12_code 0 = .ok (.aload_n 0, 1) := by decide +kernel
theorem dX12_code_1 : decode cX12_code 1 = .ok (.iconst 0, 1) := by decide +kernel
theorem dX12_code_2 : decode cX12_code 2 = .ok (.putfield 1, 3) := by decide +kernel
theorem dX12_code_5 : decode cX12_code 5 = .ok (.iconst 0, 1) := by decide +kernel
theorem dX12_code_6 : decode cX12_code 6 = .ok (.istore_n 1, 1) := by decide +kernel
theorem dX12_code_7 : decode cX12_code 7 = .ok (.iconst (-1), 1) := by decide +kernel
theorem dX12_code_8 : decode cX12_code 8 = .ok (.istore_n 2, 1) := by decide +kernel
theorem dX12_code_9 : decode cX12_code 9 = .ok (.iconst 1, 1) := by decide +kernel
theorem dX12_code_10 : decode cX12_code 10 = .ok (.istore_n 3, 1) := by decide +kernel
theorem dX12_code_11 : decode cX12_code 11 = .ok (.iload_n 3, 1) := by decide +kernel
theorem dX12_code_12 : decode cX12_code 12 = .ok (.iconst 4, 1) := by decide +kernel
theorem dX12_code_13 : decode cX12_code 13 = .ok (.if_icmp .ge 123, 3) := by decide +kernel
theorem dX12_code_16 : decode cX12_code 16 = .ok (.iconst 1, 1) := by decide +kernel
theorem dX12_code_17 : decode cX12_code 17 = .ok (.istore 4, 2) := by decide +kernel
theorem dX12_code_19 : decode cX12_code 19 = .ok (.iload 4, 2) := by decide +kernel
theorem dX12_code_21 : decode cX12_code 21 = .ok (.iconst 4, 1) := by decide +kernel
theorem dX12_code_22 : decode cX12_code 22 = .ok (.if_icmp .ge 108, 3) := by decide +kernel
theorem dX12_code_25 : decode cX12_code 25 = .ok (.iconst 2, 1) := by decide +kernel
theorem dX12_code_26 : decode cX12_code 26 = .ok (.istore 5, 2) := by decide +kernel
theorem dX12_code_28 : decode cX12_code 28 = .ok (.iconst 0, 1) := by decide +kernel
theorem dX12_code_29 : decode cX12_code 29 = .ok (.istore 6, 2) := by decide +kernel
theorem dX12_code_31 : decode cX12_code 31 = .ok (.iload 6, 2) := by decide +kernel
theorem dX12_code_33 : decode cX12_code 33 = .ok (.aload_n 0, 1) := by decide +kernel
theorem dX12_code_34 : decode cX12_code 34 = .ok (.getfield 33, 3) := by decide +kernel
theorem dX12_code_37 : decode cX12_code 37 = .ok (.iconst 1, 1) := by decide +kernel
theorem dX12_code_38 : decode cX12_code 38 = .ok (.iaload, 1) := by decide +kernel
theorem dX12_code_39 : decode cX12_code 39 = .ok (.if_icmp .ge 56, 3) := by decide +kernel
theorem dX12_code_42 : decode cX12_code 42 = .ok (.iload 5, 2) := by decide +kernel
theorem dX12_code_44 : decode cX12_code 44 = .ok (.iload_n 3, 1) := by decide +kernel
theorem dX12_code_45 : decode cX12_code 45 = .ok (.aload_n 0, 1) := by decide +kernel
theorem dX12_code_46 : decode cX12_code 46 = .ok (.getfield 33, 3) := by decide +kernel
theorem dX12_code_49 : decode cX12_code 49 = .ok (.bipush 39, 2) := by decide +kernel
theorem dX12_code_51 : decode cX12_code 51 = .ok (.iload 6, 2) := by decide +kernel
theorem dX12_code_53 : decode cX12_code 53 = .ok (.iadd, 1) := by decide +kernel
theorem dX12_code_54 : decode cX12_code 54 = .ok (.iaload, 1) := by decide +kernel
theorem dX12_code_55 : decode cX12_code 55 = .ok (.if_icmp .ne 7, 3) := by decide +kernel
theorem dX12_code_58 : decode cX12_code 58 = .ok (.iconst 0, 1) := by decide +kernel
theorem dX12_code_59 : decode cX12_code 59 = .ok (.goto 4, 3) := by decide +kernel
theorem dX12_code_62 : decode cX12_code 62 = .ok (.iconst 1, 1) := by decide +kernel
theorem dX12_code_63 : decode cX12_code 63 = .ok (.iload 4, 2) := by decide +kernel
theorem dX12_code_65 : decode cX12_code 65 = .ok (.aload_n 0, 1) := by decide +kernel
theorem dX12_code_66 : decode cX12_code 66 = .ok (.getfield 33, 3) := by decide +kernel
theorem dX12_code_69 : decode cX12_code 69 = .ok (.bipush 46, 2) := by decide +kernel
theorem dX12_code_71 : decode cX12_code 71 = .ok (.iload 6, 2) := by decide +kernel
theorem dX12_code_73 : decode cX12_code 73 = .ok (.iadd, 1) := by decide +kernel
theorem dX12_code_74 : decode cX12_code 74 = .ok (.iaload, 1) := by decide +kernel
theorem dX12_code_75 : decode cX12_code 75 = .ok (.if_icmp .ne 7, 3) := by decide +kernel
theorem dX12_code_78 : decode cX12_code 78 = .ok (.iconst 0, 1) := by decide +kernel
theorem dX12_code_79 : decode cX12_code 79 = .ok (.goto 4, 3) := by decide +kernel
theorem dX12_code_82 : decode cX12_code 82 = .ok (.iconst 1, 1) := by decide +kernel
theorem dX12_code_83 : decode cX12_code 83 = .ok (.iadd, 1) := by decide +kernel
theorem dX12_code_84 : decode cX12_code 84 = .ok (.invokestatic 279, 3) := by decide +kernel
theorem dX12_code_87 : decode cX12_code 87 = .ok (.istore 5, 2) := by decide +kernel
theorem dX12_code_89 : decode cX12_code 89 = .ok (.iinc 6 1, 3) := by decide +kernel
theorem dX12_code_92 : decode cX12_code 92 = .ok (.goto (-61), 3) := by decide +kernel
theorem dX12_code_95 : decode cX12_code 95 = .ok (.aload_n 0, 1) := by decide +kernel
theorem dX12_code_96 : decode cX12_code 96 = .ok (.iload_n 3, 1) := by decide +kernel
theorem dX12_code_97 : decode cX12_code 97 = .ok (.iload 4, 2) := by decide +kernel
theorem dX12_code_99 : decode cX12_code 99 = .ok (.invokevirtual 319, 3) := by decide +kernel
theorem dX12_code_102 : decode cX12_code 102 = .ok (.ifCond .ge 22, 3) := by decide +kernel
theorem dX12_code_105 : decode cX12_code 105 = .ok (.iload 5, 2) := by decide +kernel
theorem dX12_code_107 : decode cX12_code 107 = .ok (.iload_n 2, 1) := by decide +kernel
theorem dX12_code_108 : decode cX12_code 108 = .ok (.if_icmp .gt 6, 3) := by decide +kernel
theorem dX12_code_111 : decode cX12_code 111 = .ok (.goto 13, 3) := by decide +kernel
theorem dX12_code_114 : decode cX12_code 114 = .ok (.iload 5, 2) := by decide +kernel
theorem dX12_code_116 : decode cX12_code 116 = .ok (.istore_n 2, 1) := by decide +kernel
theorem dX12_code_117 : decode cX12_code 117 = .ok (.iconst 4, 1) := by decide +kernel
theorem dX12_code_118 : decode cX12_code 118 = .ok (.iload_n 3, 1) := by decide +kernel
theorem dX12_code_119 : decode cX12_code 119 = .ok (.imul, 1) := by decide +kernel
theorem dX12_code_120 : decode cX12_code 120 = .ok (.iload 4, 2) := by decide +kernel
theorem dX12_code_122 : decode cX12_code 122 = .ok (.iadd, 1) := by decide +kernel
theorem dX12_code_123 : decode cX12_code 123 = .ok (.istore_n 1, 1) := by decide +kernel
theorem dX12_code_124 : decode cX12_code 124 = .ok (.iinc 4 1, 3) := by decide +kernel
theorem dX12_code_127 : decode cX12_code 127 = .ok (.goto (-108), 3) := by decide +kernel
theorem dX12_code_130 : decode cX12_code 130 = .ok (.iinc 3 1, 3) := by decide +kernel
theorem dX12_code_133 : decode cX12_code 133 = .ok (.goto (-122), 3) := by decide +kernel
theorem dX12_code_136 : decode cX12_code 136 = .ok (.iload_n 1, 1) := by decide +kernel
theorem dX12_code_137 : decode cX12_code 137 = .ok (.ireturn, 1) := by decide +kernel
theorem dX12_isScratch_0 : decode cX12_isScratch 0 = .ok (.iconst 1, 1) := by decide +kernel
theorem dX12_isScratch_1 : decode cX12_isScratch 1 = .ok (.istore_n 2, 1) := by decide +kernel
theorem dX12_isScratch_2 : decode cX12_isScratch 2 = .ok (.iconst 0, 1) := by decide +kernel
theorem dX12_isScratch_3 : decode cX12_isScratch 3 = .ok (.istore_n 3, 1) := by decide +kernel
theorem dX12_isScratch_4 : decode cX12_isScratch 4 = .ok (.iload_n 3, 1) := by decide +kernel
theorem dX12_isScratch_5 : decode cX12_isScratch 5 = .ok (.aload_n 0, 1) := by decide +kernel
theorem dX12_isScratch_6 : decode cX12_isScratch 6 = .ok (.getfield 18, 3) := by decide +kernel
theorem dX12_isScratch_9 : decode cX12_isScratch 9 = .ok (.if_icmp .ge 48, 3) := by decide +kernel
theorem dX12_isScratch_12 : decode cX12_isScratch 12 = .ok (.iload_n 2, 1) := by decide +kernel
theorem dX12_isScratch_13 : decode cX12_isScratch 13 = .ok (.ifCond .eq 36, 3) := by decide +kernel
theorem dX12_isScratch_16 : decode cX12_isScratch 16 = .ok (.aload_n 0, 1) := by decide +kernel
theorem dX12_isScratch_17 : decode cX12_isScratch 17 = .ok (.aload_n 0, 1) := by decide +kernel
theorem dX12_isScratch_18 : decode cX12_isScratch 18 = .ok (.iload_n 3, 1) := by decide +kernel
theorem dX12_isScratch_19 : decode cX12_isScratch 19 = .ok (.invokevirtual 385, 3) := by decide +kernel
theorem dX12_isScratch_22 : decode cX12_isScratch 22 = .ok (.iload_n 1, 1) := by decide +kernel
theorem dX12_isScratch_23 : decode cX12_isScratch 23 = .ok (.invokevirtual 300, 3) := by decide +kernel
theorem dX12_isScratch_26 : decode cX12_isScratch 26 = .ok (.aload_n 0, 1) := by decide +kernel
theorem dX12_isScratch_27 : decode cX12_isScratch 27 = .ok (.iload_n 3, 1) := by decide +kernel
theorem dX12_isScratch_28 : decode cX12_isScratch 28 = .ok (.iconst 1, 1) := by decide +kernel
theorem dX12_isScratch_29 : decode cX12_isScratch 29 = .ok (.iadd, 1) := by decide +kernel
theorem dX12_isScratch_30 : decode cX12_isScratch 30 = .ok (.invokevirtual 385, 3) := by decide +kernel
theorem dX12_isScratch_33 : decode cX12_isScratch 33 = .ok (.iconst 1, 1) := by decide +kernel
theorem dX12_isScratch_34 : decode cX12_isScratch 34 = .ok (.if_icmp .ne 7, 3) := by decide +kernel
theorem dX12_isScratch_37 : decode cX12_isScratch 37 = .ok (.iconst 1, 1) := by decide +kernel
theorem dX12_isScratch_38 : decode cX12_isScratch 38 = .ok (.goto 4, 3) := by decide +kernel
theorem dX12_isScratch_41 : decode cX12_isScratch 41 = .ok (.iconst 0, 1) := by decide +kernel
theorem dX12_isScratch_42 : decode cX12_isScratch 42 = .ok (.if_icmp .ne 7, 3) := by decide +kernel
theorem dX12_isScratch_45 : decode cX12_isScratch 45 = .ok (.iconst 1, 1) := by decide +kernel
theorem dX12_isScratch_46 : decode cX12_isScratch 46 = .ok (.goto 4, 3) := by decide +kernel
theorem dX12_isScratch_49 : decode cX12_isScratch 49 = .ok (.iconst 0, 1) := by decide +kernel
theorem dX12_isScratch_50 : decode cX12_isScratch 50 = .ok (.istore_n 2, 1) := by decide +kernel
theorem dX12_isScratch_51 : decode cX12_isScratch 51 = .ok (.iinc 3 2, 3) := by decide +kernel
theorem dX12_isScratch_54 : decode cX12_isScratch 54 = .ok (.goto (-50), 3) := by decide +kernel
theorem dX12_isScratch_57 : decode cX12_isScratch 57 = .ok (.iload_n 2, 1) := by decide +kernel
theorem dX12_isScratch_58 : decode cX12_isScratch 58 = .ok (.ireturn, 1) := by decide +kernel
theorem dX12_scratch_0 : decode cX12_scratch 0 = .ok (.aload_n 0, 1) := by decide +kernel
theorem dX12_scratch_1 : decode cX12_scratch 1 = .ok (.iconst 0, 1) := by decide +kernel
theorem dX12_scratch_2 : decode cX12_scratch 2 = .ok (.putfield 1, 3) := by decide +kernel
theorem dX12_scratch_5 : decode cX12_scratch 5 = .ok (.aload_n 0, 1) := by decide +kernel
theorem dX12_scratch_6 : decode cX12_scratch 6 = .ok (.sipush 940, 3) := by decide +kernel
theorem dX12_scratch_9 : decode cX12_scratch 9 = .ok (.invokevirtual 264, 3) := by decide +kernel
theorem dX12_scratch_12 : decode cX12_scratch 12 = .ok (.aload_n 0, 1) := by decide +kernel
theorem dX12_scratch_13 : decode cX12_scratch 13 = .ok (.getfield 18, 3) := by decide +kernel
theorem dX12_scratch_16 : decode cX12_scratch 16 = .ok (.iconst 2, 1) := by decide +kernel
theorem dX12_scratch_17 : decode cX12_scratch 17 = .ok (.bipush 16, 2) := by decide +kernel
theorem dX12_scratch_19 : decode cX12_scratch 19 = .ok (.invokestatic 206, 3) := by decide +kernel
theorem dX12_scratch_22 : decode cX12_scratch 22 = .ok (.ifCond .eq 13, 3) := by decide +kernel
theorem dX12_scratch_25 : decode cX12_scratch 25 = .ok (.aload_n 0, 1) := by decide +kernel
theorem dX12_scratch_26 : decode cX12_scratch 26 = .ok (.getfield 18, 3) := by decide +kernel
theorem dX12_scratch_29 : decode cX12_scratch 29 = .ok (.iconst 2, 1) := by decide +kernel
theorem dX12_scratch_30 : decode cX12_scratch 30 = .ok (.irem, 1) := by decide +kernel
