theorem dX8_begin_70 : decode cX8_begin 70 = .ok (.aload_n 0, 1) := by decide +kernel
theorem dX8_begin_71 : decode cX8_begin 71 = .ok (.iconst 0, 1) := by decide +kernel
theorem dX8_begin_72 : decode cX8_begin 72 = .ok (.putfield 46, 3) := by decide +kernel
theorem dX8_begin_75 : decode cX8_begin 75 = .ok (.aload_n 0, 1) := by decide +kernel
theorem dX8_begin_76 : decode cX8_begin 76 = .ok (.iconst 0, 1) := by decide +kernel
theorem dX8_begin_77 : decode cX8_begin 77 = .ok (.putfield 49, 3) := by decide +kernel
theorem dX8_begin_80 : decode cX8_begin 80 = .ok (.aload_n 0, 1) := by decide +kernel
theorem dX8_begin_81 : decode cX8_begin 81 = .ok (.iconst 0, 1) := by decide +kernel
theorem dX8_begin_82 : decode cX8_begin 82 = .ok (.putfield 52, 3) := by decide +kernel
theorem dX8_begin_85 : decode cX8_begin 85 = .ok (.aload_n 0, 1) := by decide +kernel
theorem dX8_begin_86 : decode cX8_begin 86 = .ok (.iconst 0, 1) := by decide +kernel
theorem dX8_begin_87 : decode cX8_begin 87 = .ok (.putfield 55, 3) := by decide +kernel
theorem dX8_begin_90 : decode cX8_begin 90 = .ok (.aload_n 0, 1) := by decide +kernel
theorem dX8_begin_91 : decode cX8_begin 91 = .ok (.iconst 0, 1) := by decide +kernel
theorem dX8_begin_92 : decode cX8_begin 92 = .ok (.putfield 58, 3) := by decide +kernel
theorem dX8_begin_95 : decode cX8_begin 95 = .ok (.return_, 1) := by decide +kernel
theorem dX8_readersOf_0 : decode cX8_readersOf 0 = .ok (.iconst 0, 1) := by decide +kernel
theorem dX8_readersOf_1 : decode cX8_readersOf 1 = .ok (.istore_n 3, 1) := by decide +kernel
theorem dX8_readersOf_2 : decode cX8_readersOf 2 = .ok (.iconst 0, 1) := by decide +kernel
theorem dX8_readersOf_3 : decode cX8_readersOf 3 = .ok (.istore 4, 2) := by decide +kernel
theorem dX8_readersOf_5 : decode cX8_readersOf 5 = .ok (.iload 4, 2) := by decide +kernel
theorem dX8_readersOf_7 : decode cX8_readersOf 7 = .ok (.aload_n 0, 1) := by decide +kernel
theorem dX8_readersOf_8 : decode cX8_readersOf 8 = .ok (.getfield 30, 3) := by decide +kernel
theorem dX8_readersOf_11 : decode cX8_readersOf 11 = .ok (.getfield 34, 3) := by decide +kernel
theorem dX8_readersOf_14 : decode cX8_readersOf 14 = .ok (.if_icmp .ge 63, 3) := by decide +kernel
theorem dX8_readersOf_17 : decode cX8_readersOf 17 = .ok (.aload_n 0, 1) := by decide +kernel
theorem dX8_readersOf_18 : decode cX8_readersOf 18 = .ok (.getfield 30, 3) := by decide +kernel
theorem dX8_readersOf_21 : decode cX8_readersOf 21 = .ok (.getfield 93, 3) := by decide +kernel
theorem dX8_readersOf_24 : decode cX8_readersOf 24 = .ok (.iload 4, 2) := by decide +kernel
theorem dX8_readersOf_26 : decode cX8_readersOf 26 = .ok (.iaload, 1) := by decide +kernel
theorem dX8_readersOf_27 : decode cX8_readersOf 27 = .ok (.iload_n 1, 1) := by decide +kernel
theorem dX8_readersOf_28 : decode cX8_readersOf 28 = .ok (.if_icmp .ne 43, 3) := by decide +kernel
theorem dX8_readersOf_31 : decode cX8_readersOf 31 = .ok (.aload_n 0, 1) := by decide +kernel
theorem dX8_readersOf_32 : decode cX8_readersOf 32 = .ok (.getfield 9, 3) := by decide +kernel
theorem dX8_readersOf_35 : decode cX8_readersOf 35 = .ok (.iload_n 1, 1) := by decide +kernel
theorem dX8_readersOf_36 : decode cX8_readersOf 36 = .ok (.iaload, 1) := by decide +kernel
theorem dX8_readersOf_37 : decode cX8_readersOf 37 = .ok (.aload_n 0, 1) := by decide +kernel
theorem dX8_readersOf_38 : decode cX8_readersOf 38 = .ok (.getfield 15, 3) := by decide +kernel
theorem dX8_readersOf_41 : decode cX8_readersOf 41 = .ok (.iload_n 1, 1) := by decide +kernel
theorem dX8_readersOf_42 : decode cX8_readersOf 42 = .ok (.iaload, 1) := by decide +kernel
theorem dX8_readersOf_43 : decode cX8_readersOf 43 = .ok (.aload_n 0, 1) := by decide +kernel
theorem dX8_readersOf_44 : decode cX8_readersOf 44 = .ok (.getfield 9, 3) := by decide +kernel
theorem dX8_readersOf_47 : decode cX8_readersOf 47 = .ok (.iload 4, 2) := by decide +kernel
theorem dX8_readersOf_49 : decode cX8_readersOf 49 = .ok (.iaload, 1) := by decide +kernel
theorem dX8_readersOf_50 : decode cX8_readersOf 50 = .ok (.aload_n 0, 1) := by decide +kernel
theorem dX8_readersOf_51 : decode cX8_readersOf 51 = .ok (.getfield 15, 3) := by decide +kernel
theorem dX8_readersOf_54 : decode cX8_readersOf 54 = .ok (.iload 4, 2) := by decide +kernel
theorem dX8_readersOf_56 : decode cX8_readersOf 56 = .ok (.iaload, 1) := by decide +kernel
theorem dX8_readersOf_57 : decode cX8_readersOf 57 = .ok (.invokestatic 86, 3) := by decide +kernel
theorem dX8_readersOf_60 : decode cX8_readersOf 60 = .ok (.iload_n 2, 1) := by decide +kernel
theorem dX8_readersOf_61 : decode cX8_readersOf 61 = .ok (.if_icmp .gt 10, 3) := by decide +kernel
theorem dX8_readersOf_64 : decode cX8_readersOf 64 = .ok (.iload_n 3, 1) := by decide +kernel
theorem dX8_readersOf_65 : decode cX8_readersOf 65 = .ok (.iconst 1, 1) := by decide +kernel
theorem dX8_readersOf_66 : decode cX8_readersOf 66 = .ok (.iload 4, 2) := by decide +kernel
theorem dX8_readersOf_68 : decode cX8_readersOf 68 = .ok (.ishl, 1) := by decide +kernel
theorem dX8_readersOf_69 : decode cX8_readersOf 69 = .ok (.ior, 1) := by decide +kernel
theorem dX8_readersOf_70 : decode cX8_readersOf 70 = .ok (.istore_n 3, 1) := by decide +kernel
theorem dX8_readersOf_71 : decode cX8_readersOf 71 = .ok (.iinc 4 1, 3) := by decide +kernel
theorem dX8_readersOf_74 : decode cX8_readersOf 74 = .ok (.goto (-69), 3) := by decide +kernel
theorem dX8_readersOf_77 : decode cX8_readersOf 77 = .ok (.iload_n 3, 1) := by decide +kernel
theorem dX8_readersOf_78 : decode cX8_readersOf 78 = .ok (.aload_n 0, 1) := by decide +kernel
theorem dX8_readersOf_79 : decode cX8_readersOf 79 = .ok (.getfield 46, 3) := by decide +kernel
theorem dX8_readersOf_82 : decode cX8_readersOf 82 = .ok (.iconst (-1), 1) := by decide +kernel
theorem dX8_readersOf_83 : decode cX8_readersOf 83 = .ok (.ixor, 1) := by decide +kernel
theorem dX8_readersOf_84 : decode cX8_readersOf 84 = .ok (.iand, 1) := by decide +kernel
theorem dX8_readersOf_85 : decode cX8_readersOf 85 = .ok (.ireturn, 1) := by decide +kernel
theorem dX8_foesSeeing_0 : decode cX8_foesSeeing 0 = .ok (.aload_n 0, 1) := by decide +kernel
theorem dX8_foesSeeing_1 : decode cX8_foesSeeing 1 = .ok (.iload_n 1, 1) := by decide +kernel
theorem dX8_foesSeeing_2 : decode cX8_foesSeeing 2 = .ok (.invokevirtual 90, 3) := by decide +kernel
theorem dX8_foesSeeing_5 : decode cX8_foesSeeing 5 = .ok (.istore 4, 2) := by decide +kernel
theorem dX8_foesSeeing_7 : decode cX8_foesSeeing 7 = .ok (.iconst 0, 1) := by decide +kernel
theorem dX8_foesSeeing_8 : decode cX8_foesSeeing 8 = .ok (.istore 5, 2) := by decide +kernel
theorem dX8_foesSeeing_10 : decode cX8_foesSeeing 10 = .ok (.iconst 0, 1) := by decide +kernel
theorem dX8_foesSeeing_11 : decode cX8_foesSeeing 11 = .ok (.istore 6, 2) := by decide +kernel
theorem dX8_foesSeeing_13 : decode cX8_foesSeeing 13 = .ok (.iload 6, 2) := by decide +kernel
theorem dX8_foesSeeing_15 : decode cX8_foesSeeing 15 = .ok (.aload_n 0, 1) := by decide +kernel
theorem dX8_foesSeeing_16 : decode cX8_foesSeeing 16 = .ok (.getfield 30, 3) := by decide +kernel
theorem dX8_foesSeeing_19 : decode cX8_foesSeeing 19 = .ok (.getfield 96, 3) := by decide +kernel
theorem dX8_foesSeeing_22 : decode cX8_foesSeeing 22 = .ok (.if_icmp .ge 48, 3) := by decide +kernel
theorem dX8_foesSeeing_25 : decode cX8_foesSeeing 25 = .ok (.iload_n 2, 1) := by decide +kernel
theorem dX8_foesSeeing_26 : decode cX8_foesSeeing 26 = .ok (.iload_n 3, 1) := by decide +kernel
theorem dX8_foesSeeing_27 : decode cX8_foesSeeing 27 = .ok (.aload_n 0, 1) := by decide +kernel
theorem dX8_foesSeeing_28 : decode cX8_foesSeeing 28 = .ok (.getfield 30, 3) := by decide +kernel
theorem dX8_foesSeeing_31 : decode cX8_foesSeeing 31 = .ok (.getfield 99, 3) := by decide +kernel
theorem dX8_foesSeeing_34 : decode cX8_foesSeeing 34 = .ok (.iload 6, 2) := by decide +kernel
theorem dX8_foesSeeing_36 : decode cX8_foesSeeing 36 = .ok (.iaload, 1) := by decide +kernel
theorem dX8_foesSeeing_37 : decode cX8_foesSeeing 37 = .ok (.aload_n 0, 1) := by decide +kernel
theorem dX8_foesSeeing_38 : decode cX8_foesSeeing 38 = .ok (.getfield 30, 3) := by decide +kernel
theorem dX8_foesSeeing_41 : decode cX8_foesSeeing 41 = .ok (.getfield 102, 3) := by decide +kernel
theorem dX8_foesSeeing_44 : decode cX8_foesSeeing 44 = .ok (.iload 6, 2) := by decide +kernel
theorem dX8_foesSeeing_46 : decode cX8_foesSeeing 46 = .ok (.iaload, 1) := by decide +kernel
theorem dX8_foesSeeing_47 : decode cX8_foesSeeing 47 = .ok (.invokestatic 86, 3) := by decide +kernel
theorem dX8_foesSeeing_50 : decode cX8_foesSeeing 50 = .ok (.iload 4, 2) := by decide +kernel
theorem dX8_foesSeeing_52 : decode cX8_foesSeeing 52 = .ok (.if_icmp .gt 12, 3) := by decide +kernel
theorem dX8_foesSeeing_55 : decode cX8_foesSeeing 55 = .ok (.iload 5, 2) := by decide +kernel
theorem dX8_foesSeeing_57 : decode cX8_foesSeeing 57 = .ok (.iconst 1, 1) := by decide +kernel
theorem dX8_foesSeeing_58 : decode cX8_foesSeeing 58 = .ok (.iload 6, 2) := by decide +kernel
theorem dX8_foesSeeing_60 : decode cX8_foesSeeing 60 = .ok (.ishl, 1) := by decide +kernel
theorem dX8_foesSeeing_61 : decode cX8_foesSeeing 61 = .ok (.ior, 1) := by decide +kernel
theorem dX8_foesSeeing_62 : decode cX8_foesSeeing 62 = .ok (.istore 5, 2) := by decide +kernel
theorem dX8_foesSeeing_64 : decode cX8_foesSeeing 64 = .ok (.iinc 6 1, 3) := by decide +kernel
theorem dX8_foesSeeing_67 : decode cX8_foesSeeing 67 = .ok (.goto (-54), 3) := by decide +kernel
theorem dX8_foesSeeing_70 : decode cX8_foesSeeing 70 = .ok (.iload 5, 2) := by decide +kernel
theorem dX8_foesSeeing_72 : decode cX8_foesSeeing 72 = .ok (.ireturn, 1) := by decide +kernel
theorem dX8_underSeeing_0 : decode cX8_underSeeing 0 = .ok (.aload_n 0, 1) := by decide +kernel
theorem dX8_underSeeing_1 : decode cX8_underSeeing 1 = .ok (.iload_n 1, 1) := by decide +kernel
theorem dX8_underSeeing_2 : decode cX8_underSeeing 2 = .ok (.invokevirtual 90, 3) := by decide +kernel
theorem dX8_underSeeing_5 : decode cX8_underSeeing 5 = .ok (.istore 4, 2) := by decide +kernel
theorem dX8_underSeeing_7 : decode cX8_underSeeing 7 = .ok (.iconst 0, 1) := by decide +kernel
theorem dX8_underSeeing_8 : decode cX8_underSeeing 8 = .ok (.istore 5, 2) := by decide +kernel
theorem dX8_underSeeing_10 : decode cX8_underSeeing 10 = .ok (.iconst 0, 1) := by decide +kernel
theorem dX8_underSeeing_11 : decode cX8_underSeeing 11 = .ok (.istore 6, 2) := by decide +kernel
theorem dX8_underSeeing_13 : decode cX8_underSeeing 13 = .ok (.iload 6, 2) := by decide +kernel
theorem dX8_underSeeing_15 : decode cX8_underSeeing 15 = .ok (.aload_n 0, 1) := by decide +kernel
theorem dX8_underSeeing_16 : decode cX8_underSeeing 16 = .ok (.getfield 30, 3) := by decide +kernel
theorem dX8_underSeeing_19 : decode cX8_underSeeing 19 = .ok (.getfield 34, 3) := by decide +kernel
theorem dX8_underSeeing_22 : decode cX8_underSeeing 22 = .ok (.if_icmp .ge 50, 3) := by decide +kernel
theorem dX8_underSeeing_25 : decode cX8_underSeeing 25 = .ok (.aload_n 0, 1) := by decide +kernel
theorem dX8_underSeeing_26 : decode cX8_underSeeing 26 = .ok (.getfield 30, 3) := by decide +kernel
theorem dX8_underSeeing_29 : decode cX8_underSeeing 29 = .ok (.getfield 93, 3) := by decide +kernel
theorem dX8_underSeeing_32 : decode cX8_underSeeing 32 = .ok (.iload 6, 2) := by decide +kernel
theorem dX8_underSeeing_34 : decode cX8_underSeeing 34 = .ok (.iaload, 1) := by decide +kernel
theorem dX8_underSeeing_35 : decode cX8_underSeeing 35 = .ok (.iload_n 1, 1) := by decide +kernel
theorem dX8_underSeeing_36 : decode cX8_underSeeing 36 = .ok (.if_icmp .ne 30, 3) := by decide +kernel
theorem dX8_underSeeing_39 : decode cX8_underSeeing 39 = .ok (.iload_n 2, 1) := by decide +kernel
theorem dX8_underSeeing_40 : decode cX8_underSeeing 40 = .ok (.iload_n 3, 1) := by decide +kernel
theorem dX8_underSeeing_41 : decode cX8_underSeeing 41 = .ok (.aload_n 0, 1) := by decide +kernel
theorem dX8_underSeeing_42 : decode cX8_underSeeing 42 = .ok (.getfield 9, 3) := by decide +kernel
theorem dX8_underSeeing_45 : decode cX8_underSeeing 45 = .ok (.iload 6, 2) := by decide +kernel
theorem dX8_underSeeing_47 : decode cX8_underSeeing 47 = .ok (.iaload, 1) := by decide +kernel
theorem dX8_underSeeing_48 : decode cX8_underSeeing 48 = .ok (.aload_n 0, 1) := by decide +kernel
theorem dX8_underSeeing_49 : decode cX8_underSeeing 49 = .ok (.getfield 15, 3) := by decide +kernel
theorem dX8_underSeeing_52 : decode cX8_underSeeing 52 = .ok (.iload 6, 2) := by decide +kernel
theorem dX8_underSeeing_54 : decode cX8_underSeeing 54 = .ok (.iaload, 1) := by decide +kernel
theorem dX8_underSeeing_55 : decode cX8_underSeeing 55 = .ok (.invokestatic 86, 3) := by decide +kernel
theorem dX8_underSeeing_58 : decode cX8_underSeeing 58 = .ok (.iload 4, 2) := by decide +kernel
theorem dX8_underSeeing_60 : decode cX8_underSeeing 60 = .ok (.if_icmp .gt 6, 3) := by decide +kernel
theorem dX8_underSeeing_63 : decode cX8_underSeeing 63 = .ok (.iinc 5 1, 3) := by decide +kernel
theorem dX8_underSeeing_66 : decode cX8_underSeeing 66 = .ok (.iinc 6 1, 3) := by decide +kernel
theorem dX8_underSeeing_69 : decode cX8_underSeeing 69 = .ok (.goto (-56), 3) := by decide +kernel
theorem dX8_underSeeing_72 : decode cX8_underSeeing 72 = .ok (.iload 5, 2) := by decide +kernel
theorem dX8_underSeeing_74 : decode cX8_underSeeing 74 = .ok (.ireturn, 1) := by decide +kernel
theorem dX8_holders_0 : decode cX8_holders 0 = .ok (.aload_n 0, 1) := by decide +kernel
theorem dX8_holders_1 : decode cX8_holders 1 = .ok (.getfield 30, 3) := by decide +kernel
theorem dX8_holders_4 : decode cX8_holders 4 = .ok (.invokevirtual 105, 3) := by decide +kernel
theorem dX8_holders_7 : decode cX8_holders 7 = .ok (.aload_n 0, 1) := by decide +kernel
theorem dX8_holders_8 : decode cX8_holders 8 = .ok (.iconst (-1), 1) := by decide +kernel
theorem dX8_holders_9 : decode cX8_holders 9 = .ok (.invokevirtual 109, 3) := by decide +kernel
theorem dX8_holders_12 : decode cX8_holders 12 = .ok (.iconst (-1), 1) := by decide +kernel
theorem dX8_holders_13 : decode cX8_holders 13 = .ok (.ixor, 1) := by decide +kernel
theorem dX8_holders_14 : decode cX8_holders 14 = .ok (.iand, 1) := by decide +kernel
theorem dX8_holders_15 : decode cX8_holders 15 = .ok (.ireturn, 1) := by decide +kernel
theorem dX8_allLost_0 : decode cX8_allLost 0 = .ok (.iconst 0, 1) := by decide +kernel
theorem dX8_allLost_1 : decode cX8_allLost 1 = .ok (.istore_n 1, 1) := by decide +kernel
theorem dX8_allLost_2 : decode cX8_allLost 2 = .ok (.iconst 0, 1) := by decide +kernel
theorem dX8_allLost_3 : decode cX8_allLost 3 = .ok (.istore_n 2, 1) := by decide +kernel
theorem dX8_allLost_4 : decode cX8_allLost 4 = .ok (.iload_n 2, 1) := by decide +kernel
theorem dX8_allLost_5 : decode cX8_allLost 5 = .ok (.aload_n 0, 1) := by decide +kernel
theorem dX8_allLost_6 : decode cX8_allLost 6 = .ok (.getfield 30, 3) := by decide +kernel
theorem dX8_allLost_9 : decode cX8_allLost 9 = .ok (.getfield 34, 3) := by decide +kernel
theorem dX8_allLost_12 : decode cX8_allLost 12 = .ok (.if_icmp .ge 18, 3) := by decide +kernel
theorem dX8_allLost_15 : decode cX8_allLost 15 = .ok (.iload_n 1, 1) := by decide +kernel
theorem dX8_allLost_16 : decode cX8_allLost 16 = .ok (.aload_n 0, 1) := by decide +kernel
theorem dX8_allLost_17 : decode cX8_allLost 17 = .ok (.getfield 24, 3) := by decide +kernel
theorem dX8_allLost_20 : decode cX8_allLost 20 = .ok (.iload_n 2, 1) := by decide +kernel
theorem dX8_allLost_21 : decode cX8_allLost 21 = .ok (.iaload, 1) := by decide +kernel
theorem dX8_allLost_22 : decode cX8_allLost 22 = .ok (.iadd, 1) := by decide +kernel
theorem dX8_allLost_23 : decode cX8_allLost 23 = .ok (.istore_n 1, 1) := by decide +kernel
theorem dX8_allLost_24 : decode cX8_allLost 24 = .ok (.iinc 2 1, 3) := by decide +kernel
theorem dX8_allLost_27 : decode cX8_allLost 27 = .ok (.goto (-23), 3) := by decide +kernel
theorem dX8_allLost_30 : decode cX8_allLost 30 = .ok (.iload_n 1, 1) := by decide +kernel
theorem dX8_allLost_31 : decode cX8_allLost 31 = .ok (.ireturn, 1) := by decide +kernel
theorem dX8_hear_0 : decode cX8_hear 0 = .ok (.aload_n 0, 1) := by decide +kernel
theorem dX8_hear_1 : decode cX8_hear 1 = .ok (.getfield 30, 3) := by decide +kernel
theorem dX8_hear_4 : decode cX8_hear 4 = .ok (.getfield 140, 3) := by decide +kernel
theorem dX8_hear_7 : decode cX8_hear 7 = .ok (.iload_n 1, 1) := by decide +kernel
theorem dX8_hear_8 : decode cX8_hear 8 = .ok (.invokestatic 70, 3) := by decide +kernel
theorem dX8_hear_11 : decode cX8_hear 11 = .ok (.iconst 1, 1) := by decide +kernel
theorem dX8_hear_12 : decode cX8_hear 12 = .ok (.if_icmp .ne 14, 3) := by decide +kernel
theorem dX8_hear_15 : decode cX8_hear 15 = .ok (.aload_n 0, 1) := by decide +kernel
theorem dX8_hear_16 : decode cX8_hear 16 = .ok (.getfield 21, 3) := by decide +kernel
theorem dX8_hear_19 : decode cX8_hear 19 = .ok (.iload_n 1, 1) := by decide +kernel
theorem dX8_hear_20 : decode cX8_hear 20 = .ok (.iaload, 1) := by decide +kernel
theorem dX8_hear_21 : decode cX8_hear 21 = .ok (.iconst (-1), 1) := by decide +kernel
theorem dX8_hear_22 : decode cX8_hear 22 = .ok (.if_icmp .eq 4, 3) := by decide +kernel
theorem dX8_hear_25 : decode cX8_hear 25 = .ok (.return_, 1) := by decide +kernel
theorem dX8_hear_26 : decode cX8_hear 26 = .ok (.aload_n 0, 1) := by decide +kernel
theorem dX8_hear_27 : decode cX8_hear 27 = .ok (.getfield 18, 3) := by decide +kernel
theorem dX8_hear_30 : decode cX8_hear 30 = .ok (.iload_n 1, 1) := by decide +kernel
theorem dX8_hear_31 : decode cX8_hear 31 = .ok (.iaload, 1) := by decide +kernel
theorem dX8_hear_32 : decode cX8_hear 32 = .ok (.ifCond .ne 11, 3) := by decide +kernel
theorem dX8_hear_35 : decode cX8_hear 35 = .ok (.aload_n 0, 1) := by decide +kernel
theorem dX8_hear_36 : decode cX8_hear 36 = .ok (.getfield 18, 3) := by decide +kernel
theorem dX8_hear_39 : decode cX8_hear 39 = .ok (.iload_n 1, 1) := by decide +kernel
theorem dX8_hear_40 : decode cX8_hear 40 = .ok (.iload_n 2, 1) := by decide +kernel
theorem dX8_hear_41 : decode cX8_hear 41 = .ok (.iastore, 1) := by decide +kernel
theorem dX8_hear_42 : decode cX8_hear 42 = .ok (.return_, 1) := by decide +kernel
theorem dX8_hear_43 : decode cX8_hear 43 = .ok (.aload_n 0, 1) := by decide +kernel
theorem dX8_hear_44 : decode cX8_hear 44 = .ok (.getfield 30, 3) := by decide +kernel
theorem dX8_hear_47 : decode cX8_hear 47 = .ok (.aload_n 0, 1) := by decide +kernel
theorem dX8_hear_48 : decode cX8_hear 48 = .ok (.getfield 18, 3) := by decide +kernel
theorem dX8_hear_51 : decode cX8_hear 51 = .ok (.iload_n 1, 1) := by decide +kernel
theorem dX8_hear_52 : decode cX8_hear 52 = .ok (.iaload, 1) := by decide +kernel
theorem dX8_hear_53 : decode cX8_hear 53 = .ok (.iload_n 2, 1) := by decide +kernel
theorem dX8_hear_54 : decode cX8_hear 54 = .ok (.invokevirtual 143, 3) := by decide +kernel
theorem dX8_hear_57 : decode cX8_hear 57 = .ok (.istore_n 3, 1) := by decide +kernel
theorem dX8_hear_58 : decode cX8_hear 58 = .ok (.aload_n 0, 1) := by decide +kernel
theorem dX8_hear_59 : decode cX8_hear 59 = .ok (.getfield 18, 3) := by decide +kernel
theorem dX8_hear_62 : decode cX8_hear 62 = .ok (.iload_n 1, 1) := by decide +kernel
theorem dX8_hear_63 : decode cX8_hear 63 = .ok (.iconst 0, 1) := by decide +kernel
theorem dX8_hear_64 : decode cX8_hear 64 = .ok (.iastore, 1) := by decide +kernel
theorem dX8_hear_65 : decode cX8_hear 65 = .ok (.iload_n 3, 1) := by decide +kernel
theorem dX8_hear_66 : decode cX8_hear 66 = .ok (.iconst (-1), 1) := by decide +kernel
theorem dX8_hear_67 : decode cX8_hear 67 = .ok (.if_icmp .ne 25, 3) := by decide +kernel
theorem dX8_hear_70 : decode cX8_hear 70 = .ok (.aload_n 0, 1) := by decide +kernel
theorem dX8_hear_71 : decode cX8_hear 71 = .ok (.getfield 24, 3) := by decide +kernel
theorem dX8_hear_74 : decode cX8_hear 74 = .ok (.iload_n 1, 1) := by decide +kernel
theorem dX8_hear_75 : decode cX8_hear 75 = .ok (.bipush 99, 2) := by decide +kernel
theorem dX8_hear_77 : decode cX8_hear 77 = .ok (.aload_n 0, 1) := by decide +kernel
theorem dX8_hear_78 : decode cX8_hear 78 = .ok (.getfield 24, 3) := by decide +kernel
theorem dX8_hear_81 : decode cX8_hear 81 = .ok (.iload_n 1, 1) := by decide +kernel
theorem dX8_hear_82 : decode cX8_hear 82 = .ok (.iaload, 1) := by decide +kernel
theorem dX8_hear_83 : decode cX8_hear 83 = .ok (.iconst 1, 1) := by decide +kernel
theorem dX8_hear_84 : decode cX8_hear 84 = .ok (.iadd, 1) := by decide +kernel
theorem dX8_hear_85 : decode cX8_hear 85 = .ok (.invokestatic 74, 3) := by decide +kernel
theorem dX8_hear_88 : decode cX8_hear 88 = .ok (.iastore, 1) := by decide +kernel
theorem dX8_hear_89 : decode cX8_hear 89 = .ok (.goto 22, 3) := by decide +kernel
theorem dX8_hear_92 : decode cX8_hear 92 = .ok (.aload_n 0, 1) := by decide +kernel
theorem dX8_hear_93 : decode cX8_hear 93 = .ok (.getfield 21, 3) := by decide +kernel
theorem dX8_hear_96 : decode cX8_hear 96 = .ok (.iload_n 1, 1) := by decide +kernel
theorem dX8_hear_97 : decode cX8_hear 97 = .ok (.iload_n 3, 1) := by decide +kernel
theorem dX8_hear_98 : decode cX8_hear 98 = .ok (.iastore, 1) := by decide +kernel
theorem dX8_hear_99 : decode cX8_hear 99 = .ok (.aload_n 0, 1) := by decide +kernel
theorem dX8_hear_100 : decode cX8_hear 100 = .ok (.dup, 1) := by decide +kernel
theorem dX8_hear_101 : decode cX8_hear 101 = .ok (.getfield 52, 3) := by decide +kernel
theorem dX8_hear_104 : decode cX8_hear 104 = .ok (.iconst 1, 1) := by decide +kernel
theorem dX8_hear_105 : decode cX8_hear 105 = .ok (.iload_n 1, 1) := by decide +kernel
theorem dX8_hear_106 : decode cX8_hear 106 = .ok (.ishl, 1) := by decide +kernel
theorem dX8_hear_107 : decode cX8_hear 107 = .ok (.ior, 1) := by decide +kernel
theorem dX8_hear_108 : decode cX8_hear 108 = .ok (.putfield 52, 3) := by decide +kernel
theorem dX8_hear_111 : decode cX8_hear 111 = .ok (.return_, 1) := by decide +kernel
theorem dX8_liftBy_0 : decode cX8_liftBy 0 = .ok (.aload_n 0, 1) := by decide +kernel
theorem dX8_liftBy_1 : decode cX8_liftBy 1 = .ok (.iload_n 1, 1) := by decide +kernel
theorem dX8_liftBy_2 : decode cX8_liftBy 2 = .ok (.invokevirtual 79, 3) := by decide +kernel
theorem dX8_liftBy_5 : decode cX8_liftBy 5 = .ok (.istore_n 3, 1) := by decide +kernel
theorem dX8_liftBy_6 : decode cX8_liftBy 6 = .ok (.iload_n 3, 1) := by decide +kernel
theorem dX8_liftBy_7 : decode cX8_liftBy 7 = .ok (.ifCond .ne 5, 3) := by decide +kernel
theorem dX8_liftBy_10 : decode cX8_liftBy 10 = .ok (.iconst 1, 1) := by decide +kernel
theorem dX8_liftBy_11 : decode cX8_liftBy 11 = .ok (.ireturn, 1) := by decide +kernel
theorem dX8_liftBy_12 : decode cX8_liftBy 12 = .ok (.aload_n 0, 1) := by decide +kernel
theorem dX8_liftBy_13 : decode cX8_liftBy 13 = .ok (.dup, 1) := by decide +kernel
theorem dX8_liftBy_14 : decode cX8_liftBy 14 = .ok (.getfield 58, 3) := by decide +kernel
theorem dX8_liftBy_17 : decode cX8_liftBy 17 = .ok (.iconst 1, 1) := by decide +kernel
theorem dX8_liftBy_18 : decode cX8_liftBy 18 = .ok (.iadd, 1) := by decide +kernel
theorem dX8_liftBy_19 : decode cX8_liftBy 19 = .ok (.putfield 58, 3) := by decide +kernel
theorem dX8_liftBy_22 : decode cX8_liftBy 22 = .ok (.aload_n 0, 1) := by decide +kernel
theorem dX8_liftBy_23 : decode cX8_liftBy 23 = .ok (.iload_n 1, 1) := by decide +kernel
theorem dX8_liftBy_24 : decode cX8_liftBy 24 = .ok (.iload_n 3, 1) := by decide +kernel
theorem dX8_liftBy_25 : decode cX8_liftBy 25 = .ok (.aload_n 0, 1) := by decide +kernel
theorem dX8_liftBy_26 : decode cX8_liftBy 26 = .ok (.getfield 30, 3) := by decide +kernel
theorem dX8_liftBy_29 : decode cX8_liftBy 29 = .ok (.getfield 83, 3) := by decide +kernel
theorem dX8_liftBy_32 : decode cX8_liftBy 32 = .ok (.imul, 1) := by decide +kernel
theorem dX8_liftBy_33 : decode cX8_liftBy 33 = .ok (.invokevirtual 133, 3) := by decide +kernel
theorem dX8_liftBy_36 : decode cX8_liftBy 36 = .ok (.istore 4, 2) := by decide +kernel
theorem dX8_liftBy_38 : decode cX8_liftBy 38 = .ok (.iconst 0, 1) := by decide +kernel
theorem dX8_liftBy_39 : decode cX8_liftBy 39 = .ok (.istore 5, 2) := by decide +kernel
theorem dX8_liftBy_41 : decode cX8_liftBy 41 = .ok (.iload 5, 2) := by decide +kernel
theorem dX8_liftBy_43 : decode cX8_liftBy 43 = .ok (.aload_n 0, 1) := by decide +kernel
theorem dX8_liftBy_44 : decode cX8_liftBy 44 = .ok (.getfield 30, 3) := by decide +kernel
theorem dX8_liftBy_47 : decode cX8_liftBy 47 = .ok (.getfield 34, 3) := by decide +kernel
theorem dX8_liftBy_50 : decode cX8_liftBy 50 = .ok (.if_icmp .ge 27, 3) := by decide +kernel
theorem dX8_liftBy_53 : decode cX8_liftBy 53 = .ok (.iload 4, 2) := by decide +kernel
theorem dX8_liftBy_55 : decode cX8_liftBy 55 = .ok (.iload 5, 2) := by decide +kernel
theorem dX8_liftBy_57 : decode cX8_liftBy 57 = .ok (.invokestatic 70, 3) := by decide +kernel
theorem dX8_liftBy_60 : decode cX8_liftBy 60 = .ok (.iconst 1, 1) := by decide +kernel
theorem dX8_liftBy_61 : decode cX8_liftBy 61 = .ok (.if_icmp .ne 10, 3) := by decide +kernel
theorem dX8_liftBy_64 : decode cX8_liftBy 64 = .ok (.aload_n 0, 1) := by decide +kernel
theorem dX8_liftBy_65 : decode cX8_liftBy 65 = .ok (.iload 5, 2) := by decide +kernel
theorem dX8_liftBy_67 : decode cX8_liftBy 67 = .ok (.iload_n 2, 1) := by decide +kernel
theorem dX8_liftBy_68 : decode cX8_liftBy 68 = .ok (.invokevirtual 136, 3) := by decide +kernel
theorem dX8_liftBy_71 : decode cX8_liftBy 71 = .ok (.iinc 5 1, 3) := by decide +kernel
theorem dX8_liftBy_74 : decode cX8_liftBy 74 = .ok (.goto (-33), 3) := by decide +kernel
theorem dX8_liftBy_77 : decode cX8_liftBy 77 = .ok (.iconst 0, 1) := by decide +kernel
theorem dX8_liftBy_78 : decode cX8_liftBy 78 = .ok (.ireturn, 1) := by decide +kernel
theorem dX8_giveBy_0 : decode cX8_giveBy 0 = .ok (.aload_n 0, 1) := by decide +kernel
theorem dX8_giveBy_1 : decode cX8_giveBy 1 = .ok (.iload_n 1, 1) := by decide +kernel
theorem dX8_giveBy_2 : decode cX8_giveBy 2 = .ok (.aload_n 0, 1) := by decide +kernel
theorem dX8_giveBy_3 : decode cX8_giveBy 3 = .ok (.getfield 30, 3) := by decide +kernel
theorem dX8_giveBy_6 : decode cX8_giveBy 6 = .ok (.getfield 146, 3) := by decide +kernel
theorem dX8_giveBy_9 : decode cX8_giveBy 9 = .ok (.iload_n 2, 1) := by decide +kernel
theorem dX8_giveBy_10 : decode cX8_giveBy 10 = .ok (.iaload, 1) := by decide +kernel
theorem dX8_giveBy_11 : decode cX8_giveBy 11 = .ok (.invokevirtual 112, 3) := by decide +kernel
theorem dX8_giveBy_14 : decode cX8_giveBy 14 = .ok (.ifCond .eq 5, 3) := by decide +kernel
theorem dX8_giveBy_17 : decode cX8_giveBy 17 = .ok (.iconst 1, 1) := by decide +kernel
theorem dX8_giveBy_18 : decode cX8_giveBy 18 = .ok (.ireturn, 1) := by decide +kernel
theorem dX8_giveBy_19 : decode cX8_giveBy 19 = .ok (.aload_n 0, 1) := by decide +kernel
theorem dX8_giveBy_20 : decode cX8_giveBy 20 = .ok (.iload_n 1, 1) := by decide +kernel
theorem dX8_giveBy_21 : decode cX8_giveBy 21 = .ok (.aload_n 0, 1) := by decide +kernel
theorem dX8_giveBy_22 : decode cX8_giveBy 22 = .ok (.getfield 30, 3) := by decide +kernel
theorem dX8_giveBy_25 : decode cX8_giveBy 25 = .ok (.getfield 149, 3) := by decide +kernel
theorem dX8_giveBy_28 : decode cX8_giveBy 28 = .ok (.iload_n 2, 1) := by decide +kernel
theorem dX8_giveBy_29 : decode cX8_giveBy 29 = .ok (.iaload, 1) := by decide +kernel
theorem dX8_giveBy_30 : decode cX8_giveBy 30 = .ok (.invokevirtual 112, 3) := by decide +kernel
theorem dX8_giveBy_33 : decode cX8_giveBy 33 = .ok (.ireturn, 1) := by decide +kernel
theorem dX8_goBy_0 : decode cX8_goBy 0 = .ok (.aload_n 0, 1) := by decide +kernel
theorem dX8_goBy_1 : decode cX8_goBy 1 = .ok (.getfield 9, 3) := by decide +kernel
theorem dX8_goBy_4 : decode cX8_goBy 4 = .ok (.iload_n 1, 1) := by decide +kernel
theorem dX8_goBy_5 : decode cX8_goBy 5 = .ok (.iaload, 1) := by decide +kernel
theorem dX8_goBy_6 : decode cX8_goBy 6 = .ok (.iload_n 2, 1) := by decide +kernel
theorem dX8_goBy_7 : decode cX8_goBy 7 = .ok (.ifCond .ne 7, 3) := by decide +kernel
theorem dX8_goBy_10 : decode cX8_goBy 10 = .ok (.iconst 1, 1) := by decide +kernel
theorem dX8_goBy_11 : decode cX8_goBy 11 = .ok (.goto 13, 3) := by decide +kernel
theorem dX8_goBy_14 : decode cX8_goBy 14 = .ok (.iload_n 2, 1) := by decide +kernel
theorem dX8_goBy_15 : decode cX8_goBy 15 = .ok (.iconst 2, 1) := by decide +kernel
theorem dX8_goBy_16 : decode cX8_goBy 16 = .ok (.if_icmp .ne 7, 3) := by decide +kernel
theorem dX8_goBy_19 : decode cX8_goBy 19 = .ok (.iconst (-1), 1) := by decide +kernel
theorem dX8_goBy_20 : decode cX8_goBy 20 = .ok (.goto 4, 3) := by decide +kernel
theorem dX8_goBy_23 : decode cX8_goBy 23 = .ok (.iconst 0, 1) := by decide +kernel
theorem dX8_goBy_24 : decode cX8_goBy 24 = .ok (.iadd, 1) := by decide +kernel
theorem dX8_goBy_25 : decode cX8_goBy 25 = .ok (.istore_n 3, 1) := by decide +kernel
theorem dX8_goBy_26 : decode cX8_goBy 26 = .ok (.aload_n 0, 1) := by decide +kernel
theorem dX8_goBy_27 : decode cX8_goBy 27 = .ok (.getfield 15, 3) := by decide +kernel
theorem dX8_goBy_30 : decode cX8_goBy 30 = .ok (.iload_n 1, 1) := by decide +kernel
theorem dX8_goBy_31 : decode cX8_goBy 31 = .ok (.iaload, 1) := by decide +kernel
theorem dX8_goBy_32 : decode cX8_goBy 32 = .ok (.iload_n 2, 1) := by decide +kernel
theorem dX8_goBy_33 : decode cX8_goBy 33 = .ok (.iconst 1, 1) := by decide +kernel
theorem dX8_goBy_34 : decode cX8_goBy 34 = .ok (.if_icmp .ne 7, 3) := by decide +kernel
theorem dX8_goBy_37 : decode cX8_goBy 37 = .ok (.iconst 1, 1) := by decide +kernel
theorem dX8_goBy_38 : decode cX8_goBy 38 = .ok (.goto 13, 3) := by decide +kernel
theorem dX8_goBy_41 : decode cX8_goBy 41 = .ok (.iload_n 2, 1) := by decide +kernel
theorem dX8_goBy_42 : decode cX8_goBy 42 = .ok (.iconst 3, 1) := by decide +kernel
theorem dX8_goBy_43 : decode cX8_goBy 43 = .ok (.if_icmp .ne 7, 3) := by decide +kernel
theorem dX8_goBy_46 : decode cX8_goBy 46 = .ok (.iconst (-1), 1) := by decide +kernel
theorem dX8_goBy_47 : decode cX8_goBy 47 = .ok (.goto 4, 3) := by decide +kernel
theorem dX8_goBy_50 : decode cX8_goBy 50 = .ok (.iconst 0, 1) := by decide +kernel
theorem dX8_goBy_51 : decode cX8_goBy 51 = .ok (.iadd, 1) := by decide +kernel
theorem dX8_goBy_52 : decode cX8_goBy 52 = .ok (.istore 4, 2) := by decide +kernel
theorem dX8_goBy_54 : decode cX8_goBy 54 = .ok (.iload_n 3, 1) := by decide +kernel
theorem dX8_goBy_55 : decode cX8_goBy 55 = .ok (.ifCond .lt 21, 3) := by decide +kernel
theorem dX8_goBy_58 : decode cX8_goBy 58 = .ok (.iload_n 3, 1) := by decide +kernel
theorem dX8_goBy_59 : decode cX8_goBy 59 = .ok (.bipush 30, 2) := by decide +kernel
theorem dX8_goBy_61 : decode cX8_goBy 61 = .ok (.if_icmp .gt 15, 3) := by decide +kernel
theorem dX8_goBy_64 : decode cX8_goBy 64 = .ok (.iload 4, 2) := by decide +kernel
theorem dX8_goBy_66 : decode cX8_goBy 66 = .ok (.ifCond .lt 10, 3) := by decide +kernel
theorem dX8_goBy_69 : decode cX8_goBy 69 = .ok (.iload 4, 2) := by decide +kernel
theorem dX8_goBy_71 : decode cX8_goBy 71 = .ok (.bipush 30, 2) := by decide +kernel
theorem dX8_goBy_73 : decode cX8_goBy 73 = .ok (.if_icmp .le 5, 3) := by decide +kernel
theorem dX8_goBy_76 : decode cX8_goBy 76 = .ok (.iconst 1, 1) := by decide +kernel
theorem dX8_goBy_77 : decode cX8_goBy 77 = .ok (.ireturn, 1) := by decide +kernel
theorem dX8_goBy_78 : decode cX8_goBy 78 = .ok (.aload_n 0, 1) := by decide +kernel
theorem dX8_goBy_79 : decode cX8_goBy 79 = .ok (.getfield 9, 3) := by decide +kernel
theorem dX8_goBy_82 : decode cX8_goBy 82 = .ok (.iload_n 1, 1) := by decide +kernel
theorem dX8_goBy_83 : decode cX8_goBy 83 = .ok (.iload_n 3, 1) := by decide +kernel
theorem dX8_goBy_84 : decode cX8_goBy 84 = .ok (.iastore, 1) := by decide +kernel
theorem dX8_goBy_85 : decode cX8_goBy 85 = .ok (.aload_n 0, 1) := by decide +kernel
theorem dX8_goBy_86 : decode cX8_goBy 86 = .ok (.getfield 15, 3) := by decide +kernel
theorem dX8_goBy_89 : decode cX8_goBy 89 = .ok (.iload_n 1, 1) := by decide +kernel
theorem dX8_goBy_90 : decode cX8_goBy 90 = .ok (.iload 4, 2) := by decide +kernel
theorem dX8_goBy_92 : decode cX8_goBy 92 = .ok (.iastore, 1) := by decide +kernel
theorem dX8_goBy_93 : decode cX8_goBy 93 = .ok (.iconst 0, 1) := by decide +kernel
theorem dX8_goBy_94 : decode cX8_goBy 94 = .ok (.ireturn, 1) := by decide +kernel
theorem dX8_passHours_0 : decode cX8_passHours 0 = .ok (.iload_n 1, 1) := by decide +kernel
theorem dX8_passHours_1 : decode cX8_passHours 1 = .ok (.sipush 400, 3) := by decide +kernel
theorem dX8_passHours_4 : decode cX8_passHours 4 = .ok (.aload_n 0, 1) := by decide +kernel
theorem dX8_passHours_5 : decode cX8_passHours 5 = .ok (.getfield 55, 3) := by decide +kernel
theorem dX8_passHours_8 : decode cX8_passHours 8 = .ok (.isub, 1) := by decide +kernel
theorem dX8_passHours_9 : decode cX8_passHours 9 = .ok (.invokestatic 74, 3) := by decide +kernel
theorem dX8_passHours_12 : decode cX8_passHours 12 = .ok (.istore_n 2, 1) := by decide +kernel
theorem dX8_passHours_13 : decode cX8_passHours 13 = .ok (.iconst 0, 1) := by decide +kernel
theorem dX8_passHours_14 : decode cX8_passHours 14 = .ok (.istore_n 3, 1) := by decide +kernel
theorem dX8_passHours_15 : decode cX8_passHours 15 = .ok (.iload_n 3, 1) := by decide +kernel
theorem dX8_passHours_16 : decode cX8_passHours 16 = .ok (.iload_n 2, 1) := by decide +kernel
theorem dX8_passHours_17 : decode cX8_passHours 17 = .ok (.if_icmp .ge 132, 3) := by decide +kernel
theorem dX8_passHours_20 : decode cX8_passHours 20 = .ok (.aload_n 0, 1) := by decide +kernel
theorem dX8_passHours_21 : decode cX8_passHours 21 = .ok (.getfield 52, 3) := by decide +kernel
theorem dX8_passHours_24 : decode cX8_passHours 24 = .ok (.istore 4, 2) := by decide +kernel
theorem dX8_passHours_26 : decode cX8_passHours 26 = .ok (.aload_n 0, 1) := by decide +kernel
theorem dX8_passHours_27 : decode cX8_passHours 27 = .ok (.getfield 21, 3) := by decide +kernel
theorem dX8_passHours_30 : decode cX8_passHours 30 = .ok (.iconst 0, 1) := by decide +kernel
theorem dX8_passHours_31 : decode cX8_passHours 31 = .ok (.aload_n 0, 1) := by decide +kernel
theorem dX8_passHours_32 : decode cX8_passHours 32 = .ok (.getfield 27, 3) := by decide +kernel
theorem dX8_passHours_35 : decode cX8_passHours 35 = .ok (.iconst 0, 1) := by decide +kernel
theorem dX8_passHours_36 : decode cX8_passHours 36 = .ok (.bipush 8, 2) := by decide +kernel
theorem dX8_passHours_38 : decode cX8_passHours 38 = .ok (.invokestatic 61, 3) := by decide +kernel
theorem dX8_passHours_41 : decode cX8_passHours 41 = .ok (.aload_n 0, 1) := by decide +kernel
theorem dX8_passHours_42 : decode cX8_passHours 42 = .ok (.iconst 0, 1) := by decide +kernel
theorem dX8_passHours_43 : decode cX8_passHours 43 = .ok (.putfield 52, 3) := by decide +kernel
theorem dX8_passHours_46 : decode cX8_passHours 46 = .ok (.iconst 0, 1) := by decide +kernel
theorem dX8_passHours_47 : decode cX8_passHours 47 = .ok (.istore 5, 2) := by decide +kernel
theorem dX8_passHours_49 : decode cX8_passHours 49 = .ok (.iload 5, 2) := by decide +kernel
theorem dX8_passHours_51 : decode cX8_passHours 51 = .ok (.aload_n 0, 1) := by decide +kernel
theorem dX8_passHours_52 : decode cX8_passHours 52 = .ok (.getfield 30, 3) := by decide +kernel
theorem dX8_passHours_55 : decode cX8_passHours 55 = .ok (.getfield 34, 3) := by decide +kernel
theorem dX8_passHours_58 : decode cX8_passHours 58 = .ok (.if_icmp .ge 45, 3) := by decide +kernel
theorem dX8_passHours_61 : decode cX8_passHours 61 = .ok (.iload 4, 2) := by decide +kernel
theorem dX8_passHours_63 : decode cX8_passHours 63 = .ok (.iload 5, 2) := by decide +kernel
theorem dX8_passHours_65 : decode cX8_passHours 65 = .ok (.invokestatic 70, 3) := by decide +kernel
theorem dX8_passHours_68 : decode cX8_passHours 68 = .ok (.iconst 1, 1) := by decide +kernel
theorem dX8_passHours_69 : decode cX8_passHours 69 = .ok (.if_icmp .ne 28, 3) := by decide +kernel
theorem dX8_passHours_72 : decode cX8_passHours 72 = .ok (.aload_n 0, 1) := by decide +kernel
theorem dX8_passHours_73 : decode cX8_passHours 73 = .ok (.getfield 27, 3) := by decide +kernel
theorem dX8_passHours_76 : decode cX8_passHours 76 = .ok (.iload 5, 2) := by decide +kernel
theorem dX8_passHours_78 : decode cX8_passHours 78 = .ok (.iaload, 1) := by decide +kernel
theorem dX8_passHours_79 : decode cX8_passHours 79 = .ok (.iconst (-1), 1) := by decide +kernel
theorem dX8_passHours_80 : decode cX8_passHours 80 = .ok (.if_icmp .eq 17, 3) := by decide +kernel
theorem dX8_passHours_83 : decode cX8_passHours 83 = .ok (.aload_n 0, 1) := by decide +kernel
theorem dX8_passHours_84 : decode cX8_passHours 84 = .ok (.iload 5, 2) := by decide +kernel
theorem dX8_passHours_86 : decode cX8_passHours 86 = .ok (.aload_n 0, 1) := by decide +kernel
theorem dX8_passHours_87 : decode cX8_passHours 87 = .ok (.getfield 27, 3) := by decide +kernel
theorem dX8_passHours_90 : decode cX8_passHours 90 = .ok (.iload 5, 2) := by decide +kernel
theorem dX8_passHours_92 : decode cX8_passHours 92 = .ok (.iaload, 1) := by decide +kernel
theorem dX8_passHours_93 : decode cX8_passHours 93 = .ok (.invokevirtual 115, 3) := by decide +kernel
theorem dX8_passHours_96 : decode cX8_passHours 96 = .ok (.pop, 1) := by decide +kernel
theorem dX8_passHours_97 : decode cX8_passHours 97 = .ok (.iinc 5 1, 3) := by decide +kernel
theorem dX8_passHours_100 : decode cX8_passHours 100 = .ok (.goto (-51), 3) := by decide +kernel
theorem dX8_passHours_103 : decode cX8_passHours 103 = .ok (.aload_n 0, 1) := by decide +kernel
theorem dX8_passHours_104 : decode cX8_passHours 104 = .ok (.dup, 1) := by decide +kernel
theorem dX8_passHours_105 : decode cX8_passHours 105 = .ok (.getfield 55, 3) := by decide +kernel
theorem dX8_passHours_108 : decode cX8_passHours 108 = .ok (.iconst 1, 1) := by decide +kernel
theorem dX8_passHours_109 : decode cX8_passHours 109 = .ok (.iadd, 1) := by decide +kernel
theorem dX8_passHours_110 : decode cX8_passHours 110 = .ok (.putfield 55, 3) := by decide +kernel
theorem dX8_passHours_113 : decode cX8_passHours 113 = .ok (.aload_n 0, 1) := by decide +kernel
theorem dX8_passHours_114 : decode cX8_passHours 114 = .ok (.getfield 30, 3) := by decide +kernel
theorem dX8_passHours_117 : decode cX8_passHours 117 = .ok (.getfield 152, 3) := by decide +kernel
theorem dX8_passHours_120 : decode cX8_passHours 120 = .ok (.ifCond .le 23, 3) := by decide +kernel
theorem dX8_passHours_123 : decode cX8_passHours 123 = .ok (.aload_n 0, 1) := by decide +kernel
theorem dX8_passHours_124 : decode cX8_passHours 124 = .ok (.getfield 55, 3) := by decide +kernel
theorem dX8_passHours_127 : decode cX8_passHours 127 = .ok (.aload_n 0, 1) := by decide +kernel
theorem dX8_passHours_128 : decode cX8_passHours 128 = .ok (.getfield 30, 3) := by decide +kernel
theorem dX8_passHours_131 : decode cX8_passHours 131 = .ok (.getfield 152, 3) := by decide +kernel
theorem dX8_passHours_134 : decode cX8_passHours 134 = .ok (.irem, 1) := by decide +kernel
theorem dX8_passHours_135 : decode cX8_passHours 135 = .ok (.ifCond .ne 8, 3) := by decide +kernel
theorem dX8_passHours_138 : decode cX8_passHours 138 = .ok (.aload_n 0, 1) := by decide +kernel
theorem dX8_passHours_139 : decode cX8_passHours 139 = .ok (.iconst 0, 1) := by decide +kernel
theorem dX8_passHours_140 : decode cX8_passHours 140 = .ok (.putfield 49, 3) := by decide +kernel
theorem dX8_passHours_143 : decode cX8_passHours 143 = .ok (.iinc 3 1, 3) := by decide +kernel
theorem dX8_passHours_146 : decode cX8_passHours 146 = .ok (.goto (-131), 3) := by decide +kernel
theorem dX8_passHours_149 : decode cX8_passHours 149 = .ok (.iload_n 2, 1) := by decide +kernel
theorem dX8_passHours_150 : decode cX8_passHours 150 = .ok (.ireturn, 1) := by decide +kernel
theorem dX8_sleepBy_0 : decode cX8_sleepBy 0 = .ok (.aload_n 0, 1) := by decide +kernel
theorem dX8_sleepBy_1 : decode cX8_sleepBy 1 = .ok (.getfield 46, 3) := by decide +kernel
theorem dX8_sleepBy_4 : decode cX8_sleepBy 4 = .ok (.iload_n 1, 1) := by decide +kernel
theorem dX8_sleepBy_5 : decode cX8_sleepBy 5 = .ok (.invokestatic 70, 3) := by decide +kernel
theorem dX8_sleepBy_8 : decode cX8_sleepBy 8 = .ok (.istore_n 2, 1) := by decide +kernel
theorem dX8_sleepBy_9 : decode cX8_sleepBy 9 = .ok (.aload_n 0, 1) := by decide +kernel
theorem dX8_sleepBy_10 : decode cX8_sleepBy 10 = .ok (.dup, 1) := by decide +kernel
theorem dX8_sleepBy_11 : decode cX8_sleepBy 11 = .ok (.getfield 46, 3) := by decide +kernel
theorem dX8_sleepBy_14 : decode cX8_sleepBy 14 = .ok (.iconst 1, 1) := by decide +kernel
theorem dX8_sleepBy_15 : decode cX8_sleepBy 15 = .ok (.iload_n 1, 1) := by decide +kernel
theorem dX8_sleepBy_16 : decode cX8_sleepBy 16 = .ok (.ishl, 1) := by decide +kernel
theorem dX8_sleepBy_17 : decode cX8_sleepBy 17 = .ok (.ior, 1) := by decide +kernel
theorem dX8_sleepBy_18 : decode cX8_sleepBy 18 = .ok (.putfield 46, 3) := by decide +kernel
theorem dX8_sleepBy_21 : decode cX8_sleepBy 21 = .ok (.iload_n 2, 1) := by decide +kernel
theorem dX8_sleepBy_22 : decode cX8_sleepBy 22 = .ok (.ireturn, 1) := by decide +kernel
theorem dX8_sootBy_0 : decode cX8_sootBy 0 = .ok (.aload_n 0, 1) := by decide +kernel
theorem dX8_sootBy_1 : decode cX8_sootBy 1 = .ok (.getfield 49, 3) := by decide +kernel
theorem dX8_sootBy_4 : decode cX8_sootBy 4 = .ok (.iload_n 1, 1) := by decide +kernel
theorem dX8_sootBy_5 : decode cX8_sootBy 5 = .ok (.invokestatic 70, 3) := by decide +kernel
theorem dX8_sootBy_8 : decode cX8_sootBy 8 = .ok (.istore_n 2, 1) := by decide +kernel
theorem dX8_sootBy_9 : decode cX8_sootBy 9 = .ok (.aload_n 0, 1) := by decide +kernel
theorem dX8_sootBy_10 : decode cX8_sootBy 10 = .ok (.dup, 1) := by decide +kernel
theorem dX8_sootBy_11 : decode cX8_sootBy 11 = .ok (.getfield 49, 3) := by decide +kernel
theorem dX8_sootBy_14 : decode cX8_sootBy 14 = .ok (.iconst 1, 1) := by decide +kernel
theorem dX8_sootBy_15 : decode cX8_sootBy 15 = .ok (.iload_n 1, 1) := by decide +kernel
theorem dX8_sootBy_16 : decode cX8_sootBy 16 = .ok (.ishl, 1) := by decide +kernel
theorem dX8_sootBy_17 : decode cX8_sootBy 17 = .ok (.ior, 1) := by decide +kernel
theorem dX8_sootBy_18 : decode cX8_sootBy 18 = .ok (.putfield 49, 3) := by decide +kernel
theorem dX8_sootBy_21 : decode cX8_sootBy 21 = .ok (.iload_n 2, 1) := by decide +kernel
theorem dX8_sootBy_22 : decode cX8_sootBy 22 = .ok (.ireturn, 1) := by decide +kernel
theorem dX8_wakeBy_0 : decode cX8_wakeBy 0 = .ok (.iconst 1, 1) := by decide +kernel
theorem dX8_wakeBy_1 : decode cX8_wakeBy 1 = .ok (.aload_n 0, 1) := by decide +kernel
theorem dX8_wakeBy_2 : decode cX8_wakeBy 2 = .ok (.getfield 46, 3) := by decide +kernel
theorem dX8_wakeBy_5 : decode cX8_wakeBy 5 = .ok (.iload_n 1, 1) := by decide +kernel
theorem dX8_wakeBy_6 : decode cX8_wakeBy 6 = .ok (.invokestatic 70, 3) := by decide +kernel
theorem dX8_wakeBy_9 : decode cX8_wakeBy 9 = .ok (.isub, 1) := by decide +kernel
theorem dX8_wakeBy_10 : decode cX8_wakeBy 10 = .ok (.istore_n 2, 1) := by decide +kernel
theorem dX8_wakeBy_11 : decode cX8_wakeBy 11 = .ok (.aload_n 0, 1) := by decide +kernel
theorem dX8_wakeBy_12 : decode cX8_wakeBy 12 = .ok (.dup, 1) := by decide +kernel
theorem dX8_wakeBy_13 : decode cX8_wakeBy 13 = .ok (.getfield 46, 3) := by decide +kernel
theorem dX8_wakeBy_16 : decode cX8_wakeBy 16 = .ok (.iconst 1, 1) := by decide +kernel
theorem dX8_wakeBy_17 : decode cX8_wakeBy 17 = .ok (.iload_n 1, 1) := by decide +kernel
theorem dX8_wakeBy_18 : decode cX8_wakeBy 18 = .ok (.ishl, 1) := by decide +kernel
theorem dX8_wakeBy_19 : decode cX8_wakeBy 19 = .ok (.iconst (-1), 1) := by decide +kernel
theorem dX8_wakeBy_20 : decode cX8_wakeBy 20 = .ok (.ixor, 1) := by decide +kernel
theorem dX8_wakeBy_21 : decode cX8_wakeBy 21 = .ok (.iand, 1) := by decide +kernel
theorem dX8_wakeBy_22 : decode cX8_wakeBy 22 = .ok (.putfield 46, 3) := by decide +kernel
theorem dX8_wakeBy_25 : decode cX8_wakeBy 25 = .ok (.iload_n 2, 1) := by decide +kernel
theorem dX8_wakeBy_26 : decode cX8_wakeBy 26 = .ok (.ireturn, 1) := by decide +kernel
theorem dX8_live_0 : decode cX8_live 0 = .ok (.iload_n 1, 1) := by decide +kernel
theorem dX8_live_1 : decode cX8_live 1 = .ok (.tableswitch 78 0 5 #[39, 46, 53, 59, 65, 71], 39) := by decide +kernel
theorem dX8_live_40 : decode cX8_live 40 = .ok (.aload_n 0, 1) := by decide +kernel
theorem dX8_live_41 : decode cX8_live 41 = .ok (.iload_n 2, 1) := by decide +kernel
theorem dX8_live_42 : decode cX8_live 42 = .ok (.iload_n 3, 1) := by decide +kernel
theorem dX8_live_43 : decode cX8_live 43 = .ok (.invokevirtual 112, 3) := by decide +kernel
theorem dX8_live_46 : decode cX8_live 46 = .ok (.ireturn, 1) := by decide +kernel
theorem dX8_live_47 : decode cX8_live 47 = .ok (.aload_n 0, 1) := by decide +kernel
theorem dX8_live_48 : decode cX8_live 48 = .ok (.iload_n 2, 1) := by decide +kernel
theorem dX8_live_49 : decode cX8_live 49 = .ok (.iload_n 3, 1) := by decide +kernel
theorem dX8_live_50 : decode cX8_live 50 = .ok (.invokevirtual 115, 3) := by decide +kernel
theorem dX8_live_53 : decode cX8_live 53 = .ok (.ireturn, 1) := by decide +kernel
theorem dX8_live_54 : decode cX8_live 54 = .ok (.aload_n 0, 1) := by decide +kernel
theorem dX8_live_55 : decode cX8_live 55 = .ok (.iload_n 2, 1) := by decide +kernel
theorem dX8_live_56 : decode cX8_live 56 = .ok (.invokevirtual 118, 3) := by decide +kernel
theorem dX8_live_59 : decode cX8_live 59 = .ok (.ireturn, 1) := by decide +kernel
theorem dX8_live_60 : decode cX8_live 60 = .ok (.aload_n 0, 1) := by decide +kernel
theorem dX8_live_61 : decode cX8_live 61 = .ok (.iload_n 2, 1) := by decide +kernel
theorem dX8_live_62 : decode cX8_live 62 = .ok (.invokevirtual 121, 3) := by decide +kernel
theorem dX8_live_65 : decode cX8_live 65 = .ok (.ireturn, 1) := by decide +kernel
theorem dX8_live_66 : decode cX8_live 66 = .ok (.aload_n 0, 1) := by decide +kernel
theorem dX8_live_67 : decode cX8_live 67 = .ok (.iload_n 2, 1) := by decide +kernel
theorem dX8_live_68 : decode cX8_live 68 = .ok (.invokevirtual 124, 3) := by decide +kernel
theorem dX8_live_71 : decode cX8_live 71 = .ok (.ireturn, 1) := by decide +kernel
theorem dX8_live_72 : decode cX8_live 72 = .ok (.aload_n 0, 1) := by decide +kernel
theorem dX8_live_73 : decode cX8_live 73 = .ok (.iload_n 2, 1) := by decide +kernel
theorem dX8_live_74 : decode cX8_live 74 = .ok (.iload_n 3, 1) := by decide +kernel
theorem dX8_live_75 : decode cX8_live 75 = .ok (.invokevirtual 127, 3) := by decide +kernel
theorem dX8_live_78 : decode cX8_live 78 = .ok (.ireturn, 1) := by decide +kernel
theorem dX8_live_79 : decode cX8_live 79 = .ok (.sipush 400, 3) := by decide +kernel
theorem dX8_live_82 : decode cX8_live 82 = .ok (.aload_n 0, 1) := by decide +kernel
theorem dX8_live_83 : decode cX8_live 83 = .ok (.getfield 55, 3) := by decide +kernel
theorem dX8_live_86 : decode cX8_live 86 = .ok (.isub, 1) := by decide +kernel
theorem dX8_live_87 : decode cX8_live 87 = .ok (.iload_n 3, 1) := by decide +kernel
theorem dX8_live_88 : decode cX8_live 88 = .ok (.if_icmp .ge 5, 3) := by decide +kernel
theorem dX8_live_91 : decode cX8_live 91 = .ok (.iconst 1, 1) := by decide +kernel
theorem dX8_live_92 : decode cX8_live 92 = .ok (.ireturn, 1) := by decide +kernel
theorem dX8_live_93 : decode cX8_live 93 = .ok (.aload_n 0, 1) := by decide +kernel
theorem dX8_live_94 : decode cX8_live 94 = .ok (.iload_n 3, 1) := by decide +kernel
theorem dX8_live_95 : decode cX8_live 95 = .ok (.invokevirtual 130, 3) := by decide +kernel
theorem dX8_live_98 : decode cX8_live 98 = .ok (.pop, 1) := by decide +kernel
theorem dX8_live_99 : decode cX8_live 99 = .ok (.iconst 0, 1) := by decide +kernel
theorem dX8_live_100 : decode cX8_live 100 = .ok (.ireturn, 1) := by decide +kernel
theorem dX8_draw_0 : decode cX8_draw 0 = .ok (.aload_n 0, 1) := by decide +kernel
theorem dX8_draw_1 : decode cX8_draw 1 = .ok (.aload_n 0, 1) := by decide +kernel
theorem dX8_draw_2 : decode cX8_draw 2 = .ok (.getfield 155, 3) := by decide +kernel
theorem dX8_draw_5 : decode cX8_draw 5 = .ok (.ldc 171, 2) := by decide +kernel
theorem dX8_draw_7 : decode cX8_draw 7 = .ok (.imul, 1) := by decide +kernel
theorem dX8_draw_8 : decode cX8_draw 8 = .ok (.sipush 12345, 3) := by decide +kernel
theorem dX8_draw_11 : decode cX8_draw 11 = .ok (.iadd, 1) := by decide +kernel
theorem dX8_draw_12 : decode cX8_draw 12 = .ok (.putfield 155, 3) := by decide +kernel
theorem dX8_draw_15 : decode cX8_draw 15 = .ok (.iload_n 1, 1) := by decide +kernel
theorem dX8_draw_16 : decode cX8_draw 16 = .ok (.ifCond .le 15, 3) := by decide +kernel
theorem dX8_draw_19 : decode cX8_draw 19 = .ok (.aload_n 0, 1) := by decide +kernel
theorem dX8_draw_20 : decode cX8_draw 20 = .ok (.getfield 155, 3) := by decide +kernel
theorem dX8_draw_23 : decode cX8_draw 23 = .ok (.bipush 8, 2) := by decide +kernel
theorem dX8_draw_25 : decode cX8_draw 25 = .ok (.iushr, 1) := by decide +kernel
theorem dX8_draw_26 : decode cX8_draw 26 = .ok (.iload_n 1, 1) := by decide +kernel
theorem dX8_draw_27 : decode cX8_draw 27 = .ok (.irem, 1) := by decide +kernel
theorem dX8_draw_28 : decode cX8_draw 28 = .ok (.goto 4, 3) := by decide +kernel
theorem dX8_draw_31 : decode cX8_draw 31 = .ok (.iconst 0, 1) := by decide +kernel
theorem dX8_draw_32 : decode cX8_draw 32 = .ok (.ireturn, 1) := by decide +kernel
theorem dX8_drawOrderFor_0 : decode cX8_drawOrderFor 0 = .ok (.aload_n 0, 1) := by decide +kernel
theorem dX8_drawOrderFor_1 : decode cX8_drawOrderFor 1 = .ok (.getfield 30, 3) := by decide +kernel
theorem dX8_drawOrderFor_4 : decode cX8_drawOrderFor 4 = .ok (.getfield 168, 3) := by decide +kernel
theorem dX8_drawOrderFor_7 : decode cX8_drawOrderFor 7 = .ok (.ifCond .le 35, 3) := by decide +kernel
theorem dX8_drawOrderFor_10 : decode cX8_drawOrderFor 10 = .ok (.aload_n 0, 1) := by decide +kernel
theorem dX8_drawOrderFor_11 : decode cX8_drawOrderFor 11 = .ok (.aload_n 0, 1) := by decide +kernel
theorem dX8_drawOrderFor_12 : decode cX8_drawOrderFor 12 = .ok (.getfield 30, 3) := by decide +kernel
theorem dX8_drawOrderFor_15 : decode cX8_drawOrderFor 15 = .ok (.getfield 168, 3) := by decide +kernel
theorem dX8_drawOrderFor_18 : decode cX8_drawOrderFor 18 = .ok (.invokevirtual 162, 3) := by decide +kernel
theorem dX8_drawOrderFor_21 : decode cX8_drawOrderFor 21 = .ok (.istore_n 2, 1) := by decide +kernel
theorem dX8_drawOrderFor_22 : decode cX8_drawOrderFor 22 = .ok (.aload_n 0, 1) := by decide +kernel
theorem dX8_drawOrderFor_23 : decode cX8_drawOrderFor 23 = .ok (.getfield 30, 3) := by decide +kernel
theorem dX8_drawOrderFor_26 : decode cX8_drawOrderFor 26 = .ok (.getfield 93, 3) := by decide +kernel
theorem dX8_drawOrderFor_29 : decode cX8_drawOrderFor 29 = .ok (.iload_n 1, 1) := by decide +kernel
theorem dX8_drawOrderFor_30 : decode cX8_drawOrderFor 30 = .ok (.iaload, 1) := by decide +kernel
theorem dX8_drawOrderFor_31 : decode cX8_drawOrderFor 31 = .ok (.iconst (-1), 1) := by decide +kernel
theorem dX8_drawOrderFor_32 : decode cX8_drawOrderFor 32 = .ok (.if_icmp .ne 10, 3) := by decide +kernel
theorem dX8_drawOrderFor_35 : decode cX8_drawOrderFor 35 = .ok (.aload_n 0, 1) := by decide +kernel
theorem dX8_drawOrderFor_36 : decode cX8_drawOrderFor 36 = .ok (.iload_n 1, 1) := by decide +kernel
theorem dX8_drawOrderFor_37 : decode cX8_drawOrderFor 37 = .ok (.iload_n 2, 1) := by decide +kernel
theorem dX8_drawOrderFor_38 : decode cX8_drawOrderFor 38 = .ok (.invokevirtual 115, 3) := by decide +kernel
theorem dX8_drawOrderFor_41 : decode cX8_drawOrderFor 41 = .ok (.pop, 1) := by decide +kernel
theorem dX8_drawOrderFor_42 : decode cX8_drawOrderFor 42 = .ok (.return_, 1) := by decide +kernel
theorem dX8_drawFor_0 : decode cX8_drawFor 0 = .ok (.aload_n 0, 1) := by decide +kernel
theorem dX8_drawFor_1 : decode cX8_drawFor 1 = .ok (.bipush 8, 2) := by decide +kernel
theorem dX8_drawFor_3 : decode cX8_drawFor 3 = .ok (.invokevirtual 162, 3) := by decide +kernel
theorem dX8_drawFor_6 : decode cX8_drawFor 6 = .ok (.tableswitch 83 0 3 #[30, 46, 61, 75], 30) := by decide +kernel
theorem dX8_drawFor_36 : decode cX8_drawFor 36 = .ok (.aload_n 0, 1) := by decide +kernel
theorem dX8_drawFor_37 : decode cX8_drawFor 37 = .ok (.iload_n 1, 1) := by decide +kernel
theorem dX8_drawFor_38 : decode cX8_drawFor 38 = .ok (.aload_n 0, 1) := by decide +kernel
theorem dX8_drawFor_39 : decode cX8_drawFor 39 = .ok (.iconst 3, 1) := by decide +kernel
theorem dX8_drawFor_40 : decode cX8_drawFor 40 = .ok (.invokevirtual 162, 3) := by decide +kernel
theorem dX8_drawFor_43 : decode cX8_drawFor 43 = .ok (.iconst 1, 1) := by decide +kernel
theorem dX8_drawFor_44 : decode cX8_drawFor 44 = .ok (.iadd, 1) := by decide +kernel
theorem dX8_drawFor_45 : decode cX8_drawFor 45 = .ok (.invokevirtual 112, 3) := by decide +kernel
theorem dX8_drawFor_48 : decode cX8_drawFor 48 = .ok (.pop, 1) := by decide +kernel
theorem dX8_drawFor_49 : decode cX8_drawFor 49 = .ok (.goto 40, 3) := by decide +kernel
theorem dX8_drawFor_52 : decode cX8_drawFor 52 = .ok (.aload_n 0, 1) := by decide +kernel
theorem dX8_drawFor_53 : decode cX8_drawFor 53 = .ok (.dup, 1) := by decide +kernel
theorem dX8_drawFor_54 : decode cX8_drawFor 54 = .ok (.getfield 46, 3) := by decide +kernel
theorem dX8_drawFor_57 : decode cX8_drawFor 57 = .ok (.iconst 1, 1) := by decide +kernel
theorem dX8_drawFor_58 : decode cX8_drawFor 58 = .ok (.iload_n 1, 1) := by decide +kernel
theorem dX8_drawFor_59 : decode cX8_drawFor 59 = .ok (.ishl, 1) := by decide +kernel
theorem dX8_drawFor_60 : decode cX8_drawFor 60 = .ok (.ixor, 1) := by decide +kernel
theorem dX8_drawFor_61 : decode cX8_drawFor 61 = .ok (.putfield 46, 3) := by decide +kernel
theorem dX8_drawFor_64 : decode cX8_drawFor 64 = .ok (.goto 25, 3) := by decide +kernel
theorem dX8_drawFor_67 : decode cX8_drawFor 67 = .ok (.aload_n 0, 1) := by decide +kernel
theorem dX8_drawFor_68 : decode cX8_drawFor 68 = .ok (.iload_n 1, 1) := by decide +kernel
theorem dX8_drawFor_69 : decode cX8_drawFor 69 = .ok (.aload_n 0, 1) := by decide +kernel
theorem dX8_drawFor_70 : decode cX8_drawFor 70 = .ok (.iconst 4, 1) := by decide +kernel
theorem dX8_drawFor_71 : decode cX8_drawFor 71 = .ok (.invokevirtual 162, 3) := by decide +kernel
theorem dX8_drawFor_74 : decode cX8_drawFor 74 = .ok (.invokevirtual 127, 3) := by decide +kernel
theorem dX8_drawFor_77 : decode cX8_drawFor 77 = .ok (.pop, 1) := by decide +kernel
theorem dX8_drawFor_78 : decode cX8_drawFor 78 = .ok (.goto 11, 3) := by decide +kernel
theorem dX8_drawFor_81 : decode cX8_drawFor 81 = .ok (.aload_n 0, 1) := by decide +kernel
theorem dX8_drawFor_82 : decode cX8_drawFor 82 = .ok (.iload_n 1, 1) := by decide +kernel
theorem dX8_drawFor_83 : decode cX8_drawFor 83 = .ok (.invokevirtual 165, 3) := by decide +kernel
theorem dX8_drawFor_86 : decode cX8_drawFor 86 = .ok (.goto 3, 3) := by decide +kernel
theorem dX8_drawFor_89 : decode cX8_drawFor 89 = .ok (.return_, 1) := by decide +kernel
theorem dX8_drawHours_0 : decode cX8_drawHours 0 = .ok (.aload_n 0, 1) := by decide +kernel
theorem dX8_drawHours_1 : decode cX8_drawHours 1 = .ok (.iload_n 2, 1) := by decide +kernel
theorem dX8_drawHours_2 : decode cX8_drawHours 2 = .ok (.putfield 155, 3) := by decide +kernel
theorem dX8_drawHours_5 : decode cX8_drawHours 5 = .ok (.iconst 0, 1) := by decide +kernel
theorem dX8_drawHours_6 : decode cX8_drawHours 6 = .ok (.istore_n 3, 1) := by decide +kernel
theorem dX8_drawHours_7 : decode cX8_drawHours 7 = .ok (.iload_n 3, 1) := by decide +kernel
theorem dX8_drawHours_8 : decode cX8_drawHours 8 = .ok (.iload_n 1, 1) := by decide +kernel
theorem dX8_drawHours_9 : decode cX8_drawHours 9 = .ok (.if_icmp .ge 52, 3) := by decide +kernel
theorem dX8_drawHours_12 : decode cX8_drawHours 12 = .ok (.aload_n 0, 1) := by decide +kernel
theorem dX8_drawHours_13 : decode cX8_drawHours 13 = .ok (.getfield 55, 3) := by decide +kernel
theorem dX8_drawHours_16 : decode cX8_drawHours 16 = .ok (.sipush 400, 3) := by decide +kernel
theorem dX8_drawHours_19 : decode cX8_drawHours 19 = .ok (.if_icmp .ge 42, 3) := by decide +kernel
theorem dX8_drawHours_22 : decode cX8_drawHours 22 = .ok (.iconst 0, 1) := by decide +kernel
theorem dX8_drawHours_23 : decode cX8_drawHours 23 = .ok (.istore 4, 2) := by decide +kernel
theorem dX8_drawHours_25 : decode cX8_drawHours 25 = .ok (.iload 4, 2) := by decide +kernel
theorem dX8_drawHours_27 : decode cX8_drawHours 27 = .ok (.aload_n 0, 1) := by decide +kernel
theorem dX8_drawHours_28 : decode cX8_drawHours 28 = .ok (.getfield 30, 3) := by decide +kernel
theorem dX8_drawHours_31 : decode cX8_drawHours 31 = .ok (.getfield 34, 3) := by decide +kernel
theorem dX8_drawHours_34 : decode cX8_drawHours 34 = .ok (.if_icmp .ge 15, 3) := by decide +kernel
theorem dX8_drawHours_37 : decode cX8_drawHours 37 = .ok (.aload_n 0, 1) := by decide +kernel
theorem dX8_drawHours_38 : decode cX8_drawHours 38 = .ok (.iload 4, 2) := by decide +kernel
theorem dX8_drawHours_40 : decode cX8_drawHours 40 = .ok (.invokevirtual 158, 3) := by decide +kernel
theorem dX8_drawHours_43 : decode cX8_drawHours 43 = .ok (.iinc 4 1, 3) := by decide +kernel
theorem dX8_drawHours_46 : decode cX8_drawHours 46 = .ok (.goto (-21), 3) := by decide +kernel
theorem dX8_drawHours_49 : decode cX8_drawHours 49 = .ok (.aload_n 0, 1) := by decide +kernel
theorem dX8_drawHours_50 : decode cX8_drawHours 50 = .ok (.iconst 1, 1) := by decide +kernel
theorem dX8_drawHours_51 : decode cX8_drawHours 51 = .ok (.invokevirtual 130, 3) := by decide +kernel
theorem dX8_drawHours_54 : decode cX8_drawHours 54 = .ok (.pop, 1) := by decide +kernel
theorem dX8_drawHours_55 : decode cX8_drawHours 55 = .ok (.iinc 3 1, 3) := by decide +kernel
theorem dX8_drawHours_58 : decode cX8_drawHours 58 = .ok (.goto (-51), 3) := by decide +kernel
theorem dX8_drawHours_61 : decode cX8_drawHours 61 = .ok (.iload_n 3, 1) := by decide +kernel
theorem dX8_drawHours_62 : decode cX8_drawHours 62 = .ok (.ireturn, 1) := by decide +kernel
theorem dX9_put_0 : decode cX9_put 0 = .ok (.bipush 24, 2) := by decide +kernel
theorem dX9_put_2 : decode cX9_put 2 = .ok (.istore_n 2, 1) := by decide +kernel
theorem dX9_put_3 : decode cX9_put 3 = .ok (.iload_n 2, 1) := by decide +kernel
theorem dX9_put_4 : decode cX9_put 4 = .ok (.ifCond .lt 45, 3) := by decide +kernel
theorem dX9_put_7 : decode cX9_put 7 = .ok (.aload_n 0, 1) := by decide +kernel
theorem dX9_put_8 : decode cX9_put 8 = .ok (.getfield 15, 3) := by decide +kernel
theorem dX9_put_11 : decode cX9_put 11 = .ok (.sipush 940, 3) := by decide +kernel
theorem dX9_put_14 : decode cX9_put 14 = .ok (.if_icmp .ge 35, 3) := by decide +kernel
theorem dX9_put_17 : decode cX9_put 17 = .ok (.aload_n 0, 1) := by decide +kernel
theorem dX9_put_18 : decode cX9_put 18 = .ok (.getfield 9, 3) := by decide +kernel
theorem dX9_put_21 : decode cX9_put 21 = .ok (.aload_n 0, 1) := by decide +kernel
theorem dX9_put_22 : decode cX9_put 22 = .ok (.getfield 15, 3) := by decide +kernel
theorem dX9_put_25 : decode cX9_put 25 = .ok (.iload_n 1, 1) := by decide +kernel
theorem dX9_put_26 : decode cX9_put 26 = .ok (.iload_n 2, 1) := by decide +kernel
theorem dX9_put_27 : decode cX9_put 27 = .ok (.iushr, 1) := by decide +kernel
theorem dX9_put_28 : decode cX9_put 28 = .ok (.sipush 255, 3) := by decide +kernel
theorem dX9_put_31 : decode cX9_put 31 = .ok (.iand, 1) := by decide +kernel
theorem dX9_put_32 : decode cX9_put 32 = .ok (.iastore, 1) := by decide +kernel
theorem dX9_put_33 : decode cX9_put 33 = .ok (.aload_n 0, 1) := by decide +kernel
theorem dX9_put_34 : decode cX9_put 34 = .ok (.dup, 1) := by decide +kernel
theorem dX9_put_35 : decode cX9_put 35 = .ok (.getfield 15, 3) := by decide +kernel
theorem dX9_put_38 : decode cX9_put 38 = .ok (.iconst 1, 1) := by decide +kernel
theorem dX9_put_39 : decode cX9_put 39 = .ok (.iadd, 1) := by decide +kernel
theorem dX9_put_40 : decode cX9_put 40 = .ok (.putfield 15, 3) := by decide +kernel
theorem dX9_put_43 : decode cX9_put 43 = .ok (.iinc 2 (-8), 3) := by decide +kernel
theorem dX9_put_46 : decode cX9_put 46 = .ok (.goto (-43), 3) := by decide +kernel
theorem dX9_put_49 : decode cX9_put 49 = .ok (.return_, 1) := by decide +kernel
theorem dX11_feed_0 : decode cX11_feed 0 = .ok (.aload_n 0, 1) := by decide +kernel
theorem dX11_feed_1 : decode cX11_feed 1 = .ok (.getfield 12, 3) := by decide +kernel
theorem dX11_feed_4 : decode cX11_feed 4 = .ok (.getfield 102, 3) := by decide +kernel
theorem dX11_feed_7 : decode cX11_feed 7 = .ok (.bipush 20, 2) := by decide +kernel
theorem dX11_feed_9 : decode cX11_feed 9 = .ok (.iadd, 1) := by decide +kernel
theorem dX11_feed_10 : decode cX11_feed 10 = .ok (.sipush 940, 3) := by decide +kernel
theorem dX11_feed_13 : decode cX11_feed 13 = .ok (.if_icmp .le 5, 3) := by decide +kernel
theorem dX11_feed_16 : decode cX11_feed 16 = .ok (.iconst (-1), 1) := by decide +kernel
theorem dX11_feed_17 : decode cX11_feed 17 = .ok (.ireturn, 1) := by decide +kernel
theorem dX11_feed_18 : decode cX11_feed 18 = .ok (.aload_n 0, 1) := by decide +kernel
theorem dX11_feed_19 : decode cX11_feed 19 = .ok (.getfield 12, 3) := by decide +kernel
theorem dX11_feed_22 : decode cX11_feed 22 = .ok (.iload_n 1, 1) := by decide +kernel
theorem dX11_feed_23 : decode cX11_feed 23 = .ok (.invokevirtual 105, 3) := by decide +kernel
theorem dX11_feed_26 : decode cX11_feed 26 = .ok (.aload_n 0, 1) := by decide +kernel
theorem dX11_feed_27 : decode cX11_feed 27 = .ok (.getfield 12, 3) := by decide +kernel
theorem dX11_feed_30 : decode cX11_feed 30 = .ok (.iload_n 2, 1) := by decide +kernel
theorem dX11_feed_31 : decode cX11_feed 31 = .ok (.invokevirtual 105, 3) := by decide +kernel
theorem dX11_feed_34 : decode cX11_feed 34 = .ok (.aload_n 0, 1) := by decide +kernel
theorem dX11_feed_35 : decode cX11_feed 35 = .ok (.getfield 12, 3) := by decide +kernel
theorem dX11_feed_38 : decode cX11_feed 38 = .ok (.iload_n 3, 1) := by decide +kernel
theorem dX11_feed_39 : decode cX11_feed 39 = .ok (.invokevirtual 105, 3) := by decide +kernel
theorem dX11_feed_42 : decode cX11_feed 42 = .ok (.aload_n 0, 1) := by decide +kernel
theorem dX11_feed_43 : decode cX11_feed 43 = .ok (.getfield 12, 3) := by decide +kernel
theorem dX11_feed_46 : decode cX11_feed 46 = .ok (.iload 4, 2) := by decide +kernel
theorem dX11_feed_48 : decode cX11_feed 48 = .ok (.invokevirtual 105, 3) := by decide +kernel
theorem dX11_feed_51 : decode cX11_feed 51 = .ok (.aload_n 0, 1) := by decide +kernel
theorem dX11_feed_52 : decode cX11_feed 52 = .ok (.getfield 12, 3) := by decide +kernel
theorem dX11_feed_55 : decode cX11_feed 55 = .ok (.iload 5, 2) := by decide +kernel
theorem dX11_feed_57 : decode cX11_feed 57 = .ok (.invokevirtual 105, 3) := by decide +kernel
theorem dX11_feed_60 : decode cX11_feed 60 = .ok (.aload_n 0, 1) := by decide +kernel
theorem dX11_feed_61 : decode cX11_feed 61 = .ok (.getfield 12, 3) := by decide +kernel
theorem dX11_feed_64 : decode cX11_feed 64 = .ok (.getfield 102, 3) := by decide +kernel
theorem dX11_feed_67 : decode cX11_feed 67 = .ok (.ireturn, 1) := by decide +kernel
theorem dX11_end_0 : decode cX11_end 0 = .ok (.iload_n 1, 1) := by decide +kernel
theorem dX11_end_1 : decode cX11_end 1 = .ok (.ifCond .lt 14, 3) := by decide +kernel
theorem dX11_end_4 : decode cX11_end 4 = .ok (.iload_n 1, 1) := by decide +kernel
theorem dX11_end_5 : decode cX11_end 5 = .ok (.aload_n 0, 1) := by decide +kernel
theorem dX11_end_6 : decode cX11_end 6 = .ok (.getfield 12, 3) := by decide +kernel
theorem dX11_end_9 : decode cX11_end 9 = .ok (.getfield 102, 3) := by decide +kernel
theorem dX11_end_12 : decode cX11_end 12 = .ok (.if_icmp .le 5, 3) := by decide +kernel
theorem dX11_end_15 : decode cX11_end 15 = .ok (.iconst 0, 1) := by decide +kernel
theorem dX11_end_16 : decode cX11_end 16 = .ok (.ireturn, 1) := by decide +kernel
theorem dX11_end_17 : decode cX11_end 17 = .ok (.aload_n 0, 1) := by decide +kernel
theorem dX11_end_18 : decode cX11_end 18 = .ok (.getfield 12, 3) := by decide +kernel
theorem dX11_end_21 : decode cX11_end 21 = .ok (.iload_n 1, 1) := by decide +kernel
theorem dX11_end_22 : decode cX11_end 22 = .ok (.putfield 102, 3) := by decide +kernel
theorem dX11_end_25 : decode cX11_end 25 = .ok (.iconst 1, 1) := by decide +kernel
theorem dX11_end_26 : decode cX11_end 26 = .ok (.ireturn, 1) := by decide +kernel
theorem dX11_army_0 : decode cX11_army 0 = .ok (.aload_n 0, 1) := by decide +kernel
theorem dX11_army_1 : decode cX11_army 1 = .ok (.getfield 21, 3) := by decide +kernel
theorem dX11_army_4 : decode cX11_army 4 = .ok (.sipush 900, 3) := by decide +kernel
theorem dX11_army_7 : decode cX11_army 7 = .ok (.invokevirtual 109, 3) := by decide +kernel
theorem dX11_army_10 : decode cX11_army 10 = .ok (.aload_n 0, 1) := by decide +kernel
theorem dX11_army_11 : decode cX11_army 11 = .ok (.getfield 32, 3) := by decide +kernel
theorem dX11_army_14 : decode cX11_army 14 = .ok (.aload_n 0, 1) := by decide +kernel
theorem dX11_army_15 : decode cX11_army 15 = .ok (.getfield 21, 3) := by decide +kernel
theorem dX11_army_18 : decode cX11_army 18 = .ok (.invokevirtual 112, 3) := by decide +kernel
theorem dX11_army_21 : decode cX11_army 21 = .ok (.istore_n 1, 1) := by decide +kernel
theorem dX11_army_22 : decode cX11_army 22 = .ok (.aload_n 0, 1) := by decide +kernel
theorem dX11_army_23 : decode cX11_army 23 = .ok (.getfield 12, 3) := by decide +kernel
theorem dX11_army_26 : decode cX11_army 26 = .ok (.iconst 0, 1) := by decide +kernel
theorem dX11_army_27 : decode cX11_army 27 = .ok (.putfield 102, 3) := by decide +kernel
theorem dX11_army_30 : decode cX11_army 30 = .ok (.aload_n 0, 1) := by decide +kernel
theorem dX11_army_31 : decode cX11_army 31 = .ok (.aload_n 0, 1) := by decide +kernel
theorem dX11_army_32 : decode cX11_army 32 = .ok (.getfield 21, 3) := by decide +kernel
theorem dX11_army_35 : decode cX11_army 35 = .ok (.getfield 116, 3) := by decide +kernel
theorem dX11_army_38 : decode cX11_army 38 = .ok (.putfield 119, 3) := by decide +kernel
theorem dX11_army_41 : decode cX11_army 41 = .ok (.aload_n 0, 1) := by decide +kernel
theorem dX11_army_42 : decode cX11_army 42 = .ok (.getfield 119, 3) := by decide +kernel
theorem dX11_army_45 : decode cX11_army 45 = .ok (.ifCond .eq 13, 3) := by decide +kernel
theorem dX11_army_48 : decode cX11_army 48 = .ok (.iconst (-1), 1) := by decide +kernel
theorem dX11_army_49 : decode cX11_army 49 = .ok (.aload_n 0, 1) := by decide +kernel
theorem dX11_army_50 : decode cX11_army 50 = .ok (.getfield 21, 3) := by decide +kernel
theorem dX11_army_53 : decode cX11_army 53 = .ok (.getfield 120, 3) := by decide +kernel
theorem dX11_army_56 : decode cX11_army 56 = .ok (.isub, 1) := by decide +kernel
theorem dX11_army_57 : decode cX11_army 57 = .ok (.ireturn, 1) := by decide +kernel
theorem dX11_army_58 : decode cX11_army 58 = .ok (.aload_n 0, 1) := by decide +kernel
theorem dX11_army_59 : decode cX11_army 59 = .ok (.getfield 28, 3) := by decide +kernel
theorem dX11_army_62 : decode cX11_army 62 = .ok (.aload_n 0, 1) := by decide +kernel
theorem dX11_army_63 : decode cX11_army 63 = .ok (.getfield 32, 3) := by decide +kernel
theorem dX11_army_66 : decode cX11_army 66 = .ok (.invokevirtual 123, 3) := by decide +kernel
theorem dX11_army_69 : decode cX11_army 69 = .ok (.aload_n 0, 1) := by decide +kernel
theorem dX11_army_70 : decode cX11_army 70 = .ok (.getfield 40, 3) := by decide +kernel
theorem dX11_army_73 : decode cX11_army 73 = .ok (.invokevirtual 126, 3) := by decide +kernel
theorem dX11_army_76 : decode cX11_army 76 = .ok (.aload_n 0, 1) := by decide +kernel
theorem dX11_army_77 : decode cX11_army 77 = .ok (.getfield 71, 3) := by decide +kernel
theorem dX11_army_80 : decode cX11_army 80 = .ok (.invokevirtual 128, 3) := by decide +kernel
theorem dX11_army_83 : decode cX11_army 83 = .ok (.aload_n 0, 1) := by decide +kernel
theorem dX11_army_84 : decode cX11_army 84 = .ok (.getfield 50, 3) := by decide +kernel
theorem dX11_army_87 : decode cX11_army 87 = .ok (.invokevirtual 131, 3) := by decide +kernel
theorem dX11_army_90 : decode cX11_army 90 = .ok (.iload_n 1, 1) := by decide +kernel
theorem dX11_army_91 : decode cX11_army 91 = .ok (.ireturn, 1) := by decide +kernel
theorem dX11_fault_0 : decode cX11_fault 0 = .ok (.aload_n 0, 1) := by decide +kernel
theorem dX11_fault_1 : decode cX11_fault 1 = .ok (.getfield 119, 3) := by decide +kernel
theorem dX11_fault_4 : decode cX11_fault 4 = .ok (.ireturn, 1) := by decide +kernel
theorem dX11_count_0 : decode cX11_count 0 = .ok (.iload_n 1, 1) := by decide +kernel
theorem dX11_count_1 : decode cX11_count 1 = .ok (.tableswitch 87 0 5 #[39, 47, 55, 63, 71, 79], 39) := by decide +kernel
theorem dX11_count_40 : decode cX11_count 40 = .ok (.aload_n 0, 1) := by decide +kernel
theorem dX11_count_41 : decode cX11_count 41 = .ok (.getfield 28, 3) := by decide +kernel
theorem dX11_count_44 : decode cX11_count 44 = .ok (.getfield 132, 3) := by decide +kernel
theorem dX11_count_47 : decode cX11_count 47 = .ok (.ireturn, 1) := by decide +kernel
theorem dX11_count_48 : decode cX11_count 48 = .ok (.aload_n 0, 1) := by decide +kernel
theorem dX11_count_49 : decode cX11_count 49 = .ok (.getfield 28, 3) := by decide +kernel
theorem dX11_count_52 : decode cX11_count 52 = .ok (.getfield 135, 3) := by decide +kernel
theorem dX11_count_55 : decode cX11_count 55 = .ok (.ireturn, 1) := by decide +kernel
theorem dX11_count_56 : decode cX11_count 56 = .ok (.aload_n 0, 1) := by decide +kernel
theorem dX11_count_57 : decode cX11_count 57 = .ok (.getfield 28, 3) := by decide +kernel
theorem dX11_count_60 : decode cX11_count 60 = .ok (.getfield 138, 3) := by decide +kernel
theorem dX11_count_63 : decode cX11_count 63 = .ok (.ireturn, 1) := by decide +kernel
theorem dX11_count_64 : decode cX11_count 64 = .ok (.aload_n 0, 1) := by decide +kernel
theorem dX11_count_65 : decode cX11_count 65 = .ok (.getfield 28, 3) := by decide +kernel
theorem dX11_count_68 : decode cX11_count 68 = .ok (.getfield 141, 3) := by decide +kernel
theorem dX11_count_71 : decode cX11_count 71 = .ok (.ireturn, 1) := by decide +kernel
theorem dX11_count_72 : decode cX11_count 72 = .ok (.aload_n 0, 1) := by decide +kernel
theorem dX11_count_73 : decode cX11_count 73 = .ok (.getfield 28, 3) := by decide +kernel
theorem dX11_count_76 : decode cX11_count 76 = .ok (.getfield 144, 3) := by decide +kernel
theorem dX11_count_79 : decode cX11_count 79 = .ok (.ireturn, 1) := by decide +kernel
theorem dX11_count_80 : decode cX11_count 80 = .ok (.aload_n 0, 1) := by decide +kernel
theorem dX11_count_81 : decode cX11_count 81 = .ok (.getfield 12, 3) := by decide +kernel
theorem dX11_count_84 : decode cX11_count 84 = .ok (.getfield 102, 3) := by decide +kernel
theorem dX11_count_87 : decode cX11_count 87 = .ok (.ireturn, 1) := by decide +kernel
theorem dX11_count_88 : decode cX11_count 88 = .ok (.iconst (-1), 1) := by decide +kernel
theorem dX11_count_89 : decode cX11_count 89 = .ok (.ireturn, 1) := by decide +kernel
theorem dX11_isMan_0 : decode cX11_isMan 0 = .ok (.iload_n 1, 1) := by decide +kernel
theorem dX11_isMan_1 : decode cX11_isMan 1 = .ok (.ifCond .lt 18, 3) := by decide +kernel
theorem dX11_isMan_4 : decode cX11_isMan 4 = .ok (.iload_n 1, 1) := by decide +kernel
theorem dX11_isMan_5 : decode cX11_isMan 5 = .ok (.aload_n 0, 1) := by decide +kernel
theorem dX11_isMan_6 : decode cX11_isMan 6 = .ok (.getfield 28, 3) := by decide +kernel
theorem dX11_isMan_9 : decode cX11_isMan 9 = .ok (.getfield 132, 3) := by decide +kernel
theorem dX11_isMan_12 : decode cX11_isMan 12 = .ok (.if_icmp .ge 7, 3) := by decide +kernel
theorem dX11_isMan_15 : decode cX11_isMan 15 = .ok (.iconst 1, 1) := by decide +kernel
theorem dX11_isMan_16 : decode cX11_isMan 16 = .ok (.goto 4, 3) := by decide +kernel
theorem dX11_isMan_19 : decode cX11_isMan 19 = .ok (.iconst 0, 1) := by decide +kernel
theorem dX11_isMan_20 : decode cX11_isMan 20 = .ok (.ireturn, 1) := by decide +kernel
theorem dX11_man_0 : decode cX11_man 0 = .ok (.aload_n 0, 1) := by decide +kernel
theorem dX11_man_1 : decode cX11_man 1 = .ok (.iload_n 1, 1) := by decide +kernel
theorem dX11_man_2 : decode cX11_man 2 = .ok (.invokevirtual 147, 3) := by decide +kernel
theorem dX11_man_5 : decode cX11_man 5 = .ok (.ifCond .eq 13, 3) := by decide +kernel
theorem dX11_man_8 : decode cX11_man 8 = .ok (.iload_n 2, 1) := by decide +kernel
theorem dX11_man_9 : decode cX11_man 9 = .ok (.ifCond .lt 9, 3) := by decide +kernel
theorem dX11_man_12 : decode cX11_man 12 = .ok (.iload_n 2, 1) := by decide +kernel
theorem dX11_man_13 : decode cX11_man 13 = .ok (.bipush 9, 2) := by decide +kernel
theorem dX11_man_15 : decode cX11_man 15 = .ok (.if_icmp .le 13, 3) := by decide +kernel
theorem dX11_man_18 : decode cX11_man 18 = .ok (.new 151, 3) := by decide +kernel
theorem dX11_man_28 : decode cX11_man 28 = .ok (.iload_n 2, 1) := by decide +kernel
theorem dX11_man_29 : decode cX11_man 29 = .ok (.tableswitch 146 0 8 #[51, 61, 71, 80, 92, 104, 114, 124, 136], 51) := by decide +kernel
theorem dX11_man_80 : decode cX11_man 80 = .ok (.aload_n 0, 1) := by decide +kernel
theorem dX11_man_81 : decode cX11_man 81 = .ok (.getfield 40, 3) := by decide +kernel
theorem dX11_man_84 : decode cX11_man 84 = .ok (.getfield 158, 3) := by decide +kernel
theorem dX11_man_87 : decode cX11_man 87 = .ok (.iload_n 1, 1) := by decide +kernel
theorem dX11_man_88 : decode cX11_man 88 = .ok (.iaload, 1) := by decide +kernel
theorem dX11_man_89 : decode cX11_man 89 = .ok (.ireturn, 1) := by decide +kernel
theorem dX11_man_90 : decode cX11_man 90 = .ok (.aload_n 0, 1) := by decide +kernel
theorem dX11_man_91 : decode cX11_man 91 = .ok (.getfield 40, 3) := by decide +kernel
theorem dX11_man_94 : decode cX11_man 94 = .ok (.getfield 162, 3) := by decide +kernel
theorem dX11_man_97 : decode cX11_man 97 = .ok (.iload_n 1, 1) := by decide +kernel
theorem dX11_man_98 : decode cX11_man 98 = .ok (.iaload, 1) := by decide +kernel
theorem dX11_man_99 : decode cX11_man 99 = .ok (.ireturn, 1) := by decide +kernel
theorem dX11_man_100 : decode cX11_man 100 = .ok (.aload_n 0, 1) := by decide +kernel
theorem dX11_man_101 : decode cX11_man 101 = .ok (.getfield 40, 3) := by decide +kernel
theorem dX11_man_104 : decode cX11_man 104 = .ok (.iload_n 1, 1) := by decide +kernel
theorem dX11_man_105 : decode cX11_man 105 = .ok (.invokevirtual 165, 3) := by decide +kernel
theorem dX11_man_108 : decode cX11_man 108 = .ok (.ireturn, 1) := by decide +kernel
theorem dX11_man_109 : decode cX11_man 109 = .ok (.aload_n 0, 1) := by decide +kernel
theorem dX11_man_110 : decode cX11_man 110 = .ok (.getfield 40, 3) := by decide +kernel
theorem dX11_man_113 : decode cX11_man 113 = .ok (.getfield 169, 3) := by decide +kernel
theorem dX11_man_116 : decode cX11_man 116 = .ok (.iload_n 1, 1) := by decide +kernel
theorem dX11_man_117 : decode cX11_man 117 = .ok (.invokestatic 172, 3) := by decide +kernel
theorem dX11_man_120 : decode cX11_man 120 = .ok (.ireturn, 1) := by decide +kernel
theorem dX11_man_121 : decode cX11_man 121 = .ok (.aload_n 0, 1) := by decide +kernel
theorem dX11_man_122 : decode cX11_man 122 = .ok (.getfield 40, 3) := by decide +kernel
theorem dX11_man_125 : decode cX11_man 125 = .ok (.getfield 176, 3) := by decide +kernel
theorem dX11_man_128 : decode cX11_man 128 = .ok (.iload_n 1, 1) := by decide +kernel
theorem dX11_man_129 : decode cX11_man 129 = .ok (.invokestatic 172, 3) := by decide +kernel
theorem dX11_man_132 : decode cX11_man 132 = .ok (.ireturn, 1) := by decide +kernel
theorem dX11_man_133 : decode cX11_man 133 = .ok (.aload_n 0, 1) := by decide +kernel
theorem dX11_man_134 : decode cX11_man 134 = .ok (.getfield 40, 3) := by decide +kernel
theorem dX11_man_137 : decode cX11_man 137 = .ok (.getfield 179, 3) := by decide +kernel
theorem dX11_man_140 : decode cX11_man 140 = .ok (.iload_n 1, 1) := by decide +kernel
theorem dX11_man_141 : decode cX11_man 141 = .ok (.iaload, 1) := by decide +kernel
theorem dX11_man_142 : decode cX11_man 142 = .ok (.ireturn, 1) := by decide +kernel
theorem dX11_man_143 : decode cX11_man 143 = .ok (.aload_n 0, 1) := by decide +kernel
theorem dX11_man_144 : decode cX11_man 144 = .ok (.getfield 40, 3) := by decide +kernel
theorem dX11_man_147 : decode cX11_man 147 = .ok (.getfield 182, 3) := by decide +kernel
theorem dX11_man_150 : decode cX11_man 150 = .ok (.iload_n 1, 1) := by decide +kernel
theorem dX11_man_151 : decode cX11_man 151 = .ok (.iaload, 1) := by decide +kernel
theorem dX11_man_152 : decode cX11_man 152 = .ok (.ireturn, 1) := by decide +kernel
theorem dX11_man_153 : decode cX11_man 153 = .ok (.aload_n 0, 1) := by decide +kernel
theorem dX11_man_154 : decode cX11_man 154 = .ok (.getfield 40, 3) := by decide +kernel
theorem dX11_man_157 : decode cX11_man 157 = .ok (.getfield 185, 3) := by decide +kernel
theorem dX11_man_160 : decode cX11_man 160 = .ok (.iload_n 1, 1) := by decide +kernel
theorem dX11_man_161 : decode cX11_man 161 = .ok (.invokestatic 172, 3) := by decide +kernel
theorem dX11_man_164 : decode cX11_man 164 = .ok (.ireturn, 1) := by decide +kernel
theorem dX11_man_165 : decode cX11_man 165 = .ok (.aload_n 0, 1) := by decide +kernel
theorem dX11_man_166 : decode cX11_man 166 = .ok (.getfield 40, 3) := by decide +kernel
theorem dX11_man_169 : decode cX11_man 169 = .ok (.getfield 188, 3) := by decide +kernel
theorem dX11_man_172 : decode cX11_man 172 = .ok (.iload_n 1, 1) := by decide +kernel
theorem dX11_man_173 : decode cX11_man 173 = .ok (.iaload, 1) := by decide +kernel
theorem dX11_man_174 : decode cX11_man 174 = .ok (.ireturn, 1) := by decide +kernel
theorem dX11_man_175 : decode cX11_man 175 = .ok (.aload_n 0, 1) := by decide +kernel
theorem dX11_man_176 : decode cX11_man 176 = .ok (.getfield 28, 3) := by decide +kernel
theorem dX11_man_179 : decode cX11_man 179 = .ok (.getfield 191, 3) := by decide +kernel
theorem dX11_man_182 : decode cX11_man 182 = .ok (.iload_n 1, 1) := by decide +kernel
theorem dX11_man_183 : decode cX11_man 183 = .ok (.iaload, 1) := by decide +kernel
theorem dX11_man_184 : decode cX11_man 184 = .ok (.ireturn, 1) := by decide +kernel
theorem dX11_isOrder_0 : decode cX11_isOrder 0 = .ok (.iload_n 1, 1) := by decide +kernel
theorem dX11_isOrder_1 : decode cX11_isOrder 1 = .ok (.ifCond .lt 18, 3) := by decide +kernel
theorem dX11_isOrder_4 : decode cX11_isOrder 4 = .ok (.iload_n 1, 1) := by decide +kernel
theorem dX11_isOrder_5 : decode cX11_isOrder 5 = .ok (.aload_n 0, 1) := by decide +kernel
theorem dX11_isOrder_6 : decode cX11_isOrder 6 = .ok (.getfield 28, 3) := by decide +kernel
theorem dX11_isOrder_9 : decode cX11_isOrder 9 = .ok (.getfield 135, 3) := by decide +kernel
theorem dX11_isOrder_12 : decode cX11_isOrder 12 = .ok (.if_icmp .ge 7, 3) := by decide +kernel
theorem dX11_isOrder_15 : decode cX11_isOrder 15 = .ok (.iconst 1, 1) := by decide +kernel
theorem dX11_isOrder_16 : decode cX11_isOrder 16 = .ok (.goto 4, 3) := by decide +kernel
theorem dX11_isOrder_19 : decode cX11_isOrder 19 = .ok (.iconst 0, 1) := by decide +kernel
theorem dX11_isOrder_20 : decode cX11_isOrder 20 = .ok (.ireturn, 1) := by decide +kernel
theorem dX11_order_0 : decode cX11_order 0 = .ok (.aload_n 0, 1) := by decide +kernel
theorem dX11_order_1 : decode cX11_order 1 = .ok (.iload_n 1, 1) := by decide +kernel
theorem dX11_order_2 : decode cX11_order 2 = .ok (.invokevirtual 194, 3) := by decide +kernel
theorem dX11_order_5 : decode cX11_order 5 = .ok (.ifCond .ne 5, 3) := by decide +kernel
theorem dX11_order_8 : decode cX11_order 8 = .ok (.iconst (-1), 1) := by decide +kernel
theorem dX11_order_9 : decode cX11_order 9 = .ok (.ireturn, 1) := by decide +kernel
theorem dX11_order_10 : decode cX11_order 10 = .ok (.iload_n 2, 1) := by decide +kernel
theorem dX11_order_11 : decode cX11_order 11 = .ok (.tableswitch 54 0 2 #[25, 35, 45], 25) := by decide +kernel
theorem dX11_order_36 : decode cX11_order 36 = .ok (.aload_n 0, 1) := by decide +kernel
theorem dX11_order_37 : decode cX11_order 37 = .ok (.getfield 28, 3) := by decide +kernel
theorem dX11_order_40 : decode cX11_order 40 = .ok (.getfield 197, 3) := by decide +kernel
theorem dX11_order_43 : decode cX11_order 43 = .ok (.iload_n 1, 1) := by decide +kernel
theorem dX11_order_44 : decode cX11_order 44 = .ok (.iaload, 1) := by decide +kernel
theorem dX11_order_45 : decode cX11_order 45 = .ok (.ireturn, 1) := by decide +kernel
theorem dX11_order_46 : decode cX11_order 46 = .ok (.aload_n 0, 1) := by decide +kernel
theorem dX11_order_47 : decode cX11_order 47 = .ok (.getfield 28, 3) := by decide +kernel
theorem dX11_order_50 : decode cX11_order 50 = .ok (.getfield 200, 3) := by decide +kernel
theorem dX11_order_53 : decode cX11_order 53 = .ok (.iload_n 1, 1) := by decide +kernel
theorem dX11_order_54 : decode cX11_order 54 = .ok (.iaload, 1) := by decide +kernel
theorem dX11_order_55 : decode cX11_order 55 = .ok (.ireturn, 1) := by decide +kernel
theorem dX11_order_56 : decode cX11_order 56 = .ok (.aload_n 0, 1) := by decide +kernel
theorem dX11_order_57 : decode cX11_order 57 = .ok (.getfield 40, 3) := by decide +kernel
theorem dX11_order_60 : decode cX11_order 60 = .ok (.iload_n 1, 1) := by decide +kernel
theorem dX11_order_61 : decode cX11_order 61 = .ok (.invokevirtual 203, 3) := by decide +kernel
theorem dX11_order_64 : decode cX11_order 64 = .ok (.ireturn, 1) := by decide +kernel
theorem dX11_order_65 : decode cX11_order 65 = .ok (.iconst (-1), 1) := by decide +kernel
theorem dX11_order_66 : decode cX11_order 66 = .ok (.ireturn, 1) := by decide +kernel
theorem dX11_now_0 : decode cX11_now 0 = .ok (.iload_n 1, 1) := by decide +kernel
theorem dX11_now_1 : decode cX11_now 1 = .ok (.tableswitch 99 0 6 #[43, 51, 59, 67, 75, 83, 91], 43) := by decide +kernel
theorem dX11_now_44 : decode cX11_now 44 = .ok (.aload_n 0, 1) := by decide +kernel
theorem dX11_now_45 : decode cX11_now 45 = .ok (.getfield 40, 3) := by decide +kernel
theorem dX11_now_48 : decode cX11_now 48 = .ok (.getfield 206, 3) := by decide +kernel
theorem dX11_now_51 : decode cX11_now 51 = .ok (.ireturn, 1) := by decide +kernel
theorem dX11_now_52 : decode cX11_now 52 = .ok (.aload_n 0, 1) := by decide +kernel
theorem dX11_now_53 : decode cX11_now 53 = .ok (.getfield 40, 3) := by decide +kernel
theorem dX11_now_56 : decode cX11_now 56 = .ok (.getfield 169, 3) := by decide +kernel
theorem dX11_now_59 : decode cX11_now 59 = .ok (.ireturn, 1) := by decide +kernel
theorem dX11_now_60 : decode cX11_now 60 = .ok (.aload_n 0, 1) := by decide +kernel
theorem dX11_now_61 : decode cX11_now 61 = .ok (.getfield 40, 3) := by decide +kernel
theorem dX11_now_64 : decode cX11_now 64 = .ok (.getfield 176, 3) := by decide +kernel
theorem dX11_now_67 : decode cX11_now 67 = .ok (.ireturn, 1) := by decide +kernel
theorem dX11_now_68 : decode cX11_now 68 = .ok (.aload_n 0, 1) := by decide +kernel
theorem dX11_now_69 : decode cX11_now 69 = .ok (.getfield 40, 3) := by decide +kernel
theorem dX11_now_72 : decode cX11_now 72 = .ok (.invokevirtual 209, 3) := by decide +kernel
theorem dX11_now_75 : decode cX11_now 75 = .ok (.ireturn, 1) := by decide +kernel
theorem dX11_now_76 : decode cX11_now 76 = .ok (.aload_n 0, 1) := by decide +kernel
theorem dX11_now_77 : decode cX11_now 77 = .ok (.getfield 40, 3) := by decide +kernel
theorem dX11_now_80 : decode cX11_now 80 = .ok (.getfield 185, 3) := by decide +kernel
theorem dX11_now_83 : decode cX11_now 83 = .ok (.ireturn, 1) := by decide +kernel
theorem dX11_now_84 : decode cX11_now 84 = .ok (.aload_n 0, 1) := by decide +kernel
theorem dX11_now_85 : decode cX11_now 85 = .ok (.getfield 40, 3) := by decide +kernel
theorem dX11_now_88 : decode cX11_now 88 = .ok (.invokevirtual 213, 3) := by decide +kernel
theorem dX11_now_91 : decode cX11_now 91 = .ok (.ireturn, 1) := by decide +kernel
theorem dX11_now_92 : decode cX11_now 92 = .ok (.aload_n 0, 1) := by decide +kernel
theorem dX11_now_93 : decode cX11_now 93 = .ok (.getfield 40, 3) := by decide +kernel
theorem dX11_now_96 : decode cX11_now 96 = .ok (.getfield 216, 3) := by decide +kernel
theorem dX11_now_99 : decode cX11_now 99 = .ok (.ireturn, 1) := by decide +kernel
theorem dX11_now_100 : decode cX11_now 100 = .ok (.iconst (-1), 1) := by decide +kernel
theorem dX11_now_101 : decode cX11_now 101 = .ok (.ireturn, 1) := by decide +kernel
theorem dX11_settleTrial_0 : decode cX11_settleTrial 0 = .ok (.aload_n 0, 1) := by decide +kernel
theorem dX11_settleTrial_1 : decode cX11_settleTrial 1 = .ok (.getfield 50, 3) := by decide +kernel
theorem dX11_settleTrial_4 : decode cX11_settleTrial 4 = .ok (.aload_n 0, 1) := by decide +kernel
theorem dX11_settleTrial_5 : decode cX11_settleTrial 5 = .ok (.getfield 40, 3) := by decide +kernel
theorem dX11_settleTrial_8 : decode cX11_settleTrial 8 = .ok (.invokevirtual 359, 3) := by decide +kernel
theorem dX11_settleTrial_11 : decode cX11_settleTrial 11 = .ok (.aload_n 0, 1) := by decide +kernel
theorem dX11_settleTrial_12 : decode cX11_settleTrial 12 = .ok (.getfield 40, 3) := by decide +kernel
theorem dX11_settleTrial_15 : decode cX11_settleTrial 15 = .ok (.aload_n 0, 1) := by decide +kernel
theorem dX11_settleTrial_16 : decode cX11_settleTrial 16 = .ok (.getfield 44, 3) := by decide +kernel
theorem dX11_settleTrial_19 : decode cX11_settleTrial 19 = .ok (.invokevirtual 226, 3) := by decide +kernel
theorem dX11_settleTrial_22 : decode cX11_settleTrial 22 = .ok (.return_, 1) := by decide +kernel
theorem dX11_act_0 : decode cX11_act 0 = .ok (.aload_n 0, 1) := by decide +kernel
theorem dX11_act_1 : decode cX11_act 1 = .ok (.getfield 44, 3) := by decide +kernel
theorem dX11_act_4 : decode cX11_act 4 = .ok (.aload_n 0, 1) := by decide +kernel
theorem dX11_act_5 : decode cX11_act 5 = .ok (.getfield 40, 3) := by decide +kernel
theorem dX11_act_8 : decode cX11_act 8 = .ok (.invokevirtual 226, 3) := by decide +kernel
theorem dX11_act_11 : decode cX11_act 11 = .ok (.aload_n 0, 1) := by decide +kernel
theorem dX11_act_12 : decode cX11_act 12 = .ok (.getfield 44, 3) := by decide +kernel
theorem dX11_act_15 : decode cX11_act 15 = .ok (.iload_n 1, 1) := by decide +kernel
theorem dX11_act_16 : decode cX11_act 16 = .ok (.iload_n 2, 1) := by decide +kernel
theorem dX11_act_17 : decode cX11_act 17 = .ok (.iload_n 3, 1) := by decide +kernel
theorem dX11_act_18 : decode cX11_act 18 = .ok (.invokevirtual 356, 3) := by decide +kernel
theorem dX11_act_21 : decode cX11_act 21 = .ok (.istore 4, 2) := by decide +kernel
theorem dX11_act_23 : decode cX11_act 23 = .ok (.iload 4, 2) := by decide +kernel
theorem dX11_act_25 : decode cX11_act 25 = .ok (.ifCond .ne 7, 3) := by decide +kernel
theorem dX11_act_28 : decode cX11_act 28 = .ok (.aload_n 0, 1) := by decide +kernel
theorem dX11_act_29 : decode cX11_act 29 = .ok (.invokevirtual 232, 3) := by decide +kernel
theorem dX11_act_32 : decode cX11_act 32 = .ok (.iload 4, 2) := by decide +kernel
theorem dX11_act_34 : decode cX11_act 34 = .ok (.ireturn, 1) := by decide +kernel
theorem dX11_isLift_0 : decode cX11_isLift 0 = .ok (.iload_n 0, 1) := by decide +kernel
theorem dX11_isLift_1 : decode cX11_isLift 1 = .ok (.iconst 1, 1) := by decide +kernel
theorem dX11_isLift_2 : decode cX11_isLift 2 = .ok (.if_icmp .lt 12, 3) := by decide +kernel
theorem dX11_isLift_5 : decode cX11_isLift 5 = .ok (.iload_n 0, 1) := by decide +kernel
theorem dX11_isLift_6 : decode cX11_isLift 6 = .ok (.iconst 3, 1) := by decide +kernel
theorem dX11_isLift_7 : decode cX11_isLift 7 = .ok (.if_icmp .gt 7, 3) := by decide +kernel
theorem dX11_isLift_10 : decode cX11_isLift 10 = .ok (.iconst 1, 1) := by decide +kernel
theorem dX11_isLift_11 : decode cX11_isLift 11 = .ok (.goto 4, 3) := by decide +kernel
theorem dX11_isLift_14 : decode cX11_isLift 14 = .ok (.iconst 0, 1) := by decide +kernel
theorem dX11_isLift_15 : decode cX11_isLift 15 = .ok (.ireturn, 1) := by decide +kernel
theorem dX11_lift_0 : decode cX11_lift 0 = .ok (.aload_n 0, 1) := by decide +kernel
theorem dX11_lift_1 : decode cX11_lift 1 = .ok (.iload_n 1, 1) := by decide +kernel
theorem dX11_lift_2 : decode cX11_lift 2 = .ok (.invokevirtual 147, 3) := by decide +kernel
theorem dX11_lift_5 : decode cX11_lift 5 = .ok (.ifCond .eq 20, 3) := by decide +kernel
theorem dX11_lift_8 : decode cX11_lift 8 = .ok (.iload_n 2, 1) := by decide +kernel
theorem dX11_lift_9 : decode cX11_lift 9 = .ok (.invokestatic 219, 3) := by decide +kernel
theorem dX11_lift_12 : decode cX11_lift 12 = .ok (.ifCond .eq 13, 3) := by decide +kernel
theorem dX11_lift_15 : decode cX11_lift 15 = .ok (.aload_n 0, 1) := by decide +kernel
theorem dX11_lift_16 : decode cX11_lift 16 = .ok (.iconst 0, 1) := by decide +kernel
theorem dX11_lift_17 : decode cX11_lift 17 = .ok (.iload_n 1, 1) := by decide +kernel
theorem dX11_lift_18 : decode cX11_lift 18 = .ok (.iload_n 2, 1) := by decide +kernel
theorem dX11_lift_19 : decode cX11_lift 19 = .ok (.invokevirtual 222, 3) := by decide +kernel
theorem dX11_lift_22 : decode cX11_lift 22 = .ok (.goto 4, 3) := by decide +kernel
theorem dX11_lift_25 : decode cX11_lift 25 = .ok (.iconst (-1), 1) := by decide +kernel
theorem dX11_lift_26 : decode cX11_lift 26 = .ok (.ireturn, 1) := by decide +kernel
theorem dX11_give_0 : decode cX11_give 0 = .ok (.aload_n 0, 1) := by decide +kernel
theorem dX11_give_1 : decode cX11_give 1 = .ok (.iload_n 1, 1) := by decide +kernel
theorem dX11_give_2 : decode cX11_give 2 = .ok (.invokevirtual 147, 3) := by decide +kernel
theorem dX11_give_5 : decode cX11_give 5 = .ok (.ifCond .eq 21, 3) := by decide +kernel
theorem dX11_give_8 : decode cX11_give 8 = .ok (.aload_n 0, 1) := by decide +kernel
theorem dX11_give_9 : decode cX11_give 9 = .ok (.iload_n 2, 1) := by decide +kernel
theorem dX11_give_10 : decode cX11_give 10 = .ok (.invokevirtual 194, 3) := by decide +kernel
theorem dX11_give_13 : decode cX11_give 13 = .ok (.ifCond .eq 13, 3) := by decide +kernel
theorem dX11_give_16 : decode cX11_give 16 = .ok (.aload_n 0, 1) := by decide +kernel
theorem dX11_give_17 : decode cX11_give 17 = .ok (.iconst 1, 1) := by decide +kernel
theorem dX11_give_18 : decode cX11_give 18 = .ok (.iload_n 1, 1) := by decide +kernel
theorem dX11_give_19 : decode cX11_give 19 = .ok (.iload_n 2, 1) := by decide +kernel
theorem dX11_give_20 : decode cX11_give 20 = .ok (.invokevirtual 222, 3) := by decide +kernel
theorem dX11_give_23 : decode cX11_give 23 = .ok (.goto 4, 3) := by decide +kernel
theorem dX11_give_26 : decode cX11_give 26 = .ok (.iconst (-1), 1) := by decide +kernel
theorem dX11_give_27 : decode cX11_give 27 = .ok (.ireturn, 1) := by decide +kernel
theorem dX11_sleep_0 : decode cX11_sleep 0 = .ok (.aload_n 0, 1) := by decide +kernel
theorem dX11_sleep_1 : decode cX11_sleep 1 = .ok (.iload_n 1, 1) := by decide +kernel
theorem dX11_sleep_2 : decode cX11_sleep 2 = .ok (.invokevirtual 147, 3) := by decide +kernel
theorem dX11_sleep_5 : decode cX11_sleep 5 = .ok (.ifCond .eq 13, 3) := by decide +kernel
theorem dX11_sleep_8 : decode cX11_sleep 8 = .ok (.aload_n 0, 1) := by decide +kernel
theorem dX11_sleep_9 : decode cX11_sleep 9 = .ok (.iconst 2, 1) := by decide +kernel
theorem dX11_sleep_10 : decode cX11_sleep 10 = .ok (.iload_n 1, 1) := by decide +kernel
theorem dX11_sleep_11 : decode cX11_sleep 11 = .ok (.iconst 0, 1) := by decide +kernel
theorem dX11_sleep_12 : decode cX11_sleep 12 = .ok (.invokevirtual 222, 3) := by decide +kernel
theorem dX11_sleep_15 : decode cX11_sleep 15 = .ok (.goto 4, 3) := by decide +kernel
theorem dX11_sleep_18 : decode cX11_sleep 18 = .ok (.iconst (-1), 1) := by decide +kernel
theorem dX11_sleep_19 : decode cX11_sleep 19 = .ok (.ireturn, 1) := by decide +kernel
theorem dX11_wake_0 : decode cX11_wake 0 = .ok (.aload_n 0, 1) := by decide +kernel
theorem dX11_wake_1 : decode cX11_wake 1 = .ok (.iload_n 1, 1) := by decide +kernel
theorem dX11_wake_2 : decode cX11_wake 2 = .ok (.invokevirtual 147, 3) := by decide +kernel
theorem dX11_wake_5 : decode cX11_wake 5 = .ok (.ifCond .eq 13, 3) := by decide +kernel
theorem dX11_wake_8 : decode cX11_wake 8 = .ok (.aload_n 0, 1) := by decide +kernel
theorem dX11_wake_9 : decode cX11_wake 9 = .ok (.iconst 3, 1) := by decide +kernel
theorem dX11_wake_10 : decode cX11_wake 10 = .ok (.iload_n 1, 1) := by decide +kernel
theorem dX11_wake_11 : decode cX11_wake 11 = .ok (.iconst 0, 1) := by decide +kernel
theorem dX11_wake_12 : decode cX11_wake 12 = .ok (.invokevirtual 222, 3) := by decide +kernel
theorem dX11_wake_15 : decode cX11_wake 15 = .ok (.goto 4, 3) := by decide +kernel
theorem dX11_wake_18 : decode cX11_wake 18 = .ok (.iconst (-1), 1) := by decide +kernel
theorem dX11_wake_19 : decode cX11_wake 19 = .ok (.ireturn, 1) := by decide +kernel
theorem dX11_soot_0 : decode cX11_soot 0 = .ok (.aload_n 0, 1) := by decide +kernel
theorem dX11_soot_1 : decode cX11_soot 1 = .ok (.iload_n 1, 1) := by decide +kernel
theorem dX11_soot_2 : decode cX11_soot 2 = .ok (.invokevirtual 147, 3) := by decide +kernel
theorem dX11_soot_5 : decode cX11_soot 5 = .ok (.ifCond .eq 13, 3) := by decide +kernel
theorem dX11_soot_8 : decode cX11_soot 8 = .ok (.aload_n 0, 1) := by decide +kernel
theorem dX11_soot_9 : decode cX11_soot 9 = .ok (.iconst 4, 1) := by decide +kernel
theorem dX11_soot_10 : decode cX11_soot 10 = .ok (.iload_n 1, 1) := by decide +kernel
theorem dX11_soot_11 : decode cX11_soot 11 = .ok (.iconst 0, 1) := by decide +kernel
theorem dX11_soot_12 : decode cX11_soot 12 = .ok (.invokevirtual 222, 3) := by decide +kernel
theorem dX11_soot_15 : decode cX11_soot 15 = .ok (.goto 4, 3) := by decide +kernel
theorem dX11_soot_18 : decode cX11_soot 18 = .ok (.iconst (-1), 1) := by decide +kernel
theorem dX11_soot_19 : decode cX11_soot 19 = .ok (.ireturn, 1) := by decide +kernel
theorem dX11_go_0 : decode cX11_go 0 = .ok (.aload_n 0, 1) := by decide +kernel
theorem dX11_go_1 : decode cX11_go 1 = .ok (.iload_n 1, 1) := by decide +kernel
theorem dX11_go_2 : decode cX11_go 2 = .ok (.invokevirtual 147, 3) := by decide +kernel
theorem dX11_go_5 : decode cX11_go 5 = .ok (.ifCond .eq 22, 3) := by decide +kernel
theorem dX11_go_8 : decode cX11_go 8 = .ok (.iload_n 2, 1) := by decide +kernel
theorem dX11_go_9 : decode cX11_go 9 = .ok (.ifCond .lt 18, 3) := by decide +kernel
theorem dX11_go_12 : decode cX11_go 12 = .ok (.iload_n 2, 1) := by decide +kernel
theorem dX11_go_13 : decode cX11_go 13 = .ok (.iconst 4, 1) := by decide +kernel
theorem dX11_go_14 : decode cX11_go 14 = .ok (.if_icmp .ge 13, 3) := by decide +kernel
theorem dX11_go_17 : decode cX11_go 17 = .ok (.aload_n 0, 1) := by decide +kernel
theorem dX11_go_18 : decode cX11_go 18 = .ok (.iconst 5, 1) := by decide +kernel
theorem dX11_go_19 : decode cX11_go 19 = .ok (.iload_n 1, 1) := by decide +kernel
theorem dX11_go_20 : decode cX11_go 20 = .ok (.iload_n 2, 1) := by decide +kernel
theorem dX11_go_21 : decode cX11_go 21 = .ok (.invokevirtual 222, 3) := by decide +kernel
theorem dX11_go_24 : decode cX11_go 24 = .ok (.goto 4, 3) := by decide +kernel
theorem dX11_go_27 : decode cX11_go 27 = .ok (.iconst (-1), 1) := by decide +kernel
theorem dX11_go_28 : decode cX11_go 28 = .ok (.ireturn, 1) := by decide +kernel
theorem dX11_hours_0 : decode cX11_hours 0 = .ok (.iload_n 1, 1) := by decide +kernel
theorem dX11_hours_1 : decode cX11_hours 1 = .ok (.iconst 1, 1) := by decide +kernel
theorem dX11_hours_2 : decode cX11_hours 2 = .ok (.if_icmp .lt 9, 3) := by decide +kernel
theorem dX11_hours_5 : decode cX11_hours 5 = .ok (.iload_n 1, 1) := by decide +kernel
theorem dX11_hours_6 : decode cX11_hours 6 = .ok (.bipush 60, 2) := by decide +kernel
theorem dX11_hours_8 : decode cX11_hours 8 = .ok (.if_icmp .le 5, 3) := by decide +kernel
theorem dX11_hours_11 : decode cX11_hours 11 = .ok (.iconst (-1), 1) := by decide +kernel
theorem dX11_hours_12 : decode cX11_hours 12 = .ok (.ireturn, 1) := by decide +kernel
theorem dX11_hours_13 : decode cX11_hours 13 = .ok (.aload_n 0, 1) := by decide +kernel
theorem dX11_hours_14 : decode cX11_hours 14 = .ok (.getfield 44, 3) := by decide +kernel
theorem dX11_hours_17 : decode cX11_hours 17 = .ok (.aload_n 0, 1) := by decide +kernel
theorem dX11_hours_18 : decode cX11_hours 18 = .ok (.getfield 40, 3) := by decide +kernel
theorem dX11_hours_21 : decode cX11_hours 21 = .ok (.invokevirtual 226, 3) := by decide +kernel
theorem dX11_hours_24 : decode cX11_hours 24 = .ok (.aload_n 0, 1) := by decide +kernel
theorem dX11_hours_25 : decode cX11_hours 25 = .ok (.getfield 44, 3) := by decide +kernel
theorem dX11_hours_28 : decode cX11_hours 28 = .ok (.iload_n 1, 1) := by decide +kernel
theorem dX11_hours_29 : decode cX11_hours 29 = .ok (.invokevirtual 229, 3) := by decide +kernel
theorem dX11_hours_32 : decode cX11_hours 32 = .ok (.istore_n 2, 1) := by decide +kernel
theorem dX11_hours_33 : decode cX11_hours 33 = .ok (.iload_n 2, 1) := by decide +kernel
theorem dX11_hours_34 : decode cX11_hours 34 = .ok (.ifCond .le 7, 3) := by decide +kernel
theorem dX11_hours_37 : decode cX11_hours 37 = .ok (.aload_n 0, 1) := by decide +kernel
theorem dX11_hours_38 : decode cX11_hours 38 = .ok (.invokevirtual 232, 3) := by decide +kernel
theorem dX11_hours_41 : decode cX11_hours 41 = .ok (.iload_n 2, 1) := by decide +kernel
theorem dX11_hours_42 : decode cX11_hours 42 = .ok (.ireturn, 1) := by decide +kernel
theorem dX11_undo_0 : decode cX11_undo 0 = .ok (.aload_n 0, 1) := by decide +kernel
theorem dX11_undo_1 : decode cX11_undo 1 = .ok (.getfield 50, 3) := by decide +kernel
theorem dX11_undo_4 : decode cX11_undo 4 = .ok (.aload_n 0, 1) := by decide +kernel
theorem dX11_undo_5 : decode cX11_undo 5 = .ok (.getfield 40, 3) := by decide +kernel
theorem dX11_undo_8 : decode cX11_undo 8 = .ok (.invokevirtual 235, 3) := by decide +kernel
theorem dX11_undo_11 : decode cX11_undo 11 = .ok (.ireturn, 1) := by decide +kernel
theorem dX11_sees_0 : decode cX11_sees 0 = .ok (.aload_n 0, 1) := by decide +kernel
theorem dX11_sees_1 : decode cX11_sees 1 = .ok (.iload_n 1, 1) := by decide +kernel
theorem dX11_sees_2 : decode cX11_sees 2 = .ok (.invokevirtual 147, 3) := by decide +kernel
theorem dX11_sees_5 : decode cX11_sees 5 = .ok (.ifCond .eq 14, 3) := by decide +kernel
theorem dX11_sees_8 : decode cX11_sees 8 = .ok (.aload_n 0, 1) := by decide +kernel
theorem dX11_sees_9 : decode cX11_sees 9 = .ok (.getfield 40, 3) := by decide +kernel
theorem dX11_sees_12 : decode cX11_sees 12 = .ok (.iload_n 1, 1) := by decide +kernel
theorem dX11_sees_13 : decode cX11_sees 13 = .ok (.invokevirtual 239, 3) := by decide +kernel
theorem dX11_sees_16 : decode cX11_sees 16 = .ok (.goto 4, 3) := by decide +kernel
theorem dX11_sees_19 : decode cX11_sees 19 = .ok (.iconst (-1), 1) := by decide +kernel
theorem dX11_sees_20 : decode cX11_sees 20 = .ok (.ireturn, 1) := by decide +kernel
theorem dX11_reads_0 : decode cX11_reads 0 = .ok (.aload_n 0, 1) := by decide +kernel
theorem dX11_reads_1 : decode cX11_reads 1 = .ok (.iload_n 1, 1) := by decide +kernel
theorem dX11_reads_2 : decode cX11_reads 2 = .ok (.invokevirtual 147, 3) := by decide +kernel
theorem dX11_reads_5 : decode cX11_reads 5 = .ok (.ifCond .eq 22, 3) := by decide +kernel
theorem dX11_reads_8 : decode cX11_reads 8 = .ok (.aload_n 0, 1) := by decide +kernel
theorem dX11_reads_9 : decode cX11_reads 9 = .ok (.getfield 40, 3) := by decide +kernel
theorem dX11_reads_12 : decode cX11_reads 12 = .ok (.iload_n 1, 1) := by decide +kernel
theorem dX11_reads_13 : decode cX11_reads 13 = .ok (.aload_n 0, 1) := by decide +kernel
theorem dX11_reads_14 : decode cX11_reads 14 = .ok (.getfield 40, 3) := by decide +kernel
theorem dX11_reads_17 : decode cX11_reads 17 = .ok (.iload_n 1, 1) := by decide +kernel
theorem dX11_reads_18 : decode cX11_reads 18 = .ok (.invokevirtual 242, 3) := by decide +kernel
theorem dX11_reads_21 : decode cX11_reads 21 = .ok (.invokevirtual 245, 3) := by decide +kernel
theorem dX11_reads_24 : decode cX11_reads 24 = .ok (.goto 4, 3) := by decide +kernel
theorem dX11_reads_27 : decode cX11_reads 27 = .ok (.iconst (-1), 1) := by decide +kernel
theorem dX11_reads_28 : decode cX11_reads 28 = .ok (.ireturn, 1) := by decide +kernel
theorem dX11_foes_0 : decode cX11_foes 0 = .ok (.aload_n 0, 1) := by decide +kernel
theorem dX11_foes_1 : decode cX11_foes 1 = .ok (.iload_n 1, 1) := by decide +kernel
theorem dX11_foes_2 : decode cX11_foes 2 = .ok (.invokevirtual 147, 3) := by decide +kernel
theorem dX11_foes_5 : decode cX11_foes 5 = .ok (.ifCond .eq 32, 3) := by decide +kernel
theorem dX11_foes_8 : decode cX11_foes 8 = .ok (.aload_n 0, 1) := by decide +kernel
theorem dX11_foes_9 : decode cX11_foes 9 = .ok (.getfield 40, 3) := by decide +kernel
theorem dX11_foes_12 : decode cX11_foes 12 = .ok (.iload_n 1, 1) := by decide +kernel
theorem dX11_foes_13 : decode cX11_foes 13 = .ok (.aload_n 0, 1) := by decide +kernel
theorem dX11_foes_14 : decode cX11_foes 14 = .ok (.getfield 40, 3) := by decide +kernel
theorem dX11_foes_17 : decode cX11_foes 17 = .ok (.getfield 158, 3) := by decide +kernel
theorem dX11_foes_20 : decode cX11_foes 20 = .ok (.iload_n 1, 1) := by decide +kernel
theorem dX11_foes_21 : decode cX11_foes 21 = .ok (.iaload, 1) := by decide +kernel
theorem dX11_foes_22 : decode cX11_foes 22 = .ok (.aload_n 0, 1) := by decide +kernel
theorem dX11_foes_23 : decode cX11_foes 23 = .ok (.getfield 40, 3) := by decide +kernel
theorem dX11_foes_26 : decode cX11_foes 26 = .ok (.getfield 162, 3) := by decide +kernel
theorem dX11_foes_29 : decode cX11_foes 29 = .ok (.iload_n 1, 1) := by decide +kernel
theorem dX11_foes_30 : decode cX11_foes 30 = .ok (.iaload, 1) := by decide +kernel
theorem dX11_foes_31 : decode cX11_foes 31 = .ok (.invokevirtual 248, 3) := by decide +kernel
theorem dX11_foes_34 : decode cX11_foes 34 = .ok (.goto 4, 3) := by decide +kernel
theorem dX11_foes_37 : decode cX11_foes 37 = .ok (.iconst (-1), 1) := by decide +kernel
theorem dX11_foes_38 : decode cX11_foes 38 = .ok (.ireturn, 1) := by decide +kernel
theorem dX11_reachOf_0 : decode cX11_reachOf 0 = .ok (.aload_n 0, 1) := by decide +kernel
theorem dX11_reachOf_1 : decode cX11_reachOf 1 = .ok (.getfield 44, 3) := by decide +kernel
theorem dX11_reachOf_4 : decode cX11_reachOf 4 = .ok (.aload_n 0, 1) := by decide +kernel
theorem dX11_reachOf_5 : decode cX11_reachOf 5 = .ok (.getfield 40, 3) := by decide +kernel
theorem dX11_reachOf_8 : decode cX11_reachOf 8 = .ok (.invokevirtual 226, 3) := by decide +kernel
theorem dX11_reachOf_11 : decode cX11_reachOf 11 = .ok (.aload_n 0, 1) := by decide +kernel
theorem dX11_reachOf_12 : decode cX11_reachOf 12 = .ok (.getfield 44, 3) := by decide +kernel
theorem dX11_reachOf_15 : decode cX11_reachOf 15 = .ok (.iload_n 1, 1) := by decide +kernel
theorem dX11_reachOf_16 : decode cX11_reachOf 16 = .ok (.iload_n 2, 1) := by decide +kernel
theorem dX11_reachOf_17 : decode cX11_reachOf 17 = .ok (.invokevirtual 254, 3) := by decide +kernel
theorem dX11_reachOf_20 : decode cX11_reachOf 20 = .ok (.ifCond .eq 5, 3) := by decide +kernel
theorem dX11_reachOf_23 : decode cX11_reachOf 23 = .ok (.iconst (-1), 1) := by decide +kernel
theorem dX11_reachOf_24 : decode cX11_reachOf 24 = .ok (.ireturn, 1) := by decide +kernel
theorem dX11_reachOf_25 : decode cX11_reachOf 25 = .ok (.aload_n 0, 1) := by decide +kernel
theorem dX11_reachOf_26 : decode cX11_reachOf 26 = .ok (.getfield 44, 3) := by decide +kernel
theorem dX11_reachOf_29 : decode cX11_reachOf 29 = .ok (.bipush 20, 2) := by decide +kernel
theorem dX11_reachOf_31 : decode cX11_reachOf 31 = .ok (.invokevirtual 229, 3) := by decide +kernel
theorem dX11_reachOf_34 : decode cX11_reachOf 34 = .ok (.pop, 1) := by decide +kernel
theorem dX11_reachOf_35 : decode cX11_reachOf 35 = .ok (.aload_n 0, 1) := by decide +kernel
theorem dX11_reachOf_36 : decode cX11_reachOf 36 = .ok (.getfield 44, 3) := by decide +kernel
theorem dX11_reachOf_39 : decode cX11_reachOf 39 = .ok (.iload_n 2, 1) := by decide +kernel
theorem dX11_reachOf_40 : decode cX11_reachOf 40 = .ok (.invokevirtual 203, 3) := by decide +kernel
theorem dX11_reachOf_43 : decode cX11_reachOf 43 = .ok (.ireturn, 1) := by decide +kernel
theorem dX11_reach_0 : decode cX11_reach 0 = .ok (.aload_n 0, 1) := by decide +kernel
theorem dX11_reach_1 : decode cX11_reach 1 = .ok (.iload_n 1, 1) := by decide +kernel
theorem dX11_reach_2 : decode cX11_reach 2 = .ok (.invokevirtual 147, 3) := by decide +kernel
theorem dX11_reach_5 : decode cX11_reach 5 = .ok (.ifCond .eq 20, 3) := by decide +kernel
theorem dX11_reach_8 : decode cX11_reach 8 = .ok (.aload_n 0, 1) := by decide +kernel
theorem dX11_reach_9 : decode cX11_reach 9 = .ok (.iload_n 2, 1) := by decide +kernel
theorem dX11_reach_10 : decode cX11_reach 10 = .ok (.invokevirtual 194, 3) := by decide +kernel
theorem dX11_reach_13 : decode cX11_reach 13 = .ok (.ifCond .eq 12, 3) := by decide +kernel
theorem dX11_reach_16 : decode cX11_reach 16 = .ok (.aload_n 0, 1) := by decide +kernel
theorem dX11_reach_17 : decode cX11_reach 17 = .ok (.iload_n 1, 1) := by decide +kernel
theorem dX11_reach_18 : decode cX11_reach 18 = .ok (.iload_n 2, 1) := by decide +kernel
theorem dX11_reach_19 : decode cX11_reach 19 = .ok (.invokevirtual 251, 3) := by decide +kernel
theorem dX11_reach_22 : decode cX11_reach 22 = .ok (.goto 4, 3) := by decide +kernel
theorem dX11_reach_25 : decode cX11_reach 25 = .ok (.iconst (-1), 1) := by decide +kernel
theorem dX11_reach_26 : decode cX11_reach 26 = .ok (.ireturn, 1) := by decide +kernel
theorem dX11_soon_0 : decode cX11_soon 0 = .ok (.aload_n 0, 1) := by decide +kernel
theorem dX11_soon_1 : decode cX11_soon 1 = .ok (.iload_n 1, 1) := by decide +kernel
theorem dX11_soon_2 : decode cX11_soon 2 = .ok (.invokevirtual 147, 3) := by decide +kernel
theorem dX11_soon_5 : decode cX11_soon 5 = .ok (.ifCond .eq 11, 3) := by decide +kernel
theorem dX11_soon_8 : decode cX11_soon 8 = .ok (.aload_n 0, 1) := by decide +kernel
theorem dX11_soon_9 : decode cX11_soon 9 = .ok (.iload_n 2, 1) := by decide +kernel
theorem dX11_soon_10 : decode cX11_soon 10 = .ok (.invokevirtual 194, 3) := by decide +kernel
theorem dX11_soon_13 : decode cX11_soon 13 = .ok (.ifCond .ne 5, 3) := by decide +kernel
theorem dX11_soon_16 : decode cX11_soon 16 = .ok (.iconst (-1), 1) := by decide +kernel
theorem dX11_soon_17 : decode cX11_soon 17 = .ok (.ireturn, 1) := by decide +kernel
theorem dX11_soon_18 : decode cX11_soon 18 = .ok (.aload_n 0, 1) := by decide +kernel
theorem dX11_soon_19 : decode cX11_soon 19 = .ok (.getfield 44, 3) := by decide +kernel
theorem dX11_soon_22 : decode cX11_soon 22 = .ok (.aload_n 0, 1) := by decide +kernel
theorem dX11_soon_23 : decode cX11_soon 23 = .ok (.getfield 40, 3) := by decide +kernel
theorem dX11_soon_26 : decode cX11_soon 26 = .ok (.invokevirtual 226, 3) := by decide +kernel
theorem dX11_soon_29 : decode cX11_soon 29 = .ok (.aload_n 0, 1) := by decide +kernel
theorem dX11_soon_30 : decode cX11_soon 30 = .ok (.getfield 44, 3) := by decide +kernel
theorem dX11_soon_33 : decode cX11_soon 33 = .ok (.iload_n 1, 1) := by decide +kernel
theorem dX11_soon_34 : decode cX11_soon 34 = .ok (.iload_n 2, 1) := by decide +kernel
theorem dX11_soon_35 : decode cX11_soon 35 = .ok (.invokevirtual 254, 3) := by decide +kernel
theorem dX11_soon_38 : decode cX11_soon 38 = .ok (.ifCond .eq 5, 3) := by decide +kernel
theorem dX11_soon_41 : decode cX11_soon 41 = .ok (.iconst (-1), 1) := by decide +kernel
theorem dX11_soon_42 : decode cX11_soon 42 = .ok (.ireturn, 1) := by decide +kernel
theorem dX11_soon_43 : decode cX11_soon 43 = .ok (.aload_n 0, 1) := by decide +kernel
theorem dX11_soon_44 : decode cX11_soon 44 = .ok (.getfield 28, 3) := by decide +kernel
theorem dX11_soon_47 : decode cX11_soon 47 = .ok (.iload_n 1, 1) := by decide +kernel
theorem dX11_soon_48 : decode cX11_soon 48 = .ok (.invokevirtual 257, 3) := by decide +kernel
theorem dX11_soon_51 : decode cX11_soon 51 = .ok (.istore_n 3, 1) := by decide +kernel
theorem dX11_soon_52 : decode cX11_soon 52 = .ok (.iconst 0, 1) := by decide +kernel
theorem dX11_soon_53 : decode cX11_soon 53 = .ok (.istore 4, 2) := by decide +kernel
theorem dX11_soon_55 : decode cX11_soon 55 = .ok (.iload 4, 2) := by decide +kernel
theorem dX11_soon_57 : decode cX11_soon 57 = .ok (.bipush 20, 2) := by decide +kernel
theorem dX11_soon_59 : decode cX11_soon 59 = .ok (.if_icmp .gt 39, 3) := by decide +kernel
theorem dX11_soon_62 : decode cX11_soon 62 = .ok (.aload_n 0, 1) := by decide +kernel
theorem dX11_soon_63 : decode cX11_soon 63 = .ok (.getfield 44, 3) := by decide +kernel
theorem dX11_soon_66 : decode cX11_soon 66 = .ok (.iload_n 2, 1) := by decide +kernel
theorem dX11_soon_67 : decode cX11_soon 67 = .ok (.invokevirtual 203, 3) := by decide +kernel
theorem dX11_soon_70 : decode cX11_soon 70 = .ok (.iload_n 3, 1) := by decide +kernel
theorem dX11_soon_71 : decode cX11_soon 71 = .ok (.iand, 1) := by decide +kernel
theorem dX11_soon_72 : decode cX11_soon 72 = .ok (.iload_n 3, 1) := by decide +kernel
theorem dX11_soon_73 : decode cX11_soon 73 = .ok (.if_icmp .ne 6, 3) := by decide +kernel
theorem dX11_soon_76 : decode cX11_soon 76 = .ok (.iload 4, 2) := by decide +kernel
theorem dX11_soon_78 : decode cX11_soon 78 = .ok (.ireturn, 1) := by decide +kernel
theorem dX11_soon_79 : decode cX11_soon 79 = .ok (.aload_n 0, 1) := by decide +kernel
theorem dX11_soon_80 : decode cX11_soon 80 = .ok (.getfield 44, 3) := by decide +kernel
theorem dX11_soon_83 : decode cX11_soon 83 = .ok (.iconst 1, 1) := by decide +kernel
theorem dX11_soon_84 : decode cX11_soon 84 = .ok (.invokevirtual 229, 3) := by decide +kernel
theorem dX11_soon_87 : decode cX11_soon 87 = .ok (.ifCond .ne 5, 3) := by decide +kernel
theorem dX11_soon_90 : decode cX11_soon 90 = .ok (.iconst (-1), 1) := by decide +kernel
theorem dX11_soon_91 : decode cX11_soon 91 = .ok (.ireturn, 1) := by decide +kernel
theorem dX11_soon_92 : decode cX11_soon 92 = .ok (.iinc 4 1, 3) := by decide +kernel
theorem dX11_soon_95 : decode cX11_soon 95 = .ok (.goto (-40), 3) := by decide +kernel
theorem dX11_soon_98 : decode cX11_soon 98 = .ok (.iconst (-1), 1) := by decide +kernel
theorem dX11_soon_99 : decode cX11_soon 99 = .ok (.ireturn, 1) := by decide +kernel
theorem dJ6_bitCount_0f7a4_0 : decode cJ6_bitCount_0f7a4 0 = .ok (.iload_n 0, 1) := by decide +kernel
theorem dJ6_bitCount_0f7a4_1 : decode cJ6_bitCount_0f7a4 1 = .ok (.iload_n 0, 1) := by decide +kernel
theorem dJ6_bitCount_0f7a4_2 : decode cJ6_bitCount_0f7a4 2 = .ok (.iconst 1, 1) := by decide +kernel
theorem dJ6_bitCount_0f7a4_3 : decode cJ6_bitCount_0f7a4 3 = .ok (.iushr, 1) := by decide +kernel
theorem dJ6_bitCount_0f7a4_4 : decode cJ6_bitCount_0f7a4 4 = .ok (.ldc_w 265, 3) := by decide +kernel
theorem dJ6_bitCount_0f7a4_7 : decode cJ6_bitCount_0f7a4 7 = .ok (.iand, 1) := by decide +kernel
theorem dJ6_bitCount_0f7a4_8 : decode cJ6_bitCount_0f7a4 8 = .ok (.isub, 1) := by decide +kernel
theorem dJ6_bitCount_0f7a4_9 : decode cJ6_bitCount_0f7a4 9 = .ok (.istore_n 0, 1) := by decide +kernel
theorem dJ6_bitCount_0f7a4_10 : decode cJ6_bitCount_0f7a4 10 = .ok (.iload_n 0, 1) := by decide +kernel
theorem dJ6_bitCount_0f7a4_11 : decode cJ6_bitCount_0f7a4 11 = .ok (.ldc_w 266, 3) := by decide +kernel
theorem dJ6_bitCount_0f7a4_14 : decode cJ6_bitCount_0f7a4 14 = .ok (.iand, 1) := by decide +kernel
theorem dJ6_bitCount_0f7a4_15 : decode cJ6_bitCount_0f7a4 15 = .ok (.iload_n 0, 1) := by decide +kernel
theorem dJ6_bitCount_0f7a4_16 : decode cJ6_bitCount_0f7a4 16 = .ok (.iconst 2, 1) := by decide +kernel
theorem dJ6_bitCount_0f7a4_17 : decode cJ6_bitCount_0f7a4 17 = .ok (.iushr, 1) := by decide +kernel
theorem dJ6_bitCount_0f7a4_18 : decode cJ6_bitCount_0f7a4 18 = .ok (.ldc_w 266, 3) := by decide +kernel
theorem dJ6_bitCount_0f7a4_21 : decode cJ6_bitCount_0f7a4 21 = .ok (.iand, 1) := by decide +kernel
theorem dJ6_bitCount_0f7a4_22 : decode cJ6_bitCount_0f7a4 22 = .ok (.iadd, 1) := by decide +kernel
theorem dJ6_bitCount_0f7a4_23 : decode cJ6_bitCount_0f7a4 23 = .ok (.istore_n 0, 1) := by decide +kernel
theorem dJ6_bitCount_0f7a4_24 : decode cJ6_bitCount_0f7a4 24 = .ok (.iload_n 0, 1) := by decide +kernel
theorem dJ6_bitCount_0f7a4_25 : decode cJ6_bitCount_0f7a4 25 = .ok (.iload_n 0, 1) := by decide +kernel
theorem dJ6_bitCount_0f7a4_26 : decode cJ6_bitCount_0f7a4 26 = .ok (.iconst 4, 1) := by decide +kernel
theorem dJ6_bitCount_0f7a4_27 : decode cJ6_bitCount_0f7a4 27 = .ok (.iushr, 1) := by decide +kernel
theorem dJ6_bitCount_0f7a4_28 : decode cJ6_bitCount_0f7a4 28 = .ok (.iadd, 1) := by decide +kernel
theorem dJ6_bitCount_0f7a4_29 : decode cJ6_bitCount_0f7a4 29 = .ok (.ldc_w 267, 3) := by decide +kernel
theorem dJ6_bitCount_0f7a4_32 : decode cJ6_bitCount_0f7a4 32 = .ok (.iand, 1) := by decide +kernel
theorem dJ6_bitCount_0f7a4_33 : decode cJ6_bitCount_0f7a4 33 = .ok (.istore_n 0, 1) := by decide +kernel
theorem dJ6_bitCount_0f7a4_34 : decode cJ6_bitCount_0f7a4 34 = .ok (.iload_n 0, 1) := by decide +kernel
theorem dJ6_bitCount_0f7a4_35 : decode cJ6_bitCount_0f7a4 35 = .ok (.iload_n 0, 1) := by decide +kernel
theorem dJ6_bitCount_0f7a4_36 : decode cJ6_bitCount_0f7a4 36 = .ok (.bipush 8, 2) := by decide +kernel
theorem dJ6_bitCount_0f7a4_38 : decode cJ6_bitCount_0f7a4 38 = .ok (.iushr, 1) := by decide +kernel
theorem dJ6_bitCount_0f7a4_39 : decode cJ6_bitCount_0f7a4 39 = .ok (.iadd, 1) := by decide +kernel
theorem dJ6_bitCount_0f7a4_40 : decode cJ6_bitCount_0f7a4 40 = .ok (.istore_n 0, 1) := by decide +kernel
theorem dJ6_bitCount_0f7a4_41 : decode cJ6_bitCount_0f7a4 41 = .ok (.iload_n 0, 1) := by decide +kernel
theorem dJ6_bitCount_0f7a4_42 : decode cJ6_bitCount_0f7a4 42 = .ok (.iload_n 0, 1) := by decide +kernel
theorem dJ6_bitCount_0f7a4_43 : decode cJ6_bitCount_0f7a4 43 = .ok (.bipush 16, 2) := by decide +kernel
theorem dJ6_bitCount_0f7a4_45 : decode cJ6_bitCount_0f7a4 45 = .ok (.iushr, 1) := by decide +kernel
theorem dJ6_bitCount_0f7a4_46 : decode cJ6_bitCount_0f7a4 46 = .ok (.iadd, 1) := by decide +kernel
theorem dJ6_bitCount_0f7a4_47 : decode cJ6_bitCount_0f7a4 47 = .ok (.istore_n 0, 1) := by decide +kernel
theorem dJ6_bitCount_0f7a4_48 : decode cJ6_bitCount_0f7a4 48 = .ok (.iload_n 0, 1) := by decide +kernel
theorem dJ6_bitCount_0f7a4_49 : decode cJ6_bitCount_0f7a4 49 = .ok (.bipush 63, 2) := by decide +kernel
theorem dJ6_bitCount_0f7a4_51 : decode cJ6_bitCount_0f7a4 51 = .ok (.iand, 1) := by decide +kernel
theorem dJ6_bitCount_0f7a4_52 : decode cJ6_bitCount_0f7a4 52 = .ok (.ireturn, 1) := by decide +kernel
theorem dX11_best_0 : decode cX11_best 0 = .ok (.aload_n 0, 1) := by decide +kernel
theorem dX11_best_1 : decode cX11_best 1 = .ok (.iload_n 1, 1) := by decide +kernel
theorem dX11_best_2 : decode cX11_best 2 = .ok (.invokevirtual 194, 3) := by decide +kernel
theorem dX11_best_5 : decode cX11_best 5 = .ok (.ifCond .ne 5, 3) := by decide +kernel
theorem dX11_best_8 : decode cX11_best 8 = .ok (.iconst (-1), 1) := by decide +kernel
theorem dX11_best_9 : decode cX11_best 9 = .ok (.ireturn, 1) := by decide +kernel
theorem dX11_best_10 : decode cX11_best 10 = .ok (.iconst (-1), 1) := by decide +kernel
theorem dX11_best_11 : decode cX11_best 11 = .ok (.istore_n 2, 1) := by decide +kernel
theorem dX11_best_12 : decode cX11_best 12 = .ok (.iconst (-1), 1) := by decide +kernel
theorem dX11_best_13 : decode cX11_best 13 = .ok (.istore_n 3, 1) := by decide +kernel
theorem dX11_best_14 : decode cX11_best 14 = .ok (.iconst 0, 1) := by decide +kernel
theorem dX11_best_15 : decode cX11_best 15 = .ok (.istore 4, 2) := by decide +kernel
theorem dX11_best_17 : decode cX11_best 17 = .ok (.iload 4, 2) := by decide +kernel
theorem dX11_best_19 : decode cX11_best 19 = .ok (.aload_n 0, 1) := by decide +kernel
theorem dX11_best_20 : decode cX11_best 20 = .ok (.getfield 28, 3) := by decide +kernel
theorem dX11_best_23 : decode cX11_best 23 = .ok (.getfield 132, 3) := by decide +kernel
theorem dX11_best_26 : decode cX11_best 26 = .ok (.if_icmp .ge 42, 3) := by decide +kernel
theorem dX11_best_29 : decode cX11_best 29 = .ok (.aload_n 0, 1) := by decide +kernel
theorem dX11_best_30 : decode cX11_best 30 = .ok (.iload 4, 2) := by decide +kernel
theorem dX11_best_32 : decode cX11_best 32 = .ok (.iload_n 1, 1) := by decide +kernel
theorem dX11_best_33 : decode cX11_best 33 = .ok (.invokevirtual 251, 3) := by decide +kernel
theorem dX11_best_36 : decode cX11_best 36 = .ok (.istore 5, 2) := by decide +kernel
theorem dX11_best_38 : decode cX11_best 38 = .ok (.iload 5, 2) := by decide +kernel
theorem dX11_best_40 : decode cX11_best 40 = .ok (.iconst (-1), 1) := by decide +kernel
theorem dX11_best_41 : decode cX11_best 41 = .ok (.if_icmp .eq 21, 3) := by decide +kernel
theorem dX11_best_44 : decode cX11_best 44 = .ok (.iload 5, 2) := by decide +kernel
theorem dX11_best_46 : decode cX11_best 46 = .ok (.invokestatic 260, 3) := by decide +kernel
theorem dX11_best_49 : decode cX11_best 49 = .ok (.iload_n 3, 1) := by decide +kernel
theorem dX11_best_50 : decode cX11_best 50 = .ok (.if_icmp .le 12, 3) := by decide +kernel
theorem dX11_best_53 : decode cX11_best 53 = .ok (.iload 4, 2) := by decide +kernel
theorem dX11_best_55 : decode cX11_best 55 = .ok (.istore_n 2, 1) := by decide +kernel
theorem dX11_best_56 : decode cX11_best 56 = .ok (.iload 5, 2) := by decide +kernel
theorem dX11_best_58 : decode cX11_best 58 = .ok (.invokestatic 260, 3) := by decide +kernel
theorem dX11_best_61 : decode cX11_best 61 = .ok (.istore_n 3, 1) := by decide +kernel
theorem dX11_best_62 : decode cX11_best 62 = .ok (.iinc 4 1, 3) := by decide +kernel
theorem dX11_best_65 : decode cX11_best 65 = .ok (.goto (-48), 3) := by decide +kernel
theorem dX11_best_68 : decode cX11_best 68 = .ok (.iload_n 2, 1) := by decide +kernel
theorem dX11_best_69 : decode cX11_best 69 = .ok (.ireturn, 1) := by decide +kernel
theorem dX11_stand_0 : decode cX11_stand 0 = .ok (.aload_n 0, 1) := by decide +kernel
theorem dX11_stand_1 : decode cX11_stand 1 = .ok (.iload_n 1, 1) := by decide +kernel
theorem dX11_stand_2 : decode cX11_stand 2 = .ok (.invokevirtual 147, 3) := by decide +kernel
theorem dX11_stand_5 : decode cX11_stand 5 = .ok (.ifCond .ne 5, 3) := by decide +kernel
theorem dX11_stand_8 : decode cX11_stand 8 = .ok (.iconst (-1), 1) := by decide +kernel
theorem dX11_stand_9 : decode cX11_stand 9 = .ok (.ireturn, 1) := by decide +kernel
theorem dX11_stand_10 : decode cX11_stand 10 = .ok (.iconst (-1), 1) := by decide +kernel
theorem dX11_stand_11 : decode cX11_stand 11 = .ok (.istore_n 2, 1) := by decide +kernel
theorem dX11_stand_12 : decode cX11_stand 12 = .ok (.iconst 0, 1) := by decide +kernel
theorem dX11_stand_13 : decode cX11_stand 13 = .ok (.istore_n 3, 1) := by decide +kernel
theorem dX11_stand_14 : decode cX11_stand 14 = .ok (.iconst 0, 1) := by decide +kernel
theorem dX11_stand_15 : decode cX11_stand 15 = .ok (.istore 4, 2) := by decide +kernel
theorem dX11_stand_17 : decode cX11_stand 17 = .ok (.iload 4, 2) := by decide +kernel
theorem dX11_stand_19 : decode cX11_stand 19 = .ok (.bipush 30, 2) := by decide +kernel
theorem dX11_stand_21 : decode cX11_stand 21 = .ok (.if_icmp .gt 102, 3) := by decide +kernel
theorem dX11_stand_24 : decode cX11_stand 24 = .ok (.iconst 0, 1) := by decide +kernel
theorem dX11_stand_25 : decode cX11_stand 25 = .ok (.istore 5, 2) := by decide +kernel
theorem dX11_stand_27 : decode cX11_stand 27 = .ok (.iload 5, 2) := by decide +kernel
theorem dX11_stand_29 : decode cX11_stand 29 = .ok (.bipush 30, 2) := by decide +kernel
theorem dX11_stand_31 : decode cX11_stand 31 = .ok (.if_icmp .gt 86, 3) := by decide +kernel
theorem dX11_stand_34 : decode cX11_stand 34 = .ok (.aload_n 0, 1) := by decide +kernel
theorem dX11_stand_35 : decode cX11_stand 35 = .ok (.getfield 40, 3) := by decide +kernel
theorem dX11_stand_38 : decode cX11_stand 38 = .ok (.iload_n 1, 1) := by decide +kernel
theorem dX11_stand_39 : decode cX11_stand 39 = .ok (.iload 5, 2) := by decide +kernel
theorem dX11_stand_41 : decode cX11_stand 41 = .ok (.iload 4, 2) := by decide +kernel
theorem dX11_stand_43 : decode cX11_stand 43 = .ok (.invokevirtual 265, 3) := by decide +kernel
theorem dX11_stand_46 : decode cX11_stand 46 = .ok (.istore 6, 2) := by decide +kernel
theorem dX11_stand_48 : decode cX11_stand 48 = .ok (.iload 5, 2) := by decide +kernel
theorem dX11_stand_50 : decode cX11_stand 50 = .ok (.iload 4, 2) := by decide +kernel
theorem dX11_stand_52 : decode cX11_stand 52 = .ok (.aload_n 0, 1) := by decide +kernel
theorem dX11_stand_53 : decode cX11_stand 53 = .ok (.getfield 40, 3) := by decide +kernel
theorem dX11_stand_56 : decode cX11_stand 56 = .ok (.getfield 158, 3) := by decide +kernel
theorem dX11_stand_59 : decode cX11_stand 59 = .ok (.iload_n 1, 1) := by decide +kernel
theorem dX11_stand_60 : decode cX11_stand 60 = .ok (.iaload, 1) := by decide +kernel
theorem dX11_stand_61 : decode cX11_stand 61 = .ok (.aload_n 0, 1) := by decide +kernel
theorem dX11_stand_62 : decode cX11_stand 62 = .ok (.getfield 40, 3) := by decide +kernel
theorem dX11_stand_65 : decode cX11_stand 65 = .ok (.getfield 162, 3) := by decide +kernel
theorem dX11_stand_68 : decode cX11_stand 68 = .ok (.iload_n 1, 1) := by decide +kernel
theorem dX11_stand_69 : decode cX11_stand 69 = .ok (.iaload, 1) := by decide +kernel
theorem dX11_stand_70 : decode cX11_stand 70 = .ok (.invokestatic 268, 3) := by decide +kernel
theorem dX11_stand_73 : decode cX11_stand 73 = .ok (.istore 7, 2) := by decide +kernel
theorem dX11_stand_75 : decode cX11_stand 75 = .ok (.iload 6, 2) := by decide +kernel
theorem dX11_stand_77 : decode cX11_stand 77 = .ok (.iload_n 2, 1) := by decide +kernel
theorem dX11_stand_78 : decode cX11_stand 78 = .ok (.if_icmp .gt 15, 3) := by decide +kernel
theorem dX11_stand_81 : decode cX11_stand 81 = .ok (.iload 6, 2) := by decide +kernel
theorem dX11_stand_83 : decode cX11_stand 83 = .ok (.iload_n 2, 1) := by decide +kernel
theorem dX11_stand_84 : decode cX11_stand 84 = .ok (.if_icmp .ne 27, 3) := by decide +kernel
theorem dX11_stand_87 : decode cX11_stand 87 = .ok (.iload 7, 2) := by decide +kernel
theorem dX11_stand_89 : decode cX11_stand 89 = .ok (.iload_n 3, 1) := by decide +kernel
theorem dX11_stand_90 : decode cX11_stand 90 = .ok (.if_icmp .ge 21, 3) := by decide +kernel
theorem dX11_stand_93 : decode cX11_stand 93 = .ok (.iload 6, 2) := by decide +kernel
theorem dX11_stand_95 : decode cX11_stand 95 = .ok (.istore_n 2, 1) := by decide +kernel
theorem dX11_stand_96 : decode cX11_stand 96 = .ok (.iload 7, 2) := by decide +kernel
theorem dX11_stand_98 : decode cX11_stand 98 = .ok (.istore_n 3, 1) := by decide +kernel
theorem dX11_stand_99 : decode cX11_stand 99 = .ok (.aload_n 0, 1) := by decide +kernel
theorem dX11_stand_100 : decode cX11_stand 100 = .ok (.iload 5, 2) := by decide +kernel
theorem dX11_stand_102 : decode cX11_stand 102 = .ok (.putfield 92, 3) := by decide +kernel
theorem dX11_stand_105 : decode cX11_stand 105 = .ok (.aload_n 0, 1) := by decide +kernel
theorem dX11_stand_106 : decode cX11_stand 106 = .ok (.iload 4, 2) := by decide +kernel
theorem dX11_stand_108 : decode cX11_stand 108 = .ok (.putfield 96, 3) := by decide +kernel
theorem dX11_stand_111 : decode cX11_stand 111 = .ok (.iinc 5 1, 3) := by decide +kernel
theorem dX11_stand_114 : decode cX11_stand 114 = .ok (.goto (-87), 3) := by decide +kernel
theorem dX11_stand_117 : decode cX11_stand 117 = .ok (.iinc 4 1, 3) := by decide +kernel
theorem dX11_stand_120 : decode cX11_stand 120 = .ok (.goto (-103), 3) := by decide +kernel
theorem dX11_stand_123 : decode cX11_stand 123 = .ok (.iload_n 2, 1) := by decide +kernel
theorem dX11_stand_124 : decode cX11_stand 124 = .ok (.ireturn, 1) := by decide +kernel
theorem dX11_hide_0 : decode cX11_hide 0 = .ok (.aload_n 0, 1) := by decide +kernel
theorem dX11_hide_1 : decode cX11_hide 1 = .ok (.iload_n 1, 1) := by decide +kernel
theorem dX11_hide_2 : decode cX11_hide 2 = .ok (.invokevirtual 147, 3) := by decide +kernel
theorem dX11_hide_5 : decode cX11_hide 5 = .ok (.ifCond .ne 5, 3) := by decide +kernel
theorem dX11_hide_8 : decode cX11_hide 8 = .ok (.iconst (-1), 1) := by decide +kernel
theorem dX11_hide_9 : decode cX11_hide 9 = .ok (.ireturn, 1) := by decide +kernel
theorem dX11_hide_10 : decode cX11_hide 10 = .ok (.iconst (-1), 1) := by decide +kernel
theorem dX11_hide_11 : decode cX11_hide 11 = .ok (.istore_n 2, 1) := by decide +kernel
theorem dX11_hide_12 : decode cX11_hide 12 = .ok (.iconst 0, 1) := by decide +kernel
theorem dX11_hide_13 : decode cX11_hide 13 = .ok (.istore_n 3, 1) := by decide +kernel
theorem dX11_hide_14 : decode cX11_hide 14 = .ok (.iload_n 3, 1) := by decide +kernel
theorem dX11_hide_15 : decode cX11_hide 15 = .ok (.bipush 30, 2) := by decide +kernel
theorem dX11_hide_17 : decode cX11_hide 17 = .ok (.if_icmp .gt 116, 3) := by decide +kernel
theorem dX11_hide_20 : decode cX11_hide 20 = .ok (.iconst 0, 1) := by decide +kernel
theorem dX11_hide_21 : decode cX11_hide 21 = .ok (.istore 4, 2) := by decide +kernel
theorem dX11_hide_23 : decode cX11_hide 23 = .ok (.iload 4, 2) := by decide +kernel
theorem dX11_hide_25 : decode cX11_hide 25 = .ok (.bipush 30, 2) := by decide +kernel
theorem dX11_hide_27 : decode cX11_hide 27 = .ok (.if_icmp .gt 100, 3) := by decide +kernel
theorem dX11_hide_30 : decode cX11_hide 30 = .ok (.iload 4, 2) := by decide +kernel
theorem dX11_hide_32 : decode cX11_hide 32 = .ok (.iload_n 3, 1) := by decide +kernel
theorem dX11_hide_33 : decode cX11_hide 33 = .ok (.aload_n 0, 1) := by decide +kernel
theorem dX11_hide_34 : decode cX11_hide 34 = .ok (.getfield 40, 3) := by decide +kernel
theorem dX11_hide_37 : decode cX11_hide 37 = .ok (.getfield 158, 3) := by decide +kernel
theorem dX11_hide_40 : decode cX11_hide 40 = .ok (.iload_n 1, 1) := by decide +kernel
theorem dX11_hide_41 : decode cX11_hide 41 = .ok (.iaload, 1) := by decide +kernel
theorem dX11_hide_42 : decode cX11_hide 42 = .ok (.aload_n 0, 1) := by decide +kernel
theorem dX11_hide_43 : decode cX11_hide 43 = .ok (.getfield 40, 3) := by decide +kernel
theorem dX11_hide_46 : decode cX11_hide 46 = .ok (.getfield 162, 3) := by decide +kernel
theorem dX11_hide_49 : decode cX11_hide 49 = .ok (.iload_n 1, 1) := by decide +kernel
theorem dX11_hide_50 : decode cX11_hide 50 = .ok (.iaload, 1) := by decide +kernel
theorem dX11_hide_51 : decode cX11_hide 51 = .ok (.invokestatic 268, 3) := by decide +kernel
theorem dX11_hide_54 : decode cX11_hide 54 = .ok (.istore 5, 2) := by decide +kernel
theorem dX11_hide_56 : decode cX11_hide 56 = .ok (.iload_n 2, 1) := by decide +kernel
theorem dX11_hide_57 : decode cX11_hide 57 = .ok (.iconst (-1), 1) := by decide +kernel
theorem dX11_hide_58 : decode cX11_hide 58 = .ok (.if_icmp .eq 9, 3) := by decide +kernel
theorem dX11_hide_61 : decode cX11_hide 61 = .ok (.iload 5, 2) := by decide +kernel
theorem dX11_hide_63 : decode cX11_hide 63 = .ok (.iload_n 2, 1) := by decide +kernel
theorem dX11_hide_64 : decode cX11_hide 64 = .ok (.if_icmp .ge 7, 3) := by decide +kernel
theorem dX11_hide_67 : decode cX11_hide 67 = .ok (.iconst 1, 1) := by decide +kernel
theorem dX11_hide_68 : decode cX11_hide 68 = .ok (.goto 4, 3) := by decide +kernel
theorem dX11_hide_71 : decode cX11_hide 71 = .ok (.iconst 0, 1) := by decide +kernel
theorem dX11_hide_72 : decode cX11_hide 72 = .ok (.istore 6, 2) := by decide +kernel
theorem dX11_hide_74 : decode cX11_hide 74 = .ok (.iload 6, 2) := by decide +kernel
theorem dX11_hide_76 : decode cX11_hide 76 = .ok (.ifCond .eq 45, 3) := by decide +kernel
theorem dX11_hide_79 : decode cX11_hide 79 = .ok (.aload_n 0, 1) := by decide +kernel
theorem dX11_hide_80 : decode cX11_hide 80 = .ok (.getfield 40, 3) := by decide +kernel
theorem dX11_hide_83 : decode cX11_hide 83 = .ok (.iload_n 1, 1) := by decide +kernel
theorem dX11_hide_84 : decode cX11_hide 84 = .ok (.iload 4, 2) := by decide +kernel
theorem dX11_hide_86 : decode cX11_hide 86 = .ok (.iload_n 3, 1) := by decide +kernel
theorem dX11_hide_87 : decode cX11_hide 87 = .ok (.invokevirtual 248, 3) := by decide +kernel
theorem dX11_hide_90 : decode cX11_hide 90 = .ok (.ifCond .ne 31, 3) := by decide +kernel
theorem dX11_hide_93 : decode cX11_hide 93 = .ok (.aload_n 0, 1) := by decide +kernel
theorem dX11_hide_94 : decode cX11_hide 94 = .ok (.getfield 40, 3) := by decide +kernel
theorem dX11_hide_97 : decode cX11_hide 97 = .ok (.iload_n 1, 1) := by decide +kernel
theorem dX11_hide_98 : decode cX11_hide 98 = .ok (.iload 4, 2) := by decide +kernel
theorem dX11_hide_100 : decode cX11_hide 100 = .ok (.iload_n 3, 1) := by decide +kernel
theorem dX11_hide_101 : decode cX11_hide 101 = .ok (.invokevirtual 265, 3) := by decide +kernel
theorem dX11_hide_104 : decode cX11_hide 104 = .ok (.ifCond .le 17, 3) := by decide +kernel
theorem dX11_hide_107 : decode cX11_hide 107 = .ok (.iload 5, 2) := by decide +kernel
theorem dX11_hide_109 : decode cX11_hide 109 = .ok (.istore_n 2, 1) := by decide +kernel
theorem dX11_hide_110 : decode cX11_hide 110 = .ok (.aload_n 0, 1) := by decide +kernel
theorem dX11_hide_111 : decode cX11_hide 111 = .ok (.iload 4, 2) := by decide +kernel
theorem dX11_hide_113 : decode cX11_hide 113 = .ok (.putfield 92, 3) := by decide +kernel
theorem dX11_hide_116 : decode cX11_hide 116 = .ok (.aload_n 0, 1) := by decide +kernel
theorem dX11_hide_117 : decode cX11_hide 117 = .ok (.iload_n 3, 1) := by decide +kernel
theorem dX11_hide_118 : decode cX11_hide 118 = .ok (.putfield 96, 3) := by decide +kernel
theorem dX11_hide_121 : decode cX11_hide 121 = .ok (.iinc 4 1, 3) := by decide +kernel
theorem dX11_hide_124 : decode cX11_hide 124 = .ok (.goto (-101), 3) := by decide +kernel
theorem dX11_hide_127 : decode cX11_hide 127 = .ok (.iinc 3 1, 3) := by decide +kernel
theorem dX11_hide_130 : decode cX11_hide 130 = .ok (.goto (-116), 3) := by decide +kernel
theorem dX11_hide_133 : decode cX11_hide 133 = .ok (.iload_n 2, 1) := by decide +kernel
theorem dX11_hide_134 : decode cX11_hide 134 = .ok (.ireturn, 1) := by decide +kernel
theorem dX11_cell_0 : decode cX11_cell 0 = .ok (.iload_n 1, 1) := by decide +kernel
theorem dX11_cell_1 : decode cX11_cell 1 = .ok (.lookupswitch 37 #[(0, 27), (1, 32)], 27) := by decide +kernel
theorem dX11_cell_28 : decode cX11_cell 28 = .ok (.aload_n 0, 1) := by decide +kernel
theorem dX11_cell_29 : decode cX11_cell 29 = .ok (.getfield 92, 3) := by decide +kernel
theorem dX11_cell_32 : decode cX11_cell 32 = .ok (.ireturn, 1) := by decide +kernel
theorem dX11_cell_33 : decode cX11_cell 33 = .ok (.aload_n 0, 1) := by decide +kernel
theorem dX11_cell_34 : decode cX11_cell 34 = .ok (.getfield 96, 3) := by decide +kernel
theorem dX11_cell_37 : decode cX11_cell 37 = .ok (.ireturn, 1) := by decide +kernel
theorem dX11_cell_38 : decode cX11_cell 38 = .ok (.iconst (-1), 1) := by decide +kernel
theorem dX11_cell_39 : decode cX11_cell 39 = .ok (.ireturn, 1) := by decide +kernel
theorem dX11_meant_0 : decode cX11_meant 0 = .ok (.aload_n 0, 1) := by decide +kernel
theorem dX11_meant_1 : decode cX11_meant 1 = .ok (.getfield 81, 3) := by decide +kernel
theorem dX11_meant_4 : decode cX11_meant 4 = .ok (.aload_n 0, 1) := by decide +kernel
theorem dX11_meant_5 : decode cX11_meant 5 = .ok (.getfield 12, 3) := by decide +kernel
theorem dX11_meant_8 : decode cX11_meant 8 = .ok (.aload_n 0, 1) := by decide +kernel
theorem dX11_meant_9 : decode cX11_meant 9 = .ok (.getfield 28, 3) := by decide +kernel
theorem dX11_meant_12 : decode cX11_meant 12 = .ok (.invokevirtual 272, 3) := by decide +kernel
theorem dX11_meant_15 : decode cX11_meant 15 = .ok (.istore_n 1, 1) := by decide +kernel
theorem dX11_meant_16 : decode cX11_meant 16 = .ok (.aload_n 0, 1) := by decide +kernel
theorem dX11_meant_17 : decode cX11_meant 17 = .ok (.getfield 12, 3) := by decide +kernel
theorem dX11_meant_20 : decode cX11_meant 20 = .ok (.iconst 0, 1) := by decide +kernel
theorem dX11_meant_21 : decode cX11_meant 21 = .ok (.putfield 102, 3) := by decide +kernel
theorem dX11_meant_24 : decode cX11_meant 24 = .ok (.iload_n 1, 1) := by decide +kernel
theorem dX11_meant_25 : decode cX11_meant 25 = .ok (.ireturn, 1) := by decide +kernel
theorem dX11_wrong_0 : decode cX11_wrong 0 = .ok (.aload_n 0, 1) := by decide +kernel
theorem dX11_wrong_1 : decode cX11_wrong 1 = .ok (.getfield 81, 3) := by decide +kernel
theorem dX11_wrong_4 : decode cX11_wrong 4 = .ok (.getfield 276, 3) := by decide +kernel
theorem dX11_wrong_7 : decode cX11_wrong 7 = .ok (.ireturn, 1) := by decide +kernel
theorem dX11_look_0 : decode cX11_look 0 = .ok (.aload_n 0, 1) := by decide +kernel
theorem dX11_look_1 : decode cX11_look 1 = .ok (.getfield 81, 3) := by decide +kernel
theorem dX11_look_4 : decode cX11_look 4 = .ok (.getfield 279, 3) := by decide +kernel
theorem dX11_look_7 : decode cX11_look 7 = .ok (.ireturn, 1) := by decide +kernel
theorem dX11_code_0 : decode cX11_code 0 = .ok (.aload_n 0, 1) := by decide +kernel
theorem dX11_code_1 : decode cX11_code 1 = .ok (.getfield 28, 3) := by decide +kernel
theorem dX11_code_4 : decode cX11_code 4 = .ok (.invokevirtual 282, 3) := by decide +kernel
theorem dX11_code_7 : decode cX11_code 7 = .ok (.ireturn, 1) := by decide +kernel
theorem dX11_faceToAsk_0 : decode cX11_faceToAsk 0 = .ok (.iconst (-1), 1) := by decide +kernel
theorem dX11_faceToAsk_1 : decode cX11_faceToAsk 1 = .ok (.istore_n 2, 1) := by decide +kernel
theorem dX11_faceToAsk_2 : decode cX11_faceToAsk 2 = .ok (.iconst 0, 1) := by decide +kernel
theorem dX11_faceToAsk_3 : decode cX11_faceToAsk 3 = .ok (.istore_n 3, 1) := by decide +kernel
theorem dX11_faceToAsk_4 : decode cX11_faceToAsk 4 = .ok (.iconst 0, 1) := by decide +kernel
theorem dX11_faceToAsk_5 : decode cX11_faceToAsk 5 = .ok (.istore 4, 2) := by decide +kernel
theorem dX11_faceToAsk_7 : decode cX11_faceToAsk 7 = .ok (.iload 4, 2) := by decide +kernel
theorem dX11_faceToAsk_9 : decode cX11_faceToAsk 9 = .ok (.aload_n 0, 1) := by decide +kernel
theorem dX11_faceToAsk_10 : decode cX11_faceToAsk 10 = .ok (.getfield 28, 3) := by decide +kernel
theorem dX11_faceToAsk_13 : decode cX11_faceToAsk 13 = .ok (.getfield 132, 3) := by decide +kernel
theorem dX11_faceToAsk_16 : decode cX11_faceToAsk 16 = .ok (.if_icmp .ge 114, 3) := by decide +kernel
theorem dX11_faceToAsk_19 : decode cX11_faceToAsk 19 = .ok (.iconst 0, 1) := by decide +kernel
theorem dX11_faceToAsk_20 : decode cX11_faceToAsk 20 = .ok (.istore 5, 2) := by decide +kernel
theorem dX11_faceToAsk_22 : decode cX11_faceToAsk 22 = .ok (.iconst 0, 1) := by decide +kernel
theorem dX11_faceToAsk_23 : decode cX11_faceToAsk 23 = .ok (.istore 6, 2) := by decide +kernel
theorem dX11_faceToAsk_25 : decode cX11_faceToAsk 25 = .ok (.iconst 0, 1) := by decide +kernel
theorem dX11_faceToAsk_26 : decode cX11_faceToAsk 26 = .ok (.istore 7, 2) := by decide +kernel
theorem dX11_faceToAsk_28 : decode cX11_faceToAsk 28 = .ok (.iload 7, 2) := by decide +kernel
theorem dX11_faceToAsk_30 : decode cX11_faceToAsk 30 = .ok (.aload_n 0, 1) := by decide +kernel
theorem dX11_faceToAsk_31 : decode cX11_faceToAsk 31 = .ok (.getfield 28, 3) := by decide +kernel
theorem dX11_faceToAsk_34 : decode cX11_faceToAsk 34 = .ok (.getfield 132, 3) := by decide +kernel
theorem dX11_faceToAsk_37 : decode cX11_faceToAsk 37 = .ok (.if_icmp .ge 60, 3) := by decide +kernel
theorem dX11_faceToAsk_40 : decode cX11_faceToAsk 40 = .ok (.iload_n 1, 1) := by decide +kernel
theorem dX11_faceToAsk_41 : decode cX11_faceToAsk 41 = .ok (.iload 7, 2) := by decide +kernel
theorem dX11_faceToAsk_43 : decode cX11_faceToAsk 43 = .ok (.invokestatic 172, 3) := by decide +kernel
theorem dX11_faceToAsk_46 : decode cX11_faceToAsk 46 = .ok (.iconst 1, 1) := by decide +kernel
theorem dX11_faceToAsk_47 : decode cX11_faceToAsk 47 = .ok (.if_icmp .ne 44, 3) := by decide +kernel
theorem dX11_faceToAsk_50 : decode cX11_faceToAsk 50 = .ok (.aload_n 0, 1) := by decide +kernel
theorem dX11_faceToAsk_51 : decode cX11_faceToAsk 51 = .ok (.getfield 40, 3) := by decide +kernel
theorem dX11_faceToAsk_54 : decode cX11_faceToAsk 54 = .ok (.iload 7, 2) := by decide +kernel
theorem dX11_faceToAsk_56 : decode cX11_faceToAsk 56 = .ok (.aload_n 0, 1) := by decide +kernel
theorem dX11_faceToAsk_57 : decode cX11_faceToAsk 57 = .ok (.getfield 40, 3) := by decide +kernel
theorem dX11_faceToAsk_60 : decode cX11_faceToAsk 60 = .ok (.iload 7, 2) := by decide +kernel
theorem dX11_faceToAsk_62 : decode cX11_faceToAsk 62 = .ok (.invokevirtual 242, 3) := by decide +kernel
theorem dX11_faceToAsk_65 : decode cX11_faceToAsk 65 = .ok (.invokevirtual 245, 3) := by decide +kernel
theorem dX11_faceToAsk_68 : decode cX11_faceToAsk 68 = .ok (.iload 4, 2) := by decide +kernel
theorem dX11_faceToAsk_70 : decode cX11_faceToAsk 70 = .ok (.invokestatic 172, 3) := by decide +kernel
theorem dX11_faceToAsk_73 : decode cX11_faceToAsk 73 = .ok (.istore 8, 2) := by decide +kernel
theorem dX11_faceToAsk_75 : decode cX11_faceToAsk 75 = .ok (.iload 5, 2) := by decide +kernel
theorem dX11_faceToAsk_77 : decode cX11_faceToAsk 77 = .ok (.iload 8, 2) := by decide +kernel
theorem dX11_faceToAsk_79 : decode cX11_faceToAsk 79 = .ok (.iadd, 1) := by decide +kernel
theorem dX11_faceToAsk_80 : decode cX11_faceToAsk 80 = .ok (.istore 5, 2) := by decide +kernel
theorem dX11_faceToAsk_82 : decode cX11_faceToAsk 82 = .ok (.iload 6, 2) := by decide +kernel
theorem dX11_faceToAsk_84 : decode cX11_faceToAsk 84 = .ok (.iconst 1, 1) := by decide +kernel
theorem dX11_faceToAsk_85 : decode cX11_faceToAsk 85 = .ok (.iload 8, 2) := by decide +kernel
theorem dX11_faceToAsk_87 : decode cX11_faceToAsk 87 = .ok (.isub, 1) := by decide +kernel
theorem dX11_faceToAsk_88 : decode cX11_faceToAsk 88 = .ok (.iadd, 1) := by decide +kernel
theorem dX11_faceToAsk_89 : decode cX11_faceToAsk 89 = .ok (.istore 6, 2) := by decide +kernel
theorem dX11_faceToAsk_91 : decode cX11_faceToAsk 91 = .ok (.iinc 7 1, 3) := by decide +kernel
theorem dX11_faceToAsk_94 : decode cX11_faceToAsk 94 = .ok (.goto (-66), 3) := by decide +kernel
theorem dX11_faceToAsk_97 : decode cX11_faceToAsk 97 = .ok (.iload 5, 2) := by decide +kernel
theorem dX11_faceToAsk_99 : decode cX11_faceToAsk 99 = .ok (.iload 6, 2) := by decide +kernel
theorem dX11_faceToAsk_101 : decode cX11_faceToAsk 101 = .ok (.isub, 1) := by decide +kernel
theorem dX11_faceToAsk_102 : decode cX11_faceToAsk 102 = .ok (.invokestatic 377, 3) := by decide +kernel
theorem dX11_faceToAsk_105 : decode cX11_faceToAsk 105 = .ok (.istore 7, 2) := by decide +kernel
theorem dX11_faceToAsk_107 : decode cX11_faceToAsk 107 = .ok (.iload_n 2, 1) := by decide +kernel
theorem dX11_faceToAsk_108 : decode cX11_faceToAsk 108 = .ok (.iconst (-1), 1) := by decide +kernel
theorem dX11_faceToAsk_109 : decode cX11_faceToAsk 109 = .ok (.if_icmp .eq 9, 3) := by decide +kernel
theorem dX11_faceToAsk_112 : decode cX11_faceToAsk 112 = .ok (.iload 7, 2) := by decide +kernel
theorem dX11_faceToAsk_114 : decode cX11_faceToAsk 114 = .ok (.iload_n 3, 1) := by decide +kernel
theorem dX11_faceToAsk_115 : decode cX11_faceToAsk 115 = .ok (.if_icmp .ge 9, 3) := by decide +kernel
theorem dX11_faceToAsk_118 : decode cX11_faceToAsk 118 = .ok (.iload 4, 2) := by decide +kernel
theorem dX11_faceToAsk_120 : decode cX11_faceToAsk 120 = .ok (.istore_n 2, 1) := by decide +kernel
theorem dX11_faceToAsk_121 : decode cX11_faceToAsk 121 = .ok (.iload 7, 2) := by decide +kernel
theorem dX11_faceToAsk_123 : decode cX11_faceToAsk 123 = .ok (.istore_n 3, 1) := by decide +kernel
theorem dX11_faceToAsk_124 : decode cX11_faceToAsk 124 = .ok (.iinc 4 1, 3) := by decide +kernel
theorem dX11_faceToAsk_127 : decode cX11_faceToAsk 127 = .ok (.goto (-120), 3) := by decide +kernel
theorem dX11_faceToAsk_130 : decode cX11_faceToAsk 130 = .ok (.iload_n 2, 1) := by decide +kernel
theorem dX11_faceToAsk_131 : decode cX11_faceToAsk 131 = .ok (.ireturn, 1) := by decide +kernel
theorem dX11_isScratchTape_0 : decode cX11_isScratchTape 0 = .ok (.aload_n 0, 1) := by decide +kernel
theorem dX11_isScratchTape_1 : decode cX11_isScratchTape 1 = .ok (.getfield 12, 3) := by decide +kernel
theorem dX11_isScratchTape_4 : decode cX11_isScratchTape 4 = .ok (.bipush 8, 2) := by decide +kernel
theorem dX11_isScratchTape_6 : decode cX11_isScratchTape 6 = .ok (.invokevirtual 373, 3) := by decide +kernel
theorem dX11_isScratchTape_9 : decode cX11_isScratchTape 9 = .ok (.ifCond .ne 5, 3) := by decide +kernel
theorem dX11_isScratchTape_12 : decode cX11_isScratchTape 12 = .ok (.iconst 0, 1) := by decide +kernel
theorem dX11_isScratchTape_13 : decode cX11_isScratchTape 13 = .ok (.ireturn, 1) := by decide +kernel
theorem dX11_isScratchTape_14 : decode cX11_isScratchTape 14 = .ok (.iconst 0, 1) := by decide +kernel
theorem dX11_isScratchTape_15 : decode cX11_isScratchTape 15 = .ok (.istore_n 1, 1) := by decide +kernel
theorem dX11_isScratchTape_16 : decode cX11_isScratchTape 16 = .ok (.iload_n 1, 1) := by decide +kernel
theorem dX11_isScratchTape_17 : decode cX11_isScratchTape 17 = .ok (.iconst 1, 1) := by decide +kernel
theorem dX11_isScratchTape_18 : decode cX11_isScratchTape 18 = .ok (.iadd, 1) := by decide +kernel
theorem dX11_isScratchTape_19 : decode cX11_isScratchTape 19 = .ok (.aload_n 0, 1) := by decide +kernel
theorem dX11_isScratchTape_20 : decode cX11_isScratchTape 20 = .ok (.getfield 12, 3) := by decide +kernel
theorem dX11_isScratchTape_23 : decode cX11_isScratchTape 23 = .ok (.getfield 102, 3) := by decide +kernel
theorem dX11_isScratchTape_26 : decode cX11_isScratchTape 26 = .ok (.if_icmp .ge 45, 3) := by decide +kernel
theorem dX11_isScratchTape_29 : decode cX11_isScratchTape 29 = .ok (.aload_n 0, 1) := by decide +kernel
theorem dX11_isScratchTape_30 : decode cX11_isScratchTape 30 = .ok (.getfield 12, 3) := by decide +kernel
theorem dX11_isScratchTape_33 : decode cX11_isScratchTape 33 = .ok (.getfield 376, 3) := by decide +kernel
theorem dX11_isScratchTape_36 : decode cX11_isScratchTape 36 = .ok (.iload_n 1, 1) := by decide +kernel
theorem dX11_isScratchTape_37 : decode cX11_isScratchTape 37 = .ok (.iaload, 1) := by decide +kernel
theorem dX11_isScratchTape_38 : decode cX11_isScratchTape 38 = .ok (.aload_n 0, 1) := by decide +kernel
theorem dX11_isScratchTape_39 : decode cX11_isScratchTape 39 = .ok (.getfield 28, 3) := by decide +kernel
theorem dX11_isScratchTape_42 : decode cX11_isScratchTape 42 = .ok (.getfield 132, 3) := by decide +kernel
theorem dX11_isScratchTape_45 : decode cX11_isScratchTape 45 = .ok (.if_icmp .ge 18, 3) := by decide +kernel
theorem dX11_isScratchTape_48 : decode cX11_isScratchTape 48 = .ok (.aload_n 0, 1) := by decide +kernel
theorem dX11_isScratchTape_49 : decode cX11_isScratchTape 49 = .ok (.getfield 12, 3) := by decide +kernel
theorem dX11_isScratchTape_52 : decode cX11_isScratchTape 52 = .ok (.getfield 376, 3) := by decide +kernel
theorem dX11_isScratchTape_55 : decode cX11_isScratchTape 55 = .ok (.iload_n 1, 1) := by decide +kernel
theorem dX11_isScratchTape_56 : decode cX11_isScratchTape 56 = .ok (.iconst 1, 1) := by decide +kernel
theorem dX11_isScratchTape_57 : decode cX11_isScratchTape 57 = .ok (.iadd, 1) := by decide +kernel
theorem dX11_isScratchTape_58 : decode cX11_isScratchTape 58 = .ok (.iaload, 1) := by decide +kernel
theorem dX11_isScratchTape_59 : decode cX11_isScratchTape 59 = .ok (.iconst 1, 1) := by decide +kernel
theorem dX11_isScratchTape_60 : decode cX11_isScratchTape 60 = .ok (.if_icmp .le 5, 3) := by decide +kernel
theorem dX11_isScratchTape_63 : decode cX11_isScratchTape 63 = .ok (.iconst 0, 1) := by decide +kernel
theorem dX11_isScratchTape_64 : decode cX11_isScratchTape 64 = .ok (.ireturn, 1) := by decide +kernel
theorem dX11_isScratchTape_65 : decode cX11_isScratchTape 65 = .ok (.iinc 1 2, 3) := by decide +kernel
theorem dX11_isScratchTape_68 : decode cX11_isScratchTape 68 = .ok (.goto (-52), 3) := by decide +kernel
theorem dX11_isScratchTape_71 : decode cX11_isScratchTape 71 = .ok (.iconst 1, 1) := by decide +kernel
theorem dX11_isScratchTape_72 : decode cX11_isScratchTape 72 = .ok (.ireturn, 1) := by decide +kernel
theorem dX11_scratchers_0 : decode cX11_scratchers 0 = .ok (.iconst 0, 1) := by decide +kernel
theorem dX11_scratchers_1 : decode cX11_scratchers 1 = .ok (.istore_n 1, 1) := by decide +kernel
theorem dX11_scratchers_2 : decode cX11_scratchers 2 = .ok (.iconst 0, 1) := by decide +kernel
theorem dX11_scratchers_3 : decode cX11_scratchers 3 = .ok (.istore_n 2, 1) := by decide +kernel
theorem dX11_scratchers_4 : decode cX11_scratchers 4 = .ok (.iload_n 2, 1) := by decide +kernel
theorem dX11_scratchers_5 : decode cX11_scratchers 5 = .ok (.aload_n 0, 1) := by decide +kernel
theorem dX11_scratchers_6 : decode cX11_scratchers 6 = .ok (.getfield 28, 3) := by decide +kernel
theorem dX11_scratchers_9 : decode cX11_scratchers 9 = .ok (.getfield 132, 3) := by decide +kernel
theorem dX11_scratchers_12 : decode cX11_scratchers 12 = .ok (.if_icmp .ge 104, 3) := by decide +kernel
theorem dX11_scratchers_15 : decode cX11_scratchers 15 = .ok (.aload_n 0, 1) := by decide +kernel
theorem dX11_scratchers_16 : decode cX11_scratchers 16 = .ok (.getfield 40, 3) := by decide +kernel
theorem dX11_scratchers_19 : decode cX11_scratchers 19 = .ok (.iload_n 2, 1) := by decide +kernel
theorem dX11_scratchers_20 : decode cX11_scratchers 20 = .ok (.aload_n 0, 1) := by decide +kernel
theorem dX11_scratchers_21 : decode cX11_scratchers 21 = .ok (.getfield 40, 3) := by decide +kernel
theorem dX11_scratchers_24 : decode cX11_scratchers 24 = .ok (.iload_n 2, 1) := by decide +kernel
theorem dX11_scratchers_25 : decode cX11_scratchers 25 = .ok (.invokevirtual 242, 3) := by decide +kernel
theorem dX11_scratchers_28 : decode cX11_scratchers 28 = .ok (.invokevirtual 245, 3) := by decide +kernel
theorem dX11_scratchers_31 : decode cX11_scratchers 31 = .ok (.istore_n 3, 1) := by decide +kernel
theorem dX11_scratchers_32 : decode cX11_scratchers 32 = .ok (.iconst 1, 1) := by decide +kernel
theorem dX11_scratchers_33 : decode cX11_scratchers 33 = .ok (.istore 4, 2) := by decide +kernel
theorem dX11_scratchers_35 : decode cX11_scratchers 35 = .ok (.iconst 0, 1) := by decide +kernel
theorem dX11_scratchers_36 : decode cX11_scratchers 36 = .ok (.istore 5, 2) := by decide +kernel
theorem dX11_scratchers_38 : decode cX11_scratchers 38 = .ok (.iload 5, 2) := by decide +kernel
theorem dX11_scratchers_40 : decode cX11_scratchers 40 = .ok (.iconst 1, 1) := by decide +kernel
theorem dX11_scratchers_41 : decode cX11_scratchers 41 = .ok (.iadd, 1) := by decide +kernel
theorem dX11_scratchers_42 : decode cX11_scratchers 42 = .ok (.aload_n 0, 1) := by decide +kernel
theorem dX11_scratchers_43 : decode cX11_scratchers 43 = .ok (.getfield 12, 3) := by decide +kernel
theorem dX11_scratchers_46 : decode cX11_scratchers 46 = .ok (.getfield 102, 3) := by decide +kernel
theorem dX11_scratchers_49 : decode cX11_scratchers 49 = .ok (.if_icmp .ge 50, 3) := by decide +kernel
theorem dX11_scratchers_52 : decode cX11_scratchers 52 = .ok (.iload 4, 2) := by decide +kernel
theorem dX11_scratchers_54 : decode cX11_scratchers 54 = .ok (.ifCond .eq 36, 3) := by decide +kernel
theorem dX11_scratchers_57 : decode cX11_scratchers 57 = .ok (.iload_n 3, 1) := by decide +kernel
theorem dX11_scratchers_58 : decode cX11_scratchers 58 = .ok (.aload_n 0, 1) := by decide +kernel
theorem dX11_scratchers_59 : decode cX11_scratchers 59 = .ok (.getfield 12, 3) := by decide +kernel
theorem dX11_scratchers_62 : decode cX11_scratchers 62 = .ok (.getfield 376, 3) := by decide +kernel
theorem dX11_scratchers_65 : decode cX11_scratchers 65 = .ok (.iload 5, 2) := by decide +kernel
theorem dX11_scratchers_67 : decode cX11_scratchers 67 = .ok (.iaload, 1) := by decide +kernel
theorem dX11_scratchers_68 : decode cX11_scratchers 68 = .ok (.invokestatic 172, 3) := by decide +kernel
theorem dX11_scratchers_71 : decode cX11_scratchers 71 = .ok (.aload_n 0, 1) := by decide +kernel
theorem dX11_scratchers_72 : decode cX11_scratchers 72 = .ok (.getfield 12, 3) := by decide +kernel
theorem dX11_scratchers_75 : decode cX11_scratchers 75 = .ok (.getfield 376, 3) := by decide +kernel
theorem dX11_scratchers_78 : decode cX11_scratchers 78 = .ok (.iload 5, 2) := by decide +kernel
theorem dX11_scratchers_80 : decode cX11_scratchers 80 = .ok (.iconst 1, 1) := by decide +kernel
theorem dX11_scratchers_81 : decode cX11_scratchers 81 = .ok (.iadd, 1) := by decide +kernel
theorem dX11_scratchers_82 : decode cX11_scratchers 82 = .ok (.iaload, 1) := by decide +kernel
theorem dX11_scratchers_83 : decode cX11_scratchers 83 = .ok (.if_icmp .ne 7, 3) := by decide +kernel
theorem dX11_scratchers_86 : decode cX11_scratchers 86 = .ok (.iconst 1, 1) := by decide +kernel
theorem dX11_scratchers_87 : decode cX11_scratchers 87 = .ok (.goto 4, 3) := by decide +kernel
theorem dX11_scratchers_90 : decode cX11_scratchers 90 = .ok (.iconst 0, 1) := by decide +kernel
theorem dX11_scratchers_91 : decode cX11_scratchers 91 = .ok (.istore 4, 2) := by decide +kernel
theorem dX11_scratchers_93 : decode cX11_scratchers 93 = .ok (.iinc 5 2, 3) := by decide +kernel
theorem dX11_scratchers_96 : decode cX11_scratchers 96 = .ok (.goto (-58), 3) := by decide +kernel
theorem dX11_scratchers_99 : decode cX11_scratchers 99 = .ok (.iload 4, 2) := by decide +kernel
theorem dX11_scratchers_101 : decode cX11_scratchers 101 = .ok (.ifCond .eq 9, 3) := by decide +kernel
theorem dX11_scratchers_104 : decode cX11_scratchers 104 = .ok (.iload_n 1, 1) := by decide +kernel
theorem dX11_scratchers_105 : decode cX11_scratchers 105 = .ok (.iconst 1, 1) := by decide +kernel
theorem dX11_scratchers_106 : decode cX11_scratchers 106 = .ok (.iload_n 2, 1) := by decide +kernel
theorem dX11_scratchers_107 : decode cX11_scratchers 107 = .ok (.ishl, 1) := by decide +kernel
theorem dX11_scratchers_108 : decode cX11_scratchers 108 = .ok (.ior, 1) := by decide +kernel
theorem dX11_scratchers_109 : decode cX11_scratchers 109 = .ok (.istore_n 1, 1) := by decide +kernel
theorem dX11_scratchers_110 : decode cX11_scratchers 110 = .ok (.iinc 2 1, 3) := by decide +kernel
theorem dX11_scratchers_113 : decode cX11_scratchers 113 = .ok (.goto (-109), 3) := by decide +kernel
theorem dX11_scratchers_116 : decode cX11_scratchers 116 = .ok (.iload_n 1, 1) := by decide +kernel
theorem dX11_scratchers_117 : decode cX11_scratchers 117 = .ok (.ireturn, 1) := by decide +kernel
theorem dX11_scratch_0 : decode cX11_scratch 0 = .ok (.aload_n 0, 1) := by decide +kernel
theorem dX11_scratch_1 : decode cX11_scratch 1 = .ok (.invokevirtual 285, 3) := by decide +kernel
theorem dX11_scratch_4 : decode cX11_scratch 4 = .ok (.ifCond .eq 10, 3) := by decide +kernel
theorem dX11_scratch_7 : decode cX11_scratch 7 = .ok (.aload_n 0, 1) := by decide +kernel
theorem dX11_scratch_8 : decode cX11_scratch 8 = .ok (.invokevirtual 289, 3) := by decide +kernel
theorem dX11_scratch_11 : decode cX11_scratch 11 = .ok (.goto 4, 3) := by decide +kernel
theorem dX11_scratch_14 : decode cX11_scratch 14 = .ok (.iconst (-1), 1) := by decide +kernel
theorem dX11_scratch_15 : decode cX11_scratch 15 = .ok (.istore_n 1, 1) := by decide +kernel
theorem dX11_scratch_16 : decode cX11_scratch 16 = .ok (.aload_n 0, 1) := by decide +kernel
theorem dX11_scratch_17 : decode cX11_scratch 17 = .ok (.getfield 12, 3) := by decide +kernel
theorem dX11_scratch_20 : decode cX11_scratch 20 = .ok (.iconst 0, 1) := by decide +kernel
theorem dX11_scratch_21 : decode cX11_scratch 21 = .ok (.putfield 102, 3) := by decide +kernel
theorem dX11_scratch_24 : decode cX11_scratch 24 = .ok (.iload_n 1, 1) := by decide +kernel
theorem dX11_scratch_25 : decode cX11_scratch 25 = .ok (.ifCond .le 12, 3) := by decide +kernel
theorem dX11_scratch_28 : decode cX11_scratch 28 = .ok (.aload_n 0, 1) := by decide +kernel
theorem dX11_scratch_29 : decode cX11_scratch 29 = .ok (.aload_n 0, 1) := by decide +kernel
theorem dX11_scratch_30 : decode cX11_scratch 30 = .ok (.iload_n 1, 1) := by decide +kernel
theorem dX11_scratch_31 : decode cX11_scratch 31 = .ok (.invokevirtual 292, 3) := by decide +kernel
theorem dX11_scratch_34 : decode cX11_scratch 34 = .ok (.putfield 99, 3) := by decide +kernel
theorem dX11_scratch_37 : decode cX11_scratch 37 = .ok (.iload_n 1, 1) := by decide +kernel
theorem dX11_scratch_38 : decode cX11_scratch 38 = .ok (.ireturn, 1) := by decide +kernel
theorem dX11_ask_0 : decode cX11_ask 0 = .ok (.aload_n 0, 1) := by decide +kernel
theorem dX11_ask_1 : decode cX11_ask 1 = .ok (.getfield 99, 3) := by decide +kernel
theorem dX11_ask_4 : decode cX11_ask 4 = .ok (.ireturn, 1) := by decide +kernel
theorem dX11_unrest_0 : decode cX11_unrest 0 = .ok (.iconst 0, 1) := by decide +kernel
theorem dX11_unrest_1 : decode cX11_unrest 1 = .ok (.istore_n 1, 1) := by decide +kernel
theorem dX11_unrest_2 : decode cX11_unrest 2 = .ok (.iconst 0, 1) := by decide +kernel
theorem dX11_unrest_3 : decode cX11_unrest 3 = .ok (.istore_n 2, 1) := by decide +kernel
theorem dX11_unrest_4 : decode cX11_unrest 4 = .ok (.iload_n 2, 1) := by decide +kernel
theorem dX11_unrest_5 : decode cX11_unrest 5 = .ok (.aload_n 0, 1) := by decide +kernel
theorem dX11_unrest_6 : decode cX11_unrest 6 = .ok (.getfield 28, 3) := by decide +kernel
theorem dX11_unrest_9 : decode cX11_unrest 9 = .ok (.getfield 132, 3) := by decide +kernel
theorem dX11_unrest_12 : decode cX11_unrest 12 = .ok (.if_icmp .ge 49, 3) := by decide +kernel
theorem dX11_unrest_15 : decode cX11_unrest 15 = .ok (.aload_n 0, 1) := by decide +kernel
theorem dX11_unrest_16 : decode cX11_unrest 16 = .ok (.getfield 28, 3) := by decide +kernel
theorem dX11_unrest_19 : decode cX11_unrest 19 = .ok (.getfield 191, 3) := by decide +kernel
theorem dX11_unrest_22 : decode cX11_unrest 22 = .ok (.iload_n 2, 1) := by decide +kernel
theorem dX11_unrest_23 : decode cX11_unrest 23 = .ok (.iaload, 1) := by decide +kernel
theorem dX11_unrest_24 : decode cX11_unrest 24 = .ok (.istore_n 3, 1) := by decide +kernel
theorem dX11_unrest_25 : decode cX11_unrest 25 = .ok (.iload_n 3, 1) := by decide +kernel
theorem dX11_unrest_26 : decode cX11_unrest 26 = .ok (.iconst (-1), 1) := by decide +kernel
theorem dX11_unrest_27 : decode cX11_unrest 27 = .ok (.if_icmp .eq 28, 3) := by decide +kernel
theorem dX11_unrest_30 : decode cX11_unrest 30 = .ok (.aload_n 0, 1) := by decide +kernel
theorem dX11_unrest_31 : decode cX11_unrest 31 = .ok (.getfield 40, 3) := by decide +kernel
theorem dX11_unrest_34 : decode cX11_unrest 34 = .ok (.iload_n 2, 1) := by decide +kernel
theorem dX11_unrest_35 : decode cX11_unrest 35 = .ok (.invokevirtual 165, 3) := by decide +kernel
theorem dX11_unrest_38 : decode cX11_unrest 38 = .ok (.aload_n 0, 1) := by decide +kernel
theorem dX11_unrest_39 : decode cX11_unrest 39 = .ok (.getfield 40, 3) := by decide +kernel
theorem dX11_unrest_42 : decode cX11_unrest 42 = .ok (.iload_n 3, 1) := by decide +kernel
theorem dX11_unrest_43 : decode cX11_unrest 43 = .ok (.invokevirtual 165, 3) := by decide +kernel
theorem dX11_unrest_46 : decode cX11_unrest 46 = .ok (.if_icmp .le 9, 3) := by decide +kernel
theorem dX11_unrest_49 : decode cX11_unrest 49 = .ok (.iload_n 1, 1) := by decide +kernel
theorem dX11_unrest_50 : decode cX11_unrest 50 = .ok (.iconst 1, 1) := by decide +kernel
theorem dX11_unrest_51 : decode cX11_unrest 51 = .ok (.iload_n 2, 1) := by decide +kernel
theorem dX11_unrest_52 : decode cX11_unrest 52 = .ok (.ishl, 1) := by decide +kernel
theorem dX11_unrest_53 : decode cX11_unrest 53 = .ok (.ior, 1) := by decide +kernel
theorem dX11_unrest_54 : decode cX11_unrest 54 = .ok (.istore_n 1, 1) := by decide +kernel
theorem dX11_unrest_55 : decode cX11_unrest 55 = .ok (.iinc 2 1, 3) := by decide +kernel
theorem dX11_unrest_58 : decode cX11_unrest 58 = .ok (.goto (-54), 3) := by decide +kernel
theorem dX11_unrest_61 : decode cX11_unrest 61 = .ok (.iload_n 1, 1) := by decide +kernel
theorem dX11_unrest_62 : decode cX11_unrest 62 = .ok (.ireturn, 1) := by decide +kernel
theorem dX11_report_0 : decode cX11_report 0 = .ok (.aload_n 0, 1) := by decide +kernel
theorem dX11_report_1 : decode cX11_report 1 = .ok (.iload_n 1, 1) := by decide +kernel
theorem dX11_report_2 : decode cX11_report 2 = .ok (.invokevirtual 147, 3) := by decide +kernel
theorem dX11_report_5 : decode cX11_report 5 = .ok (.ifCond .ne 5, 3) := by decide +kernel
theorem dX11_report_8 : decode cX11_report 8 = .ok (.iconst (-1), 1) := by decide +kernel
theorem dX11_report_9 : decode cX11_report 9 = .ok (.ireturn, 1) := by decide +kernel
theorem dX11_report_10 : decode cX11_report 10 = .ok (.aload_n 0, 1) := by decide +kernel
theorem dX11_report_11 : decode cX11_report 11 = .ok (.getfield 88, 3) := by decide +kernel
theorem dX11_report_14 : decode cX11_report 14 = .ok (.iload_n 1, 1) := by decide +kernel
theorem dX11_report_15 : decode cX11_report 15 = .ok (.aload_n 0, 1) := by decide +kernel
theorem dX11_report_16 : decode cX11_report 16 = .ok (.getfield 40, 3) := by decide +kernel
theorem dX11_report_19 : decode cX11_report 19 = .ok (.invokevirtual 295, 3) := by decide +kernel
theorem dX11_report_22 : decode cX11_report 22 = .ok (.aload_n 0, 1) := by decide +kernel
theorem dX11_report_23 : decode cX11_report 23 = .ok (.getfield 88, 3) := by decide +kernel
theorem dX11_report_26 : decode cX11_report 26 = .ok (.getfield 299, 3) := by decide +kernel
theorem dX11_report_29 : decode cX11_report 29 = .ok (.ireturn, 1) := by decide +kernel
theorem dX11_byteAt_0 : decode cX11_byteAt 0 = .ok (.iload_n 1, 1) := by decide +kernel
theorem dX11_byteAt_1 : decode cX11_byteAt 1 = .ok (.ifCond .lt 26, 3) := by decide +kernel
theorem dX11_byteAt_4 : decode cX11_byteAt 4 = .ok (.iload_n 1, 1) := by decide +kernel
theorem dX11_byteAt_5 : decode cX11_byteAt 5 = .ok (.aload_n 0, 1) := by decide +kernel
theorem dX11_byteAt_6 : decode cX11_byteAt 6 = .ok (.getfield 88, 3) := by decide +kernel
theorem dX11_byteAt_9 : decode cX11_byteAt 9 = .ok (.getfield 299, 3) := by decide +kernel
theorem dX11_byteAt_12 : decode cX11_byteAt 12 = .ok (.if_icmp .ge 15, 3) := by decide +kernel
theorem dX11_byteAt_15 : decode cX11_byteAt 15 = .ok (.aload_n 0, 1) := by decide +kernel
theorem dX11_byteAt_16 : decode cX11_byteAt 16 = .ok (.getfield 88, 3) := by decide +kernel
theorem dX11_byteAt_19 : decode cX11_byteAt 19 = .ok (.getfield 300, 3) := by decide +kernel
theorem dX11_byteAt_22 : decode cX11_byteAt 22 = .ok (.iload_n 1, 1) := by decide +kernel
theorem dX11_byteAt_23 : decode cX11_byteAt 23 = .ok (.iaload, 1) := by decide +kernel
theorem dX11_byteAt_24 : decode cX11_byteAt 24 = .ok (.goto 4, 3) := by decide +kernel
theorem dX11_byteAt_27 : decode cX11_byteAt 27 = .ok (.iconst (-1), 1) := by decide +kernel
theorem dX11_byteAt_28 : decode cX11_byteAt 28 = .ok (.ireturn, 1) := by decide +kernel
theorem dX11_drawn_0 : decode cX11_drawn 0 = .ok (.iload_n 1, 1) := by decide +kernel
theorem dX11_drawn_1 : decode cX11_drawn 1 = .ok (.iconst 1, 1) := by decide +kernel
theorem dX11_drawn_2 : decode cX11_drawn 2 = .ok (.if_icmp .lt 9, 3) := by decide +kernel
theorem dX11_drawn_5 : decode cX11_drawn 5 = .ok (.iload_n 1, 1) := by decide +kernel
theorem dX11_drawn_6 : decode cX11_drawn 6 = .ok (.bipush 60, 2) := by decide +kernel
theorem dX11_drawn_8 : decode cX11_drawn 8 = .ok (.if_icmp .le 5, 3) := by decide +kernel
theorem dX11_drawn_11 : decode cX11_drawn 11 = .ok (.iconst (-1), 1) := by decide +kernel
theorem dX11_drawn_12 : decode cX11_drawn 12 = .ok (.ireturn, 1) := by decide +kernel
theorem dX11_drawn_13 : decode cX11_drawn 13 = .ok (.aload_n 0, 1) := by decide +kernel
theorem dX11_drawn_14 : decode cX11_drawn 14 = .ok (.getfield 44, 3) := by decide +kernel
theorem dX11_drawn_17 : decode cX11_drawn 17 = .ok (.aload_n 0, 1) := by decide +kernel
theorem dX11_drawn_18 : decode cX11_drawn 18 = .ok (.getfield 40, 3) := by decide +kernel
theorem dX11_drawn_21 : decode cX11_drawn 21 = .ok (.invokevirtual 226, 3) := by decide +kernel
theorem dX11_drawn_24 : decode cX11_drawn 24 = .ok (.aload_n 0, 1) := by decide +kernel
theorem dX11_drawn_25 : decode cX11_drawn 25 = .ok (.getfield 44, 3) := by decide +kernel
theorem dX11_drawn_28 : decode cX11_drawn 28 = .ok (.iload_n 1, 1) := by decide +kernel
theorem dX11_drawn_29 : decode cX11_drawn 29 = .ok (.iload_n 2, 1) := by decide +kernel
theorem dX11_drawn_30 : decode cX11_drawn 30 = .ok (.invokevirtual 303, 3) := by decide +kernel
theorem dX11_drawn_33 : decode cX11_drawn 33 = .ok (.istore_n 3, 1) := by decide +kernel
theorem dX11_drawn_34 : decode cX11_drawn 34 = .ok (.iload_n 3, 1) := by decide +kernel
theorem dX11_drawn_35 : decode cX11_drawn 35 = .ok (.ifCond .le 7, 3) := by decide +kernel
theorem dX11_drawn_38 : decode cX11_drawn 38 = .ok (.aload_n 0, 1) := by decide +kernel
theorem dX11_drawn_39 : decode cX11_drawn 39 = .ok (.invokevirtual 232, 3) := by decide +kernel
theorem dX11_drawn_42 : decode cX11_drawn 42 = .ok (.iload_n 3, 1) := by decide +kernel
theorem dX11_drawn_43 : decode cX11_drawn 43 = .ok (.ireturn, 1) := by decide +kernel
theorem dX11_odds_0 : decode cX11_odds 0 = .ok (.aload_n 0, 1) := by decide +kernel
theorem dX11_odds_1 : decode cX11_odds 1 = .ok (.iload_n 1, 1) := by decide +kernel
theorem dX11_odds_2 : decode cX11_odds 2 = .ok (.invokevirtual 147, 3) := by decide +kernel
theorem dX11_odds_5 : decode cX11_odds 5 = .ok (.ifCond .eq 14, 3) := by decide +kernel
theorem dX11_odds_8 : decode cX11_odds 8 = .ok (.iload_n 2, 1) := by decide +kernel
theorem dX11_odds_9 : decode cX11_odds 9 = .ok (.iconst 1, 1) := by decide +kernel
theorem dX11_odds_10 : decode cX11_odds 10 = .ok (.if_icmp .lt 9, 3) := by decide +kernel
theorem dX11_odds_13 : decode cX11_odds 13 = .ok (.iload_n 2, 1) := by decide +kernel
theorem dX11_odds_14 : decode cX11_odds 14 = .ok (.bipush 30, 2) := by decide +kernel
theorem dX11_odds_16 : decode cX11_odds 16 = .ok (.if_icmp .le 5, 3) := by decide +kernel
theorem dX11_odds_19 : decode cX11_odds 19 = .ok (.iconst (-1), 1) := by decide +kernel
theorem dX11_odds_20 : decode cX11_odds 20 = .ok (.ireturn, 1) := by decide +kernel
theorem dX11_odds_21 : decode cX11_odds 21 = .ok (.iconst 0, 1) := by decide +kernel
theorem dX11_odds_22 : decode cX11_odds 22 = .ok (.istore 4, 2) := by decide +kernel
theorem dX11_odds_24 : decode cX11_odds 24 = .ok (.iconst 0, 1) := by decide +kernel
theorem dX11_odds_25 : decode cX11_odds 25 = .ok (.istore 5, 2) := by decide +kernel
theorem dX11_odds_27 : decode cX11_odds 27 = .ok (.iload 5, 2) := by decide +kernel
theorem dX11_odds_29 : decode cX11_odds 29 = .ok (.iload_n 2, 1) := by decide +kernel
theorem dX11_odds_30 : decode cX11_odds 30 = .ok (.if_icmp .ge 50, 3) := by decide +kernel
theorem dX11_odds_33 : decode cX11_odds 33 = .ok (.aload_n 0, 1) := by decide +kernel
theorem dX11_odds_34 : decode cX11_odds 34 = .ok (.getfield 44, 3) := by decide +kernel
theorem dX11_odds_37 : decode cX11_odds 37 = .ok (.aload_n 0, 1) := by decide +kernel
theorem dX11_odds_38 : decode cX11_odds 38 = .ok (.getfield 40, 3) := by decide +kernel
theorem dX11_odds_41 : decode cX11_odds 41 = .ok (.invokevirtual 226, 3) := by decide +kernel
theorem dX11_odds_44 : decode cX11_odds 44 = .ok (.aload_n 0, 1) := by decide +kernel
theorem dX11_odds_45 : decode cX11_odds 45 = .ok (.getfield 44, 3) := by decide +kernel
theorem dX11_odds_48 : decode cX11_odds 48 = .ok (.bipush 20, 2) := by decide +kernel
theorem dX11_odds_50 : decode cX11_odds 50 = .ok (.iload_n 3, 1) := by decide +kernel
theorem dX11_odds_51 : decode cX11_odds 51 = .ok (.iload 5, 2) := by decide +kernel
theorem dX11_odds_53 : decode cX11_odds 53 = .ok (.iadd, 1) := by decide +kernel
theorem dX11_odds_54 : decode cX11_odds 54 = .ok (.invokevirtual 303, 3) := by decide +kernel
theorem dX11_odds_57 : decode cX11_odds 57 = .ok (.pop, 1) := by decide +kernel
theorem dX11_odds_58 : decode cX11_odds 58 = .ok (.aload_n 0, 1) := by decide +kernel
theorem dX11_odds_59 : decode cX11_odds 59 = .ok (.getfield 44, 3) := by decide +kernel
theorem dX11_odds_62 : decode cX11_odds 62 = .ok (.getfield 182, 3) := by decide +kernel
theorem dX11_odds_65 : decode cX11_odds 65 = .ok (.iload_n 1, 1) := by decide +kernel
theorem dX11_odds_66 : decode cX11_odds 66 = .ok (.iaload, 1) := by decide +kernel
theorem dX11_odds_67 : decode cX11_odds 67 = .ok (.iconst (-1), 1) := by decide +kernel
theorem dX11_odds_68 : decode cX11_odds 68 = .ok (.if_icmp .eq 6, 3) := by decide +kernel
theorem dX11_odds_71 : decode cX11_odds 71 = .ok (.iinc 4 1, 3) := by decide +kernel
theorem dX11_odds_74 : decode cX11_odds 74 = .ok (.iinc 5 1, 3) := by decide +kernel
theorem dX11_odds_77 : decode cX11_odds 77 = .ok (.goto (-50), 3) := by decide +kernel
theorem dX11_odds_80 : decode cX11_odds 80 = .ok (.iload 4, 2) := by decide +kernel
theorem dX11_odds_82 : decode cX11_odds 82 = .ok (.ireturn, 1) := by decide +kernel
theorem dX11_tryBook_0 : decode cX11_tryBook 0 = .ok (.aload_n 0, 1) := by decide +kernel
theorem dX11_tryBook_1 : decode cX11_tryBook 1 = .ok (.getfield 44, 3) := by decide +kernel
theorem dX11_tryBook_4 : decode cX11_tryBook 4 = .ok (.aload_n 0, 1) := by decide +kernel
theorem dX11_tryBook_5 : decode cX11_tryBook 5 = .ok (.getfield 40, 3) := by decide +kernel
theorem dX11_tryBook_8 : decode cX11_tryBook 8 = .ok (.invokevirtual 226, 3) := by decide +kernel
theorem dX11_tryBook_11 : decode cX11_tryBook 11 = .ok (.aload_n 0, 1) := by decide +kernel
theorem dX11_tryBook_12 : decode cX11_tryBook 12 = .ok (.getfield 64, 3) := by decide +kernel
theorem dX11_tryBook_15 : decode cX11_tryBook 15 = .ok (.iconst 0, 1) := by decide +kernel
theorem dX11_tryBook_16 : decode cX11_tryBook 16 = .ok (.putfield 315, 3) := by decide +kernel
theorem dX11_tryBook_19 : decode cX11_tryBook 19 = .ok (.aload_n 0, 1) := by decide +kernel
theorem dX11_tryBook_20 : decode cX11_tryBook 20 = .ok (.getfield 64, 3) := by decide +kernel
theorem dX11_tryBook_23 : decode cX11_tryBook 23 = .ok (.iconst 0, 1) := by decide +kernel
theorem dX11_tryBook_24 : decode cX11_tryBook 24 = .ok (.putfield 312, 3) := by decide +kernel
theorem dX11_tryBook_27 : decode cX11_tryBook 27 = .ok (.iconst 0, 1) := by decide +kernel
theorem dX11_tryBook_28 : decode cX11_tryBook 28 = .ok (.istore_n 1, 1) := by decide +kernel
theorem dX11_tryBook_29 : decode cX11_tryBook 29 = .ok (.iload_n 1, 1) := by decide +kernel
theorem dX11_tryBook_30 : decode cX11_tryBook 30 = .ok (.aload_n 0, 1) := by decide +kernel
theorem dX11_tryBook_31 : decode cX11_tryBook 31 = .ok (.getfield 64, 3) := by decide +kernel
theorem dX11_tryBook_34 : decode cX11_tryBook 34 = .ok (.getfield 361, 3) := by decide +kernel
theorem dX11_tryBook_37 : decode cX11_tryBook 37 = .ok (.if_icmp .ge 95, 3) := by decide +kernel
theorem dX11_tryBook_40 : decode cX11_tryBook 40 = .ok (.aload_n 0, 1) := by decide +kernel
theorem dX11_tryBook_41 : decode cX11_tryBook 41 = .ok (.getfield 64, 3) := by decide +kernel
theorem dX11_tryBook_44 : decode cX11_tryBook 44 = .ok (.getfield 315, 3) := by decide +kernel
theorem dX11_tryBook_47 : decode cX11_tryBook 47 = .ok (.ifCond .ne 85, 3) := by decide +kernel
theorem dX11_tryBook_50 : decode cX11_tryBook 50 = .ok (.aload_n 0, 1) := by decide +kernel
theorem dX11_tryBook_51 : decode cX11_tryBook 51 = .ok (.getfield 44, 3) := by decide +kernel
theorem dX11_tryBook_54 : decode cX11_tryBook 54 = .ok (.aload_n 0, 1) := by decide +kernel
theorem dX11_tryBook_55 : decode cX11_tryBook 55 = .ok (.getfield 64, 3) := by decide +kernel
theorem dX11_tryBook_58 : decode cX11_tryBook 58 = .ok (.getfield 364, 3) := by decide +kernel
theorem dX11_tryBook_61 : decode cX11_tryBook 61 = .ok (.iload_n 1, 1) := by decide +kernel
theorem dX11_tryBook_62 : decode cX11_tryBook 62 = .ok (.iaload, 1) := by decide +kernel
theorem dX11_tryBook_63 : decode cX11_tryBook 63 = .ok (.aload_n 0, 1) := by decide +kernel
theorem dX11_tryBook_64 : decode cX11_tryBook 64 = .ok (.getfield 64, 3) := by decide +kernel
theorem dX11_tryBook_67 : decode cX11_tryBook 67 = .ok (.getfield 367, 3) := by decide +kernel
theorem dX11_tryBook_70 : decode cX11_tryBook 70 = .ok (.iload_n 1, 1) := by decide +kernel
theorem dX11_tryBook_71 : decode cX11_tryBook 71 = .ok (.iaload, 1) := by decide +kernel
theorem dX11_tryBook_72 : decode cX11_tryBook 72 = .ok (.aload_n 0, 1) := by decide +kernel
theorem dX11_tryBook_73 : decode cX11_tryBook 73 = .ok (.getfield 64, 3) := by decide +kernel
theorem dX11_tryBook_76 : decode cX11_tryBook 76 = .ok (.getfield 370, 3) := by decide +kernel
theorem dX11_tryBook_79 : decode cX11_tryBook 79 = .ok (.iload_n 1, 1) := by decide +kernel
theorem dX11_tryBook_80 : decode cX11_tryBook 80 = .ok (.iaload, 1) := by decide +kernel
theorem dX11_tryBook_81 : decode cX11_tryBook 81 = .ok (.invokevirtual 356, 3) := by decide +kernel
theorem dX11_tryBook_84 : decode cX11_tryBook 84 = .ok (.istore_n 2, 1) := by decide +kernel
theorem dX11_tryBook_85 : decode cX11_tryBook 85 = .ok (.iload_n 2, 1) := by decide +kernel
theorem dX11_tryBook_86 : decode cX11_tryBook 86 = .ok (.ifCond .ne 19, 3) := by decide +kernel
theorem dX11_tryBook_89 : decode cX11_tryBook 89 = .ok (.aload_n 0, 1) := by decide +kernel
theorem dX11_tryBook_90 : decode cX11_tryBook 90 = .ok (.getfield 64, 3) := by decide +kernel
theorem dX11_tryBook_93 : decode cX11_tryBook 93 = .ok (.dup, 1) := by decide +kernel
theorem dX11_tryBook_94 : decode cX11_tryBook 94 = .ok (.getfield 312, 3) := by decide +kernel
theorem dX11_tryBook_97 : decode cX11_tryBook 97 = .ok (.iconst 1, 1) := by decide +kernel
theorem dX11_tryBook_98 : decode cX11_tryBook 98 = .ok (.iadd, 1) := by decide +kernel
theorem dX11_tryBook_99 : decode cX11_tryBook 99 = .ok (.putfield 312, 3) := by decide +kernel
theorem dX11_tryBook_102 : decode cX11_tryBook 102 = .ok (.goto 24, 3) := by decide +kernel
theorem dX11_tryBook_105 : decode cX11_tryBook 105 = .ok (.aload_n 0, 1) := by decide +kernel
theorem dX11_tryBook_106 : decode cX11_tryBook 106 = .ok (.getfield 64, 3) := by decide +kernel
theorem dX11_tryBook_109 : decode cX11_tryBook 109 = .ok (.bipush 10, 2) := by decide +kernel
theorem dX11_tryBook_111 : decode cX11_tryBook 111 = .ok (.aload_n 0, 1) := by decide +kernel
theorem dX11_tryBook_112 : decode cX11_tryBook 112 = .ok (.getfield 64, 3) := by decide +kernel
theorem dX11_tryBook_115 : decode cX11_tryBook 115 = .ok (.getfield 364, 3) := by decide +kernel
theorem dX11_tryBook_118 : decode cX11_tryBook 118 = .ok (.iload_n 1, 1) := by decide +kernel
theorem dX11_tryBook_119 : decode cX11_tryBook 119 = .ok (.iaload, 1) := by decide +kernel
theorem dX11_tryBook_120 : decode cX11_tryBook 120 = .ok (.imul, 1) := by decide +kernel
theorem dX11_tryBook_121 : decode cX11_tryBook 121 = .ok (.iload_n 2, 1) := by decide +kernel
theorem dX11_tryBook_122 : decode cX11_tryBook 122 = .ok (.iadd, 1) := by decide +kernel
theorem dX11_tryBook_123 : decode cX11_tryBook 123 = .ok (.putfield 315, 3) := by decide +kernel
theorem dX11_tryBook_126 : decode cX11_tryBook 126 = .ok (.iinc 1 1, 3) := by decide +kernel
theorem dX11_tryBook_129 : decode cX11_tryBook 129 = .ok (.goto (-100), 3) := by decide +kernel
theorem dX11_tryBook_132 : decode cX11_tryBook 132 = .ok (.aload_n 0, 1) := by decide +kernel
theorem dX11_tryBook_133 : decode cX11_tryBook 133 = .ok (.getfield 64, 3) := by decide +kernel
theorem dX11_tryBook_136 : decode cX11_tryBook 136 = .ok (.aload_n 0, 1) := by decide +kernel
theorem dX11_tryBook_137 : decode cX11_tryBook 137 = .ok (.getfield 44, 3) := by decide +kernel
theorem dX11_tryBook_140 : decode cX11_tryBook 140 = .ok (.getfield 206, 3) := by decide +kernel
theorem dX11_tryBook_143 : decode cX11_tryBook 143 = .ok (.putfield 318, 3) := by decide +kernel
theorem dX11_tryBook_146 : decode cX11_tryBook 146 = .ok (.aload_n 0, 1) := by decide +kernel
theorem dX11_tryBook_147 : decode cX11_tryBook 147 = .ok (.getfield 64, 3) := by decide +kernel
theorem dX11_tryBook_150 : decode cX11_tryBook 150 = .ok (.aload_n 0, 1) := by decide +kernel
theorem dX11_tryBook_151 : decode cX11_tryBook 151 = .ok (.getfield 44, 3) := by decide +kernel
theorem dX11_tryBook_154 : decode cX11_tryBook 154 = .ok (.invokevirtual 209, 3) := by decide +kernel
theorem dX11_tryBook_157 : decode cX11_tryBook 157 = .ok (.putfield 319, 3) := by decide +kernel
theorem dX11_tryBook_160 : decode cX11_tryBook 160 = .ok (.aload_n 0, 1) := by decide +kernel
theorem dX11_tryBook_161 : decode cX11_tryBook 161 = .ok (.getfield 64, 3) := by decide +kernel
theorem dX11_tryBook_164 : decode cX11_tryBook 164 = .ok (.getfield 315, 3) := by decide +kernel
theorem dX11_tryBook_167 : decode cX11_tryBook 167 = .ok (.ifCond .ne 7, 3) := by decide +kernel
theorem dX11_tryBook_170 : decode cX11_tryBook 170 = .ok (.iconst (-1), 1) := by decide +kernel
theorem dX11_tryBook_171 : decode cX11_tryBook 171 = .ok (.goto 10, 3) := by decide +kernel
theorem dX11_tryBook_174 : decode cX11_tryBook 174 = .ok (.aload_n 0, 1) := by decide +kernel
theorem dX11_tryBook_175 : decode cX11_tryBook 175 = .ok (.getfield 64, 3) := by decide +kernel
theorem dX11_tryBook_178 : decode cX11_tryBook 178 = .ok (.getfield 312, 3) := by decide +kernel
theorem dX11_tryBook_181 : decode cX11_tryBook 181 = .ok (.ireturn, 1) := by decide +kernel
theorem dX11_book_0 : decode cX11_book 0 = .ok (.iload_n 1, 1) := by decide +kernel
theorem dX11_book_1 : decode cX11_book 1 = .ok (.ifCond .eq 12, 3) := by decide +kernel
theorem dX11_book_4 : decode cX11_book 4 = .ok (.iload_n 1, 1) := by decide +kernel
theorem dX11_book_5 : decode cX11_book 5 = .ok (.iconst 1, 1) := by decide +kernel
theorem dX11_book_6 : decode cX11_book 6 = .ok (.if_icmp .eq 7, 3) := by decide +kernel
theorem dX11_book_9 : decode cX11_book 9 = .ok (.sipush (-1000), 3) := by decide +kernel
theorem dX11_book_12 : decode cX11_book 12 = .ok (.ireturn, 1) := by decide +kernel
theorem dX11_book_13 : decode cX11_book 13 = .ok (.aload_n 0, 1) := by decide +kernel
theorem dX11_book_14 : decode cX11_book 14 = .ok (.getfield 21, 3) := by decide +kernel
theorem dX11_book_17 : decode cX11_book 17 = .ok (.sipush 400, 3) := by decide +kernel
theorem dX11_book_20 : decode cX11_book 20 = .ok (.invokevirtual 109, 3) := by decide +kernel
theorem dX11_book_23 : decode cX11_book 23 = .ok (.aload_n 0, 1) := by decide +kernel
theorem dX11_book_24 : decode cX11_book 24 = .ok (.getfield 64, 3) := by decide +kernel
theorem dX11_book_27 : decode cX11_book 27 = .ok (.aload_n 0, 1) := by decide +kernel
theorem dX11_book_28 : decode cX11_book 28 = .ok (.getfield 21, 3) := by decide +kernel
theorem dX11_book_31 : decode cX11_book 31 = .ok (.aload_n 0, 1) := by decide +kernel
theorem dX11_book_32 : decode cX11_book 32 = .ok (.getfield 28, 3) := by decide +kernel
theorem dX11_book_35 : decode cX11_book 35 = .ok (.invokevirtual 306, 3) := by decide +kernel
theorem dX11_book_38 : decode cX11_book 38 = .ok (.aload_n 0, 1) := by decide +kernel
theorem dX11_book_39 : decode cX11_book 39 = .ok (.getfield 12, 3) := by decide +kernel
theorem dX11_book_42 : decode cX11_book 42 = .ok (.iconst 0, 1) := by decide +kernel
theorem dX11_book_43 : decode cX11_book 43 = .ok (.putfield 102, 3) := by decide +kernel
theorem dX11_book_46 : decode cX11_book 46 = .ok (.aload_n 0, 1) := by decide +kernel
theorem dX11_book_47 : decode cX11_book 47 = .ok (.aload_n 0, 1) := by decide +kernel
theorem dX11_book_48 : decode cX11_book 48 = .ok (.getfield 21, 3) := by decide +kernel
theorem dX11_book_51 : decode cX11_book 51 = .ok (.getfield 116, 3) := by decide +kernel
theorem dX11_book_54 : decode cX11_book 54 = .ok (.putfield 119, 3) := by decide +kernel
theorem dX11_book_57 : decode cX11_book 57 = .ok (.aload_n 0, 1) := by decide +kernel
theorem dX11_book_58 : decode cX11_book 58 = .ok (.getfield 119, 3) := by decide +kernel
theorem dX11_book_61 : decode cX11_book 61 = .ok (.ifCond .eq 14, 3) := by decide +kernel
theorem dX11_book_64 : decode cX11_book 64 = .ok (.bipush (-2), 2) := by decide +kernel
theorem dX11_book_66 : decode cX11_book 66 = .ok (.aload_n 0, 1) := by decide +kernel
theorem dX11_book_67 : decode cX11_book 67 = .ok (.getfield 21, 3) := by decide +kernel
theorem dX11_book_70 : decode cX11_book 70 = .ok (.getfield 120, 3) := by decide +kernel
theorem dX11_book_73 : decode cX11_book 73 = .ok (.isub, 1) := by decide +kernel
theorem dX11_book_74 : decode cX11_book 74 = .ok (.ireturn, 1) := by decide +kernel
theorem dX11_book_75 : decode cX11_book 75 = .ok (.aload_n 0, 1) := by decide +kernel
theorem dX11_book_76 : decode cX11_book 76 = .ok (.invokevirtual 309, 3) := by decide +kernel
theorem dX11_book_79 : decode cX11_book 79 = .ok (.istore_n 2, 1) := by decide +kernel
theorem dX11_book_80 : decode cX11_book 80 = .ok (.iload_n 1, 1) := by decide +kernel
theorem dX11_book_81 : decode cX11_book 81 = .ok (.iconst 1, 1) := by decide +kernel
theorem dX11_book_82 : decode cX11_book 82 = .ok (.if_icmp .ne 17, 3) := by decide +kernel
theorem dX11_book_85 : decode cX11_book 85 = .ok (.aload_n 0, 1) := by decide +kernel
theorem dX11_book_86 : decode cX11_book 86 = .ok (.getfield 64, 3) := by decide +kernel
theorem dX11_book_89 : decode cX11_book 89 = .ok (.getfield 312, 3) := by decide +kernel
theorem dX11_book_92 : decode cX11_book 92 = .ok (.ifCond .le 7, 3) := by decide +kernel
theorem dX11_book_95 : decode cX11_book 95 = .ok (.aload_n 0, 1) := by decide +kernel
theorem dX11_book_96 : decode cX11_book 96 = .ok (.invokevirtual 232, 3) := by decide +kernel
theorem dX11_book_99 : decode cX11_book 99 = .ok (.iload_n 2, 1) := by decide +kernel
theorem dX11_book_100 : decode cX11_book 100 = .ok (.ireturn, 1) := by decide +kernel
theorem dX11_told_0 : decode cX11_told 0 = .ok (.iload_n 1, 1) := by decide +kernel
theorem dX11_told_1 : decode cX11_told 1 = .ok (.tableswitch 63 0 3 #[31, 39, 47, 55], 31) := by decide +kernel
theorem dX11_told_32 : decode cX11_told 32 = .ok (.aload_n 0, 1) := by decide +kernel
theorem dX11_told_33 : decode cX11_told 33 = .ok (.getfield 64, 3) := by decide +kernel
theorem dX11_told_36 : decode cX11_told 36 = .ok (.getfield 315, 3) := by decide +kernel
theorem dX11_told_39 : decode cX11_told 39 = .ok (.ireturn, 1) := by decide +kernel
theorem dX11_told_40 : decode cX11_told 40 = .ok (.aload_n 0, 1) := by decide +kernel
theorem dX11_told_41 : decode cX11_told 41 = .ok (.getfield 64, 3) := by decide +kernel
theorem dX11_told_44 : decode cX11_told 44 = .ok (.getfield 312, 3) := by decide +kernel
theorem dX11_told_47 : decode cX11_told 47 = .ok (.ireturn, 1) := by decide +kernel
theorem dX11_told_48 : decode cX11_told 48 = .ok (.aload_n 0, 1) := by decide +kernel
theorem dX11_told_49 : decode cX11_told 49 = .ok (.getfield 64, 3) := by decide +kernel
theorem dX11_told_52 : decode cX11_told 52 = .ok (.getfield 318, 3) := by decide +kernel
theorem dX11_told_55 : decode cX11_told 55 = .ok (.ireturn, 1) := by decide +kernel
theorem dX11_told_56 : decode cX11_told 56 = .ok (.aload_n 0, 1) := by decide +kernel
theorem dX11_told_57 : decode cX11_told 57 = .ok (.getfield 64, 3) := by decide +kernel
theorem dX11_told_60 : decode cX11_told 60 = .ok (.getfield 319, 3) := by decide +kernel
theorem dX11_told_63 : decode cX11_told 63 = .ok (.ireturn, 1) := by decide +kernel
theorem dX11_told_64 : decode cX11_told 64 = .ok (.iconst (-1), 1) := by decide +kernel
theorem dX11_told_65 : decode cX11_told 65 = .ok (.ireturn, 1) := by decide +kernel
theorem dX11_sentence_0 : decode cX11_sentence 0 = .ok (.aload_n 0, 1) := by decide +kernel
theorem dX11_sentence_1 : decode cX11_sentence 1 = .ok (.getfield 21, 3) := by decide +kernel
theorem dX11_sentence_4 : decode cX11_sentence 4 = .ok (.sipush 200, 3) := by decide +kernel
theorem dX11_sentence_7 : decode cX11_sentence 7 = .ok (.invokevirtual 109, 3) := by decide +kernel
theorem dX11_sentence_10 : decode cX11_sentence 10 = .ok (.aload_n 0, 1) := by decide +kernel
theorem dX11_sentence_11 : decode cX11_sentence 11 = .ok (.getfield 75, 3) := by decide +kernel
theorem dX11_sentence_14 : decode cX11_sentence 14 = .ok (.invokevirtual 128, 3) := by decide +kernel
theorem dX11_sentence_17 : decode cX11_sentence 17 = .ok (.aload_n 0, 1) := by decide +kernel
theorem dX11_sentence_18 : decode cX11_sentence 18 = .ok (.getfield 75, 3) := by decide +kernel
theorem dX11_sentence_21 : decode cX11_sentence 21 = .ok (.aload_n 0, 1) := by decide +kernel
theorem dX11_sentence_22 : decode cX11_sentence 22 = .ok (.getfield 21, 3) := by decide +kernel
theorem dX11_sentence_25 : decode cX11_sentence 25 = .ok (.aload_n 0, 1) := by decide +kernel
theorem dX11_sentence_26 : decode cX11_sentence 26 = .ok (.getfield 28, 3) := by decide +kernel
theorem dX11_sentence_29 : decode cX11_sentence 29 = .ok (.iconst 1, 1) := by decide +kernel
theorem dX11_sentence_30 : decode cX11_sentence 30 = .ok (.invokevirtual 321, 3) := by decide +kernel
theorem dX11_sentence_33 : decode cX11_sentence 33 = .ok (.ifCond .eq 22, 3) := by decide +kernel
theorem dX11_sentence_36 : decode cX11_sentence 36 = .ok (.aload_n 0, 1) := by decide +kernel
theorem dX11_sentence_37 : decode cX11_sentence 37 = .ok (.getfield 21, 3) := by decide +kernel
theorem dX11_sentence_40 : decode cX11_sentence 40 = .ok (.getfield 325, 3) := by decide +kernel
theorem dX11_sentence_43 : decode cX11_sentence 43 = .ok (.ifCond .eq 12, 3) := by decide +kernel
theorem dX11_sentence_46 : decode cX11_sentence 46 = .ok (.aload_n 0, 1) := by decide +kernel
theorem dX11_sentence_47 : decode cX11_sentence 47 = .ok (.getfield 21, 3) := by decide +kernel
theorem dX11_sentence_50 : decode cX11_sentence 50 = .ok (.iconst 1, 1) := by decide +kernel
theorem dX11_sentence_51 : decode cX11_sentence 51 = .ok (.invokevirtual 328, 3) := by decide +kernel
theorem dX11_sentence_54 : decode cX11_sentence 54 = .ok (.pop, 1) := by decide +kernel
theorem dX11_sentence_55 : decode cX11_sentence 55 = .ok (.aload_n 0, 1) := by decide +kernel
theorem dX11_sentence_56 : decode cX11_sentence 56 = .ok (.getfield 12, 3) := by decide +kernel
theorem dX11_sentence_59 : decode cX11_sentence 59 = .ok (.iconst 0, 1) := by decide +kernel
theorem dX11_sentence_60 : decode cX11_sentence 60 = .ok (.putfield 102, 3) := by decide +kernel
theorem dX11_sentence_63 : decode cX11_sentence 63 = .ok (.aload_n 0, 1) := by decide +kernel
theorem dX11_sentence_64 : decode cX11_sentence 64 = .ok (.aload_n 0, 1) := by decide +kernel
theorem dX11_sentence_65 : decode cX11_sentence 65 = .ok (.getfield 21, 3) := by decide +kernel
theorem dX11_sentence_68 : decode cX11_sentence 68 = .ok (.getfield 116, 3) := by decide +kernel
theorem dX11_sentence_71 : decode cX11_sentence 71 = .ok (.putfield 119, 3) := by decide +kernel
theorem dX11_sentence_74 : decode cX11_sentence 74 = .ok (.aload_n 0, 1) := by decide +kernel
theorem dX11_sentence_75 : decode cX11_sentence 75 = .ok (.getfield 119, 3) := by decide +kernel
theorem dX11_sentence_78 : decode cX11_sentence 78 = .ok (.ifCond .eq 13, 3) := by decide +kernel
theorem dX11_sentence_81 : decode cX11_sentence 81 = .ok (.iconst (-1), 1) := by decide +kernel
theorem dX11_sentence_82 : decode cX11_sentence 82 = .ok (.aload_n 0, 1) := by decide +kernel
theorem dX11_sentence_83 : decode cX11_sentence 83 = .ok (.getfield 21, 3) := by decide +kernel
theorem dX11_sentence_86 : decode cX11_sentence 86 = .ok (.getfield 120, 3) := by decide +kernel
theorem dX11_sentence_89 : decode cX11_sentence 89 = .ok (.isub, 1) := by decide +kernel
theorem dX11_sentence_90 : decode cX11_sentence 90 = .ok (.ireturn, 1) := by decide +kernel
theorem dX11_sentence_91 : decode cX11_sentence 91 = .ok (.aload_n 0, 1) := by decide +kernel
theorem dX11_sentence_92 : decode cX11_sentence 92 = .ok (.getfield 71, 3) := by decide +kernel
theorem dX11_sentence_95 : decode cX11_sentence 95 = .ok (.aload_n 0, 1) := by decide +kernel
theorem dX11_sentence_96 : decode cX11_sentence 96 = .ok (.getfield 75, 3) := by decide +kernel
theorem dX11_sentence_99 : decode cX11_sentence 99 = .ok (.invokevirtual 331, 3) := by decide +kernel
theorem dX11_sentence_102 : decode cX11_sentence 102 = .ok (.aload_n 0, 1) := by decide +kernel
theorem dX11_sentence_103 : decode cX11_sentence 103 = .ok (.getfield 71, 3) := by decide +kernel
theorem dX11_sentence_106 : decode cX11_sentence 106 = .ok (.getfield 334, 3) := by decide +kernel
theorem dX11_sentence_109 : decode cX11_sentence 109 = .ok (.ireturn, 1) := by decide +kernel
theorem dX11_bitNumber_0 : decode cX11_bitNumber 0 = .ok (.iconst 0, 1) := by decide +kernel
theorem dX11_bitNumber_1 : decode cX11_bitNumber 1 = .ok (.istore_n 2, 1) := by decide +kernel
theorem dX11_bitNumber_2 : decode cX11_bitNumber 2 = .ok (.iconst 0, 1) := by decide +kernel
theorem dX11_bitNumber_3 : decode cX11_bitNumber 3 = .ok (.istore_n 3, 1) := by decide +kernel
theorem dX11_bitNumber_4 : decode cX11_bitNumber 4 = .ok (.iload_n 3, 1) := by decide +kernel
theorem dX11_bitNumber_5 : decode cX11_bitNumber 5 = .ok (.bipush 8, 2) := by decide +kernel
theorem dX11_bitNumber_7 : decode cX11_bitNumber 7 = .ok (.if_icmp .ge 28, 3) := by decide +kernel
theorem dX11_bitNumber_10 : decode cX11_bitNumber 10 = .ok (.iload_n 0, 1) := by decide +kernel
theorem dX11_bitNumber_11 : decode cX11_bitNumber 11 = .ok (.iload_n 3, 1) := by decide +kernel
theorem dX11_bitNumber_12 : decode cX11_bitNumber 12 = .ok (.invokestatic 172, 3) := by decide +kernel
theorem dX11_bitNumber_15 : decode cX11_bitNumber 15 = .ok (.iconst 1, 1) := by decide +kernel
theorem dX11_bitNumber_16 : decode cX11_bitNumber 16 = .ok (.if_icmp .ne 13, 3) := by decide +kernel
theorem dX11_bitNumber_19 : decode cX11_bitNumber 19 = .ok (.iload_n 2, 1) := by decide +kernel
theorem dX11_bitNumber_20 : decode cX11_bitNumber 20 = .ok (.iload_n 1, 1) := by decide +kernel
theorem dX11_bitNumber_21 : decode cX11_bitNumber 21 = .ok (.if_icmp .ne 5, 3) := by decide +kernel
theorem dX11_bitNumber_24 : decode cX11_bitNumber 24 = .ok (.iload_n 3, 1) := by decide +kernel
theorem dX11_bitNumber_25 : decode cX11_bitNumber 25 = .ok (.ireturn, 1) := by decide +kernel
theorem dX11_bitNumber_26 : decode cX11_bitNumber 26 = .ok (.iinc 2 1, 3) := by decide +kernel
theorem dX11_bitNumber_29 : decode cX11_bitNumber 29 = .ok (.iinc 3 1, 3) := by decide +kernel
theorem dX11_bitNumber_32 : decode cX11_bitNumber 32 = .ok (.goto (-28), 3) := by decide +kernel
theorem dX11_bitNumber_35 : decode cX11_bitNumber 35 = .ok (.iconst (-1), 1) := by decide +kernel
theorem dX11_bitNumber_36 : decode cX11_bitNumber 36 = .ok (.ireturn, 1) := by decide +kernel
theorem dX11_said_0 : decode cX11_said 0 = .ok (.aload_n 0, 1) := by decide +kernel
theorem dX11_said_1 : decode cX11_said 1 = .ok (.getfield 71, 3) := by decide +kernel
theorem dX11_said_4 : decode cX11_said 4 = .ok (.getfield 334, 3) := by decide +kernel
theorem dX11_said_7 : decode cX11_said 7 = .ok (.ifCond .eq 8, 3) := by decide +kernel
theorem dX11_said_10 : decode cX11_said 10 = .ok (.iload_n 1, 1) := by decide +kernel
theorem dX11_said_11 : decode cX11_said 11 = .ok (.iconst (-1), 1) := by decide +kernel
theorem dX11_said_12 : decode cX11_said 12 = .ok (.if_icmp .ge 5, 3) := by decide +kernel
theorem dX11_said_15 : decode cX11_said 15 = .ok (.iconst (-1), 1) := by decide +kernel
theorem dX11_said_16 : decode cX11_said 16 = .ok (.ireturn, 1) := by decide +kernel
theorem dX11_said_17 : decode cX11_said 17 = .ok (.aload_n 0, 1) := by decide +kernel
theorem dX11_said_18 : decode cX11_said 18 = .ok (.getfield 71, 3) := by decide +kernel
theorem dX11_said_21 : decode cX11_said 21 = .ok (.aload_n 0, 1) := by decide +kernel
theorem dX11_said_22 : decode cX11_said 22 = .ok (.getfield 40, 3) := by decide +kernel
theorem dX11_said_25 : decode cX11_said 25 = .ok (.invokevirtual 337, 3) := by decide +kernel
theorem dX11_said_28 : decode cX11_said 28 = .ok (.istore_n 2, 1) := by decide +kernel
theorem dX11_said_29 : decode cX11_said 29 = .ok (.iload_n 1, 1) := by decide +kernel
theorem dX11_said_30 : decode cX11_said 30 = .ok (.iconst (-1), 1) := by decide +kernel
theorem dX11_said_31 : decode cX11_said 31 = .ok (.if_icmp .ne 10, 3) := by decide +kernel
theorem dX11_said_34 : decode cX11_said 34 = .ok (.iload_n 2, 1) := by decide +kernel
theorem dX11_said_35 : decode cX11_said 35 = .ok (.invokestatic 260, 3) := by decide +kernel
theorem dX11_said_38 : decode cX11_said 38 = .ok (.goto 8, 3) := by decide +kernel
theorem dX11_said_41 : decode cX11_said 41 = .ok (.iload_n 2, 1) := by decide +kernel
theorem dX11_said_42 : decode cX11_said 42 = .ok (.iload_n 1, 1) := by decide +kernel
theorem dX11_said_43 : decode cX11_said 43 = .ok (.invokestatic 340, 3) := by decide +kernel
theorem dX11_said_46 : decode cX11_said 46 = .ok (.ireturn, 1) := by decide +kernel
theorem dX11_image_0 : decode cX11_image 0 = .ok (.iload_n 1, 1) := by decide +kernel
theorem dX11_image_1 : decode cX11_image 1 = .ok (.ifCond .lt 8, 3) := by decide +kernel
theorem dX11_image_4 : decode cX11_image 4 = .ok (.iload_n 1, 1) := by decide +kernel
theorem dX11_image_5 : decode cX11_image 5 = .ok (.iconst 2, 1) := by decide +kernel
theorem dX11_image_6 : decode cX11_image 6 = .ok (.if_icmp .lt 5, 3) := by decide +kernel
theorem dX11_image_9 : decode cX11_image 9 = .ok (.iconst 0, 1) := by decide +kernel
theorem dX11_image_10 : decode cX11_image 10 = .ok (.ireturn, 1) := by decide +kernel
theorem dX11_image_11 : decode cX11_image 11 = .ok (.aload_n 0, 1) := by decide +kernel
theorem dX11_image_12 : decode cX11_image 12 = .ok (.getfield 56, 3) := by decide +kernel
theorem dX11_image_15 : decode cX11_image 15 = .ok (.iload_n 1, 1) := by decide +kernel
theorem dX11_image_16 : decode cX11_image 16 = .ok (.aaload, 1) := by decide +kernel
theorem dX11_image_17 : decode cX11_image 17 = .ok (.aload_n 0, 1) := by decide +kernel
theorem dX11_image_18 : decode cX11_image 18 = .ok (.getfield 28, 3) := by decide +kernel
theorem dX11_image_21 : decode cX11_image 21 = .ok (.aload_n 0, 1) := by decide +kernel
theorem dX11_image_22 : decode cX11_image 22 = .ok (.getfield 40, 3) := by decide +kernel
theorem dX11_image_25 : decode cX11_image 25 = .ok (.aload_n 0, 1) := by decide +kernel
theorem dX11_image_26 : decode cX11_image 26 = .ok (.getfield 71, 3) := by decide +kernel
theorem dX11_image_29 : decode cX11_image 29 = .ok (.invokevirtual 343, 3) := by decide +kernel
theorem dX11_image_32 : decode cX11_image 32 = .ok (.iconst 1, 1) := by decide +kernel
theorem dX11_image_33 : decode cX11_image 33 = .ok (.ireturn, 1) := by decide +kernel
theorem dX11_restore_0 : decode cX11_restore 0 = .ok (.iload_n 1, 1) := by decide +kernel
theorem dX11_restore_1 : decode cX11_restore 1 = .ok (.ifCond .lt 20, 3) := by decide +kernel
theorem dX11_restore_4 : decode cX11_restore 4 = .ok (.iload_n 1, 1) := by decide +kernel
theorem dX11_restore_5 : decode cX11_restore 5 = .ok (.iconst 2, 1) := by decide +kernel
theorem dX11_restore_6 : decode cX11_restore 6 = .ok (.if_icmp .ge 15, 3) := by decide +kernel
theorem dX11_restore_9 : decode cX11_restore 9 = .ok (.aload_n 0, 1) := by decide +kernel
theorem dX11_restore_10 : decode cX11_restore 10 = .ok (.getfield 56, 3) := by decide +kernel
theorem dX11_restore_13 : decode cX11_restore 13 = .ok (.iload_n 1, 1) := by decide +kernel
theorem dX11_restore_14 : decode cX11_restore 14 = .ok (.aaload, 1) := by decide +kernel
theorem dX11_restore_15 : decode cX11_restore 15 = .ok (.getfield 347, 3) := by decide +kernel
theorem dX11_restore_18 : decode cX11_restore 18 = .ok (.ifCond .ne 5, 3) := by decide +kernel
theorem dX11_restore_21 : decode cX11_restore 21 = .ok (.iconst 0, 1) := by decide +kernel
theorem dX11_restore_22 : decode cX11_restore 22 = .ok (.ireturn, 1) := by decide +kernel
theorem dX11_restore_23 : decode cX11_restore 23 = .ok (.aload_n 0, 1) := by decide +kernel
theorem dX11_restore_24 : decode cX11_restore 24 = .ok (.getfield 28, 3) := by decide +kernel
theorem dX11_restore_27 : decode cX11_restore 27 = .ok (.aload_n 0, 1) := by decide +kernel
theorem dX11_restore_28 : decode cX11_restore 28 = .ok (.getfield 56, 3) := by decide +kernel
theorem dX11_restore_31 : decode cX11_restore 31 = .ok (.iload_n 1, 1) := by decide +kernel
theorem dX11_restore_32 : decode cX11_restore 32 = .ok (.aaload, 1) := by decide +kernel
theorem dX11_restore_33 : decode cX11_restore 33 = .ok (.getfield 351, 3) := by decide +kernel
theorem dX11_restore_36 : decode cX11_restore 36 = .ok (.invokevirtual 123, 3) := by decide +kernel
theorem dX11_restore_39 : decode cX11_restore 39 = .ok (.aload_n 0, 1) := by decide +kernel
theorem dX11_restore_40 : decode cX11_restore 40 = .ok (.getfield 40, 3) := by decide +kernel
theorem dX11_restore_43 : decode cX11_restore 43 = .ok (.aload_n 0, 1) := by decide +kernel
theorem dX11_restore_44 : decode cX11_restore 44 = .ok (.getfield 56, 3) := by decide +kernel
theorem dX11_restore_47 : decode cX11_restore 47 = .ok (.iload_n 1, 1) := by decide +kernel
theorem dX11_restore_48 : decode cX11_restore 48 = .ok (.aaload, 1) := by decide +kernel
theorem dX11_restore_49 : decode cX11_restore 49 = .ok (.getfield 352, 3) := by decide +kernel
theorem dX11_restore_52 : decode cX11_restore 52 = .ok (.invokevirtual 226, 3) := by decide +kernel
theorem dX11_restore_55 : decode cX11_restore 55 = .ok (.aload_n 0, 1) := by decide +kernel
theorem dX11_restore_56 : decode cX11_restore 56 = .ok (.getfield 71, 3) := by decide +kernel
theorem dX11_restore_59 : decode cX11_restore 59 = .ok (.aload_n 0, 1) := by decide +kernel
theorem dX11_restore_60 : decode cX11_restore 60 = .ok (.getfield 56, 3) := by decide +kernel
theorem dX11_restore_63 : decode cX11_restore 63 = .ok (.iload_n 1, 1) := by decide +kernel
theorem dX11_restore_64 : decode cX11_restore 64 = .ok (.aaload, 1) := by decide +kernel
theorem dX11_restore_65 : decode cX11_restore 65 = .ok (.getfield 355, 3) := by decide +kernel
theorem dX11_restore_68 : decode cX11_restore 68 = .ok (.invokevirtual 331, 3) := by decide +kernel
theorem dX11_restore_71 : decode cX11_restore 71 = .ok (.aload_n 0, 1) := by decide +kernel
theorem dX11_restore_72 : decode cX11_restore 72 = .ok (.getfield 50, 3) := by decide +kernel
theorem dX11_restore_75 : decode cX11_restore 75 = .ok (.invokevirtual 131, 3) := by decide +kernel
theorem dX11_restore_78 : decode cX11_restore 78 = .ok (.iconst 1, 1) := by decide +kernel
theorem dX11_restore_79 : decode cX11_restore 79 = .ok (.ireturn, 1) := by decide +kernel
theorem dX12_thrown_0 : decode cX12_thrown 0 = .ok (.aload_n 0, 1) := by decide +kernel
theorem dX12_thrown_1 : decode cX12_thrown 1 = .ok (.getfield 1, 3) := by decide +kernel
theorem dX12_thrown_4 : decode cX12_thrown 4 = .ok (.ireturn, 1) := by decide +kernel
theorem dX12_throwsIf_0 : decode cX12_throwsIf 0 = .ok (.aload_n 0, 1) := by decide +kernel
theorem dX12_throwsIf_1 : decode cX12_throwsIf 1 = .ok (.iload_n 1, 1) := by decide +kernel
theorem dX12_throwsIf_2 : decode cX12_throwsIf 2 = .ok (.ifCond .eq 7, 3) := by decide +kernel
theorem dX12_throwsIf_5 : decode cX12_throwsIf 5 = .ok (.iconst 1, 1) := by decide +kernel
theorem dX12_throwsIf_6 : decode cX12_throwsIf 6 = .ok (.goto 4, 3) := by decide +kernel
theorem dX12_throwsIf_9 : decode cX12_throwsIf 9 = .ok (.iconst 0, 1) := by decide +kernel
theorem dX12_throwsIf_10 : decode cX12_throwsIf 10 = .ok (.putfield 1, 3) := by decide +kernel
theorem dX12_throwsIf_13 : decode cX12_throwsIf 13 = .ok (.iload_n 1, 1) := by decide +kernel
theorem dX12_throwsIf_14 : decode cX12_throwsIf 14 = .ok (.ireturn, 1) := by decide +kernel
theorem dX12_four_0 : decode cX12_four 0 = .ok (.bipush 24, 2) := by decide +kernel
theorem dX12_four_2 : decode cX12_four 2 = .ok (.istore_n 2, 1) := by decide +kernel
theorem dX12_four_3 : decode cX12_four 3 = .ok (.iload_n 2, 1) := by decide +kernel
theorem dX12_four_4 : decode cX12_four 4 = .ok (.ifCond .lt 32, 3) := by decide +kernel
theorem dX12_four_7 : decode cX12_four 7 = .ok (.aload_n 0, 1) := by decide +kernel
theorem dX12_four_8 : decode cX12_four 8 = .ok (.getfield 14, 3) := by decide +kernel
theorem dX12_four_11 : decode cX12_four 11 = .ok (.aload_n 0, 1) := by decide +kernel
theorem dX12_four_12 : decode cX12_four 12 = .ok (.getfield 7, 3) := by decide +kernel
theorem dX12_four_15 : decode cX12_four 15 = .ok (.iload_n 1, 1) := by decide +kernel
theorem dX12_four_16 : decode cX12_four 16 = .ok (.iload_n 2, 1) := by decide +kernel
theorem dX12_four_17 : decode cX12_four 17 = .ok (.ishr, 1) := by decide +kernel
theorem dX12_four_18 : decode cX12_four 18 = .ok (.i2b, 1) := by decide +kernel
theorem dX12_four_19 : decode cX12_four 19 = .ok (.bastore, 1) := by decide +kernel
theorem dX12_four_20 : decode cX12_four 20 = .ok (.aload_n 0, 1) := by decide +kernel
theorem dX12_four_21 : decode cX12_four 21 = .ok (.dup, 1) := by decide +kernel
theorem dX12_four_22 : decode cX12_four 22 = .ok (.getfield 7, 3) := by decide +kernel
theorem dX12_four_25 : decode cX12_four 25 = .ok (.iconst 1, 1) := by decide +kernel
theorem dX12_four_26 : decode cX12_four 26 = .ok (.iadd, 1) := by decide +kernel
theorem dX12_four_27 : decode cX12_four 27 = .ok (.putfield 7, 3) := by decide +kernel
theorem dX12_four_30 : decode cX12_four 30 = .ok (.iinc 2 (-8), 3) := by decide +kernel
theorem dX12_four_33 : decode cX12_four 33 = .ok (.goto (-30), 3) := by decide +kernel
theorem dX12_four_36 : decode cX12_four 36 = .ok (.return_, 1) := by decide +kernel
theorem dX12_feed_0 : decode cX12_feed 0 = .ok (.aload_n 0, 1) := by decide +kernel
theorem dX12_feed_1 : decode cX12_feed 1 = .ok (.iconst 0, 1) := by decide +kernel
theorem dX12_feed_2 : decode cX12_feed 2 = .ok (.putfield 1, 3) := by decide +kernel
theorem dX12_feed_5 : decode cX12_feed 5 = .ok (.aload_n 0, 1) := by decide +kernel
theorem dX12_feed_6 : decode cX12_feed 6 = .ok (.getfield 7, 3) := by decide +kernel
theorem dX12_feed_9 : decode cX12_feed 9 = .ok (.bipush 20, 2) := by decide +kernel
theorem dX12_feed_11 : decode cX12_feed 11 = .ok (.iadd, 1) := by decide +kernel
theorem dX12_feed_12 : decode cX12_feed 12 = .ok (.sipush 940, 3) := by decide +kernel
theorem dX12_feed_15 : decode cX12_feed 15 = .ok (.if_icmp .le 5, 3) := by decide +kernel
theorem dX12_feed_18 : decode cX12_feed 18 = .ok (.iconst (-1), 1) := by decide +kernel
theorem dX12_feed_19 : decode cX12_feed 19 = .ok (.ireturn, 1) := by decide +kernel
theorem dX12_feed_20 : decode cX12_feed 20 = .ok (.aload_n 0, 1) := by decide +kernel
theorem dX12_feed_21 : decode cX12_feed 21 = .ok (.iload_n 1, 1) := by decide +kernel
theorem dX12_feed_22 : decode cX12_feed 22 = .ok (.invokevirtual 10, 3) := by decide +kernel
theorem dX12_feed_25 : decode cX12_feed 25 = .ok (.aload_n 0, 1) := by decide +kernel
theorem dX12_feed_26 : decode cX12_feed 26 = .ok (.iload_n 2, 1) := by decide +kernel
theorem dX12_feed_27 : decode cX12_feed 27 = .ok (.invokevirtual 10, 3) := by decide +kernel
theorem dX12_feed_30 : decode cX12_feed 30 = .ok (.aload_n 0, 1) := by decide +kernel
theorem dX12_feed_31 : decode cX12_feed 31 = .ok (.iload_n 3, 1) := by decide +kernel
theorem dX12_feed_32 : decode cX12_feed 32 = .ok (.invokevirtual 10, 3) := by decide +kernel
theorem dX12_feed_35 : decode cX12_feed 35 = .ok (.aload_n 0, 1) := by decide +kernel
theorem dX12_feed_36 : decode cX12_feed 36 = .ok (.iload 4, 2) := by decide +kernel
theorem dX12_feed_38 : decode cX12_feed 38 = .ok (.invokevirtual 10, 3) := by decide +kernel
theorem dX12_feed_41 : decode cX12_feed 41 = .ok (.aload_n 0, 1) := by decide +kernel
theorem dX12_feed_42 : decode cX12_feed 42 = .ok (.iload 5, 2) := by decide +kernel
theorem dX12_feed_44 : decode cX12_feed 44 = .ok (.invokevirtual 10, 3) := by decide +kernel
theorem dX12_feed_47 : decode cX12_feed 47 = .ok (.aload_n 0, 1) := by decide +kernel
theorem dX12_feed_48 : decode cX12_feed 48 = .ok (.getfield 7, 3) := by decide +kernel
theorem dX12_feed_51 : decode cX12_feed 51 = .ok (.ireturn, 1) := by decide +kernel
theorem dX12_end_0 : decode cX12_end 0 = .ok (.aload_n 0, 1) := by decide +kernel
theorem dX12_end_1 : decode cX12_end 1 = .ok (.iconst 0, 1) := by decide +kernel
theorem dX12_end_2 : decode cX12_end 2 = .ok (.putfield 1, 3) := by decide +kernel
theorem dX12_end_5 : decode cX12_end 5 = .ok (.iload_n 1, 1) := by decide +kernel
theorem dX12_end_6 : decode cX12_end 6 = .ok (.ifCond .lt 11, 3) := by decide +kernel
theorem dX12_end_9 : decode cX12_end 9 = .ok (.iload_n 1, 1) := by decide +kernel
theorem dX12_end_10 : decode cX12_end 10 = .ok (.aload_n 0, 1) := by decide +kernel
theorem dX12_end_11 : decode cX12_end 11 = .ok (.getfield 7, 3) := by decide +kernel
theorem dX12_end_14 : decode cX12_end 14 = .ok (.if_icmp .le 5, 3) := by decide +kernel
theorem dX12_end_17 : decode cX12_end 17 = .ok (.iconst 0, 1) := by decide +kernel
theorem dX12_end_18 : decode cX12_end 18 = .ok (.ireturn, 1) := by decide +kernel
theorem dX12_end_19 : decode cX12_end 19 = .ok (.aload_n 0, 1) := by decide +kernel
theorem dX12_end_20 : decode cX12_end 20 = .ok (.iload_n 1, 1) := by decide +kernel
theorem dX12_end_21 : decode cX12_end 21 = .ok (.putfield 7, 3) := by decide +kernel
theorem dX12_end_24 : decode cX12_end 24 = .ok (.iconst 1, 1) := by decide +kernel
theorem dX12_end_25 : decode cX12_end 25 = .ok (.ireturn, 1) := by decide +kernel
theorem dX12_taken_0 : decode cX12_taken 0 = .ok (.aload_n 0, 1) := by decide +kernel
theorem dX12_taken_1 : decode cX12_taken 1 = .ok (.aload_n 0, 1) := by decide +kernel
theorem dX12_taken_2 : decode cX12_taken 2 = .ok (.getfield 7, 3) := by decide +kernel
theorem dX12_taken_5 : decode cX12_taken 5 = .ok (.putfield 18, 3) := by decide +kernel
theorem dX12_taken_8 : decode cX12_taken 8 = .ok (.aload_n 0, 1) := by decide +kernel
theorem dX12_taken_9 : decode cX12_taken 9 = .ok (.iconst 0, 1) := by decide +kernel
theorem dX12_taken_10 : decode cX12_taken 10 = .ok (.putfield 7, 3) := by decide +kernel
theorem dX12_taken_13 : decode cX12_taken 13 = .ok (.aload_n 0, 1) := by decide +kernel
theorem dX12_taken_14 : decode cX12_taken 14 = .ok (.iconst 0, 1) := by decide +kernel
theorem dX12_taken_15 : decode cX12_taken 15 = .ok (.putfield 21, 3) := by decide +kernel
theorem dX12_taken_18 : decode cX12_taken 18 = .ok (.aload_n 0, 1) := by decide +kernel
theorem dX12_taken_19 : decode cX12_taken 19 = .ok (.iload_n 1, 1) := by decide +kernel
theorem dX12_taken_20 : decode cX12_taken 20 = .ok (.putfield 24, 3) := by decide +kernel
theorem dX12_taken_23 : decode cX12_taken 23 = .ok (.return_, 1) := by decide +kernel
theorem dX12_isIn_0 : decode cX12_isIn 0 = .ok (.iload_n 0, 1) := by decide +kernel
theorem dX12_isIn_1 : decode cX12_isIn 1 = .ok (.iload_n 1, 1) := by decide +kernel
theorem dX12_isIn_2 : decode cX12_isIn 2 = .ok (.if_icmp .lt 12, 3) := by decide +kernel
theorem dX12_isIn_5 : decode cX12_isIn 5 = .ok (.iload_n 0, 1) := by decide +kernel
theorem dX12_isIn_6 : decode cX12_isIn 6 = .ok (.iload_n 2, 1) := by decide +kernel
theorem dX12_isIn_7 : decode cX12_isIn 7 = .ok (.if_icmp .gt 7, 3) := by decide +kernel
theorem dX12_isIn_10 : decode cX12_isIn 10 = .ok (.iconst 1, 1) := by decide +kernel
theorem dX12_isIn_11 : decode cX12_isIn 11 = .ok (.goto 4, 3) := by decide +kernel
theorem dX12_isIn_14 : decode cX12_isIn 14 = .ok (.iconst 0, 1) := by decide +kernel
theorem dX12_isIn_15 : decode cX12_isIn 15 = .ok (.ireturn, 1) := by decide +kernel
theorem dX12_bitOf_0 : decode cX12_bitOf 0 = .ok (.iload_n 0, 1) := by decide +kernel
theorem dX12_bitOf_1 : decode cX12_bitOf 1 = .ok (.iload_n 1, 1) := by decide +kernel
theorem dX12_bitOf_2 : decode cX12_bitOf 2 = .ok (.ishr, 1) := by decide +kernel
theorem dX12_bitOf_3 : decode cX12_bitOf 3 = .ok (.iconst 1, 1) := by decide +kernel
theorem dX12_bitOf_4 : decode cX12_bitOf 4 = .ok (.iand, 1) := by decide +kernel
theorem dX12_bitOf_5 : decode cX12_bitOf 5 = .ok (.iconst 1, 1) := by decide +kernel
theorem dX12_bitOf_6 : decode cX12_bitOf 6 = .ok (.if_icmp .ne 7, 3) := by decide +kernel
theorem dX12_bitOf_9 : decode cX12_bitOf 9 = .ok (.iconst 1, 1) := by decide +kernel
theorem dX12_bitOf_10 : decode cX12_bitOf 10 = .ok (.goto 4, 3) := by decide +kernel
theorem dX12_bitOf_13 : decode cX12_bitOf 13 = .ok (.iconst 0, 1) := by decide +kernel
theorem dX12_bitOf_14 : decode cX12_bitOf 14 = .ok (.ireturn, 1) := by decide +kernel
theorem dX12_lesser_0 : decode cX12_lesser 0 = .ok (.iload_n 0, 1) := by decide +kernel
theorem dX12_lesser_1 : decode cX12_lesser 1 = .ok (.iload_n 1, 1) := by decide +kernel
theorem dX12_lesser_2 : decode cX12_lesser 2 = .ok (.if_icmp .ge 7, 3) := by decide +kernel
theorem dX12_lesser_5 : decode cX12_lesser 5 = .ok (.iload_n 0, 1) := by decide +kernel
theorem dX12_lesser_6 : decode cX12_lesser 6 = .ok (.goto 4, 3) := by decide +kernel
theorem dX12_lesser_9 : decode cX12_lesser 9 = .ok (.iload_n 1, 1) := by decide +kernel
theorem dX12_lesser_10 : decode cX12_lesser 10 = .ok (.ireturn, 1) := by decide +kernel
theorem dX12_greater_0 : decode cX12_greater 0 = .ok (.iload_n 0, 1) := by decide +kernel
theorem dX12_greater_1 : decode cX12_greater 1 = .ok (.iload_n 1, 1) := by decide +kernel
theorem dX12_greater_2 : decode cX12_greater 2 = .ok (.if_icmp .le 7, 3) := by decide +kernel
theorem dX12_greater_5 : decode cX12_greater 5 = .ok (.iload_n 0, 1) := by decide +kernel
theorem dX12_greater_6 : decode cX12_greater 6 = .ok (.goto 4, 3) := by decide +kernel
theorem dX12_greater_9 : decode cX12_greater 9 = .ok (.iload_n 1, 1) := by decide +kernel
theorem dX12_greater_10 : decode cX12_greater 10 = .ok (.ireturn, 1) := by decide +kernel
theorem dX12_absolute_0 : decode cX12_absolute 0 = .ok (.iload_n 0, 1) := by decide +kernel
theorem dX12_absolute_1 : decode cX12_absolute 1 = .ok (.ifCond .ge 8, 3) := by decide +kernel
theorem dX12_absolute_4 : decode cX12_absolute 4 = .ok (.iload_n 0, 1) := by decide +kernel
theorem dX12_absolute_5 : decode cX12_absolute 5 = .ok (.ineg, 1) := by decide +kernel
theorem dX12_absolute_6 : decode cX12_absolute 6 = .ok (.goto 4, 3) := by decide +kernel
theorem dX12_absolute_9 : decode cX12_absolute 9 = .ok (.iload_n 0, 1) := by decide +kernel
theorem dX12_absolute_10 : decode cX12_absolute 10 = .ok (.ireturn, 1) := by decide +kernel
theorem dX12_bits_0 : decode cX12_bits 0 = .ok (.iconst 0, 1) := by decide +kernel
theorem dX12_bits_1 : decode cX12_bits 1 = .ok (.istore_n 1, 1) := by decide +kernel
theorem dX12_bits_2 : decode cX12_bits 2 = .ok (.iload_n 0, 1) := by decide +kernel
theorem dX12_bits_3 : decode cX12_bits 3 = .ok (.istore_n 2, 1) := by decide +kernel
theorem dX12_bits_4 : decode cX12_bits 4 = .ok (.iload_n 2, 1) := by decide +kernel
theorem dX12_bits_5 : decode cX12_bits 5 = .ok (.ifCond .eq 15, 3) := by decide +kernel
theorem dX12_bits_8 : decode cX12_bits 8 = .ok (.iinc 1 1, 3) := by decide +kernel
theorem dX12_bits_11 : decode cX12_bits 11 = .ok (.iload_n 2, 1) := by decide +kernel
theorem dX12_bits_12 : decode cX12_bits 12 = .ok (.iload_n 2, 1) := by decide +kernel
theorem dX12_bits_13 : decode cX12_bits 13 = .ok (.iconst 1, 1) := by decide +kernel
theorem dX12_bits_14 : decode cX12_bits 14 = .ok (.isub, 1) := by decide +kernel
theorem dX12_bits_15 : decode cX12_bits 15 = .ok (.iand, 1) := by decide +kernel
theorem dX12_bits_16 : decode cX12_bits 16 = .ok (.istore_n 2, 1) := by decide +kernel
theorem dX12_bits_17 : decode cX12_bits 17 = .ok (.goto (-13), 3) := by decide +kernel
theorem dX12_bits_20 : decode cX12_bits 20 = .ok (.iload_n 1, 1) := by decide +kernel
theorem dX12_bits_21 : decode cX12_bits 21 = .ok (.ireturn, 1) := by decide +kernel
theorem dX12_octet_0 : decode cX12_octet 0 = .ok (.aload_n 0, 1) := by decide +kernel
theorem dX12_octet_1 : decode cX12_octet 1 = .ok (.getfield 14, 3) := by decide +kernel
theorem dX12_octet_4 : decode cX12_octet 4 = .ok (.iload_n 1, 1) := by decide +kernel
theorem dX12_octet_5 : decode cX12_octet 5 = .ok (.baload, 1) := by decide +kernel
theorem dX12_octet_6 : decode cX12_octet 6 = .ok (.sipush 255, 3) := by decide +kernel
theorem dX12_octet_9 : decode cX12_octet 9 = .ok (.iand, 1) := by decide +kernel
theorem dX12_octet_10 : decode cX12_octet 10 = .ok (.ireturn, 1) := by decide +kernel
theorem dX12_clears_0 : decode cX12_clears 0 = .ok (.iconst 0, 1) := by decide +kernel
theorem dX12_clears_1 : decode cX12_clears 1 = .ok (.istore_n 1, 1) := by decide +kernel
theorem dX12_clears_2 : decode cX12_clears 2 = .ok (.iload_n 1, 1) := by decide +kernel
theorem dX12_clears_3 : decode cX12_clears 3 = .ok (.bipush 61, 2) := by decide +kernel
theorem dX12_clears_5 : decode cX12_clears 5 = .ok (.if_icmp .ge 16, 3) := by decide +kernel
theorem dX12_clears_8 : decode cX12_clears 8 = .ok (.aload_n 0, 1) := by decide +kernel
theorem dX12_clears_9 : decode cX12_clears 9 = .ok (.getfield 37, 3) := by decide +kernel
theorem dX12_clears_12 : decode cX12_clears 12 = .ok (.iload_n 1, 1) := by decide +kernel
theorem dX12_clears_13 : decode cX12_clears 13 = .ok (.iconst 0, 1) := by decide +kernel
theorem dX12_clears_14 : decode cX12_clears 14 = .ok (.iastore, 1) := by decide +kernel
theorem dX12_clears_15 : decode cX12_clears 15 = .ok (.iinc 1 1, 3) := by decide +kernel
theorem dX12_clears_18 : decode cX12_clears 18 = .ok (.goto (-16), 3) := by decide +kernel
theorem dX12_clears_21 : decode cX12_clears 21 = .ok (.aload_n 0, 1) := by decide +kernel
theorem dX12_clears_22 : decode cX12_clears 22 = .ok (.getfield 37, 3) := by decide +kernel
theorem dX12_clears_25 : decode cX12_clears 25 = .ok (.iconst 3, 1) := by decide +kernel
theorem dX12_clears_26 : decode cX12_clears 26 = .ok (.iconst 2, 1) := by decide +kernel
theorem dX12_clears_27 : decode cX12_clears 27 = .ok (.iastore, 1) := by decide +kernel
theorem dX12_clears_28 : decode cX12_clears 28 = .ok (.aload_n 0, 1) := by decide +kernel
theorem dX12_clears_29 : decode cX12_clears 29 = .ok (.getfield 37, 3) := by decide +kernel
theorem dX12_clears_32 : decode cX12_clears 32 = .ok (.iconst 4, 1) := by decide +kernel
theorem dX12_clears_33 : decode cX12_clears 33 = .ok (.bipush 6, 2) := by decide +kernel
theorem dX12_clears_35 : decode cX12_clears 35 = .ok (.iastore, 1) := by decide +kernel
theorem dX12_clears_36 : decode cX12_clears 36 = .ok (.return_, 1) := by decide +kernel
theorem dX12_peek_0 : decode cX12_peek 0 = .ok (.aload_n 0, 1) := by decide +kernel
theorem dX12_peek_1 : decode cX12_peek 1 = .ok (.getfield 21, 3) := by decide +kernel
theorem dX12_peek_4 : decode cX12_peek 4 = .ok (.aload_n 0, 1) := by decide +kernel
theorem dX12_peek_5 : decode cX12_peek 5 = .ok (.getfield 18, 3) := by decide +kernel
theorem dX12_peek_8 : decode cX12_peek 8 = .ok (.if_icmp .ge 19, 3) := by decide +kernel
theorem dX12_peek_11 : decode cX12_peek 11 = .ok (.aload_n 0, 1) := by decide +kernel
theorem dX12_peek_12 : decode cX12_peek 12 = .ok (.getfield 14, 3) := by decide +kernel
theorem dX12_peek_15 : decode cX12_peek 15 = .ok (.aload_n 0, 1) := by decide +kernel
theorem dX12_peek_16 : decode cX12_peek 16 = .ok (.getfield 21, 3) := by decide +kernel
theorem dX12_peek_19 : decode cX12_peek 19 = .ok (.baload, 1) := by decide +kernel
theorem dX12_peek_20 : decode cX12_peek 20 = .ok (.sipush 255, 3) := by decide +kernel
theorem dX12_peek_23 : decode cX12_peek 23 = .ok (.iand, 1) := by decide +kernel
theorem dX12_peek_24 : decode cX12_peek 24 = .ok (.goto 4, 3) := by decide +kernel
theorem dX12_peek_27 : decode cX12_peek 27 = .ok (.iconst (-1), 1) := by decide +kernel
theorem dX12_peek_28 : decode cX12_peek 28 = .ok (.ireturn, 1) := by decide +kernel
theorem dX12_isSmall_0 : decode cX12_isSmall 0 = .ok (.iload_n 0, 1) := by decide +kernel
theorem dX12_isSmall_1 : decode cX12_isSmall 1 = .ok (.bipush 97, 2) := by decide +kernel
theorem dX12_isSmall_3 : decode cX12_isSmall 3 = .ok (.if_icmp .lt 13, 3) := by decide +kernel
theorem dX12_isSmall_6 : decode cX12_isSmall 6 = .ok (.iload_n 0, 1) := by decide +kernel
theorem dX12_isSmall_7 : decode cX12_isSmall 7 = .ok (.bipush 122, 2) := by decide +kernel
theorem dX12_isSmall_9 : decode cX12_isSmall 9 = .ok (.if_icmp .gt 7, 3) := by decide +kernel
theorem dX12_isSmall_12 : decode cX12_isSmall 12 = .ok (.iconst 1, 1) := by decide +kernel
theorem dX12_isSmall_13 : decode cX12_isSmall 13 = .ok (.goto 4, 3) := by decide +kernel
theorem dX12_isSmall_16 : decode cX12_isSmall 16 = .ok (.iconst 0, 1) := by decide +kernel
theorem dX12_isSmall_17 : decode cX12_isSmall 17 = .ok (.ireturn, 1) := by decide +kernel
theorem dX12_isDigit_0 : decode cX12_isDigit 0 = .ok (.iload_n 0, 1) := by decide +kernel
theorem dX12_isDigit_1 : decode cX12_isDigit 1 = .ok (.bipush 48, 2) := by decide +kernel
theorem dX12_isDigit_3 : decode cX12_isDigit 3 = .ok (.if_icmp .lt 13, 3) := by decide +kernel
theorem dX12_isDigit_6 : decode cX12_isDigit 6 = .ok (.iload_n 0, 1) := by decide +kernel
theorem dX12_isDigit_7 : decode cX12_isDigit 7 = .ok (.bipush 57, 2) := by decide +kernel
theorem dX12_isDigit_9 : decode cX12_isDigit 9 = .ok (.if_icmp .gt 7, 3) := by decide +kernel
theorem dX12_isDigit_12 : decode cX12_isDigit 12 = .ok (.iconst 1, 1) := by decide +kernel
theorem dX12_isDigit_13 : decode cX12_isDigit 13 = .ok (.goto 4, 3) := by decide +kernel
theorem dX12_isDigit_16 : decode cX12_isDigit 16 = .ok (.iconst 0, 1) := by decide +kernel
theorem dX12_isDigit_17 : decode cX12_isDigit 17 = .ok (.ireturn, 1) := by decide +kernel
theorem dX12_next_0 : decode cX12_next 0 = .ok (.aload_n 0, 1) := by decide +kernel
theorem dX12_next_1 : decode cX12_next 1 = .ok (.invokevirtual 164, 3) := by decide +kernel
theorem dX12_next_4 : decode cX12_next 4 = .ok (.bipush 32, 2) := by decide +kernel
theorem dX12_next_6 : decode cX12_next 6 = .ok (.if_icmp .eq 12, 3) := by decide +kernel
theorem dX12_next_9 : decode cX12_next 9 = .ok (.aload_n 0, 1) := by decide +kernel
theorem dX12_next_10 : decode cX12_next 10 = .ok (.invokevirtual 164, 3) := by decide +kernel
theorem dX12_next_13 : decode cX12_next 13 = .ok (.bipush 10, 2) := by decide +kernel
theorem dX12_next_15 : decode cX12_next 15 = .ok (.if_icmp .ne 16, 3) := by decide +kernel
theorem dX12_next_18 : decode cX12_next 18 = .ok (.aload_n 0, 1) := by decide +kernel
theorem dX12_next_19 : decode cX12_next 19 = .ok (.dup, 1) := by decide +kernel
theorem dX12_next_20 : decode cX12_next 20 = .ok (.getfield 21, 3) := by decide +kernel
theorem dX12_next_23 : decode cX12_next 23 = .ok (.iconst 1, 1) := by decide +kernel
theorem dX12_next_24 : decode cX12_next 24 = .ok (.iadd, 1) := by decide +kernel
theorem dX12_next_25 : decode cX12_next 25 = .ok (.putfield 21, 3) := by decide +kernel
theorem dX12_next_28 : decode cX12_next 28 = .ok (.goto (-28), 3) := by decide +kernel
theorem dX12_next_31 : decode cX12_next 31 = .ok (.aload_n 0, 1) := by decide +kernel
theorem dX12_next_32 : decode cX12_next 32 = .ok (.aload_n 0, 1) := by decide +kernel
theorem dX12_next_33 : decode cX12_next 33 = .ok (.getfield 21, 3) := by decide +kernel
theorem dX12_next_36 : decode cX12_next 36 = .ok (.putfield 168, 3) := by decide +kernel
theorem dX12_next_39 : decode cX12_next 39 = .ok (.aload_n 0, 1) := by decide +kernel
theorem dX12_next_40 : decode cX12_next 40 = .ok (.iconst 0, 1) := by decide +kernel
theorem dX12_next_41 : decode cX12_next 41 = .ok (.putfield 171, 3) := by decide +kernel
theorem dX12_next_44 : decode cX12_next 44 = .ok (.aload_n 0, 1) := by decide +kernel
theorem dX12_next_45 : decode cX12_next 45 = .ok (.getfield 18, 3) := by decide +kernel
theorem dX12_next_48 : decode cX12_next 48 = .ok (.aload_n 0, 1) := by decide +kernel
theorem dX12_next_49 : decode cX12_next 49 = .ok (.getfield 24, 3) := by decide +kernel
theorem dX12_next_52 : decode cX12_next 52 = .ok (.if_icmp .le 28, 3) := by decide +kernel
theorem dX12_next_55 : decode cX12_next 55 = .ok (.aload_n 0, 1) := by decide +kernel
theorem dX12_next_56 : decode cX12_next 56 = .ok (.getfield 21, 3) := by decide +kernel
theorem dX12_next_59 : decode cX12_next 59 = .ok (.aload_n 0, 1) := by decide +kernel
theorem dX12_next_60 : decode cX12_next 60 = .ok (.getfield 24, 3) := by decide +kernel
theorem dX12_next_63 : decode cX12_next 63 = .ok (.if_icmp .lt 17, 3) := by decide +kernel
theorem dX12_next_66 : decode cX12_next 66 = .ok (.aload_n 0, 1) := by decide +kernel
theorem dX12_next_67 : decode cX12_next 67 = .ok (.aload_n 0, 1) := by decide +kernel
theorem dX12_next_68 : decode cX12_next 68 = .ok (.getfield 24, 3) := by decide +kernel
theorem dX12_next_71 : decode cX12_next 71 = .ok (.putfield 168, 3) := by decide +kernel
theorem dX12_next_74 : decode cX12_next 74 = .ok (.aload_n 0, 1) := by decide +kernel
theorem dX12_next_75 : decode cX12_next 75 = .ok (.iconst 4, 1) := by decide +kernel
theorem dX12_next_76 : decode cX12_next 76 = .ok (.putfield 174, 3) := by decide +kernel
theorem dX12_next_79 : decode cX12_next 79 = .ok (.return_, 1) := by decide +kernel
theorem dX12_next_80 : decode cX12_next 80 = .ok (.aload_n 0, 1) := by decide +kernel
theorem dX12_next_81 : decode cX12_next 81 = .ok (.invokevirtual 164, 3) := by decide +kernel
theorem dX12_next_84 : decode cX12_next 84 = .ok (.istore_n 1, 1) := by decide +kernel
theorem dX12_next_85 : decode cX12_next 85 = .ok (.iload_n 1, 1) := by decide +kernel
theorem dX12_next_86 : decode cX12_next 86 = .ok (.ifCond .ge 9, 3) := by decide +kernel
theorem dX12_next_89 : decode cX12_next 89 = .ok (.aload_n 0, 1) := by decide +kernel
theorem dX12_next_90 : decode cX12_next 90 = .ok (.iconst 0, 1) := by decide +kernel
theorem dX12_next_91 : decode cX12_next 91 = .ok (.putfield 174, 3) := by decide +kernel
theorem dX12_next_94 : decode cX12_next 94 = .ok (.return_, 1) := by decide +kernel
theorem dX12_next_95 : decode cX12_next 95 = .ok (.iload_n 1, 1) := by decide +kernel
theorem dX12_next_96 : decode cX12_next 96 = .ok (.invokestatic 177, 3) := by decide +kernel
theorem dX12_next_99 : decode cX12_next 99 = .ok (.ifCond .ne 65, 3) := by decide +kernel
theorem dX12_next_102 : decode cX12_next 102 = .ok (.iload_n 1, 1) := by decide +kernel
theorem dX12_next_103 : decode cX12_next 103 = .ok (.invokestatic 181, 3) := by decide +kernel
theorem dX12_next_106 : decode cX12_next 106 = .ok (.ifCond .ne 58, 3) := by decide +kernel
theorem dX12_next_109 : decode cX12_next 109 = .ok (.aload_n 0, 1) := by decide +kernel
theorem dX12_next_110 : decode cX12_next 110 = .ok (.iload_n 1, 1) := by decide +kernel
theorem dX12_next_111 : decode cX12_next 111 = .ok (.bipush 59, 2) := by decide +kernel
theorem dX12_next_113 : decode cX12_next 113 = .ok (.if_icmp .eq 27, 3) := by decide +kernel
theorem dX12_next_116 : decode cX12_next 116 = .ok (.iload_n 1, 1) := by decide +kernel
theorem dX12_next_117 : decode cX12_next 117 = .ok (.bipush 40, 2) := by decide +kernel
theorem dX12_next_119 : decode cX12_next 119 = .ok (.if_icmp .eq 21, 3) := by decide +kernel
theorem dX12_next_122 : decode cX12_next 122 = .ok (.iload_n 1, 1) := by decide +kernel
theorem dX12_next_123 : decode cX12_next 123 = .ok (.bipush 41, 2) := by decide +kernel
theorem dX12_next_125 : decode cX12_next 125 = .ok (.if_icmp .eq 15, 3) := by decide +kernel
theorem dX12_next_128 : decode cX12_next 128 = .ok (.iload_n 1, 1) := by decide +kernel
theorem dX12_next_129 : decode cX12_next 129 = .ok (.bipush 60, 2) := by decide +kernel
theorem dX12_next_131 : decode cX12_next 131 = .ok (.if_icmp .lt 13, 3) := by decide +kernel
theorem dX12_next_134 : decode cX12_next 134 = .ok (.iload_n 1, 1) := by decide +kernel
theorem dX12_next_135 : decode cX12_next 135 = .ok (.bipush 62, 2) := by decide +kernel
theorem dX12_next_137 : decode cX12_next 137 = .ok (.if_icmp .gt 7, 3) := by decide +kernel
theorem dX12_next_140 : decode cX12_next 140 = .ok (.iconst 3, 1) := by decide +kernel
theorem dX12_next_141 : decode cX12_next 141 = .ok (.goto 4, 3) := by decide +kernel
theorem dX12_next_144 : decode cX12_next 144 = .ok (.iconst 4, 1) := by decide +kernel
theorem dX12_next_145 : decode cX12_next 145 = .ok (.putfield 174, 3) := by decide +kernel
theorem dX12_next_148 : decode cX12_next 148 = .ok (.aload_n 0, 1) := by decide +kernel
theorem dX12_next_149 : decode cX12_next 149 = .ok (.iload_n 1, 1) := by decide +kernel
theorem dX12_next_150 : decode cX12_next 150 = .ok (.putfield 184, 3) := by decide +kernel
theorem dX12_next_153 : decode cX12_next 153 = .ok (.aload_n 0, 1) := by decide +kernel
theorem dX12_next_154 : decode cX12_next 154 = .ok (.dup, 1) := by decide +kernel
theorem dX12_next_155 : decode cX12_next 155 = .ok (.getfield 21, 3) := by decide +kernel
theorem dX12_next_158 : decode cX12_next 158 = .ok (.iconst 1, 1) := by decide +kernel
theorem dX12_next_159 : decode cX12_next 159 = .ok (.iadd, 1) := by decide +kernel
theorem dX12_next_160 : decode cX12_next 160 = .ok (.putfield 21, 3) := by decide +kernel
theorem dX12_next_163 : decode cX12_next 163 = .ok (.return_, 1) := by decide +kernel
theorem dX12_next_164 : decode cX12_next 164 = .ok (.iload_n 1, 1) := by decide +kernel
theorem dX12_next_165 : decode cX12_next 165 = .ok (.invokestatic 177, 3) := by decide +kernel
theorem dX12_next_168 : decode cX12_next 168 = .ok (.istore_n 2, 1) := by decide +kernel
theorem dX12_next_169 : decode cX12_next 169 = .ok (.iconst 1, 1) := by decide +kernel
theorem dX12_next_170 : decode cX12_next 170 = .ok (.istore_n 3, 1) := by decide +kernel
theorem dX12_next_171 : decode cX12_next 171 = .ok (.aload_n 0, 1) := by decide +kernel
theorem dX12_next_172 : decode cX12_next 172 = .ok (.lconst 0, 1) := by decide +kernel
theorem dX12_next_173 : decode cX12_next 173 = .ok (.putfield 187, 3) := by decide +kernel
theorem dX12_next_176 : decode cX12_next 176 = .ok (.aload_n 0, 1) := by decide +kernel
theorem dX12_next_177 : decode cX12_next 177 = .ok (.iconst 0, 1) := by decide +kernel
theorem dX12_next_178 : decode cX12_next 178 = .ok (.putfield 184, 3) := by decide +kernel
theorem dX12_next_181 : decode cX12_next 181 = .ok (.aload_n 0, 1) := by decide +kernel
theorem dX12_next_182 : decode cX12_next 182 = .ok (.invokevirtual 164, 3) := by decide +kernel
theorem dX12_next_185 : decode cX12_next 185 = .ok (.invokestatic 177, 3) := by decide +kernel
theorem dX12_next_188 : decode cX12_next 188 = .ok (.ifCond .ne 13, 3) := by decide +kernel
theorem dX12_next_191 : decode cX12_next 191 = .ok (.aload_n 0, 1) := by decide +kernel
theorem dX12_next_192 : decode cX12_next 192 = .ok (.invokevirtual 164, 3) := by decide +kernel
theorem dX12_next_195 : decode cX12_next 195 = .ok (.invokestatic 181, 3) := by decide +kernel
theorem dX12_next_198 : decode cX12_next 198 = .ok (.ifCond .eq 100, 3) := by decide +kernel
theorem dX12_next_201 : decode cX12_next 201 = .ok (.iload_n 3, 1) := by decide +kernel
theorem dX12_next_202 : decode cX12_next 202 = .ok (.ifCond .eq 18, 3) := by decide +kernel
theorem dX12_next_205 : decode cX12_next 205 = .ok (.aload_n 0, 1) := by decide +kernel
theorem dX12_next_206 : decode cX12_next 206 = .ok (.invokevirtual 164, 3) := by decide +kernel
theorem dX12_next_209 : decode cX12_next 209 = .ok (.invokestatic 177, 3) := by decide +kernel
theorem dX12_next_212 : decode cX12_next 212 = .ok (.iload_n 2, 1) := by decide +kernel
theorem dX12_next_213 : decode cX12_next 213 = .ok (.if_icmp .ne 7, 3) := by decide +kernel
theorem dX12_next_216 : decode cX12_next 216 = .ok (.iconst 1, 1) := by decide +kernel
theorem dX12_next_217 : decode cX12_next 217 = .ok (.goto 4, 3) := by decide +kernel
theorem dX12_next_220 : decode cX12_next 220 = .ok (.iconst 0, 1) := by decide +kernel
theorem dX12_next_221 : decode cX12_next 221 = .ok (.istore_n 3, 1) := by decide +kernel
theorem dX12_next_222 : decode cX12_next 222 = .ok (.aload_n 0, 1) := by decide +kernel
theorem dX12_next_223 : decode cX12_next 223 = .ok (.getfield 171, 3) := by decide +kernel
theorem dX12_next_226 : decode cX12_next 226 = .ok (.bipush 7, 2) := by decide +kernel
theorem dX12_next_228 : decode cX12_next 228 = .ok (.if_icmp .ge 20, 3) := by decide +kernel
theorem dX12_next_231 : decode cX12_next 231 = .ok (.aload_n 0, 1) := by decide +kernel
theorem dX12_next_232 : decode cX12_next 232 = .ok (.aload_n 0, 1) := by decide +kernel
theorem dX12_next_233 : decode cX12_next 233 = .ok (.getfield 187, 3) := by decide +kernel
theorem dX12_next_236 : decode cX12_next 236 = .ok (.bipush 8, 2) := by decide +kernel
theorem dX12_next_238 : decode cX12_next 238 = .ok (.lshl, 1) := by decide +kernel
theorem dX12_next_239 : decode cX12_next 239 = .ok (.aload_n 0, 1) := by decide +kernel
theorem dX12_next_240 : decode cX12_next 240 = .ok (.invokevirtual 164, 3) := by decide +kernel
theorem dX12_next_243 : decode cX12_next 243 = .ok (.i2l, 1) := by decide +kernel
theorem dX12_next_244 : decode cX12_next 244 = .ok (.lor, 1) := by decide +kernel
theorem dX12_next_245 : decode cX12_next 245 = .ok (.putfield 187, 3) := by decide +kernel
theorem dX12_next_248 : decode cX12_next 248 = .ok (.aload_n 0, 1) := by decide +kernel
theorem dX12_next_249 : decode cX12_next 249 = .ok (.getfield 171, 3) := by decide +kernel
theorem dX12_next_252 : decode cX12_next 252 = .ok (.iconst 3, 1) := by decide +kernel
theorem dX12_next_253 : decode cX12_next 253 = .ok (.if_icmp .ge 22, 3) := by decide +kernel
theorem dX12_next_256 : decode cX12_next 256 = .ok (.aload_n 0, 1) := by decide +kernel
theorem dX12_next_257 : decode cX12_next 257 = .ok (.bipush 10, 2) := by decide +kernel
theorem dX12_next_259 : decode cX12_next 259 = .ok (.aload_n 0, 1) := by decide +kernel
theorem dX12_next_260 : decode cX12_next 260 = .ok (.getfield 184, 3) := by decide +kernel
theorem dX12_next_263 : decode cX12_next 263 = .ok (.imul, 1) := by decide +kernel
theorem dX12_next_264 : decode cX12_next 264 = .ok (.aload_n 0, 1) := by decide +kernel
theorem dX12_next_265 : decode cX12_next 265 = .ok (.invokevirtual 164, 3) := by decide +kernel
theorem dX12_next_268 : decode cX12_next 268 = .ok (.iadd, 1) := by decide +kernel
theorem dX12_next_269 : decode cX12_next 269 = .ok (.bipush 48, 2) := by decide +kernel
theorem dX12_next_271 : decode cX12_next 271 = .ok (.isub, 1) := by decide +kernel
theorem dX12_next_272 : decode cX12_next 272 = .ok (.putfield 184, 3) := by decide +kernel
theorem dX12_next_275 : decode cX12_next 275 = .ok (.aload_n 0, 1) := by decide +kernel
theorem dX12_next_276 : decode cX12_next 276 = .ok (.dup, 1) := by decide +kernel
theorem dX12_next_277 : decode cX12_next 277 = .ok (.getfield 171, 3) := by decide +kernel
theorem dX12_next_280 : decode cX12_next 280 = .ok (.iconst 1, 1) := by decide +kernel
theorem dX12_next_281 : decode cX12_next 281 = .ok (.iadd, 1) := by decide +kernel
theorem dX12_next_282 : decode cX12_next 282 = .ok (.putfield 171, 3) := by decide +kernel
theorem dX12_next_285 : decode cX12_next 285 = .ok (.aload_n 0, 1) := by decide +kernel
theorem dX12_next_286 : decode cX12_next 286 = .ok (.dup, 1) := by decide +kernel
theorem dX12_next_287 : decode cX12_next 287 = .ok (.getfield 21, 3) := by decide +kernel
theorem dX12_next_290 : decode cX12_next 290 = .ok (.iconst 1, 1) := by decide +kernel
theorem dX12_next_291 : decode cX12_next 291 = .ok (.iadd, 1) := by decide +kernel
theorem dX12_next_292 : decode cX12_next 292 = .ok (.putfield 21, 3) := by decide +kernel
theorem dX12_next_295 : decode cX12_next 295 = .ok (.goto (-114), 3) := by decide +kernel
theorem dX12_next_298 : decode cX12_next 298 = .ok (.aload_n 0, 1) := by decide +kernel
theorem dX12_next_299 : decode cX12_next 299 = .ok (.iload_n 3, 1) := by decide +kernel
theorem dX12_next_300 : decode cX12_next 300 = .ok (.ifCond .eq 20, 3) := by decide +kernel
theorem dX12_next_303 : decode cX12_next 303 = .ok (.aload_n 0, 1) := by decide +kernel
theorem dX12_next_304 : decode cX12_next 304 = .ok (.getfield 171, 3) := by decide +kernel
theorem dX12_next_307 : decode cX12_next 307 = .ok (.iload_n 2, 1) := by decide +kernel
theorem dX12_next_308 : decode cX12_next 308 = .ok (.ifCond .eq 8, 3) := by decide +kernel
theorem dX12_next_311 : decode cX12_next 311 = .ok (.bipush 7, 2) := by decide +kernel
theorem dX12_next_313 : decode cX12_next 313 = .ok (.goto 4, 3) := by decide +kernel
theorem dX12_next_316 : decode cX12_next 316 = .ok (.iconst 3, 1) := by decide +kernel
theorem dX12_next_317 : decode cX12_next 317 = .ok (.if_icmp .le 7, 3) := by decide +kernel
theorem dX12_next_320 : decode cX12_next 320 = .ok (.iconst 4, 1) := by decide +kernel
theorem dX12_next_321 : decode cX12_next 321 = .ok (.goto 12, 3) := by decide +kernel
theorem dX12_next_324 : decode cX12_next 324 = .ok (.iload_n 2, 1) := by decide +kernel
theorem dX12_next_325 : decode cX12_next 325 = .ok (.ifCond .eq 7, 3) := by decide +kernel
theorem dX12_next_328 : decode cX12_next 328 = .ok (.iconst 1, 1) := by decide +kernel
theorem dX12_next_329 : decode cX12_next 329 = .ok (.goto 4, 3) := by decide +kernel
theorem dX12_next_332 : decode cX12_next 332 = .ok (.iconst 2, 1) := by decide +kernel
theorem dX12_next_333 : decode cX12_next 333 = .ok (.putfield 174, 3) := by decide +kernel
theorem dX12_next_336 : decode cX12_next 336 = .ok (.return_, 1) := by decide +kernel
theorem dX12_bad_0 : decode cX12_bad 0 = .ok (.aload_n 0, 1) := by decide +kernel
theorem dX12_bad_1 : decode cX12_bad 1 = .ok (.iload_n 1, 1) := by decide +kernel
theorem dX12_bad_2 : decode cX12_bad 2 = .ok (.putfield 191, 3) := by decide +kernel
theorem dX12_bad_5 : decode cX12_bad 5 = .ok (.aload_n 0, 1) := by decide +kernel
theorem dX12_bad_6 : decode cX12_bad 6 = .ok (.aload_n 0, 1) := by decide +kernel
theorem dX12_bad_7 : decode cX12_bad 7 = .ok (.getfield 168, 3) := by decide +kernel
theorem dX12_bad_10 : decode cX12_bad 10 = .ok (.putfield 194, 3) := by decide +kernel
theorem dX12_bad_13 : decode cX12_bad 13 = .ok (.iconst 0, 1) := by decide +kernel
theorem dX12_bad_14 : decode cX12_bad 14 = .ok (.ireturn, 1) := by decide +kernel
theorem dX12_isWord_0 : decode cX12_isWord 0 = .ok (.aload_n 0, 1) := by decide +kernel
theorem dX12_isWord_1 : decode cX12_isWord 1 = .ok (.getfield 174, 3) := by decide +kernel
theorem dX12_isWord_4 : decode cX12_isWord 4 = .ok (.iconst 1, 1) := by decide +kernel
theorem dX12_isWord_5 : decode cX12_isWord 5 = .ok (.if_icmp .ne 16, 3) := by decide +kernel
theorem dX12_isWord_8 : decode cX12_isWord 8 = .ok (.aload_n 0, 1) := by decide +kernel
theorem dX12_isWord_9 : decode cX12_isWord 9 = .ok (.getfield 187, 3) := by decide +kernel
theorem dX12_isWord_12 : decode cX12_isWord 12 = .ok (.lload_n 1, 1) := by decide +kernel
theorem dX12_isWord_13 : decode cX12_isWord 13 = .ok (.lcmp, 1) := by decide +kernel
theorem dX12_isWord_14 : decode cX12_isWord 14 = .ok (.ifCond .ne 7, 3) := by decide +kernel
theorem dX12_isWord_17 : decode cX12_isWord 17 = .ok (.iconst 1, 1) := by decide +kernel
theorem dX12_isWord_18 : decode cX12_isWord 18 = .ok (.goto 4, 3) := by decide +kernel
theorem dX12_isWord_21 : decode cX12_isWord 21 = .ok (.iconst 0, 1) := by decide +kernel
theorem dX12_isWord_22 : decode cX12_isWord 22 = .ok (.ireturn, 1) := by decide +kernel
theorem dX12_isSign_0 : decode cX12_isSign 0 = .ok (.aload_n 0, 1) := by decide +kernel
theorem dX12_isSign_1 : decode cX12_isSign 1 = .ok (.getfield 174, 3) := by decide +kernel
theorem dX12_isSign_4 : decode cX12_isSign 4 = .ok (.iconst 3, 1) := by decide +kernel
theorem dX12_isSign_5 : decode cX12_isSign 5 = .ok (.if_icmp .ne 15, 3) := by decide +kernel
theorem dX12_isSign_8 : decode cX12_isSign 8 = .ok (.aload_n 0, 1) := by decide +kernel
theorem dX12_isSign_9 : decode cX12_isSign 9 = .ok (.getfield 184, 3) := by decide +kernel
theorem dX12_isSign_12 : decode cX12_isSign 12 = .ok (.iload_n 1, 1) := by decide +kernel
theorem dX12_isSign_13 : decode cX12_isSign 13 = .ok (.if_icmp .ne 7, 3) := by decide +kernel
theorem dX12_isSign_16 : decode cX12_isSign 16 = .ok (.iconst 1, 1) := by decide +kernel
theorem dX12_isSign_17 : decode cX12_isSign 17 = .ok (.goto 4, 3) := by decide +kernel
theorem dX12_isSign_20 : decode cX12_isSign 20 = .ok (.iconst 0, 1) := by decide +kernel
theorem dX12_isSign_21 : decode cX12_isSign 21 = .ok (.ireturn, 1) := by decide +kernel
theorem dX12_sign_0 : decode cX12_sign 0 = .ok (.aload_n 0, 1) := by decide +kernel
theorem dX12_sign_1 : decode cX12_sign 1 = .ok (.iload_n 1, 1) := by decide +kernel
theorem dX12_sign_2 : decode cX12_sign 2 = .ok (.invokevirtual 197, 3) := by decide +kernel
theorem dX12_sign_5 : decode cX12_sign 5 = .ok (.ifCond .ne 9, 3) := by decide +kernel
theorem dX12_sign_8 : decode cX12_sign 8 = .ok (.aload_n 0, 1) := by decide +kernel
theorem dX12_sign_9 : decode cX12_sign 9 = .ok (.iconst 1, 1) := by decide +kernel
theorem dX12_sign_10 : decode cX12_sign 10 = .ok (.invokevirtual 200, 3) := by decide +kernel
theorem dX12_sign_13 : decode cX12_sign 13 = .ok (.ireturn, 1) := by decide +kernel
theorem dX12_sign_14 : decode cX12_sign 14 = .ok (.aload_n 0, 1) := by decide +kernel
theorem dX12_sign_15 : decode cX12_sign 15 = .ok (.invokevirtual 203, 3) := by decide +kernel
theorem dX12_sign_18 : decode cX12_sign 18 = .ok (.iconst 1, 1) := by decide +kernel
theorem dX12_sign_19 : decode cX12_sign 19 = .ok (.ireturn, 1) := by decide +kernel
theorem dX12_isName_0 : decode cX12_isName 0 = .ok (.aload_n 0, 1) := by decide +kernel
theorem dX12_isName_1 : decode cX12_isName 1 = .ok (.getfield 174, 3) := by decide +kernel
theorem dX12_isName_4 : decode cX12_isName 4 = .ok (.iconst 1, 1) := by decide +kernel
theorem dX12_isName_5 : decode cX12_isName 5 = .ok (.if_icmp .ne 7, 3) := by decide +kernel
theorem dX12_isName_8 : decode cX12_isName 8 = .ok (.iconst 1, 1) := by decide +kernel
theorem dX12_isName_9 : decode cX12_isName 9 = .ok (.goto 4, 3) := by decide +kernel
theorem dX12_isName_12 : decode cX12_isName 12 = .ok (.iconst 0, 1) := by decide +kernel
theorem dX12_isName_13 : decode cX12_isName 13 = .ok (.istore_n 1, 1) := by decide +kernel
theorem dX12_isName_14 : decode cX12_isName 14 = .ok (.iconst 0, 1) := by decide +kernel
theorem dX12_isName_15 : decode cX12_isName 15 = .ok (.istore_n 2, 1) := by decide +kernel
theorem dX12_isName_16 : decode cX12_isName 16 = .ok (.iload_n 2, 1) := by decide +kernel
theorem dX12_isName_17 : decode cX12_isName 17 = .ok (.bipush 34, 2) := by decide +kernel
theorem dX12_isName_19 : decode cX12_isName 19 = .ok (.if_icmp .ge 33, 3) := by decide +kernel
theorem dX12_isName_22 : decode cX12_isName 22 = .ok (.iload_n 1, 1) := by decide +kernel
theorem dX12_isName_23 : decode cX12_isName 23 = .ok (.ifCond .eq 21, 3) := by decide +kernel
theorem dX12_isName_26 : decode cX12_isName 26 = .ok (.aload_n 0, 1) := by decide +kernel
theorem dX12_isName_27 : decode cX12_isName 27 = .ok (.getfield 187, 3) := by decide +kernel
theorem dX12_isName_30 : decode cX12_isName 30 = .ok (.aload_n 0, 1) := by decide +kernel
