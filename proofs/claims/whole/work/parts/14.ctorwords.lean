abbrev m_X0_init : bm_I := (yX0_init, cX0_init, 1, none)
abbrev m_X1_init : bm_I := (yX1_init, cX1_init, 1, none)
abbrev m_X2_init : bm_I := (yX2_init, cX2_init, 1, none)
abbrev m_X3_init : bm_I := (yX3_init, cX3_init, 1, none)
abbrev m_X4_init : bm_I := (yX4_init, cX4_init, 3, none)
abbrev m_X5_init : bm_I := (yX5_init, cX5_init, 2, none)
abbrev m_X6_init : bm_I := (yX6_init, cX6_init, 1, none)
abbrev m_X7_init : bm_I := (yX7_init, cX7_init, 1, none)
abbrev m_X8_init : bm_I := (yX8_init, cX8_init, 2, none)
abbrev m_X9_init : bm_I := (yX9_init, cX9_init, 1, none)
abbrev m_X11_init : bm_I := (yX11_init, cX11_init, 2, none)
abbrev m_X12_init : bm_I := (yX12_init, cX12_init, 2, none)
theorem dX0_init_0 : decode cX0_init 0 = .ok (.aload_n 0, 1) := by decide +kernel
theorem dX0_init_1 : decode cX0_init 1 = .ok (.invokespecial 3, 3) := by decide +kernel
theorem dX0_init_4 : decode cX0_init 4 = .ok (.aload_n 0, 1) := by decide +kernel
theorem dX0_init_5 : decode cX0_init 5 = .ok (.bipush 8, 2) := by decide +kernel
theorem dX0_init_7 : decode cX0_init 7 = .ok (.newarray .long, 2) := by decide +kernel
theorem dX0_init_9 : decode cX0_init 9 = .ok (.putfield 9, 3) := by decide +kernel
theorem dX0_init_12 : decode cX0_init 12 = .ok (.aload_n 0, 1) := by decide +kernel
theorem dX0_init_13 : decode cX0_init 13 = .ok (.bipush 8, 2) := by decide +kernel
theorem dX0_init_15 : decode cX0_init 15 = .ok (.newarray .int, 2) := by decide +kernel
theorem dX0_init_17 : decode cX0_init 17 = .ok (.putfield 15, 3) := by decide +kernel
theorem dX0_init_20 : decode cX0_init 20 = .ok (.aload_n 0, 1) := by decide +kernel
theorem dX0_init_21 : decode cX0_init 21 = .ok (.bipush 8, 2) := by decide +kernel
theorem dX0_init_23 : decode cX0_init 23 = .ok (.newarray .int, 2) := by decide +kernel
theorem dX0_init_25 : decode cX0_init 25 = .ok (.putfield 19, 3) := by decide +kernel
theorem dX0_init_28 : decode cX0_init 28 = .ok (.aload_n 0, 1) := by decide +kernel
theorem dX0_init_29 : decode cX0_init 29 = .ok (.bipush 8, 2) := by decide +kernel
theorem dX0_init_31 : decode cX0_init 31 = .ok (.newarray .int, 2) := by decide +kernel
theorem dX0_init_33 : decode cX0_init 33 = .ok (.putfield 22, 3) := by decide +kernel
theorem dX0_init_36 : decode cX0_init 36 = .ok (.aload_n 0, 1) := by decide +kernel
theorem dX0_init_37 : decode cX0_init 37 = .ok (.bipush 8, 2) := by decide +kernel
theorem dX0_init_39 : decode cX0_init 39 = .ok (.newarray .int, 2) := by decide +kernel
theorem dX0_init_41 : decode cX0_init 41 = .ok (.putfield 25, 3) := by decide +kernel
theorem dX0_init_44 : decode cX0_init 44 = .ok (.aload_n 0, 1) := by decide +kernel
theorem dX0_init_45 : decode cX0_init 45 = .ok (.bipush 7, 2) := by decide +kernel
theorem dX0_init_47 : decode cX0_init 47 = .ok (.newarray .long, 2) := by decide +kernel
theorem dX0_init_49 : decode cX0_init 49 = .ok (.putfield 28, 3) := by decide +kernel
theorem dX0_init_52 : decode cX0_init 52 = .ok (.aload_n 0, 1) := by decide +kernel
theorem dX0_init_53 : decode cX0_init 53 = .ok (.bipush 7, 2) := by decide +kernel
theorem dX0_init_55 : decode cX0_init 55 = .ok (.newarray .int, 2) := by decide +kernel
theorem dX0_init_57 : decode cX0_init 57 = .ok (.putfield 31, 3) := by decide +kernel
theorem dX0_init_60 : decode cX0_init 60 = .ok (.aload_n 0, 1) := by decide +kernel
theorem dX0_init_61 : decode cX0_init 61 = .ok (.bipush 7, 2) := by decide +kernel
theorem dX0_init_63 : decode cX0_init 63 = .ok (.newarray .int, 2) := by decide +kernel
theorem dX0_init_65 : decode cX0_init 65 = .ok (.putfield 34, 3) := by decide +kernel
theorem dX0_init_68 : decode cX0_init 68 = .ok (.aload_n 0, 1) := by decide +kernel
theorem dX0_init_69 : decode cX0_init 69 = .ok (.iconst 4, 1) := by decide +kernel
theorem dX0_init_70 : decode cX0_init 70 = .ok (.newarray .int, 2) := by decide +kernel
theorem dX0_init_72 : decode cX0_init 72 = .ok (.putfield 37, 3) := by decide +kernel
theorem dX0_init_75 : decode cX0_init 75 = .ok (.aload_n 0, 1) := by decide +kernel
theorem dX0_init_76 : decode cX0_init 76 = .ok (.iconst 4, 1) := by decide +kernel
theorem dX0_init_77 : decode cX0_init 77 = .ok (.newarray .int, 2) := by decide +kernel
theorem dX0_init_79 : decode cX0_init 79 = .ok (.putfield 40, 3) := by decide +kernel
theorem dX0_init_82 : decode cX0_init 82 = .ok (.aload_n 0, 1) := by decide +kernel
theorem dX0_init_83 : decode cX0_init 83 = .ok (.iconst 2, 1) := by decide +kernel
theorem dX0_init_84 : decode cX0_init 84 = .ok (.putfield 43, 3) := by decide +kernel
theorem dX0_init_87 : decode cX0_init 87 = .ok (.aload_n 0, 1) := by decide +kernel
theorem dX0_init_88 : decode cX0_init 88 = .ok (.bipush 6, 2) := by decide +kernel
theorem dX0_init_90 : decode cX0_init 90 = .ok (.putfield 47, 3) := by decide +kernel
theorem dX0_init_93 : decode cX0_init 93 = .ok (.return_, 1) := by decide +kernel
theorem dX1_init_0 : decode cX1_init 0 = .ok (.aload_n 0, 1) := by decide +kernel
theorem dX1_init_1 : decode cX1_init 1 = .ok (.invokespecial 3, 3) := by decide +kernel
theorem dX1_init_4 : decode cX1_init 4 = .ok (.aload_n 0, 1) := by decide +kernel
theorem dX1_init_5 : decode cX1_init 5 = .ok (.bipush 40, 2) := by decide +kernel
theorem dX1_init_7 : decode cX1_init 7 = .ok (.newarray .int, 2) := by decide +kernel
theorem dX1_init_9 : decode cX1_init 9 = .ok (.putfield 9, 3) := by decide +kernel
theorem dX1_init_12 : decode cX1_init 12 = .ok (.aload_n 0, 1) := by decide +kernel
theorem dX1_init_13 : decode cX1_init 13 = .ok (.bipush 40, 2) := by decide +kernel
theorem dX1_init_15 : decode cX1_init 15 = .ok (.newarray .int, 2) := by decide +kernel
theorem dX1_init_17 : decode cX1_init 17 = .ok (.putfield 15, 3) := by decide +kernel
theorem dX1_init_20 : decode cX1_init 20 = .ok (.aload_n 0, 1) := by decide +kernel
theorem dX1_init_21 : decode cX1_init 21 = .ok (.bipush 40, 2) := by decide +kernel
theorem dX1_init_23 : decode cX1_init 23 = .ok (.newarray .int, 2) := by decide +kernel
theorem dX1_init_25 : decode cX1_init 25 = .ok (.putfield 18, 3) := by decide +kernel
theorem dX1_init_28 : decode cX1_init 28 = .ok (.aload_n 0, 1) := by decide +kernel
theorem dX1_init_29 : decode cX1_init 29 = .ok (.iconst (-1), 1) := by decide +kernel
theorem dX1_init_30 : decode cX1_init 30 = .ok (.putfield 21, 3) := by decide +kernel
theorem dX1_init_33 : decode cX1_init 33 = .ok (.aload_n 0, 1) := by decide +kernel
theorem dX1_init_34 : decode cX1_init 34 = .ok (.iconst (-1), 1) := by decide +kernel
theorem dX1_init_35 : decode cX1_init 35 = .ok (.putfield 25, 3) := by decide +kernel
theorem dX1_init_38 : decode cX1_init 38 = .ok (.aload_n 0, 1) := by decide +kernel
theorem dX1_init_39 : decode cX1_init 39 = .ok (.iconst (-1), 1) := by decide +kernel
theorem dX1_init_40 : decode cX1_init 40 = .ok (.putfield 28, 3) := by decide +kernel
theorem dX1_init_43 : decode cX1_init 43 = .ok (.aload_n 0, 1) := by decide +kernel
theorem dX1_init_44 : decode cX1_init 44 = .ok (.iconst (-1), 1) := by decide +kernel
theorem dX1_init_45 : decode cX1_init 45 = .ok (.putfield 31, 3) := by decide +kernel
theorem dX1_init_48 : decode cX1_init 48 = .ok (.return_, 1) := by decide +kernel
theorem dX2_init_0 : decode cX2_init 0 = .ok (.aload_n 0, 1) := by decide +kernel
theorem dX2_init_1 : decode cX2_init 1 = .ok (.invokespecial 3, 3) := by decide +kernel
theorem dX2_init_4 : decode cX2_init 4 = .ok (.aload_n 0, 1) := by decide +kernel
theorem dX2_init_5 : decode cX2_init 5 = .ok (.iconst (-1), 1) := by decide +kernel
theorem dX2_init_6 : decode cX2_init 6 = .ok (.putfield 9, 3) := by decide +kernel
theorem dX2_init_9 : decode cX2_init 9 = .ok (.aload_n 0, 1) := by decide +kernel
theorem dX2_init_10 : decode cX2_init 10 = .ok (.iconst (-1), 1) := by decide +kernel
theorem dX2_init_11 : decode cX2_init 11 = .ok (.putfield 15, 3) := by decide +kernel
theorem dX2_init_14 : decode cX2_init 14 = .ok (.return_, 1) := by decide +kernel
theorem dX3_init_0 : decode cX3_init 0 = .ok (.aload_n 0, 1) := by decide +kernel
theorem dX3_init_1 : decode cX3_init 1 = .ok (.invokespecial 1, 3) := by decide +kernel
theorem dX3_init_4 : decode cX3_init 4 = .ok (.aload_n 0, 1) := by decide +kernel
theorem dX3_init_5 : decode cX3_init 5 = .ok (.new 7, 3) := by decide +kernel
theorem dX3_init_8 : decode cX3_init 8 = .ok (.dup, 1) := by decide +kernel
theorem dX3_init_9 : decode cX3_init 9 = .ok (.invokespecial 9, 3) := by decide +kernel
theorem dX3_init_12 : decode cX3_init 12 = .ok (.putfield 10, 3) := by decide +kernel
theorem dX3_init_15 : decode cX3_init 15 = .ok (.aload_n 0, 1) := by decide +kernel
theorem dX3_init_16 : decode cX3_init 16 = .ok (.new 16, 3) := by decide +kernel
theorem dX3_init_19 : decode cX3_init 19 = .ok (.dup, 1) := by decide +kernel
theorem dX3_init_20 : decode cX3_init 20 = .ok (.aload_n 0, 1) := by decide +kernel
theorem dX3_init_21 : decode cX3_init 21 = .ok (.getfield 10, 3) := by decide +kernel
theorem dX3_init_24 : decode cX3_init 24 = .ok (.invokespecial 18, 3) := by decide +kernel
theorem dX3_init_27 : decode cX3_init 27 = .ok (.putfield 21, 3) := by decide +kernel
theorem dX3_init_30 : decode cX3_init 30 = .ok (.aload_n 0, 1) := by decide +kernel
theorem dX3_init_31 : decode cX3_init 31 = .ok (.new 25, 3) := by decide +kernel
theorem dX3_init_34 : decode cX3_init 34 = .ok (.dup, 1) := by decide +kernel
theorem dX3_init_35 : decode cX3_init 35 = .ok (.invokespecial 27, 3) := by decide +kernel
theorem dX3_init_38 : decode cX3_init 38 = .ok (.putfield 28, 3) := by decide +kernel
theorem dX3_init_41 : decode cX3_init 41 = .ok (.return_, 1) := by decide +kernel
theorem dX4_init_0 : decode cX4_init 0 = .ok (.aload_n 0, 1) := by decide +kernel
theorem dX4_init_1 : decode cX4_init 1 = .ok (.invokespecial 3, 3) := by decide +kernel
theorem dX4_init_4 : decode cX4_init 4 = .ok (.aload_n 0, 1) := by decide +kernel
theorem dX4_init_5 : decode cX4_init 5 = .ok (.bipush 8, 2) := by decide +kernel
theorem dX4_init_7 : decode cX4_init 7 = .ok (.anewarray 9, 3) := by decide +kernel
theorem dX4_init_10 : decode cX4_init 10 = .ok (.putfield 11, 3) := by decide +kernel
theorem dX4_init_13 : decode cX4_init 13 = .ok (.iconst 0, 1) := by decide +kernel
theorem dX4_init_14 : decode cX4_init 14 = .ok (.istore_n 2, 1) := by decide +kernel
theorem dX4_init_15 : decode cX4_init 15 = .ok (.iload_n 2, 1) := by decide +kernel
theorem dX4_init_16 : decode cX4_init 16 = .ok (.bipush 8, 2) := by decide +kernel
theorem dX4_init_18 : decode cX4_init 18 = .ok (.if_icmp .ge 23, 3) := by decide +kernel
theorem dX4_init_21 : decode cX4_init 21 = .ok (.aload_n 0, 1) := by decide +kernel
theorem dX4_init_22 : decode cX4_init 22 = .ok (.getfield 11, 3) := by decide +kernel
theorem dX4_init_25 : decode cX4_init 25 = .ok (.iload_n 2, 1) := by decide +kernel
theorem dX4_init_26 : decode cX4_init 26 = .ok (.new 9, 3) := by decide +kernel
theorem dX4_init_29 : decode cX4_init 29 = .ok (.dup, 1) := by decide +kernel
theorem dX4_init_30 : decode cX4_init 30 = .ok (.aload_n 1, 1) := by decide +kernel
theorem dX4_init_31 : decode cX4_init 31 = .ok (.invokespecial 17, 3) := by decide +kernel
theorem dX4_init_34 : decode cX4_init 34 = .ok (.aastore, 1) := by decide +kernel
theorem dX4_init_35 : decode cX4_init 35 = .ok (.iinc 2 1, 3) := by decide +kernel
theorem dX4_init_38 : decode cX4_init 38 = .ok (.goto (-23), 3) := by decide +kernel
theorem dX4_init_41 : decode cX4_init 41 = .ok (.return_, 1) := by decide +kernel
theorem dX5_init_0 : decode cX5_init 0 = .ok (.aload_n 0, 1) := by decide +kernel
theorem dX5_init_1 : decode cX5_init 1 = .ok (.invokespecial 3, 3) := by decide +kernel
theorem dX5_init_4 : decode cX5_init 4 = .ok (.aload_n 0, 1) := by decide +kernel
theorem dX5_init_5 : decode cX5_init 5 = .ok (.aload_n 1, 1) := by decide +kernel
theorem dX5_init_6 : decode cX5_init 6 = .ok (.putfield 9, 3) := by decide +kernel
theorem dX5_init_9 : decode cX5_init 9 = .ok (.return_, 1) := by decide +kernel
theorem dX6_init_0 : decode cX6_init 0 = .ok (.aload_n 0, 1) := by decide +kernel
theorem dX6_init_1 : decode cX6_init 1 = .ok (.invokespecial 3, 3) := by decide +kernel
theorem dX6_init_4 : decode cX6_init 4 = .ok (.aload_n 0, 1) := by decide +kernel
theorem dX6_init_5 : decode cX6_init 5 = .ok (.bipush 64, 2) := by decide +kernel
theorem dX6_init_7 : decode cX6_init 7 = .ok (.newarray .int, 2) := by decide +kernel
theorem dX6_init_9 : decode cX6_init 9 = .ok (.putfield 9, 3) := by decide +kernel
theorem dX6_init_12 : decode cX6_init 12 = .ok (.return_, 1) := by decide +kernel
theorem dX7_init_0 : decode cX7_init 0 = .ok (.aload_n 0, 1) := by decide +kernel
theorem dX7_init_1 : decode cX7_init 1 = .ok (.invokespecial 3, 3) := by decide +kernel
theorem dX7_init_4 : decode cX7_init 4 = .ok (.aload_n 0, 1) := by decide +kernel
theorem dX7_init_5 : decode cX7_init 5 = .ok (.bipush 40, 2) := by decide +kernel
theorem dX7_init_7 : decode cX7_init 7 = .ok (.anewarray 9, 3) := by decide +kernel
theorem dX7_init_10 : decode cX7_init 10 = .ok (.putfield 11, 3) := by decide +kernel
theorem dX7_init_13 : decode cX7_init 13 = .ok (.aload_n 0, 1) := by decide +kernel
theorem dX7_init_14 : decode cX7_init 14 = .ok (.bipush 40, 2) := by decide +kernel
theorem dX7_init_16 : decode cX7_init 16 = .ok (.newarray .int, 2) := by decide +kernel
theorem dX7_init_18 : decode cX7_init 18 = .ok (.putfield 17, 3) := by decide +kernel
theorem dX7_init_21 : decode cX7_init 21 = .ok (.aload_n 0, 1) := by decide +kernel
theorem dX7_init_22 : decode cX7_init 22 = .ok (.bipush 40, 2) := by decide +kernel
theorem dX7_init_24 : decode cX7_init 24 = .ok (.newarray .int, 2) := by decide +kernel
theorem dX7_init_26 : decode cX7_init 26 = .ok (.putfield 21, 3) := by decide +kernel
theorem dX7_init_29 : decode cX7_init 29 = .ok (.aload_n 0, 1) := by decide +kernel
theorem dX7_init_30 : decode cX7_init 30 = .ok (.bipush 40, 2) := by decide +kernel
theorem dX7_init_32 : decode cX7_init 32 = .ok (.newarray .int, 2) := by decide +kernel
theorem dX7_init_34 : decode cX7_init 34 = .ok (.putfield 24, 3) := by decide +kernel
theorem dX7_init_37 : decode cX7_init 37 = .ok (.return_, 1) := by decide +kernel
theorem dX8_init_0 : decode cX8_init 0 = .ok (.aload_n 0, 1) := by decide +kernel
theorem dX8_init_1 : decode cX8_init 1 = .ok (.invokespecial 3, 3) := by decide +kernel
theorem dX8_init_4 : decode cX8_init 4 = .ok (.aload_n 0, 1) := by decide +kernel
theorem dX8_init_5 : decode cX8_init 5 = .ok (.bipush 8, 2) := by decide +kernel
theorem dX8_init_7 : decode cX8_init 7 = .ok (.newarray .int, 2) := by decide +kernel
theorem dX8_init_9 : decode cX8_init 9 = .ok (.putfield 9, 3) := by decide +kernel
theorem dX8_init_12 : decode cX8_init 12 = .ok (.aload_n 0, 1) := by decide +kernel
theorem dX8_init_13 : decode cX8_init 13 = .ok (.bipush 8, 2) := by decide +kernel
theorem dX8_init_15 : decode cX8_init 15 = .ok (.newarray .int, 2) := by decide +kernel
theorem dX8_init_17 : decode cX8_init 17 = .ok (.putfield 15, 3) := by decide +kernel
theorem dX8_init_20 : decode cX8_init 20 = .ok (.aload_n 0, 1) := by decide +kernel
theorem dX8_init_21 : decode cX8_init 21 = .ok (.bipush 8, 2) := by decide +kernel
theorem dX8_init_23 : decode cX8_init 23 = .ok (.newarray .int, 2) := by decide +kernel
theorem dX8_init_25 : decode cX8_init 25 = .ok (.putfield 18, 3) := by decide +kernel
theorem dX8_init_28 : decode cX8_init 28 = .ok (.aload_n 0, 1) := by decide +kernel
theorem dX8_init_29 : decode cX8_init 29 = .ok (.bipush 8, 2) := by decide +kernel
theorem dX8_init_31 : decode cX8_init 31 = .ok (.newarray .int, 2) := by decide +kernel
theorem dX8_init_33 : decode cX8_init 33 = .ok (.putfield 21, 3) := by decide +kernel
theorem dX8_init_36 : decode cX8_init 36 = .ok (.aload_n 0, 1) := by decide +kernel
theorem dX8_init_37 : decode cX8_init 37 = .ok (.bipush 8, 2) := by decide +kernel
theorem dX8_init_39 : decode cX8_init 39 = .ok (.newarray .int, 2) := by decide +kernel
theorem dX8_init_41 : decode cX8_init 41 = .ok (.putfield 24, 3) := by decide +kernel
theorem dX8_init_44 : decode cX8_init 44 = .ok (.aload_n 0, 1) := by decide +kernel
theorem dX8_init_45 : decode cX8_init 45 = .ok (.bipush 8, 2) := by decide +kernel
theorem dX8_init_47 : decode cX8_init 47 = .ok (.newarray .int, 2) := by decide +kernel
theorem dX8_init_49 : decode cX8_init 49 = .ok (.putfield 27, 3) := by decide +kernel
theorem dX8_init_52 : decode cX8_init 52 = .ok (.aload_n 0, 1) := by decide +kernel
theorem dX8_init_53 : decode cX8_init 53 = .ok (.aload_n 1, 1) := by decide +kernel
theorem dX8_init_54 : decode cX8_init 54 = .ok (.putfield 30, 3) := by decide +kernel
theorem dX8_init_57 : decode cX8_init 57 = .ok (.return_, 1) := by decide +kernel
theorem dX9_init_0 : decode cX9_init 0 = .ok (.aload_n 0, 1) := by decide +kernel
theorem dX9_init_1 : decode cX9_init 1 = .ok (.invokespecial 3, 3) := by decide +kernel
theorem dX9_init_4 : decode cX9_init 4 = .ok (.aload_n 0, 1) := by decide +kernel
theorem dX9_init_5 : decode cX9_init 5 = .ok (.sipush 940, 3) := by decide +kernel
theorem dX9_init_8 : decode cX9_init 8 = .ok (.newarray .int, 2) := by decide +kernel
theorem dX9_init_10 : decode cX9_init 10 = .ok (.putfield 9, 3) := by decide +kernel
theorem dX9_init_13 : decode cX9_init 13 = .ok (.return_, 1) := by decide +kernel
theorem dX11_init_0 : decode cX11_init 0 = .ok (.aload_n 0, 1) := by decide +kernel
theorem dX11_init_1 : decode cX11_init 1 = .ok (.invokespecial 3, 3) := by decide +kernel
theorem dX11_init_4 : decode cX11_init 4 = .ok (.aload_n 0, 1) := by decide +kernel
theorem dX11_init_5 : decode cX11_init 5 = .ok (.new 9, 3) := by decide +kernel
theorem dX11_init_8 : decode cX11_init 8 = .ok (.dup, 1) := by decide +kernel
theorem dX11_init_9 : decode cX11_init 9 = .ok (.invokespecial 11, 3) := by decide +kernel
theorem dX11_init_12 : decode cX11_init 12 = .ok (.putfield 12, 3) := by decide +kernel
theorem dX11_init_15 : decode cX11_init 15 = .ok (.aload_n 0, 1) := by decide +kernel
theorem dX11_init_16 : decode cX11_init 16 = .ok (.new 16, 3) := by decide +kernel
theorem dX11_init_19 : decode cX11_init 19 = .ok (.dup, 1) := by decide +kernel
theorem dX11_init_20 : decode cX11_init 20 = .ok (.aload_n 0, 1) := by decide +kernel
theorem dX11_init_21 : decode cX11_init 21 = .ok (.getfield 12, 3) := by decide +kernel
theorem dX11_init_24 : decode cX11_init 24 = .ok (.invokespecial 18, 3) := by decide +kernel
theorem dX11_init_27 : decode cX11_init 27 = .ok (.putfield 21, 3) := by decide +kernel
theorem dX11_init_30 : decode cX11_init 30 = .ok (.aload_n 0, 1) := by decide +kernel
theorem dX11_init_31 : decode cX11_init 31 = .ok (.new 25, 3) := by decide +kernel
theorem dX11_init_34 : decode cX11_init 34 = .ok (.dup, 1) := by decide +kernel
theorem dX11_init_35 : decode cX11_init 35 = .ok (.invokespecial 27, 3) := by decide +kernel
theorem dX11_init_38 : decode cX11_init 38 = .ok (.putfield 28, 3) := by decide +kernel
theorem dX11_init_41 : decode cX11_init 41 = .ok (.aload_n 0, 1) := by decide +kernel
theorem dX11_init_42 : decode cX11_init 42 = .ok (.new 25, 3) := by decide +kernel
theorem dX11_init_45 : decode cX11_init 45 = .ok (.dup, 1) := by decide +kernel
theorem dX11_init_46 : decode cX11_init 46 = .ok (.invokespecial 27, 3) := by decide +kernel
theorem dX11_init_49 : decode cX11_init 49 = .ok (.putfield 32, 3) := by decide +kernel
theorem dX11_init_52 : decode cX11_init 52 = .ok (.aload_n 0, 1) := by decide +kernel
theorem dX11_init_53 : decode cX11_init 53 = .ok (.new 35, 3) := by decide +kernel
theorem dX11_init_56 : decode cX11_init 56 = .ok (.dup, 1) := by decide +kernel
theorem dX11_init_57 : decode cX11_init 57 = .ok (.aload_n 0, 1) := by decide +kernel
theorem dX11_init_58 : decode cX11_init 58 = .ok (.getfield 28, 3) := by decide +kernel
theorem dX11_init_61 : decode cX11_init 61 = .ok (.invokespecial 37, 3) := by decide +kernel
theorem dX11_init_64 : decode cX11_init 64 = .ok (.putfield 40, 3) := by decide +kernel
theorem dX11_init_67 : decode cX11_init 67 = .ok (.aload_n 0, 1) := by decide +kernel
theorem dX11_init_68 : decode cX11_init 68 = .ok (.new 35, 3) := by decide +kernel
theorem dX11_init_71 : decode cX11_init 71 = .ok (.dup, 1) := by decide +kernel
theorem dX11_init_72 : decode cX11_init 72 = .ok (.aload_n 0, 1) := by decide +kernel
theorem dX11_init_73 : decode cX11_init 73 = .ok (.getfield 28, 3) := by decide +kernel
theorem dX11_init_76 : decode cX11_init 76 = .ok (.invokespecial 37, 3) := by decide +kernel
theorem dX11_init_79 : decode cX11_init 79 = .ok (.putfield 44, 3) := by decide +kernel
theorem dX11_init_82 : decode cX11_init 82 = .ok (.aload_n 0, 1) := by decide +kernel
theorem dX11_init_83 : decode cX11_init 83 = .ok (.new 47, 3) := by decide +kernel
theorem dX11_init_86 : decode cX11_init 86 = .ok (.dup, 1) := by decide +kernel
theorem dX11_init_87 : decode cX11_init 87 = .ok (.aload_n 0, 1) := by decide +kernel
theorem dX11_init_88 : decode cX11_init 88 = .ok (.getfield 28, 3) := by decide +kernel
theorem dX11_init_91 : decode cX11_init 91 = .ok (.invokespecial 49, 3) := by decide +kernel
theorem dX11_init_94 : decode cX11_init 94 = .ok (.putfield 50, 3) := by decide +kernel
theorem dX11_init_97 : decode cX11_init 97 = .ok (.aload_n 0, 1) := by decide +kernel
theorem dX11_init_98 : decode cX11_init 98 = .ok (.iconst 2, 1) := by decide +kernel
theorem dX11_init_99 : decode cX11_init 99 = .ok (.anewarray 54, 3) := by decide +kernel
theorem dX11_init_102 : decode cX11_init 102 = .ok (.putfield 56, 3) := by decide +kernel
theorem dX11_init_105 : decode cX11_init 105 = .ok (.iconst 0, 1) := by decide +kernel
theorem dX11_init_106 : decode cX11_init 106 = .ok (.istore_n 1, 1) := by decide +kernel
theorem dX11_init_107 : decode cX11_init 107 = .ok (.iload_n 1, 1) := by decide +kernel
theorem dX11_init_108 : decode cX11_init 108 = .ok (.iconst 2, 1) := by decide +kernel
theorem dX11_init_109 : decode cX11_init 109 = .ok (.if_icmp .ge 22, 3) := by decide +kernel
theorem dX11_init_112 : decode cX11_init 112 = .ok (.aload_n 0, 1) := by decide +kernel
theorem dX11_init_113 : decode cX11_init 113 = .ok (.getfield 56, 3) := by decide +kernel
theorem dX11_init_116 : decode cX11_init 116 = .ok (.iload_n 1, 1) := by decide +kernel
theorem dX11_init_117 : decode cX11_init 117 = .ok (.new 54, 3) := by decide +kernel
theorem dX11_init_120 : decode cX11_init 120 = .ok (.dup, 1) := by decide +kernel
theorem dX11_init_121 : decode cX11_init 121 = .ok (.invokespecial 60, 3) := by decide +kernel
theorem dX11_init_124 : decode cX11_init 124 = .ok (.aastore, 1) := by decide +kernel
theorem dX11_init_125 : decode cX11_init 125 = .ok (.iinc 1 1, 3) := by decide +kernel
theorem dX11_init_128 : decode cX11_init 128 = .ok (.goto (-21), 3) := by decide +kernel
theorem dX11_init_131 : decode cX11_init 131 = .ok (.aload_n 0, 1) := by decide +kernel
theorem dX11_init_132 : decode cX11_init 132 = .ok (.new 61, 3) := by decide +kernel
theorem dX11_init_135 : decode cX11_init 135 = .ok (.dup, 1) := by decide +kernel
theorem dX11_init_136 : decode cX11_init 136 = .ok (.invokespecial 63, 3) := by decide +kernel
theorem dX11_init_139 : decode cX11_init 139 = .ok (.putfield 64, 3) := by decide +kernel
theorem dX11_init_142 : decode cX11_init 142 = .ok (.aload_n 0, 1) := by decide +kernel
theorem dX11_init_143 : decode cX11_init 143 = .ok (.new 68, 3) := by decide +kernel
theorem dX11_init_146 : decode cX11_init 146 = .ok (.dup, 1) := by decide +kernel
theorem dX11_init_147 : decode cX11_init 147 = .ok (.invokespecial 70, 3) := by decide +kernel
theorem dX11_init_150 : decode cX11_init 150 = .ok (.putfield 71, 3) := by decide +kernel
theorem dX11_init_153 : decode cX11_init 153 = .ok (.aload_n 0, 1) := by decide +kernel
theorem dX11_init_154 : decode cX11_init 154 = .ok (.new 68, 3) := by decide +kernel
theorem dX11_init_157 : decode cX11_init 157 = .ok (.dup, 1) := by decide +kernel
theorem dX11_init_158 : decode cX11_init 158 = .ok (.invokespecial 70, 3) := by decide +kernel
theorem dX11_init_161 : decode cX11_init 161 = .ok (.putfield 75, 3) := by decide +kernel
theorem dX11_init_164 : decode cX11_init 164 = .ok (.aload_n 0, 1) := by decide +kernel
theorem dX11_init_165 : decode cX11_init 165 = .ok (.new 78, 3) := by decide +kernel
theorem dX11_init_168 : decode cX11_init 168 = .ok (.dup, 1) := by decide +kernel
theorem dX11_init_169 : decode cX11_init 169 = .ok (.invokespecial 80, 3) := by decide +kernel
theorem dX11_init_172 : decode cX11_init 172 = .ok (.putfield 81, 3) := by decide +kernel
theorem dX11_init_175 : decode cX11_init 175 = .ok (.aload_n 0, 1) := by decide +kernel
theorem dX11_init_176 : decode cX11_init 176 = .ok (.new 85, 3) := by decide +kernel
theorem dX11_init_179 : decode cX11_init 179 = .ok (.dup, 1) := by decide +kernel
theorem dX11_init_180 : decode cX11_init 180 = .ok (.invokespecial 87, 3) := by decide +kernel
theorem dX11_init_183 : decode cX11_init 183 = .ok (.putfield 88, 3) := by decide +kernel
theorem dX11_init_186 : decode cX11_init 186 = .ok (.aload_n 0, 1) := by decide +kernel
theorem dX11_init_187 : decode cX11_init 187 = .ok (.iconst (-1), 1) := by decide +kernel
theorem dX11_init_188 : decode cX11_init 188 = .ok (.putfield 92, 3) := by decide +kernel
theorem dX11_init_191 : decode cX11_init 191 = .ok (.aload_n 0, 1) := by decide +kernel
theorem dX11_init_192 : decode cX11_init 192 = .ok (.iconst (-1), 1) := by decide +kernel
theorem dX11_init_193 : decode cX11_init 193 = .ok (.putfield 96, 3) := by decide +kernel
theorem dX11_init_196 : decode cX11_init 196 = .ok (.aload_n 0, 1) := by decide +kernel
theorem dX11_init_197 : decode cX11_init 197 = .ok (.iconst (-1), 1) := by decide +kernel
theorem dX11_init_198 : decode cX11_init 198 = .ok (.putfield 99, 3) := by decide +kernel
theorem dX11_init_201 : decode cX11_init 201 = .ok (.return_, 1) := by decide +kernel
theorem dX12_init_0 : decode cX12_init 0 = .ok (.aload_n 0, 1) := by decide +kernel
theorem dX12_init_1 : decode cX12_init 1 = .ok (.invokespecial 27, 3) := by decide +kernel
theorem dX12_init_4 : decode cX12_init 4 = .ok (.aload_n 0, 1) := by decide +kernel
theorem dX12_init_5 : decode cX12_init 5 = .ok (.sipush 940, 3) := by decide +kernel
theorem dX12_init_8 : decode cX12_init 8 = .ok (.newarray .byte, 2) := by decide +kernel
theorem dX12_init_10 : decode cX12_init 10 = .ok (.putfield 14, 3) := by decide +kernel
theorem dX12_init_13 : decode cX12_init 13 = .ok (.aload_n 0, 1) := by decide +kernel
theorem dX12_init_14 : decode cX12_init 14 = .ok (.sipush 287, 3) := by decide +kernel
theorem dX12_init_17 : decode cX12_init 17 = .ok (.newarray .int, 2) := by decide +kernel
theorem dX12_init_19 : decode cX12_init 19 = .ok (.putfield 33, 3) := by decide +kernel
theorem dX12_init_22 : decode cX12_init 22 = .ok (.aload_n 0, 1) := by decide +kernel
theorem dX12_init_23 : decode cX12_init 23 = .ok (.bipush 61, 2) := by decide +kernel
theorem dX12_init_25 : decode cX12_init 25 = .ok (.newarray .int, 2) := by decide +kernel
theorem dX12_init_27 : decode cX12_init 27 = .ok (.putfield 37, 3) := by decide +kernel
theorem dX12_init_30 : decode cX12_init 30 = .ok (.aload_n 0, 1) := by decide +kernel
theorem dX12_init_31 : decode cX12_init 31 = .ok (.sipush 135, 3) := by decide +kernel
theorem dX12_init_34 : decode cX12_init 34 = .ok (.newarray .int, 2) := by decide +kernel
theorem dX12_init_36 : decode cX12_init 36 = .ok (.putfield 40, 3) := by decide +kernel
theorem dX12_init_39 : decode cX12_init 39 = .ok (.aload_n 0, 1) := by decide +kernel
theorem dX12_init_40 : decode cX12_init 40 = .ok (.bipush 30, 2) := by decide +kernel
theorem dX12_init_42 : decode cX12_init 42 = .ok (.newarray .long, 2) := by decide +kernel
theorem dX12_init_44 : decode cX12_init 44 = .ok (.putfield 43, 3) := by decide +kernel
theorem dX12_init_47 : decode cX12_init 47 = .ok (.aload_n 0, 1) := by decide +kernel
theorem dX12_init_48 : decode cX12_init 48 = .ok (.bipush 34, 2) := by decide +kernel
theorem dX12_init_50 : decode cX12_init 50 = .ok (.newarray .long, 2) := by decide +kernel
theorem dX12_init_52 : decode cX12_init 52 = .ok (.putfield 47, 3) := by decide +kernel
theorem dX12_init_55 : decode cX12_init 55 = .ok (.aload_n 0, 1) := by decide +kernel
theorem dX12_init_56 : decode cX12_init 56 = .ok (.bipush 8, 2) := by decide +kernel
theorem dX12_init_58 : decode cX12_init 58 = .ok (.newarray .int, 2) := by decide +kernel
theorem dX12_init_60 : decode cX12_init 60 = .ok (.putfield 50, 3) := by decide +kernel
theorem dX12_init_63 : decode cX12_init 63 = .ok (.aload_n 0, 1) := by decide +kernel
theorem dX12_init_64 : decode cX12_init 64 = .ok (.sipush 360, 3) := by decide +kernel
theorem dX12_init_67 : decode cX12_init 67 = .ok (.newarray .int, 2) := by decide +kernel
theorem dX12_init_69 : decode cX12_init 69 = .ok (.putfield 53, 3) := by decide +kernel
theorem dX12_init_72 : decode cX12_init 72 = .ok (.aload_n 0, 1) := by decide +kernel
theorem dX12_init_73 : decode cX12_init 73 = .ok (.bipush 45, 2) := by decide +kernel
theorem dX12_init_75 : decode cX12_init 75 = .ok (.newarray .int, 2) := by decide +kernel
theorem dX12_init_77 : decode cX12_init 77 = .ok (.putfield 56, 3) := by decide +kernel
theorem dX12_init_80 : decode cX12_init 80 = .ok (.aload_n 0, 1) := by decide +kernel
theorem dX12_init_81 : decode cX12_init 81 = .ok (.iconst (-1), 1) := by decide +kernel
theorem dX12_init_82 : decode cX12_init 82 = .ok (.putfield 59, 3) := by decide +kernel
theorem dX12_init_85 : decode cX12_init 85 = .ok (.aload_n 0, 1) := by decide +kernel
theorem dX12_init_86 : decode cX12_init 86 = .ok (.iconst (-1), 1) := by decide +kernel
theorem dX12_init_87 : decode cX12_init 87 = .ok (.putfield 62, 3) := by decide +kernel
theorem dX12_init_90 : decode cX12_init 90 = .ok (.aload_n 0, 1) := by decide +kernel
theorem dX12_init_91 : decode cX12_init 91 = .ok (.iconst (-1), 1) := by decide +kernel
theorem dX12_init_92 : decode cX12_init 92 = .ok (.putfield 65, 3) := by decide +kernel
theorem dX12_init_95 : decode cX12_init 95 = .ok (.aload_n 0, 1) := by decide +kernel
theorem dX12_init_96 : decode cX12_init 96 = .ok (.iconst (-1), 1) := by decide +kernel
theorem dX12_init_97 : decode cX12_init 97 = .ok (.putfield 68, 3) := by decide +kernel
theorem dX12_init_100 : decode cX12_init 100 = .ok (.aload_n 0, 1) := by decide +kernel
theorem dX12_init_101 : decode cX12_init 101 = .ok (.bipush 48, 2) := by decide +kernel
theorem dX12_init_103 : decode cX12_init 103 = .ok (.newarray .byte, 2) := by decide +kernel
theorem dX12_init_105 : decode cX12_init 105 = .ok (.putfield 71, 3) := by decide +kernel
theorem dX12_init_108 : decode cX12_init 108 = .ok (.aload_n 0, 1) := by decide +kernel
theorem dX12_init_109 : decode cX12_init 109 = .ok (.iconst 4, 1) := by decide +kernel
theorem dX12_init_110 : decode cX12_init 110 = .ok (.newarray .int, 2) := by decide +kernel
theorem dX12_init_112 : decode cX12_init 112 = .ok (.putfield 74, 3) := by decide +kernel
theorem dX12_init_115 : decode cX12_init 115 = .ok (.aload_n 0, 1) := by decide +kernel
theorem dX12_init_116 : decode cX12_init 116 = .ok (.bipush 45, 2) := by decide +kernel
theorem dX12_init_118 : decode cX12_init 118 = .ok (.newarray .int, 2) := by decide +kernel
theorem dX12_init_120 : decode cX12_init 120 = .ok (.putfield 77, 3) := by decide +kernel
theorem dX12_init_123 : decode cX12_init 123 = .ok (.aload_n 0, 1) := by decide +kernel
theorem dX12_init_124 : decode cX12_init 124 = .ok (.bipush 45, 2) := by decide +kernel
theorem dX12_init_126 : decode cX12_init 126 = .ok (.newarray .boolean, 2) := by decide +kernel
theorem dX12_init_128 : decode cX12_init 128 = .ok (.putfield 80, 3) := by decide +kernel
theorem dX12_init_131 : decode cX12_init 131 = .ok (.aload_n 0, 1) := by decide +kernel
theorem dX12_init_132 : decode cX12_init 132 = .ok (.sipush 574, 3) := by decide +kernel
theorem dX12_init_135 : decode cX12_init 135 = .ok (.newarray .int, 2) := by decide +kernel
theorem dX12_init_137 : decode cX12_init 137 = .ok (.putfield 84, 3) := by decide +kernel
theorem dX12_init_140 : decode cX12_init 140 = .ok (.aload_n 0, 1) := by decide +kernel
theorem dX12_init_141 : decode cX12_init 141 = .ok (.bipush 30, 2) := by decide +kernel
theorem dX12_init_143 : decode cX12_init 143 = .ok (.newarray .long, 2) := by decide +kernel
theorem dX12_init_145 : decode cX12_init 145 = .ok (.putfield 87, 3) := by decide +kernel
theorem dX12_init_148 : decode cX12_init 148 = .ok (.aload_n 0, 1) := by decide +kernel
theorem dX12_init_149 : decode cX12_init 149 = .ok (.iconst 2, 1) := by decide +kernel
theorem dX12_init_150 : decode cX12_init 150 = .ok (.newarray .boolean, 2) := by decide +kernel
theorem dX12_init_152 : decode cX12_init 152 = .ok (.putfield 90, 3) := by decide +kernel
theorem dX12_init_155 : decode cX12_init 155 = .ok (.aload_n 0, 1) := by decide +kernel
theorem dX12_init_156 : decode cX12_init 156 = .ok (.getfield 47, 3) := by decide +kernel
theorem dX12_init_159 : decode cX12_init 159 = .ok (.iconst 0, 1) := by decide +kernel
theorem dX12_init_160 : decode cX12_init 160 = .ok (.ldc2_w 93, 3) := by decide +kernel
theorem dX12_init_163 : decode cX12_init 163 = .ok (.lastore, 1) := by decide +kernel
theorem dX12_init_164 : decode cX12_init 164 = .ok (.aload_n 0, 1) := by decide +kernel
theorem dX12_init_165 : decode cX12_init 165 = .ok (.getfield 47, 3) := by decide +kernel
theorem dX12_init_168 : decode cX12_init 168 = .ok (.iconst 1, 1) := by decide +kernel
theorem dX12_init_169 : decode cX12_init 169 = .ok (.ldc2_w 95, 3) := by decide +kernel
theorem dX12_init_172 : decode cX12_init 172 = .ok (.lastore, 1) := by decide +kernel
theorem dX12_init_173 : decode cX12_init 173 = .ok (.aload_n 0, 1) := by decide +kernel
theorem dX12_init_174 : decode cX12_init 174 = .ok (.getfield 47, 3) := by decide +kernel
theorem dX12_init_177 : decode cX12_init 177 = .ok (.iconst 2, 1) := by decide +kernel
theorem dX12_init_178 : decode cX12_init 178 = .ok (.ldc2_w 97, 3) := by decide +kernel
theorem dX12_init_181 : decode cX12_init 181 = .ok (.lastore, 1) := by decide +kernel
theorem dX12_init_182 : decode cX12_init 182 = .ok (.aload_n 0, 1) := by decide +kernel
theorem dX12_init_183 : decode cX12_init 183 = .ok (.getfield 47, 3) := by decide +kernel
theorem dX12_init_186 : decode cX12_init 186 = .ok (.iconst 3, 1) := by decide +kernel
theorem dX12_init_187 : decode cX12_init 187 = .ok (.ldc2_w 99, 3) := by decide +kernel
theorem dX12_init_190 : decode cX12_init 190 = .ok (.lastore, 1) := by decide +kernel
theorem dX12_init_191 : decode cX12_init 191 = .ok (.aload_n 0, 1) := by decide +kernel
theorem dX12_init_192 : decode cX12_init 192 = .ok (.getfield 47, 3) := by decide +kernel
theorem dX12_init_195 : decode cX12_init 195 = .ok (.iconst 4, 1) := by decide +kernel
theorem dX12_init_196 : decode cX12_init 196 = .ok (.ldc2_w 101, 3) := by decide +kernel
theorem dX12_init_199 : decode cX12_init 199 = .ok (.lastore, 1) := by decide +kernel
theorem dX12_init_200 : decode cX12_init 200 = .ok (.aload_n 0, 1) := by decide +kernel
theorem dX12_init_201 : decode cX12_init 201 = .ok (.getfield 47, 3) := by decide +kernel
theorem dX12_init_204 : decode cX12_init 204 = .ok (.iconst 5, 1) := by decide +kernel
theorem dX12_init_205 : decode cX12_init 205 = .ok (.ldc2_w 103, 3) := by decide +kernel
theorem dX12_init_208 : decode cX12_init 208 = .ok (.lastore, 1) := by decide +kernel
theorem dX12_init_209 : decode cX12_init 209 = .ok (.aload_n 0, 1) := by decide +kernel
theorem dX12_init_210 : decode cX12_init 210 = .ok (.getfield 47, 3) := by decide +kernel
theorem dX12_init_213 : decode cX12_init 213 = .ok (.bipush 6, 2) := by decide +kernel
theorem dX12_init_215 : decode cX12_init 215 = .ok (.ldc2_w 105, 3) := by decide +kernel
theorem dX12_init_218 : decode cX12_init 218 = .ok (.lastore, 1) := by decide +kernel
theorem dX12_init_219 : decode cX12_init 219 = .ok (.aload_n 0, 1) := by decide +kernel
theorem dX12_init_220 : decode cX12_init 220 = .ok (.getfield 47, 3) := by decide +kernel
theorem dX12_init_223 : decode cX12_init 223 = .ok (.bipush 7, 2) := by decide +kernel
theorem dX12_init_225 : decode cX12_init 225 = .ok (.ldc2_w 107, 3) := by decide +kernel
theorem dX12_init_228 : decode cX12_init 228 = .ok (.lastore, 1) := by decide +kernel
theorem dX12_init_229 : decode cX12_init 229 = .ok (.aload_n 0, 1) := by decide +kernel
theorem dX12_init_230 : decode cX12_init 230 = .ok (.getfield 47, 3) := by decide +kernel
theorem dX12_init_233 : decode cX12_init 233 = .ok (.bipush 8, 2) := by decide +kernel
theorem dX12_init_235 : decode cX12_init 235 = .ok (.ldc2_w 109, 3) := by decide +kernel
theorem dX12_init_238 : decode cX12_init 238 = .ok (.lastore, 1) := by decide +kernel
theorem dX12_init_239 : decode cX12_init 239 = .ok (.aload_n 0, 1) := by decide +kernel
theorem dX12_init_240 : decode cX12_init 240 = .ok (.getfield 47, 3) := by decide +kernel
theorem dX12_init_243 : decode cX12_init 243 = .ok (.bipush 9, 2) := by decide +kernel
theorem dX12_init_245 : decode cX12_init 245 = .ok (.ldc2_w 111, 3) := by decide +kernel
theorem dX12_init_248 : decode cX12_init 248 = .ok (.lastore, 1) := by decide +kernel
theorem dX12_init_249 : decode cX12_init 249 = .ok (.aload_n 0, 1) := by decide +kernel
theorem dX12_init_250 : decode cX12_init 250 = .ok (.getfield 47, 3) := by decide +kernel
theorem dX12_init_253 : decode cX12_init 253 = .ok (.bipush 10, 2) := by decide +kernel
theorem dX12_init_255 : decode cX12_init 255 = .ok (.ldc2_w 113, 3) := by decide +kernel
theorem dX12_init_258 : decode cX12_init 258 = .ok (.lastore, 1) := by decide +kernel
theorem dX12_init_259 : decode cX12_init 259 = .ok (.aload_n 0, 1) := by decide +kernel
theorem dX12_init_260 : decode cX12_init 260 = .ok (.getfield 47, 3) := by decide +kernel
theorem dX12_init_263 : decode cX12_init 263 = .ok (.bipush 11, 2) := by decide +kernel
theorem dX12_init_265 : decode cX12_init 265 = .ok (.ldc2_w 115, 3) := by decide +kernel
theorem dX12_init_268 : decode cX12_init 268 = .ok (.lastore, 1) := by decide +kernel
theorem dX12_init_269 : decode cX12_init 269 = .ok (.aload_n 0, 1) := by decide +kernel
theorem dX12_init_270 : decode cX12_init 270 = .ok (.getfield 47, 3) := by decide +kernel
theorem dX12_init_273 : decode cX12_init 273 = .ok (.bipush 12, 2) := by decide +kernel
theorem dX12_init_275 : decode cX12_init 275 = .ok (.ldc2_w 117, 3) := by decide +kernel
theorem dX12_init_278 : decode cX12_init 278 = .ok (.lastore, 1) := by decide +kernel
theorem dX12_init_279 : decode cX12_init 279 = .ok (.aload_n 0, 1) := by decide +kernel
theorem dX12_init_280 : decode cX12_init 280 = .ok (.getfield 47, 3) := by decide +kernel
theorem dX12_init_283 : decode cX12_init 283 = .ok (.bipush 13, 2) := by decide +kernel
theorem dX12_init_285 : decode cX12_init 285 = .ok (.ldc2_w 119, 3) := by decide +kernel
theorem dX12_init_288 : decode cX12_init 288 = .ok (.lastore, 1) := by decide +kernel
theorem dX12_init_289 : decode cX12_init 289 = .ok (.aload_n 0, 1) := by decide +kernel
theorem dX12_init_290 : decode cX12_init 290 = .ok (.getfield 47, 3) := by decide +kernel
theorem dX12_init_293 : decode cX12_init 293 = .ok (.bipush 14, 2) := by decide +kernel
theorem dX12_init_295 : decode cX12_init 295 = .ok (.ldc2_w 121, 3) := by decide +kernel
theorem dX12_init_298 : decode cX12_init 298 = .ok (.lastore, 1) := by decide +kernel
theorem dX12_init_299 : decode cX12_init 299 = .ok (.aload_n 0, 1) := by decide +kernel
theorem dX12_init_300 : decode cX12_init 300 = .ok (.getfield 47, 3) := by decide +kernel
theorem dX12_init_303 : decode cX12_init 303 = .ok (.bipush 15, 2) := by decide +kernel
theorem dX12_init_305 : decode cX12_init 305 = .ok (.ldc2_w 123, 3) := by decide +kernel
theorem dX12_init_308 : decode cX12_init 308 = .ok (.lastore, 1) := by decide +kernel
theorem dX12_init_309 : decode cX12_init 309 = .ok (.aload_n 0, 1) := by decide +kernel
theorem dX12_init_310 : decode cX12_init 310 = .ok (.getfield 47, 3) := by decide +kernel
theorem dX12_init_313 : decode cX12_init 313 = .ok (.bipush 16, 2) := by decide +kernel
theorem dX12_init_315 : decode cX12_init 315 = .ok (.ldc2_w 125, 3) := by decide +kernel
theorem dX12_init_318 : decode cX12_init 318 = .ok (.lastore, 1) := by decide +kernel
theorem dX12_init_319 : decode cX12_init 319 = .ok (.aload_n 0, 1) := by decide +kernel
theorem dX12_init_320 : decode cX12_init 320 = .ok (.getfield 47, 3) := by decide +kernel
theorem dX12_init_323 : decode cX12_init 323 = .ok (.bipush 17, 2) := by decide +kernel
theorem dX12_init_325 : decode cX12_init 325 = .ok (.ldc2_w 127, 3) := by decide +kernel
theorem dX12_init_328 : decode cX12_init 328 = .ok (.lastore, 1) := by decide +kernel
theorem dX12_init_329 : decode cX12_init 329 = .ok (.aload_n 0, 1) := by decide +kernel
theorem dX12_init_330 : decode cX12_init 330 = .ok (.getfield 47, 3) := by decide +kernel
theorem dX12_init_333 : decode cX12_init 333 = .ok (.bipush 18, 2) := by decide +kernel
theorem dX12_init_335 : decode cX12_init 335 = .ok (.ldc2_w 129, 3) := by decide +kernel
theorem dX12_init_338 : decode cX12_init 338 = .ok (.lastore, 1) := by decide +kernel
theorem dX12_init_339 : decode cX12_init 339 = .ok (.aload_n 0, 1) := by decide +kernel
theorem dX12_init_340 : decode cX12_init 340 = .ok (.getfield 47, 3) := by decide +kernel
theorem dX12_init_343 : decode cX12_init 343 = .ok (.bipush 19, 2) := by decide +kernel
theorem dX12_init_345 : decode cX12_init 345 = .ok (.ldc2_w 131, 3) := by decide +kernel
theorem dX12_init_348 : decode cX12_init 348 = .ok (.lastore, 1) := by decide +kernel
theorem dX12_init_349 : decode cX12_init 349 = .ok (.aload_n 0, 1) := by decide +kernel
theorem dX12_init_350 : decode cX12_init 350 = .ok (.getfield 47, 3) := by decide +kernel
theorem dX12_init_353 : decode cX12_init 353 = .ok (.bipush 20, 2) := by decide +kernel
theorem dX12_init_355 : decode cX12_init 355 = .ok (.ldc2_w 133, 3) := by decide +kernel
theorem dX12_init_358 : decode cX12_init 358 = .ok (.lastore, 1) := by decide +kernel
theorem dX12_init_359 : decode cX12_init 359 = .ok (.aload_n 0, 1) := by decide +kernel
theorem dX12_init_360 : decode cX12_init 360 = .ok (.getfield 47, 3) := by decide +kernel
theorem dX12_init_363 : decode cX12_init 363 = .ok (.bipush 21, 2) := by decide +kernel
theorem dX12_init_365 : decode cX12_init 365 = .ok (.ldc2_w 135, 3) := by decide +kernel
theorem dX12_init_368 : decode cX12_init 368 = .ok (.lastore, 1) := by decide +kernel
theorem dX12_init_369 : decode cX12_init 369 = .ok (.aload_n 0, 1) := by decide +kernel
theorem dX12_init_370 : decode cX12_init 370 = .ok (.getfield 47, 3) := by decide +kernel
theorem dX12_init_373 : decode cX12_init 373 = .ok (.bipush 22, 2) := by decide +kernel
theorem dX12_init_375 : decode cX12_init 375 = .ok (.ldc2_w 137, 3) := by decide +kernel
theorem dX12_init_378 : decode cX12_init 378 = .ok (.lastore, 1) := by decide +kernel
theorem dX12_init_379 : decode cX12_init 379 = .ok (.aload_n 0, 1) := by decide +kernel
theorem dX12_init_380 : decode cX12_init 380 = .ok (.getfield 47, 3) := by decide +kernel
theorem dX12_init_383 : decode cX12_init 383 = .ok (.bipush 23, 2) := by decide +kernel
theorem dX12_init_385 : decode cX12_init 385 = .ok (.ldc2_w 139, 3) := by decide +kernel
theorem dX12_init_388 : decode cX12_init 388 = .ok (.lastore, 1) := by decide +kernel
theorem dX12_init_389 : decode cX12_init 389 = .ok (.aload_n 0, 1) := by decide +kernel
theorem dX12_init_390 : decode cX12_init 390 = .ok (.getfield 47, 3) := by decide +kernel
theorem dX12_init_393 : decode cX12_init 393 = .ok (.bipush 24, 2) := by decide +kernel
theorem dX12_init_395 : decode cX12_init 395 = .ok (.ldc2_w 141, 3) := by decide +kernel
theorem dX12_init_398 : decode cX12_init 398 = .ok (.lastore, 1) := by decide +kernel
theorem dX12_init_399 : decode cX12_init 399 = .ok (.aload_n 0, 1) := by decide +kernel
theorem dX12_init_400 : decode cX12_init 400 = .ok (.getfield 47, 3) := by decide +kernel
theorem dX12_init_403 : decode cX12_init 403 = .ok (.bipush 25, 2) := by decide +kernel
theorem dX12_init_405 : decode cX12_init 405 = .ok (.ldc2_w 143, 3) := by decide +kernel
theorem dX12_init_408 : decode cX12_init 408 = .ok (.lastore, 1) := by decide +kernel
theorem dX12_init_409 : decode cX12_init 409 = .ok (.aload_n 0, 1) := by decide +kernel
theorem dX12_init_410 : decode cX12_init 410 = .ok (.getfield 47, 3) := by decide +kernel
theorem dX12_init_413 : decode cX12_init 413 = .ok (.bipush 26, 2) := by decide +kernel
theorem dX12_init_415 : decode cX12_init 415 = .ok (.ldc2_w 145, 3) := by decide +kernel
theorem dX12_init_418 : decode cX12_init 418 = .ok (.lastore, 1) := by decide +kernel
theorem dX12_init_419 : decode cX12_init 419 = .ok (.aload_n 0, 1) := by decide +kernel
theorem dX12_init_420 : decode cX12_init 420 = .ok (.getfield 47, 3) := by decide +kernel
theorem dX12_init_423 : decode cX12_init 423 = .ok (.bipush 27, 2) := by decide +kernel
theorem dX12_init_425 : decode cX12_init 425 = .ok (.ldc2_w 147, 3) := by decide +kernel
theorem dX12_init_428 : decode cX12_init 428 = .ok (.lastore, 1) := by decide +kernel
theorem dX12_init_429 : decode cX12_init 429 = .ok (.aload_n 0, 1) := by decide +kernel
theorem dX12_init_430 : decode cX12_init 430 = .ok (.getfield 47, 3) := by decide +kernel
theorem dX12_init_433 : decode cX12_init 433 = .ok (.bipush 28, 2) := by decide +kernel
theorem dX12_init_435 : decode cX12_init 435 = .ok (.ldc2_w 149, 3) := by decide +kernel
theorem dX12_init_438 : decode cX12_init 438 = .ok (.lastore, 1) := by decide +kernel
theorem dX12_init_439 : decode cX12_init 439 = .ok (.aload_n 0, 1) := by decide +kernel
theorem dX12_init_440 : decode cX12_init 440 = .ok (.getfield 47, 3) := by decide +kernel
theorem dX12_init_443 : decode cX12_init 443 = .ok (.bipush 29, 2) := by decide +kernel
theorem dX12_init_445 : decode cX12_init 445 = .ok (.ldc2_w 151, 3) := by decide +kernel
theorem dX12_init_448 : decode cX12_init 448 = .ok (.lastore, 1) := by decide +kernel
theorem dX12_init_449 : decode cX12_init 449 = .ok (.aload_n 0, 1) := by decide +kernel
theorem dX12_init_450 : decode cX12_init 450 = .ok (.getfield 47, 3) := by decide +kernel
theorem dX12_init_453 : decode cX12_init 453 = .ok (.bipush 30, 2) := by decide +kernel
theorem dX12_init_455 : decode cX12_init 455 = .ok (.ldc2_w 153, 3) := by decide +kernel
theorem dX12_init_458 : decode cX12_init 458 = .ok (.lastore, 1) := by decide +kernel
theorem dX12_init_459 : decode cX12_init 459 = .ok (.aload_n 0, 1) := by decide +kernel
theorem dX12_init_460 : decode cX12_init 460 = .ok (.getfield 47, 3) := by decide +kernel
theorem dX12_init_463 : decode cX12_init 463 = .ok (.bipush 31, 2) := by decide +kernel
theorem dX12_init_465 : decode cX12_init 465 = .ok (.ldc2_w 155, 3) := by decide +kernel
theorem dX12_init_468 : decode cX12_init 468 = .ok (.lastore, 1) := by decide +kernel
theorem dX12_init_469 : decode cX12_init 469 = .ok (.aload_n 0, 1) := by decide +kernel
theorem dX12_init_470 : decode cX12_init 470 = .ok (.getfield 47, 3) := by decide +kernel
theorem dX12_init_473 : decode cX12_init 473 = .ok (.bipush 32, 2) := by decide +kernel
theorem dX12_init_475 : decode cX12_init 475 = .ok (.ldc2_w 157, 3) := by decide +kernel
theorem dX12_init_478 : decode cX12_init 478 = .ok (.lastore, 1) := by decide +kernel
theorem dX12_init_479 : decode cX12_init 479 = .ok (.aload_n 0, 1) := by decide +kernel
theorem dX12_init_480 : decode cX12_init 480 = .ok (.getfield 47, 3) := by decide +kernel
theorem dX12_init_483 : decode cX12_init 483 = .ok (.bipush 33, 2) := by decide +kernel
theorem dX12_init_485 : decode cX12_init 485 = .ok (.ldc2_w 159, 3) := by decide +kernel
theorem dX12_init_488 : decode cX12_init 488 = .ok (.lastore, 1) := by decide +kernel
theorem dX12_init_489 : decode cX12_init 489 = .ok (.aload_n 0, 1) := by decide +kernel
theorem dX12_init_490 : decode cX12_init 490 = .ok (.invokevirtual 161, 3) := by decide +kernel
theorem dX12_init_493 : decode cX12_init 493 = .ok (.iconst 0, 1) := by decide +kernel
theorem dX12_init_494 : decode cX12_init 494 = .ok (.istore_n 1, 1) := by decide +kernel
theorem dX12_init_495 : decode cX12_init 495 = .ok (.iload_n 1, 1) := by decide +kernel
theorem dX12_init_496 : decode cX12_init 496 = .ok (.bipush 61, 2) := by decide +kernel
theorem dX12_init_498 : decode cX12_init 498 = .ok (.if_icmp .ge 21, 3) := by decide +kernel
theorem dX12_init_501 : decode cX12_init 501 = .ok (.aload_n 0, 1) := by decide +kernel
theorem dX12_init_502 : decode cX12_init 502 = .ok (.getfield 33, 3) := by decide +kernel
theorem dX12_init_505 : decode cX12_init 505 = .ok (.iload_n 1, 1) := by decide +kernel
theorem dX12_init_506 : decode cX12_init 506 = .ok (.aload_n 0, 1) := by decide +kernel
theorem dX12_init_507 : decode cX12_init 507 = .ok (.getfield 37, 3) := by decide +kernel
theorem dX12_init_510 : decode cX12_init 510 = .ok (.iload_n 1, 1) := by decide +kernel
theorem dX12_init_511 : decode cX12_init 511 = .ok (.iaload, 1) := by decide +kernel
theorem dX12_init_512 : decode cX12_init 512 = .ok (.iastore, 1) := by decide +kernel
theorem dX12_init_513 : decode cX12_init 513 = .ok (.iinc 1 1, 3) := by decide +kernel
theorem dX12_init_516 : decode cX12_init 516 = .ok (.goto (-21), 3) := by decide +kernel
theorem dX12_init_519 : decode cX12_init 519 = .ok (.return_, 1) := by decide +kernel
theorem mwo_11_3 : Cond.methodLink RX11 3 Lib.objectInit ∈ bm_T := bm_Tin (i := 140) (by decide +kernel) (by decide +kernel)
theorem nw_11_9 : bm_nw RX11 9 9 := ⟨RX9, TX9, 2, rfl, rfl, by decide, iwX9, tyX9_ok, bm_Tin (i := 143) (by decide +kernel) (by decide +kernel), bm_Tin (i := 144) (by decide +kernel) (by decide +kernel), bm_Tin (i := 111) (by decide +kernel) (by decide +kernel)⟩
theorem mwo_9_3 : Cond.methodLink RX9 3 Lib.objectInit ∈ bm_T := bm_Tin (i := 148) (by decide +kernel) (by decide +kernel)
theorem nw_11_16 : bm_nw RX11 16 5 := ⟨RX5, TX5, 11, rfl, rfl, by decide, iwX5, tyX5_ok, bm_Tin (i := 163) (by decide +kernel) (by decide +kernel), bm_Tin (i := 164) (by decide +kernel) (by decide +kernel), bm_Tin (i := 112) (by decide +kernel) (by decide +kernel)⟩
theorem mwo_5_3 : Cond.methodLink RX5 3 Lib.objectInit ∈ bm_T := bm_Tin (i := 168) (by decide +kernel) (by decide +kernel)
theorem nw_11_25 : bm_nw RX11 25 0 := ⟨RX0, TX0, 17, rfl, rfl, by decide, iwX0, tyX0_ok, bm_Tin (i := 213) (by decide +kernel) (by decide +kernel), bm_Tin (i := 214) (by decide +kernel) (by decide +kernel), bm_Tin (i := 113) (by decide +kernel) (by decide +kernel)⟩
theorem mwo_0_3 : Cond.methodLink RX0 3 Lib.objectInit ∈ bm_T := bm_Tin (i := 218) (by decide +kernel) (by decide +kernel)
theorem nw_11_35 : bm_nw RX11 35 8 := ⟨RX8, TX8, 13, rfl, rfl, by decide, iwX8, tyX8_ok, bm_Tin (i := 302) (by decide +kernel) (by decide +kernel), bm_Tin (i := 303) (by decide +kernel) (by decide +kernel), bm_Tin (i := 114) (by decide +kernel) (by decide +kernel)⟩
theorem mwo_8_3 : Cond.methodLink RX8 3 Lib.objectInit ∈ bm_T := bm_Tin (i := 307) (by decide +kernel) (by decide +kernel)
theorem nw_11_47 : bm_nw RX11 47 4 := ⟨RX4, TX4, 3, rfl, rfl, by decide, iwX4, tyX4_ok, bm_Tin (i := 367) (by decide +kernel) (by decide +kernel), bm_Tin (i := 368) (by decide +kernel) (by decide +kernel), bm_Tin (i := 115) (by decide +kernel) (by decide +kernel)⟩
theorem mwo_4_3 : Cond.methodLink RX4 3 Lib.objectInit ∈ bm_T := bm_Tin (i := 372) (by decide +kernel) (by decide +kernel)
theorem ck_4_9 : Cond.classLink RX4 9 "BrowArmy$State" ∈ bm_T := bm_Tin (i := 373) (by decide +kernel) (by decide +kernel)
theorem nw_4_9 : bm_nw RX4 9 8 := ⟨RX8, TX8, 13, rfl, rfl, by decide, iwX8, tyX8_ok, bm_Tin (i := 373) (by decide +kernel) (by decide +kernel), bm_Tin (i := 303) (by decide +kernel) (by decide +kernel), bm_Tin (i := 114) (by decide +kernel) (by decide +kernel)⟩
theorem ck_11_54 : Cond.classLink RX11 54 "BrowArmy$Image" ∈ bm_T := bm_Tin (i := 386) (by decide +kernel) (by decide +kernel)
theorem nw_11_54 : bm_nw RX11 54 3 := ⟨RX3, TX3, 4, rfl, rfl, by decide, iwX3, tyX3_ok, bm_Tin (i := 386) (by decide +kernel) (by decide +kernel), bm_Tin (i := 388) (by decide +kernel) (by decide +kernel), bm_Tin (i := 116) (by decide +kernel) (by decide +kernel)⟩
theorem mwo_3_1 : Cond.methodLink RX3 1 Lib.objectInit ∈ bm_T := bm_Tin (i := 392) (by decide +kernel) (by decide +kernel)
theorem nw_3_7 : bm_nw RX3 7 0 := ⟨RX0, TX0, 17, rfl, rfl, by decide, iwX0, tyX0_ok, bm_Tin (i := 393) (by decide +kernel) (by decide +kernel), bm_Tin (i := 214) (by decide +kernel) (by decide +kernel), bm_Tin (i := 113) (by decide +kernel) (by decide +kernel)⟩
theorem nw_3_16 : bm_nw RX3 16 8 := ⟨RX8, TX8, 13, rfl, rfl, by decide, iwX8, tyX8_ok, bm_Tin (i := 395) (by decide +kernel) (by decide +kernel), bm_Tin (i := 303) (by decide +kernel) (by decide +kernel), bm_Tin (i := 114) (by decide +kernel) (by decide +kernel)⟩
theorem nw_3_25 : bm_nw RX3 25 7 := ⟨RX7, TX7, 6, rfl, rfl, by decide, iwX7, tyX7_ok, bm_Tin (i := 397) (by decide +kernel) (by decide +kernel), bm_Tin (i := 398) (by decide +kernel) (by decide +kernel), bm_Tin (i := 117) (by decide +kernel) (by decide +kernel)⟩
theorem mwo_7_3 : Cond.methodLink RX7 3 Lib.objectInit ∈ bm_T := bm_Tin (i := 402) (by decide +kernel) (by decide +kernel)
theorem ck_7_9 : Cond.classLink RX7 9 "BrowArmy$Word" ∈ bm_T := bm_Tin (i := 403) (by decide +kernel) (by decide +kernel)
theorem nw_11_61 : bm_nw RX11 61 1 := ⟨RX1, TX1, 8, rfl, rfl, by decide, iwX1, tyX1_ok, bm_Tin (i := 442) (by decide +kernel) (by decide +kernel), bm_Tin (i := 443) (by decide +kernel) (by decide +kernel), bm_Tin (i := 118) (by decide +kernel) (by decide +kernel)⟩
theorem mwo_1_3 : Cond.methodLink RX1 3 Lib.objectInit ∈ bm_T := bm_Tin (i := 447) (by decide +kernel) (by decide +kernel)
theorem fl_1_21 : bm_fo RX1 21 1 4 false := ⟨RX1, TX1, 8, rfl, rfl, by decide, rfl, bm_Tin (i := 456) (by decide +kernel) (by decide +kernel), iwX1, tyX1_ok, nmX1, rfl⟩
theorem fl_1_25 : bm_fo RX1 25 1 5 false := ⟨RX1, TX1, 8, rfl, rfl, by decide, rfl, bm_Tin (i := 458) (by decide +kernel) (by decide +kernel), iwX1, tyX1_ok, nmX1, rfl⟩
theorem fl_1_28 : bm_fo RX1 28 1 6 false := ⟨RX1, TX1, 8, rfl, rfl, by decide, rfl, bm_Tin (i := 460) (by decide +kernel) (by decide +kernel), iwX1, tyX1_ok, nmX1, rfl⟩
theorem fl_1_31 : bm_fo RX1 31 1 7 false := ⟨RX1, TX1, 8, rfl, rfl, by decide, rfl, bm_Tin (i := 462) (by decide +kernel) (by decide +kernel), iwX1, tyX1_ok, nmX1, rfl⟩
theorem nw_11_68 : bm_nw RX11 68 7 := ⟨RX7, TX7, 6, rfl, rfl, by decide, iwX7, tyX7_ok, bm_Tin (i := 481) (by decide +kernel) (by decide +kernel), bm_Tin (i := 398) (by decide +kernel) (by decide +kernel), bm_Tin (i := 117) (by decide +kernel) (by decide +kernel)⟩
theorem nw_11_78 : bm_nw RX11 78 2 := ⟨RX2, TX2, 2, rfl, rfl, by decide, iwX2, tyX2_ok, bm_Tin (i := 483) (by decide +kernel) (by decide +kernel), bm_Tin (i := 484) (by decide +kernel) (by decide +kernel), bm_Tin (i := 119) (by decide +kernel) (by decide +kernel)⟩
theorem mwo_2_3 : Cond.methodLink RX2 3 Lib.objectInit ∈ bm_T := bm_Tin (i := 488) (by decide +kernel) (by decide +kernel)
theorem nw_11_85 : bm_nw RX11 85 6 := ⟨RX6, TX6, 2, rfl, rfl, by decide, iwX6, tyX6_ok, bm_Tin (i := 498) (by decide +kernel) (by decide +kernel), bm_Tin (i := 499) (by decide +kernel) (by decide +kernel), bm_Tin (i := 120) (by decide +kernel) (by decide +kernel)⟩
theorem mwo_6_3 : Cond.methodLink RX6 3 Lib.objectInit ∈ bm_T := bm_Tin (i := 503) (by decide +kernel) (by decide +kernel)
theorem mwo_12_27 : Cond.methodLink RX12 27 Lib.objectInit ∈ bm_T := bm_Tin (i := 1395) (by decide +kernel) (by decide +kernel)
theorem cst_12_103 : Cond.constantLong RX12 103 1818584692 ∈ bm_T := bm_Tin (i := 1401) (by decide +kernel) (by decide +kernel)
theorem cst_12_105 : Cond.constantLong RX12 105 491394656372 ∈ bm_T := bm_Tin (i := 1402) (by decide +kernel) (by decide +kernel)
theorem cst_12_107 : Cond.constantLong RX12 107 1651471464 ∈ bm_T := bm_Tin (i := 1403) (by decide +kernel) (by decide +kernel)
theorem cst_12_115 : Cond.constantLong RX12 115 465624790131 ∈ bm_T := bm_Tin (i := 1407) (by decide +kernel) (by decide +kernel)
theorem cst_12_117 : Cond.constantLong RX12 117 444150998387 ∈ bm_T := bm_Tin (i := 1408) (by decide +kernel) (by decide +kernel)
theorem cst_12_119 : Cond.constantLong RX12 119 126909394808947 ∈ bm_T := bm_Tin (i := 1409) (by decide +kernel) (by decide +kernel)
theorem cst_12_121 : Cond.constantLong RX12 121 512735536499 ∈ bm_T := bm_Tin (i := 1410) (by decide +kernel) (by decide +kernel)
theorem cst_12_123 : Cond.constantLong RX12 123 495790814323 ∈ bm_T := bm_Tin (i := 1411) (by decide +kernel) (by decide +kernel)
theorem cst_12_125 : Cond.constantLong RX12 125 1735353715 ∈ bm_T := bm_Tin (i := 1412) (by decide +kernel) (by decide +kernel)
theorem cst_12_127 : Cond.constantLong RX12 127 1700885364 ∈ bm_T := bm_Tin (i := 1413) (by decide +kernel) (by decide +kernel)
theorem cst_12_129 : Cond.constantLong RX12 129 495791207528 ∈ bm_T := bm_Tin (i := 1414) (by decide +kernel) (by decide +kernel)
theorem cst_12_131 : Cond.constantLong RX12 131 2003137396 ∈ bm_T := bm_Tin (i := 1415) (by decide +kernel) (by decide +kernel)
theorem cst_12_133 : Cond.constantLong RX12 133 474316174440 ∈ bm_T := bm_Tin (i := 1416) (by decide +kernel) (by decide +kernel)
theorem mci_11_11 : bm_mc RX11 4 11 m_X9_init 0 := ⟨⟨⟨_, List.mem_of_getElem? (i := 0) rfl⟩, bm_Tin (i := 146) (by decide +kernel) (by decide +kernel), rfl, rfl⟩, bm_Tin (i := 111) (by decide +kernel) (by decide +kernel), bm_Tin (i := 147) (by decide +kernel) (by decide +kernel), ⟨by decide +kernel, by decide +kernel, by decide +kernel⟩, by decide⟩
theorem mci_11_18 : bm_mc RX11 3 18 m_X5_init 1 := ⟨⟨bm_Tin (i := 165) (by decide +kernel) (by decide +kernel), bm_Tin (i := 166) (by decide +kernel) (by decide +kernel), rfl, rfl⟩, bm_Tin (i := 112) (by decide +kernel) (by decide +kernel), bm_Tin (i := 167) (by decide +kernel) (by decide +kernel), ⟨by decide +kernel, by decide +kernel, by decide +kernel⟩, by decide⟩
theorem mci_11_27 : bm_mc RX11 4 27 m_X0_init 0 := ⟨⟨⟨_, List.mem_of_getElem? (i := 1) rfl⟩, bm_Tin (i := 216) (by decide +kernel) (by decide +kernel), rfl, rfl⟩, bm_Tin (i := 113) (by decide +kernel) (by decide +kernel), bm_Tin (i := 217) (by decide +kernel) (by decide +kernel), ⟨by decide +kernel, by decide +kernel, by decide +kernel⟩, by decide⟩
theorem mci_11_37 : bm_mc RX11 3 37 m_X8_init 1 := ⟨⟨bm_Tin (i := 304) (by decide +kernel) (by decide +kernel), bm_Tin (i := 305) (by decide +kernel) (by decide +kernel), rfl, rfl⟩, bm_Tin (i := 114) (by decide +kernel) (by decide +kernel), bm_Tin (i := 306) (by decide +kernel) (by decide +kernel), ⟨by decide +kernel, by decide +kernel, by decide +kernel⟩, by decide⟩
theorem mci_4_17 : bm_mc RX4 3 17 m_X8_init 1 := ⟨⟨bm_Tin (i := 375) (by decide +kernel) (by decide +kernel), bm_Tin (i := 305) (by decide +kernel) (by decide +kernel), rfl, rfl⟩, bm_Tin (i := 114) (by decide +kernel) (by decide +kernel), bm_Tin (i := 306) (by decide +kernel) (by decide +kernel), ⟨by decide +kernel, by decide +kernel, by decide +kernel⟩, by decide⟩
theorem mci_11_49 : bm_mc RX11 3 49 m_X4_init 1 := ⟨⟨bm_Tin (i := 369) (by decide +kernel) (by decide +kernel), bm_Tin (i := 370) (by decide +kernel) (by decide +kernel), rfl, rfl⟩, bm_Tin (i := 115) (by decide +kernel) (by decide +kernel), bm_Tin (i := 371) (by decide +kernel) (by decide +kernel), ⟨by decide +kernel, by decide +kernel, by decide +kernel⟩, by decide⟩
theorem mci_3_9 : bm_mc RX3 4 9 m_X0_init 0 := ⟨⟨⟨_, List.mem_of_getElem? (i := 2) rfl⟩, bm_Tin (i := 216) (by decide +kernel) (by decide +kernel), rfl, rfl⟩, bm_Tin (i := 113) (by decide +kernel) (by decide +kernel), bm_Tin (i := 217) (by decide +kernel) (by decide +kernel), ⟨by decide +kernel, by decide +kernel, by decide +kernel⟩, by decide⟩
theorem mci_3_18 : bm_mc RX3 3 18 m_X8_init 1 := ⟨⟨bm_Tin (i := 396) (by decide +kernel) (by decide +kernel), bm_Tin (i := 305) (by decide +kernel) (by decide +kernel), rfl, rfl⟩, bm_Tin (i := 114) (by decide +kernel) (by decide +kernel), bm_Tin (i := 306) (by decide +kernel) (by decide +kernel), ⟨by decide +kernel, by decide +kernel, by decide +kernel⟩, by decide⟩
theorem mci_3_27 : bm_mc RX3 4 27 m_X7_init 0 := ⟨⟨⟨_, List.mem_of_getElem? (i := 3) rfl⟩, bm_Tin (i := 400) (by decide +kernel) (by decide +kernel), rfl, rfl⟩, bm_Tin (i := 117) (by decide +kernel) (by decide +kernel), bm_Tin (i := 401) (by decide +kernel) (by decide +kernel), ⟨by decide +kernel, by decide +kernel, by decide +kernel⟩, by decide⟩
theorem mci_11_60 : bm_mc RX11 3 60 m_X3_init 0 := ⟨⟨bm_Tin (i := 389) (by decide +kernel) (by decide +kernel), bm_Tin (i := 390) (by decide +kernel) (by decide +kernel), rfl, rfl⟩, bm_Tin (i := 116) (by decide +kernel) (by decide +kernel), bm_Tin (i := 391) (by decide +kernel) (by decide +kernel), ⟨by decide +kernel, by decide +kernel, by decide +kernel⟩, by decide⟩
theorem mci_11_63 : bm_mc RX11 4 63 m_X1_init 0 := ⟨⟨⟨_, List.mem_of_getElem? (i := 4) rfl⟩, bm_Tin (i := 445) (by decide +kernel) (by decide +kernel), rfl, rfl⟩, bm_Tin (i := 118) (by decide +kernel) (by decide +kernel), bm_Tin (i := 446) (by decide +kernel) (by decide +kernel), ⟨by decide +kernel, by decide +kernel, by decide +kernel⟩, by decide⟩
theorem mci_11_70 : bm_mc RX11 4 70 m_X7_init 0 := ⟨⟨⟨_, List.mem_of_getElem? (i := 5) rfl⟩, bm_Tin (i := 400) (by decide +kernel) (by decide +kernel), rfl, rfl⟩, bm_Tin (i := 117) (by decide +kernel) (by decide +kernel), bm_Tin (i := 401) (by decide +kernel) (by decide +kernel), ⟨by decide +kernel, by decide +kernel, by decide +kernel⟩, by decide⟩
theorem mci_11_80 : bm_mc RX11 4 80 m_X2_init 0 := ⟨⟨⟨_, List.mem_of_getElem? (i := 6) rfl⟩, bm_Tin (i := 486) (by decide +kernel) (by decide +kernel), rfl, rfl⟩, bm_Tin (i := 119) (by decide +kernel) (by decide +kernel), bm_Tin (i := 487) (by decide +kernel) (by decide +kernel), ⟨by decide +kernel, by decide +kernel, by decide +kernel⟩, by decide⟩
theorem mci_11_87 : bm_mc RX11 4 87 m_X6_init 0 := ⟨⟨⟨_, List.mem_of_getElem? (i := 7) rfl⟩, bm_Tin (i := 501) (by decide +kernel) (by decide +kernel), rfl, rfl⟩, bm_Tin (i := 120) (by decide +kernel) (by decide +kernel), bm_Tin (i := 502) (by decide +kernel) (by decide +kernel), ⟨by decide +kernel, by decide +kernel, by decide +kernel⟩, by decide⟩
