theorem dX0_zeros_0 : decode cX0_zeros 0 = .ok (.iconst 0, 1) := by decide +kernel
theorem dX0_zeros_1 : decode cX0_zeros 1 = .ok (.istore_n 2, 1) := by decide +kernel
theorem dX0_zeros_2 : decode cX0_zeros 2 = .ok (.lload_n 0, 1) := by decide +kernel
theorem dX0_zeros_3 : decode cX0_zeros 3 = .ok (.lstore_n 3, 1) := by decide +kernel
theorem dX0_zeros_4 : decode cX0_zeros 4 = .ok (.lload_n 3, 1) := by decide +kernel
theorem dX0_zeros_5 : decode cX0_zeros 5 = .ok (.bipush 32, 2) := by decide +kernel
theorem dX0_zeros_7 : decode cX0_zeros 7 = .ok (.lushr, 1) := by decide +kernel
theorem dX0_zeros_8 : decode cX0_zeros 8 = .ok (.lconst 0, 1) := by decide +kernel
theorem dX0_zeros_9 : decode cX0_zeros 9 = .ok (.lcmp, 1) := by decide +kernel
theorem dX0_zeros_10 : decode cX0_zeros 10 = .ok (.ifCond .ne 11, 3) := by decide +kernel
theorem dX0_zeros_13 : decode cX0_zeros 13 = .ok (.iinc 2 32, 3) := by decide +kernel
theorem dX0_zeros_16 : decode cX0_zeros 16 = .ok (.lload_n 3, 1) := by decide +kernel
theorem dX0_zeros_17 : decode cX0_zeros 17 = .ok (.bipush 32, 2) := by decide +kernel
theorem dX0_zeros_19 : decode cX0_zeros 19 = .ok (.lshl, 1) := by decide +kernel
theorem dX0_zeros_20 : decode cX0_zeros 20 = .ok (.lstore_n 3, 1) := by decide +kernel
theorem dX0_zeros_21 : decode cX0_zeros 21 = .ok (.lload_n 3, 1) := by decide +kernel
theorem dX0_zeros_22 : decode cX0_zeros 22 = .ok (.bipush 48, 2) := by decide +kernel
theorem dX0_zeros_24 : decode cX0_zeros 24 = .ok (.lushr, 1) := by decide +kernel
theorem dX0_zeros_25 : decode cX0_zeros 25 = .ok (.lconst 0, 1) := by decide +kernel
theorem dX0_zeros_26 : decode cX0_zeros 26 = .ok (.lcmp, 1) := by decide +kernel
theorem dX0_zeros_27 : decode cX0_zeros 27 = .ok (.ifCond .ne 11, 3) := by decide +kernel
theorem dX0_zeros_30 : decode cX0_zeros 30 = .ok (.iinc 2 16, 3) := by decide +kernel
theorem dX0_zeros_33 : decode cX0_zeros 33 = .ok (.lload_n 3, 1) := by decide +kernel
theorem dX0_zeros_34 : decode cX0_zeros 34 = .ok (.bipush 16, 2) := by decide +kernel
theorem dX0_zeros_36 : decode cX0_zeros 36 = .ok (.lshl, 1) := by decide +kernel
theorem dX0_zeros_37 : decode cX0_zeros 37 = .ok (.lstore_n 3, 1) := by decide +kernel
theorem dX0_zeros_38 : decode cX0_zeros 38 = .ok (.lload_n 3, 1) := by decide +kernel
theorem dX0_zeros_39 : decode cX0_zeros 39 = .ok (.bipush 56, 2) := by decide +kernel
theorem dX0_zeros_41 : decode cX0_zeros 41 = .ok (.lushr, 1) := by decide +kernel
theorem dX0_zeros_42 : decode cX0_zeros 42 = .ok (.lconst 0, 1) := by decide +kernel
theorem dX0_zeros_43 : decode cX0_zeros 43 = .ok (.lcmp, 1) := by decide +kernel
theorem dX0_zeros_44 : decode cX0_zeros 44 = .ok (.ifCond .ne 11, 3) := by decide +kernel
theorem dX0_zeros_47 : decode cX0_zeros 47 = .ok (.iinc 2 8, 3) := by decide +kernel
theorem dX0_zeros_50 : decode cX0_zeros 50 = .ok (.lload_n 3, 1) := by decide +kernel
theorem dX0_zeros_51 : decode cX0_zeros 51 = .ok (.bipush 8, 2) := by decide +kernel
theorem dX0_zeros_53 : decode cX0_zeros 53 = .ok (.lshl, 1) := by decide +kernel
theorem dX0_zeros_54 : decode cX0_zeros 54 = .ok (.lstore_n 3, 1) := by decide +kernel
theorem dX0_zeros_55 : decode cX0_zeros 55 = .ok (.lload_n 3, 1) := by decide +kernel
theorem dX0_zeros_56 : decode cX0_zeros 56 = .ok (.bipush 60, 2) := by decide +kernel
theorem dX0_zeros_58 : decode cX0_zeros 58 = .ok (.lushr, 1) := by decide +kernel
theorem dX0_zeros_59 : decode cX0_zeros 59 = .ok (.lconst 0, 1) := by decide +kernel
theorem dX0_zeros_60 : decode cX0_zeros 60 = .ok (.lcmp, 1) := by decide +kernel
theorem dX0_zeros_61 : decode cX0_zeros 61 = .ok (.ifCond .ne 10, 3) := by decide +kernel
theorem dX0_zeros_64 : decode cX0_zeros 64 = .ok (.iinc 2 4, 3) := by decide +kernel
theorem dX0_zeros_67 : decode cX0_zeros 67 = .ok (.lload_n 3, 1) := by decide +kernel
theorem dX0_zeros_68 : decode cX0_zeros 68 = .ok (.iconst 4, 1) := by decide +kernel
theorem dX0_zeros_69 : decode cX0_zeros 69 = .ok (.lshl, 1) := by decide +kernel
theorem dX0_zeros_70 : decode cX0_zeros 70 = .ok (.lstore_n 3, 1) := by decide +kernel
theorem dX0_zeros_71 : decode cX0_zeros 71 = .ok (.lload_n 3, 1) := by decide +kernel
theorem dX0_zeros_72 : decode cX0_zeros 72 = .ok (.bipush 62, 2) := by decide +kernel
theorem dX0_zeros_74 : decode cX0_zeros 74 = .ok (.lushr, 1) := by decide +kernel
theorem dX0_zeros_75 : decode cX0_zeros 75 = .ok (.lconst 0, 1) := by decide +kernel
theorem dX0_zeros_76 : decode cX0_zeros 76 = .ok (.lcmp, 1) := by decide +kernel
theorem dX0_zeros_77 : decode cX0_zeros 77 = .ok (.ifCond .ne 10, 3) := by decide +kernel
theorem dX0_zeros_80 : decode cX0_zeros 80 = .ok (.iinc 2 2, 3) := by decide +kernel
theorem dX0_zeros_83 : decode cX0_zeros 83 = .ok (.lload_n 3, 1) := by decide +kernel
theorem dX0_zeros_84 : decode cX0_zeros 84 = .ok (.iconst 2, 1) := by decide +kernel
theorem dX0_zeros_85 : decode cX0_zeros 85 = .ok (.lshl, 1) := by decide +kernel
theorem dX0_zeros_86 : decode cX0_zeros 86 = .ok (.lstore_n 3, 1) := by decide +kernel
theorem dX0_zeros_87 : decode cX0_zeros 87 = .ok (.lload_n 3, 1) := by decide +kernel
theorem dX0_zeros_88 : decode cX0_zeros 88 = .ok (.lconst 0, 1) := by decide +kernel
theorem dX0_zeros_89 : decode cX0_zeros 89 = .ok (.lcmp, 1) := by decide +kernel
theorem dX0_zeros_90 : decode cX0_zeros 90 = .ok (.ifCond .ge 7, 3) := by decide +kernel
theorem dX0_zeros_93 : decode cX0_zeros 93 = .ok (.iload_n 2, 1) := by decide +kernel
theorem dX0_zeros_94 : decode cX0_zeros 94 = .ok (.goto 6, 3) := by decide +kernel
theorem dX0_zeros_97 : decode cX0_zeros 97 = .ok (.iload_n 2, 1) := by decide +kernel
theorem dX0_zeros_98 : decode cX0_zeros 98 = .ok (.iconst 1, 1) := by decide +kernel
theorem dX0_zeros_99 : decode cX0_zeros 99 = .ok (.iadd, 1) := by decide +kernel
theorem dX0_zeros_100 : decode cX0_zeros 100 = .ok (.ireturn, 1) := by decide +kernel
theorem dX0_isBelow_0 : decode cX0_isBelow 0 = .ok (.lload_n 0, 1) := by decide +kernel
theorem dX0_isBelow_1 : decode cX0_isBelow 1 = .ok (.ldc2_w 11, 3) := by decide +kernel
theorem dX0_isBelow_4 : decode cX0_isBelow 4 = .ok (.ladd, 1) := by decide +kernel
theorem dX0_isBelow_5 : decode cX0_isBelow 5 = .ok (.lload_n 2, 1) := by decide +kernel
theorem dX0_isBelow_6 : decode cX0_isBelow 6 = .ok (.ldc2_w 11, 3) := by decide +kernel
theorem dX0_isBelow_9 : decode cX0_isBelow 9 = .ok (.ladd, 1) := by decide +kernel
theorem dX0_isBelow_10 : decode cX0_isBelow 10 = .ok (.lcmp, 1) := by decide +kernel
theorem dX0_isBelow_11 : decode cX0_isBelow 11 = .ok (.ifCond .ge 7, 3) := by decide +kernel
theorem dX0_isBelow_14 : decode cX0_isBelow 14 = .ok (.iconst 1, 1) := by decide +kernel
theorem dX0_isBelow_15 : decode cX0_isBelow 15 = .ok (.goto 4, 3) := by decide +kernel
theorem dX0_isBelow_18 : decode cX0_isBelow 18 = .ok (.iconst 0, 1) := by decide +kernel
theorem dX0_isBelow_19 : decode cX0_isBelow 19 = .ok (.ireturn, 1) := by decide +kernel
theorem dX0_upperProduct_0 : decode cX0_upperProduct 0 = .ok (.lload_n 0, 1) := by decide +kernel
theorem dX0_upperProduct_1 : decode cX0_upperProduct 1 = .ok (.bipush 32, 2) := by decide +kernel
theorem dX0_upperProduct_3 : decode cX0_upperProduct 3 = .ok (.lushr, 1) := by decide +kernel
theorem dX0_upperProduct_4 : decode cX0_upperProduct 4 = .ok (.lstore 4, 2) := by decide +kernel
theorem dX0_upperProduct_6 : decode cX0_upperProduct 6 = .ok (.lload_n 0, 1) := by decide +kernel
theorem dX0_upperProduct_7 : decode cX0_upperProduct 7 = .ok (.ldc2_w 13, 3) := by decide +kernel
theorem dX0_upperProduct_10 : decode cX0_upperProduct 10 = .ok (.land, 1) := by decide +kernel
theorem dX0_upperProduct_11 : decode cX0_upperProduct 11 = .ok (.lstore 6, 2) := by decide +kernel
theorem dX0_upperProduct_13 : decode cX0_upperProduct 13 = .ok (.lload_n 2, 1) := by decide +kernel
theorem dX0_upperProduct_14 : decode cX0_upperProduct 14 = .ok (.bipush 32, 2) := by decide +kernel
theorem dX0_upperProduct_16 : decode cX0_upperProduct 16 = .ok (.lushr, 1) := by decide +kernel
theorem dX0_upperProduct_17 : decode cX0_upperProduct 17 = .ok (.lstore 8, 2) := by decide +kernel
theorem dX0_upperProduct_19 : decode cX0_upperProduct 19 = .ok (.lload_n 2, 1) := by decide +kernel
theorem dX0_upperProduct_20 : decode cX0_upperProduct 20 = .ok (.ldc2_w 13, 3) := by decide +kernel
theorem dX0_upperProduct_23 : decode cX0_upperProduct 23 = .ok (.land, 1) := by decide +kernel
theorem dX0_upperProduct_24 : decode cX0_upperProduct 24 = .ok (.lstore 10, 2) := by decide +kernel
theorem dX0_upperProduct_26 : decode cX0_upperProduct 26 = .ok (.lload 4, 2) := by decide +kernel
theorem dX0_upperProduct_28 : decode cX0_upperProduct 28 = .ok (.lload 10, 2) := by decide +kernel
theorem dX0_upperProduct_30 : decode cX0_upperProduct 30 = .ok (.lmul, 1) := by decide +kernel
theorem dX0_upperProduct_31 : decode cX0_upperProduct 31 = .ok (.lload 6, 2) := by decide +kernel
theorem dX0_upperProduct_33 : decode cX0_upperProduct 33 = .ok (.lload 10, 2) := by decide +kernel
theorem dX0_upperProduct_35 : decode cX0_upperProduct 35 = .ok (.lmul, 1) := by decide +kernel
theorem dX0_upperProduct_36 : decode cX0_upperProduct 36 = .ok (.bipush 32, 2) := by decide +kernel
theorem dX0_upperProduct_38 : decode cX0_upperProduct 38 = .ok (.lushr, 1) := by decide +kernel
theorem dX0_upperProduct_39 : decode cX0_upperProduct 39 = .ok (.ladd, 1) := by decide +kernel
theorem dX0_upperProduct_40 : decode cX0_upperProduct 40 = .ok (.lstore 12, 2) := by decide +kernel
theorem dX0_upperProduct_42 : decode cX0_upperProduct 42 = .ok (.lload 6, 2) := by decide +kernel
theorem dX0_upperProduct_44 : decode cX0_upperProduct 44 = .ok (.lload 8, 2) := by decide +kernel
theorem dX0_upperProduct_46 : decode cX0_upperProduct 46 = .ok (.lmul, 1) := by decide +kernel
theorem dX0_upperProduct_47 : decode cX0_upperProduct 47 = .ok (.lload 12, 2) := by decide +kernel
theorem dX0_upperProduct_49 : decode cX0_upperProduct 49 = .ok (.ldc2_w 13, 3) := by decide +kernel
theorem dX0_upperProduct_52 : decode cX0_upperProduct 52 = .ok (.land, 1) := by decide +kernel
theorem dX0_upperProduct_53 : decode cX0_upperProduct 53 = .ok (.ladd, 1) := by decide +kernel
theorem dX0_upperProduct_54 : decode cX0_upperProduct 54 = .ok (.lstore 14, 2) := by decide +kernel
theorem dX0_upperProduct_56 : decode cX0_upperProduct 56 = .ok (.lload 4, 2) := by decide +kernel
theorem dX0_upperProduct_58 : decode cX0_upperProduct 58 = .ok (.lload 8, 2) := by decide +kernel
theorem dX0_upperProduct_60 : decode cX0_upperProduct 60 = .ok (.lmul, 1) := by decide +kernel
theorem dX0_upperProduct_61 : decode cX0_upperProduct 61 = .ok (.lload 12, 2) := by decide +kernel
theorem dX0_upperProduct_63 : decode cX0_upperProduct 63 = .ok (.bipush 32, 2) := by decide +kernel
theorem dX0_upperProduct_65 : decode cX0_upperProduct 65 = .ok (.lushr, 1) := by decide +kernel
theorem dX0_upperProduct_66 : decode cX0_upperProduct 66 = .ok (.ladd, 1) := by decide +kernel
theorem dX0_upperProduct_67 : decode cX0_upperProduct 67 = .ok (.lload 14, 2) := by decide +kernel
theorem dX0_upperProduct_69 : decode cX0_upperProduct 69 = .ok (.bipush 32, 2) := by decide +kernel
theorem dX0_upperProduct_71 : decode cX0_upperProduct 71 = .ok (.lushr, 1) := by decide +kernel
theorem dX0_upperProduct_72 : decode cX0_upperProduct 72 = .ok (.ladd, 1) := by decide +kernel
theorem dX0_upperProduct_73 : decode cX0_upperProduct 73 = .ok (.lreturn, 1) := by decide +kernel
theorem dX0_lowered_0 : decode cX0_lowered 0 = .ok (.lconst 0, 1) := by decide +kernel
theorem dX0_lowered_1 : decode cX0_lowered 1 = .ok (.lload_n 0, 1) := by decide +kernel
theorem dX0_lowered_2 : decode cX0_lowered 2 = .ok (.iload_n 2, 1) := by decide +kernel
theorem dX0_lowered_3 : decode cX0_lowered 3 = .ok (.invokestatic 15, 3) := by decide +kernel
theorem dX0_lowered_6 : decode cX0_lowered 6 = .ok (.lreturn, 1) := by decide +kernel
theorem dX0_loweredHigh_0 : decode cX0_loweredHigh 0 = .ok (.iload_n 2, 1) := by decide +kernel
theorem dX0_loweredHigh_1 : decode cX0_loweredHigh 1 = .ok (.bipush 64, 2) := by decide +kernel
theorem dX0_loweredHigh_3 : decode cX0_loweredHigh 3 = .ok (.if_icmp .ge 9, 3) := by decide +kernel
theorem dX0_loweredHigh_6 : decode cX0_loweredHigh 6 = .ok (.lload_n 0, 1) := by decide +kernel
theorem dX0_loweredHigh_7 : decode cX0_loweredHigh 7 = .ok (.iload_n 2, 1) := by decide +kernel
theorem dX0_loweredHigh_8 : decode cX0_loweredHigh 8 = .ok (.lushr, 1) := by decide +kernel
theorem dX0_loweredHigh_9 : decode cX0_loweredHigh 9 = .ok (.goto 4, 3) := by decide +kernel
theorem dX0_loweredHigh_12 : decode cX0_loweredHigh 12 = .ok (.lconst 0, 1) := by decide +kernel
theorem dX0_loweredHigh_13 : decode cX0_loweredHigh 13 = .ok (.lreturn, 1) := by decide +kernel
theorem dX0_loweredLow_0 : decode cX0_loweredLow 0 = .ok (.iload 4, 2) := by decide +kernel
theorem dX0_loweredLow_2 : decode cX0_loweredLow 2 = .ok (.ifCond .ne 5, 3) := by decide +kernel
theorem dX0_loweredLow_5 : decode cX0_loweredLow 5 = .ok (.lload_n 2, 1) := by decide +kernel
theorem dX0_loweredLow_6 : decode cX0_loweredLow 6 = .ok (.lreturn, 1) := by decide +kernel
theorem dX0_loweredLow_7 : decode cX0_loweredLow 7 = .ok (.iload 4, 2) := by decide +kernel
theorem dX0_loweredLow_9 : decode cX0_loweredLow 9 = .ok (.bipush 64, 2) := by decide +kernel
theorem dX0_loweredLow_11 : decode cX0_loweredLow 11 = .ok (.if_icmp .ge 35, 3) := by decide +kernel
theorem dX0_loweredLow_14 : decode cX0_loweredLow 14 = .ok (.lload_n 0, 1) := by decide +kernel
theorem dX0_loweredLow_15 : decode cX0_loweredLow 15 = .ok (.bipush 64, 2) := by decide +kernel
theorem dX0_loweredLow_17 : decode cX0_loweredLow 17 = .ok (.iload 4, 2) := by decide +kernel
theorem dX0_loweredLow_19 : decode cX0_loweredLow 19 = .ok (.isub, 1) := by decide +kernel
theorem dX0_loweredLow_20 : decode cX0_loweredLow 20 = .ok (.lshl, 1) := by decide +kernel
theorem dX0_loweredLow_21 : decode cX0_loweredLow 21 = .ok (.lload_n 2, 1) := by decide +kernel
theorem dX0_loweredLow_22 : decode cX0_loweredLow 22 = .ok (.iload 4, 2) := by decide +kernel
theorem dX0_loweredLow_24 : decode cX0_loweredLow 24 = .ok (.lushr, 1) := by decide +kernel
theorem dX0_loweredLow_25 : decode cX0_loweredLow 25 = .ok (.lor, 1) := by decide +kernel
theorem dX0_loweredLow_26 : decode cX0_loweredLow 26 = .ok (.lload_n 2, 1) := by decide +kernel
theorem dX0_loweredLow_27 : decode cX0_loweredLow 27 = .ok (.bipush 64, 2) := by decide +kernel
theorem dX0_loweredLow_29 : decode cX0_loweredLow 29 = .ok (.iload 4, 2) := by decide +kernel
theorem dX0_loweredLow_31 : decode cX0_loweredLow 31 = .ok (.isub, 1) := by decide +kernel
theorem dX0_loweredLow_32 : decode cX0_loweredLow 32 = .ok (.lshl, 1) := by decide +kernel
theorem dX0_loweredLow_33 : decode cX0_loweredLow 33 = .ok (.lconst 0, 1) := by decide +kernel
theorem dX0_loweredLow_34 : decode cX0_loweredLow 34 = .ok (.lcmp, 1) := by decide +kernel
theorem dX0_loweredLow_35 : decode cX0_loweredLow 35 = .ok (.ifCond .eq 7, 3) := by decide +kernel
theorem dX0_loweredLow_38 : decode cX0_loweredLow 38 = .ok (.iconst 1, 1) := by decide +kernel
theorem dX0_loweredLow_39 : decode cX0_loweredLow 39 = .ok (.goto 4, 3) := by decide +kernel
theorem dX0_loweredLow_42 : decode cX0_loweredLow 42 = .ok (.iconst 0, 1) := by decide +kernel
theorem dX0_loweredLow_43 : decode cX0_loweredLow 43 = .ok (.i2l, 1) := by decide +kernel
theorem dX0_loweredLow_44 : decode cX0_loweredLow 44 = .ok (.lor, 1) := by decide +kernel
theorem dX0_loweredLow_45 : decode cX0_loweredLow 45 = .ok (.lreturn, 1) := by decide +kernel
theorem dX0_loweredLow_46 : decode cX0_loweredLow 46 = .ok (.iload 4, 2) := by decide +kernel
theorem dX0_loweredLow_48 : decode cX0_loweredLow 48 = .ok (.bipush 64, 2) := by decide +kernel
theorem dX0_loweredLow_50 : decode cX0_loweredLow 50 = .ok (.if_icmp .ne 18, 3) := by decide +kernel
theorem dX0_loweredLow_53 : decode cX0_loweredLow 53 = .ok (.lload_n 0, 1) := by decide +kernel
theorem dX0_loweredLow_54 : decode cX0_loweredLow 54 = .ok (.lload_n 2, 1) := by decide +kernel
theorem dX0_loweredLow_55 : decode cX0_loweredLow 55 = .ok (.lconst 0, 1) := by decide +kernel
theorem dX0_loweredLow_56 : decode cX0_loweredLow 56 = .ok (.lcmp, 1) := by decide +kernel
theorem dX0_loweredLow_57 : decode cX0_loweredLow 57 = .ok (.ifCond .eq 7, 3) := by decide +kernel
theorem dX0_loweredLow_60 : decode cX0_loweredLow 60 = .ok (.iconst 1, 1) := by decide +kernel
theorem dX0_loweredLow_61 : decode cX0_loweredLow 61 = .ok (.goto 4, 3) := by decide +kernel
theorem dX0_loweredLow_64 : decode cX0_loweredLow 64 = .ok (.iconst 0, 1) := by decide +kernel
theorem dX0_loweredLow_65 : decode cX0_loweredLow 65 = .ok (.i2l, 1) := by decide +kernel
theorem dX0_loweredLow_66 : decode cX0_loweredLow 66 = .ok (.lor, 1) := by decide +kernel
theorem dX0_loweredLow_67 : decode cX0_loweredLow 67 = .ok (.lreturn, 1) := by decide +kernel
theorem dX0_loweredLow_68 : decode cX0_loweredLow 68 = .ok (.iload 4, 2) := by decide +kernel
theorem dX0_loweredLow_70 : decode cX0_loweredLow 70 = .ok (.sipush 128, 3) := by decide +kernel
theorem dX0_loweredLow_73 : decode cX0_loweredLow 73 = .ok (.if_icmp .ge 33, 3) := by decide +kernel
theorem dX0_loweredLow_76 : decode cX0_loweredLow 76 = .ok (.lload_n 0, 1) := by decide +kernel
theorem dX0_loweredLow_77 : decode cX0_loweredLow 77 = .ok (.iload 4, 2) := by decide +kernel
theorem dX0_loweredLow_79 : decode cX0_loweredLow 79 = .ok (.bipush 64, 2) := by decide +kernel
theorem dX0_loweredLow_81 : decode cX0_loweredLow 81 = .ok (.isub, 1) := by decide +kernel
theorem dX0_loweredLow_82 : decode cX0_loweredLow 82 = .ok (.lushr, 1) := by decide +kernel
theorem dX0_loweredLow_83 : decode cX0_loweredLow 83 = .ok (.lload_n 0, 1) := by decide +kernel
theorem dX0_loweredLow_84 : decode cX0_loweredLow 84 = .ok (.sipush 128, 3) := by decide +kernel
theorem dX0_loweredLow_87 : decode cX0_loweredLow 87 = .ok (.iload 4, 2) := by decide +kernel
theorem dX0_loweredLow_89 : decode cX0_loweredLow 89 = .ok (.isub, 1) := by decide +kernel
theorem dX0_loweredLow_90 : decode cX0_loweredLow 90 = .ok (.lshl, 1) := by decide +kernel
theorem dX0_loweredLow_91 : decode cX0_loweredLow 91 = .ok (.lload_n 2, 1) := by decide +kernel
theorem dX0_loweredLow_92 : decode cX0_loweredLow 92 = .ok (.lor, 1) := by decide +kernel
theorem dX0_loweredLow_93 : decode cX0_loweredLow 93 = .ok (.lconst 0, 1) := by decide +kernel
theorem dX0_loweredLow_94 : decode cX0_loweredLow 94 = .ok (.lcmp, 1) := by decide +kernel
theorem dX0_loweredLow_95 : decode cX0_loweredLow 95 = .ok (.ifCond .eq 7, 3) := by decide +kernel
theorem dX0_loweredLow_98 : decode cX0_loweredLow 98 = .ok (.iconst 1, 1) := by decide +kernel
theorem dX0_loweredLow_99 : decode cX0_loweredLow 99 = .ok (.goto 4, 3) := by decide +kernel
theorem dX0_loweredLow_102 : decode cX0_loweredLow 102 = .ok (.iconst 0, 1) := by decide +kernel
theorem dX0_loweredLow_103 : decode cX0_loweredLow 103 = .ok (.i2l, 1) := by decide +kernel
theorem dX0_loweredLow_104 : decode cX0_loweredLow 104 = .ok (.lor, 1) := by decide +kernel
theorem dX0_loweredLow_105 : decode cX0_loweredLow 105 = .ok (.lreturn, 1) := by decide +kernel
theorem dX0_loweredLow_106 : decode cX0_loweredLow 106 = .ok (.lload_n 0, 1) := by decide +kernel
theorem dX0_loweredLow_107 : decode cX0_loweredLow 107 = .ok (.lload_n 2, 1) := by decide +kernel
theorem dX0_loweredLow_108 : decode cX0_loweredLow 108 = .ok (.lor, 1) := by decide +kernel
theorem dX0_loweredLow_109 : decode cX0_loweredLow 109 = .ok (.lconst 0, 1) := by decide +kernel
theorem dX0_loweredLow_110 : decode cX0_loweredLow 110 = .ok (.lcmp, 1) := by decide +kernel
theorem dX0_loweredLow_111 : decode cX0_loweredLow 111 = .ok (.ifCond .eq 7, 3) := by decide +kernel
theorem dX0_loweredLow_114 : decode cX0_loweredLow 114 = .ok (.lconst 1, 1) := by decide +kernel
theorem dX0_loweredLow_115 : decode cX0_loweredLow 115 = .ok (.goto 4, 3) := by decide +kernel
theorem dX0_loweredLow_118 : decode cX0_loweredLow 118 = .ok (.lconst 0, 1) := by decide +kernel
theorem dX0_loweredLow_119 : decode cX0_loweredLow 119 = .ok (.lreturn, 1) := by decide +kernel
theorem dX0_negatedHigh_0 : decode cX0_negatedHigh 0 = .ok (.lload_n 2, 1) := by decide +kernel
theorem dX0_negatedHigh_1 : decode cX0_negatedHigh 1 = .ok (.lconst 0, 1) := by decide +kernel
theorem dX0_negatedHigh_2 : decode cX0_negatedHigh 2 = .ok (.lcmp, 1) := by decide +kernel
theorem dX0_negatedHigh_3 : decode cX0_negatedHigh 3 = .ok (.ifCond .ne 8, 3) := by decide +kernel
theorem dX0_negatedHigh_6 : decode cX0_negatedHigh 6 = .ok (.lload_n 0, 1) := by decide +kernel
theorem dX0_negatedHigh_7 : decode cX0_negatedHigh 7 = .ok (.lneg, 1) := by decide +kernel
theorem dX0_negatedHigh_8 : decode cX0_negatedHigh 8 = .ok (.goto 8, 3) := by decide +kernel
theorem dX0_negatedHigh_11 : decode cX0_negatedHigh 11 = .ok (.lload_n 0, 1) := by decide +kernel
theorem dX0_negatedHigh_12 : decode cX0_negatedHigh 12 = .ok (.ldc2_w 21, 3) := by decide +kernel
theorem dX0_negatedHigh_15 : decode cX0_negatedHigh 15 = .ok (.lxor, 1) := by decide +kernel
theorem dX0_negatedHigh_16 : decode cX0_negatedHigh 16 = .ok (.lreturn, 1) := by decide +kernel
theorem dX1_init_0 : decode cX1_init 0 = .ok (.aload_n 0, 1) := by decide +kernel
theorem dX1_init_1 : decode cX1_init 1 = .ok (.invokespecial 3, 3) := by decide +kernel
theorem dX1_init_4 : decode cX1_init 4 = .ok (.aload_n 0, 1) := by decide +kernel
theorem dX1_init_5 : decode cX1_init 5 = .ok (.bipush 81, 2) := by decide +kernel
theorem dX1_init_7 : decode cX1_init 7 = .ok (.newarray .byte, 2) := by decide +kernel
theorem dX1_init_9 : decode cX1_init 9 = .ok (.putfield 11, 3) := by decide +kernel
theorem dX1_init_12 : decode cX1_init 12 = .ok (.aload_n 0, 1) := by decide +kernel
theorem dX1_init_13 : decode cX1_init 13 = .ok (.bipush 10, 2) := by decide +kernel
theorem dX1_init_15 : decode cX1_init 15 = .ok (.newarray .long, 2) := by decide +kernel
theorem dX1_init_17 : decode cX1_init 17 = .ok (.putfield 15, 3) := by decide +kernel
theorem dX1_init_20 : decode cX1_init 20 = .ok (.return_, 1) := by decide +kernel
theorem dX1_forget_0 : decode cX1_forget 0 = .ok (.aload_n 0, 1) := by decide +kernel
theorem dX1_forget_1 : decode cX1_forget 1 = .ok (.iconst 0, 1) := by decide +kernel
theorem dX1_forget_2 : decode cX1_forget 2 = .ok (.putfield 19, 3) := by decide +kernel
theorem dX1_forget_5 : decode cX1_forget 5 = .ok (.return_, 1) := by decide +kernel
theorem dX1_byteAt_0 : decode cX1_byteAt 0 = .ok (.iload_n 1, 1) := by decide +kernel
theorem dX1_byteAt_1 : decode cX1_byteAt 1 = .ok (.ifCond .lt 20, 3) := by decide +kernel
theorem dX1_byteAt_4 : decode cX1_byteAt 4 = .ok (.iload_n 1, 1) := by decide +kernel
theorem dX1_byteAt_5 : decode cX1_byteAt 5 = .ok (.aload_n 0, 1) := by decide +kernel
theorem dX1_byteAt_6 : decode cX1_byteAt 6 = .ok (.getfield 19, 3) := by decide +kernel
theorem dX1_byteAt_9 : decode cX1_byteAt 9 = .ok (.if_icmp .ge 12, 3) := by decide +kernel
theorem dX1_byteAt_12 : decode cX1_byteAt 12 = .ok (.iload_n 1, 1) := by decide +kernel
theorem dX1_byteAt_13 : decode cX1_byteAt 13 = .ok (.aload_n 0, 1) := by decide +kernel
theorem dX1_byteAt_14 : decode cX1_byteAt 14 = .ok (.getfield 11, 3) := by decide +kernel
theorem dX1_byteAt_17 : decode cX1_byteAt 17 = .ok (.arraylength, 1) := by decide +kernel
theorem dX1_byteAt_18 : decode cX1_byteAt 18 = .ok (.if_icmp .lt 8, 3) := by decide +kernel
theorem dX1_byteAt_21 : decode cX1_byteAt 21 = .ok (.bipush (-109), 2) := by decide +kernel
theorem dX1_byteAt_23 : decode cX1_byteAt 23 = .ok (.goto 9, 3) := by decide +kernel
theorem dX1_byteAt_26 : decode cX1_byteAt 26 = .ok (.aload_n 0, 1) := by decide +kernel
theorem dX1_byteAt_27 : decode cX1_byteAt 27 = .ok (.getfield 11, 3) := by decide +kernel
theorem dX1_byteAt_30 : decode cX1_byteAt 30 = .ok (.iload_n 1, 1) := by decide +kernel
theorem dX1_byteAt_31 : decode cX1_byteAt 31 = .ok (.baload, 1) := by decide +kernel
theorem dX1_byteAt_32 : decode cX1_byteAt 32 = .ok (.ireturn, 1) := by decide +kernel
theorem dX1_write_0 : decode cX1_write 0 = .ok (.aload_n 0, 1) := by decide +kernel
theorem dX1_write_1 : decode cX1_write 1 = .ok (.iconst 0, 1) := by decide +kernel
theorem dX1_write_2 : decode cX1_write 2 = .ok (.putfield 19, 3) := by decide +kernel
theorem dX1_write_5 : decode cX1_write 5 = .ok (.getstatic 23, 3) := by decide +kernel
theorem dX1_write_8 : decode cX1_write 8 = .ok (.lload_n 1, 1) := by decide +kernel
theorem dX1_write_9 : decode cX1_write 9 = .ok (.invokevirtual 29, 3) := by decide +kernel
theorem dX1_write_12 : decode cX1_write 12 = .ok (.ifCond .eq 18, 3) := by decide +kernel
theorem dX1_write_15 : decode cX1_write 15 = .ok (.aload_n 0, 1) := by decide +kernel
theorem dX1_write_16 : decode cX1_write 16 = .ok (.bipush 110, 2) := by decide +kernel
theorem dX1_write_18 : decode cX1_write 18 = .ok (.bipush 97, 2) := by decide +kernel
theorem dX1_write_20 : decode cX1_write 20 = .ok (.bipush 110, 2) := by decide +kernel
theorem dX1_write_22 : decode cX1_write 22 = .ok (.invokevirtual 33, 3) := by decide +kernel
theorem dX1_write_25 : decode cX1_write 25 = .ok (.aload_n 0, 1) := by decide +kernel
theorem dX1_write_26 : decode cX1_write 26 = .ok (.getfield 19, 3) := by decide +kernel
theorem dX1_write_29 : decode cX1_write 29 = .ok (.ireturn, 1) := by decide +kernel
theorem dX1_write_30 : decode cX1_write 30 = .ok (.getstatic 23, 3) := by decide +kernel
theorem dX1_write_33 : decode cX1_write 33 = .ok (.lload_n 1, 1) := by decide +kernel
theorem dX1_write_34 : decode cX1_write 34 = .ok (.invokevirtual 37, 3) := by decide +kernel
theorem dX1_write_37 : decode cX1_write 37 = .ok (.ifCond .eq 9, 3) := by decide +kernel
theorem dX1_write_40 : decode cX1_write 40 = .ok (.aload_n 0, 1) := by decide +kernel
theorem dX1_write_41 : decode cX1_write 41 = .ok (.bipush 45, 2) := by decide +kernel
theorem dX1_write_43 : decode cX1_write 43 = .ok (.invokevirtual 40, 3) := by decide +kernel
theorem dX1_write_46 : decode cX1_write 46 = .ok (.getstatic 23, 3) := by decide +kernel
theorem dX1_write_49 : decode cX1_write 49 = .ok (.lload_n 1, 1) := by decide +kernel
theorem dX1_write_50 : decode cX1_write 50 = .ok (.invokevirtual 44, 3) := by decide +kernel
theorem dX1_write_53 : decode cX1_write 53 = .ok (.ifCond .eq 18, 3) := by decide +kernel
theorem dX1_write_56 : decode cX1_write 56 = .ok (.aload_n 0, 1) := by decide +kernel
theorem dX1_write_57 : decode cX1_write 57 = .ok (.bipush 105, 2) := by decide +kernel
theorem dX1_write_59 : decode cX1_write 59 = .ok (.bipush 110, 2) := by decide +kernel
theorem dX1_write_61 : decode cX1_write 61 = .ok (.bipush 102, 2) := by decide +kernel
theorem dX1_write_63 : decode cX1_write 63 = .ok (.invokevirtual 33, 3) := by decide +kernel
theorem dX1_write_66 : decode cX1_write 66 = .ok (.aload_n 0, 1) := by decide +kernel
theorem dX1_write_67 : decode cX1_write 67 = .ok (.getfield 19, 3) := by decide +kernel
theorem dX1_write_70 : decode cX1_write 70 = .ok (.ireturn, 1) := by decide +kernel
theorem dX1_write_71 : decode cX1_write 71 = .ok (.aload_n 0, 1) := by decide +kernel
theorem dX1_write_72 : decode cX1_write 72 = .ok (.getstatic 23, 3) := by decide +kernel
theorem dX1_write_75 : decode cX1_write 75 = .ok (.lload_n 1, 1) := by decide +kernel
theorem dX1_write_76 : decode cX1_write 76 = .ok (.invokevirtual 47, 3) := by decide +kernel
theorem dX1_write_79 : decode cX1_write 79 = .ok (.getstatic 23, 3) := by decide +kernel
theorem dX1_write_82 : decode cX1_write 82 = .ok (.lload_n 1, 1) := by decide +kernel
theorem dX1_write_83 : decode cX1_write 83 = .ok (.invokevirtual 51, 3) := by decide +kernel
theorem dX1_write_86 : decode cX1_write 86 = .ok (.invokevirtual 55, 3) := by decide +kernel
theorem dX1_write_89 : decode cX1_write 89 = .ok (.aload_n 0, 1) := by decide +kernel
theorem dX1_write_90 : decode cX1_write 90 = .ok (.invokevirtual 59, 3) := by decide +kernel
theorem dX1_write_93 : decode cX1_write 93 = .ok (.iload_n 3, 1) := by decide +kernel
theorem dX1_write_94 : decode cX1_write 94 = .ok (.ifCond .le 14, 3) := by decide +kernel
theorem dX1_write_97 : decode cX1_write 97 = .ok (.aload_n 0, 1) := by decide +kernel
theorem dX1_write_98 : decode cX1_write 98 = .ok (.bipush 46, 2) := by decide +kernel
theorem dX1_write_100 : decode cX1_write 100 = .ok (.invokevirtual 40, 3) := by decide +kernel
theorem dX1_write_103 : decode cX1_write 103 = .ok (.aload_n 0, 1) := by decide +kernel
theorem dX1_write_104 : decode cX1_write 104 = .ok (.iload_n 3, 1) := by decide +kernel
theorem dX1_write_105 : decode cX1_write 105 = .ok (.invokevirtual 62, 3) := by decide +kernel
theorem dX1_write_108 : decode cX1_write 108 = .ok (.aload_n 0, 1) := by decide +kernel
theorem dX1_write_109 : decode cX1_write 109 = .ok (.getfield 19, 3) := by decide +kernel
theorem dX1_write_112 : decode cX1_write 112 = .ok (.ireturn, 1) := by decide +kernel
theorem dX1_put_0 : decode cX1_put 0 = .ok (.aload_n 0, 1) := by decide +kernel
theorem dX1_put_1 : decode cX1_put 1 = .ok (.getfield 19, 3) := by decide +kernel
theorem dX1_put_4 : decode cX1_put 4 = .ok (.ifCond .lt 36, 3) := by decide +kernel
theorem dX1_put_7 : decode cX1_put 7 = .ok (.aload_n 0, 1) := by decide +kernel
theorem dX1_put_8 : decode cX1_put 8 = .ok (.getfield 19, 3) := by decide +kernel
theorem dX1_put_11 : decode cX1_put 11 = .ok (.aload_n 0, 1) := by decide +kernel
theorem dX1_put_12 : decode cX1_put 12 = .ok (.getfield 11, 3) := by decide +kernel
theorem dX1_put_15 : decode cX1_put 15 = .ok (.arraylength, 1) := by decide +kernel
theorem dX1_put_16 : decode cX1_put 16 = .ok (.if_icmp .ge 24, 3) := by decide +kernel
theorem dX1_put_19 : decode cX1_put 19 = .ok (.aload_n 0, 1) := by decide +kernel
theorem dX1_put_20 : decode cX1_put 20 = .ok (.getfield 11, 3) := by decide +kernel
theorem dX1_put_23 : decode cX1_put 23 = .ok (.aload_n 0, 1) := by decide +kernel
theorem dX1_put_24 : decode cX1_put 24 = .ok (.getfield 19, 3) := by decide +kernel
theorem dX1_put_27 : decode cX1_put 27 = .ok (.iload_n 1, 1) := by decide +kernel
theorem dX1_put_28 : decode cX1_put 28 = .ok (.i2b, 1) := by decide +kernel
theorem dX1_put_29 : decode cX1_put 29 = .ok (.bastore, 1) := by decide +kernel
theorem dX1_put_30 : decode cX1_put 30 = .ok (.aload_n 0, 1) := by decide +kernel
theorem dX1_put_31 : decode cX1_put 31 = .ok (.dup, 1) := by decide +kernel
theorem dX1_put_32 : decode cX1_put 32 = .ok (.getfield 19, 3) := by decide +kernel
theorem dX1_put_35 : decode cX1_put 35 = .ok (.iconst 1, 1) := by decide +kernel
theorem dX1_put_36 : decode cX1_put 36 = .ok (.iadd, 1) := by decide +kernel
theorem dX1_put_37 : decode cX1_put 37 = .ok (.putfield 19, 3) := by decide +kernel
theorem dX1_put_40 : decode cX1_put 40 = .ok (.return_, 1) := by decide +kernel
theorem dX1_putThree_0 : decode cX1_putThree 0 = .ok (.aload_n 0, 1) := by decide +kernel
theorem dX1_putThree_1 : decode cX1_putThree 1 = .ok (.iload_n 1, 1) := by decide +kernel
theorem dX1_putThree_2 : decode cX1_putThree 2 = .ok (.invokevirtual 40, 3) := by decide +kernel
theorem dX1_putThree_5 : decode cX1_putThree 5 = .ok (.aload_n 0, 1) := by decide +kernel
theorem dX1_putThree_6 : decode cX1_putThree 6 = .ok (.iload_n 2, 1) := by decide +kernel
theorem dX1_putThree_7 : decode cX1_putThree 7 = .ok (.invokevirtual 40, 3) := by decide +kernel
theorem dX1_putThree_10 : decode cX1_putThree 10 = .ok (.aload_n 0, 1) := by decide +kernel
theorem dX1_putThree_11 : decode cX1_putThree 11 = .ok (.iload_n 3, 1) := by decide +kernel
theorem dX1_putThree_12 : decode cX1_putThree 12 = .ok (.invokevirtual 40, 3) := by decide +kernel
theorem dX1_putThree_15 : decode cX1_putThree 15 = .ok (.return_, 1) := by decide +kernel
theorem dX1_load_0 : decode cX1_load 0 = .ok (.iconst 0, 1) := by decide +kernel
theorem dX1_load_1 : decode cX1_load 1 = .ok (.istore 4, 2) := by decide +kernel
theorem dX1_load_3 : decode cX1_load 3 = .ok (.iload 4, 2) := by decide +kernel
theorem dX1_load_5 : decode cX1_load 5 = .ok (.bipush 10, 2) := by decide +kernel
theorem dX1_load_7 : decode cX1_load 7 = .ok (.if_icmp .ge 17, 3) := by decide +kernel
theorem dX1_load_10 : decode cX1_load 10 = .ok (.aload_n 0, 1) := by decide +kernel
theorem dX1_load_11 : decode cX1_load 11 = .ok (.getfield 15, 3) := by decide +kernel
theorem dX1_load_14 : decode cX1_load 14 = .ok (.iload 4, 2) := by decide +kernel
theorem dX1_load_16 : decode cX1_load 16 = .ok (.lconst 0, 1) := by decide +kernel
theorem dX1_load_17 : decode cX1_load 17 = .ok (.lastore, 1) := by decide +kernel
theorem dX1_load_18 : decode cX1_load 18 = .ok (.iinc 4 1, 3) := by decide +kernel
theorem dX1_load_21 : decode cX1_load 21 = .ok (.goto (-18), 3) := by decide +kernel
theorem dX1_load_24 : decode cX1_load 24 = .ok (.sipush 160, 3) := by decide +kernel
theorem dX1_load_27 : decode cX1_load 27 = .ok (.iload_n 3, 1) := by decide +kernel
theorem dX1_load_28 : decode cX1_load 28 = .ok (.iadd, 1) := by decide +kernel
theorem dX1_load_29 : decode cX1_load 29 = .ok (.istore 4, 2) := by decide +kernel
theorem dX1_load_31 : decode cX1_load 31 = .ok (.iload 4, 2) := by decide +kernel
theorem dX1_load_33 : decode cX1_load 33 = .ok (.iconst 5, 1) := by decide +kernel
theorem dX1_load_34 : decode cX1_load 34 = .ok (.ishr, 1) := by decide +kernel
theorem dX1_load_35 : decode cX1_load 35 = .ok (.istore 5, 2) := by decide +kernel
theorem dX1_load_37 : decode cX1_load 37 = .ok (.iload 5, 2) := by decide +kernel
theorem dX1_load_39 : decode cX1_load 39 = .ok (.ifCond .lt 12, 3) := by decide +kernel
theorem dX1_load_42 : decode cX1_load 42 = .ok (.iload 5, 2) := by decide +kernel
theorem dX1_load_44 : decode cX1_load 44 = .ok (.iconst 1, 1) := by decide +kernel
theorem dX1_load_45 : decode cX1_load 45 = .ok (.iadd, 1) := by decide +kernel
theorem dX1_load_46 : decode cX1_load 46 = .ok (.bipush 10, 2) := by decide +kernel
theorem dX1_load_48 : decode cX1_load 48 = .ok (.if_icmp .lt 4, 3) := by decide +kernel
theorem dX1_load_51 : decode cX1_load 51 = .ok (.return_, 1) := by decide +kernel
theorem dX1_load_52 : decode cX1_load 52 = .ok (.lload_n 1, 1) := by decide +kernel
theorem dX1_load_53 : decode cX1_load 53 = .ok (.iload 4, 2) := by decide +kernel
theorem dX1_load_55 : decode cX1_load 55 = .ok (.bipush 31, 2) := by decide +kernel
theorem dX1_load_57 : decode cX1_load 57 = .ok (.iand, 1) := by decide +kernel
theorem dX1_load_58 : decode cX1_load 58 = .ok (.lshl, 1) := by decide +kernel
theorem dX1_load_59 : decode cX1_load 59 = .ok (.lstore 6, 2) := by decide +kernel
theorem dX1_load_61 : decode cX1_load 61 = .ok (.aload_n 0, 1) := by decide +kernel
theorem dX1_load_62 : decode cX1_load 62 = .ok (.getfield 15, 3) := by decide +kernel
theorem dX1_load_65 : decode cX1_load 65 = .ok (.iload 5, 2) := by decide +kernel
theorem dX1_load_67 : decode cX1_load 67 = .ok (.lload 6, 2) := by decide +kernel
theorem dX1_load_69 : decode cX1_load 69 = .ok (.ldc2_w 65, 3) := by decide +kernel
theorem dX1_load_72 : decode cX1_load 72 = .ok (.land, 1) := by decide +kernel
theorem dX1_load_73 : decode cX1_load 73 = .ok (.lastore, 1) := by decide +kernel
theorem dX1_load_74 : decode cX1_load 74 = .ok (.aload_n 0, 1) := by decide +kernel
theorem dX1_load_75 : decode cX1_load 75 = .ok (.getfield 15, 3) := by decide +kernel
theorem dX1_load_78 : decode cX1_load 78 = .ok (.iload 5, 2) := by decide +kernel
theorem dX1_load_80 : decode cX1_load 80 = .ok (.iconst 1, 1) := by decide +kernel
theorem dX1_load_81 : decode cX1_load 81 = .ok (.iadd, 1) := by decide +kernel
theorem dX1_load_82 : decode cX1_load 82 = .ok (.lload 6, 2) := by decide +kernel
theorem dX1_load_84 : decode cX1_load 84 = .ok (.bipush 32, 2) := by decide +kernel
theorem dX1_load_86 : decode cX1_load 86 = .ok (.lushr, 1) := by decide +kernel
theorem dX1_load_87 : decode cX1_load 87 = .ok (.lastore, 1) := by decide +kernel
theorem dX1_load_88 : decode cX1_load 88 = .ok (.return_, 1) := by decide +kernel
theorem dX1_putWhole_0 : decode cX1_putWhole 0 = .ok (.aload_n 0, 1) := by decide +kernel
theorem dX1_putWhole_1 : decode cX1_putWhole 1 = .ok (.getfield 19, 3) := by decide +kernel
theorem dX1_putWhole_4 : decode cX1_putWhole 4 = .ok (.istore_n 1, 1) := by decide +kernel
theorem dX1_putWhole_5 : decode cX1_putWhole 5 = .ok (.iconst 1, 1) := by decide +kernel
theorem dX1_putWhole_6 : decode cX1_putWhole 6 = .ok (.istore_n 2, 1) := by decide +kernel
theorem dX1_putWhole_7 : decode cX1_putWhole 7 = .ok (.iconst 0, 1) := by decide +kernel
theorem dX1_putWhole_8 : decode cX1_putWhole 8 = .ok (.istore_n 3, 1) := by decide +kernel
theorem dX1_putWhole_9 : decode cX1_putWhole 9 = .ok (.iload_n 3, 1) := by decide +kernel
theorem dX1_putWhole_10 : decode cX1_putWhole 10 = .ok (.bipush 39, 2) := by decide +kernel
theorem dX1_putWhole_12 : decode cX1_putWhole 12 = .ok (.if_icmp .ge 29, 3) := by decide +kernel
theorem dX1_putWhole_15 : decode cX1_putWhole 15 = .ok (.iload_n 2, 1) := by decide +kernel
theorem dX1_putWhole_16 : decode cX1_putWhole 16 = .ok (.ifCond .eq 25, 3) := by decide +kernel
theorem dX1_putWhole_19 : decode cX1_putWhole 19 = .ok (.aload_n 0, 1) := by decide +kernel
theorem dX1_putWhole_20 : decode cX1_putWhole 20 = .ok (.bipush 48, 2) := by decide +kernel
theorem dX1_putWhole_22 : decode cX1_putWhole 22 = .ok (.aload_n 0, 1) := by decide +kernel
theorem dX1_putWhole_23 : decode cX1_putWhole 23 = .ok (.invokevirtual 67, 3) := by decide +kernel
theorem dX1_putWhole_26 : decode cX1_putWhole 26 = .ok (.iadd, 1) := by decide +kernel
theorem dX1_putWhole_27 : decode cX1_putWhole 27 = .ok (.invokevirtual 40, 3) := by decide +kernel
theorem dX1_putWhole_30 : decode cX1_putWhole 30 = .ok (.aload_n 0, 1) := by decide +kernel
theorem dX1_putWhole_31 : decode cX1_putWhole 31 = .ok (.invokevirtual 71, 3) := by decide +kernel
theorem dX1_putWhole_34 : decode cX1_putWhole 34 = .ok (.istore_n 2, 1) := by decide +kernel
theorem dX1_putWhole_35 : decode cX1_putWhole 35 = .ok (.iinc 3 1, 3) := by decide +kernel
theorem dX1_putWhole_38 : decode cX1_putWhole 38 = .ok (.goto (-29), 3) := by decide +kernel
theorem dX1_putWhole_41 : decode cX1_putWhole 41 = .ok (.aload_n 0, 1) := by decide +kernel
theorem dX1_putWhole_42 : decode cX1_putWhole 42 = .ok (.iload_n 1, 1) := by decide +kernel
theorem dX1_putWhole_43 : decode cX1_putWhole 43 = .ok (.aload_n 0, 1) := by decide +kernel
theorem dX1_putWhole_44 : decode cX1_putWhole 44 = .ok (.getfield 19, 3) := by decide +kernel
theorem dX1_putWhole_47 : decode cX1_putWhole 47 = .ok (.iconst 1, 1) := by decide +kernel
theorem dX1_putWhole_48 : decode cX1_putWhole 48 = .ok (.isub, 1) := by decide +kernel
theorem dX1_putWhole_49 : decode cX1_putWhole 49 = .ok (.invokevirtual 75, 3) := by decide +kernel
theorem dX1_putWhole_52 : decode cX1_putWhole 52 = .ok (.return_, 1) := by decide +kernel
theorem dX1_takeLastDigit_0 : decode cX1_takeLastDigit 0 = .ok (.lconst 0, 1) := by decide +kernel
theorem dX1_takeLastDigit_1 : decode cX1_takeLastDigit 1 = .ok (.lstore_n 1, 1) := by decide +kernel
theorem dX1_takeLastDigit_2 : decode cX1_takeLastDigit 2 = .ok (.bipush 9, 2) := by decide +kernel
theorem dX1_takeLastDigit_4 : decode cX1_takeLastDigit 4 = .ok (.istore_n 3, 1) := by decide +kernel
theorem dX1_takeLastDigit_5 : decode cX1_takeLastDigit 5 = .ok (.iload_n 3, 1) := by decide +kernel
theorem dX1_takeLastDigit_6 : decode cX1_takeLastDigit 6 = .ok (.iconst 5, 1) := by decide +kernel
theorem dX1_takeLastDigit_7 : decode cX1_takeLastDigit 7 = .ok (.if_icmp .lt 41, 3) := by decide +kernel
theorem dX1_takeLastDigit_10 : decode cX1_takeLastDigit 10 = .ok (.lload_n 1, 1) := by decide +kernel
theorem dX1_takeLastDigit_11 : decode cX1_takeLastDigit 11 = .ok (.bipush 32, 2) := by decide +kernel
theorem dX1_takeLastDigit_13 : decode cX1_takeLastDigit 13 = .ok (.lshl, 1) := by decide +kernel
theorem dX1_takeLastDigit_14 : decode cX1_takeLastDigit 14 = .ok (.aload_n 0, 1) := by decide +kernel
theorem dX1_takeLastDigit_15 : decode cX1_takeLastDigit 15 = .ok (.getfield 15, 3) := by decide +kernel
theorem dX1_takeLastDigit_18 : decode cX1_takeLastDigit 18 = .ok (.iload_n 3, 1) := by decide +kernel
theorem dX1_takeLastDigit_19 : decode cX1_takeLastDigit 19 = .ok (.laload, 1) := by decide +kernel
theorem dX1_takeLastDigit_20 : decode cX1_takeLastDigit 20 = .ok (.lor, 1) := by decide +kernel
theorem dX1_takeLastDigit_21 : decode cX1_takeLastDigit 21 = .ok (.lstore 4, 2) := by decide +kernel
theorem dX1_takeLastDigit_23 : decode cX1_takeLastDigit 23 = .ok (.aload_n 0, 1) := by decide +kernel
theorem dX1_takeLastDigit_24 : decode cX1_takeLastDigit 24 = .ok (.getfield 15, 3) := by decide +kernel
theorem dX1_takeLastDigit_27 : decode cX1_takeLastDigit 27 = .ok (.iload_n 3, 1) := by decide +kernel
theorem dX1_takeLastDigit_28 : decode cX1_takeLastDigit 28 = .ok (.lload 4, 2) := by decide +kernel
theorem dX1_takeLastDigit_30 : decode cX1_takeLastDigit 30 = .ok (.ldc2_w 79, 3) := by decide +kernel
theorem dX1_takeLastDigit_33 : decode cX1_takeLastDigit 33 = .ok (.ldiv, 1) := by decide +kernel
theorem dX1_takeLastDigit_34 : decode cX1_takeLastDigit 34 = .ok (.lastore, 1) := by decide +kernel
theorem dX1_takeLastDigit_35 : decode cX1_takeLastDigit 35 = .ok (.lload 4, 2) := by decide +kernel
theorem dX1_takeLastDigit_37 : decode cX1_takeLastDigit 37 = .ok (.ldc2_w 79, 3) := by decide +kernel
theorem dX1_takeLastDigit_40 : decode cX1_takeLastDigit 40 = .ok (.lrem, 1) := by decide +kernel
theorem dX1_takeLastDigit_41 : decode cX1_takeLastDigit 41 = .ok (.lstore_n 1, 1) := by decide +kernel
theorem dX1_takeLastDigit_42 : decode cX1_takeLastDigit 42 = .ok (.iinc 3 (-1), 3) := by decide +kernel
theorem dX1_takeLastDigit_45 : decode cX1_takeLastDigit 45 = .ok (.goto (-40), 3) := by decide +kernel
theorem dX1_takeLastDigit_48 : decode cX1_takeLastDigit 48 = .ok (.lload_n 1, 1) := by decide +kernel
theorem dX1_takeLastDigit_49 : decode cX1_takeLastDigit 49 = .ok (.l2i, 1) := by decide +kernel
theorem dX1_takeLastDigit_50 : decode cX1_takeLastDigit 50 = .ok (.ireturn, 1) := by decide +kernel
theorem dX1_hasWholePart_0 : decode cX1_hasWholePart 0 = .ok (.iconst 5, 1) := by decide +kernel
theorem dX1_hasWholePart_1 : decode cX1_hasWholePart 1 = .ok (.istore_n 1, 1) := by decide +kernel
theorem dX1_hasWholePart_2 : decode cX1_hasWholePart 2 = .ok (.iload_n 1, 1) := by decide +kernel
theorem dX1_hasWholePart_3 : decode cX1_hasWholePart 3 = .ok (.bipush 10, 2) := by decide +kernel
theorem dX1_hasWholePart_5 : decode cX1_hasWholePart 5 = .ok (.if_icmp .ge 22, 3) := by decide +kernel
theorem dX1_hasWholePart_8 : decode cX1_hasWholePart 8 = .ok (.aload_n 0, 1) := by decide +kernel
theorem dX1_hasWholePart_9 : decode cX1_hasWholePart 9 = .ok (.getfield 15, 3) := by decide +kernel
theorem dX1_hasWholePart_12 : decode cX1_hasWholePart 12 = .ok (.iload_n 1, 1) := by decide +kernel
theorem dX1_hasWholePart_13 : decode cX1_hasWholePart 13 = .ok (.laload, 1) := by decide +kernel
theorem dX1_hasWholePart_14 : decode cX1_hasWholePart 14 = .ok (.lconst 0, 1) := by decide +kernel
theorem dX1_hasWholePart_15 : decode cX1_hasWholePart 15 = .ok (.lcmp, 1) := by decide +kernel
theorem dX1_hasWholePart_16 : decode cX1_hasWholePart 16 = .ok (.ifCond .eq 5, 3) := by decide +kernel
theorem dX1_hasWholePart_19 : decode cX1_hasWholePart 19 = .ok (.iconst 1, 1) := by decide +kernel
theorem dX1_hasWholePart_20 : decode cX1_hasWholePart 20 = .ok (.ireturn, 1) := by decide +kernel
theorem dX1_hasWholePart_21 : decode cX1_hasWholePart 21 = .ok (.iinc 1 1, 3) := by decide +kernel
theorem dX1_hasWholePart_24 : decode cX1_hasWholePart 24 = .ok (.goto (-22), 3) := by decide +kernel
theorem dX1_hasWholePart_27 : decode cX1_hasWholePart 27 = .ok (.iconst 0, 1) := by decide +kernel
theorem dX1_hasWholePart_28 : decode cX1_hasWholePart 28 = .ok (.ireturn, 1) := by decide +kernel
theorem dX1_turnRound_0 : decode cX1_turnRound 0 = .ok (.iload_n 1, 1) := by decide +kernel
theorem dX1_turnRound_1 : decode cX1_turnRound 1 = .ok (.istore_n 3, 1) := by decide +kernel
theorem dX1_turnRound_2 : decode cX1_turnRound 2 = .ok (.iload_n 2, 1) := by decide +kernel
theorem dX1_turnRound_3 : decode cX1_turnRound 3 = .ok (.istore 4, 2) := by decide +kernel
theorem dX1_turnRound_5 : decode cX1_turnRound 5 = .ok (.iload_n 3, 1) := by decide +kernel
theorem dX1_turnRound_6 : decode cX1_turnRound 6 = .ok (.iload 4, 2) := by decide +kernel
theorem dX1_turnRound_8 : decode cX1_turnRound 8 = .ok (.if_icmp .ge 56, 3) := by decide +kernel
theorem dX1_turnRound_11 : decode cX1_turnRound 11 = .ok (.iload_n 3, 1) := by decide +kernel
theorem dX1_turnRound_12 : decode cX1_turnRound 12 = .ok (.ifCond .lt 52, 3) := by decide +kernel
theorem dX1_turnRound_15 : decode cX1_turnRound 15 = .ok (.iload 4, 2) := by decide +kernel
theorem dX1_turnRound_17 : decode cX1_turnRound 17 = .ok (.aload_n 0, 1) := by decide +kernel
theorem dX1_turnRound_18 : decode cX1_turnRound 18 = .ok (.getfield 11, 3) := by decide +kernel
theorem dX1_turnRound_21 : decode cX1_turnRound 21 = .ok (.arraylength, 1) := by decide +kernel
theorem dX1_turnRound_22 : decode cX1_turnRound 22 = .ok (.if_icmp .ge 42, 3) := by decide +kernel
theorem dX1_turnRound_25 : decode cX1_turnRound 25 = .ok (.aload_n 0, 1) := by decide +kernel
theorem dX1_turnRound_26 : decode cX1_turnRound 26 = .ok (.getfield 11, 3) := by decide +kernel
theorem dX1_turnRound_29 : decode cX1_turnRound 29 = .ok (.iload_n 3, 1) := by decide +kernel
theorem dX1_turnRound_30 : decode cX1_turnRound 30 = .ok (.baload, 1) := by decide +kernel
theorem dX1_turnRound_31 : decode cX1_turnRound 31 = .ok (.istore 5, 2) := by decide +kernel
theorem dX1_turnRound_33 : decode cX1_turnRound 33 = .ok (.aload_n 0, 1) := by decide +kernel
theorem dX1_turnRound_34 : decode cX1_turnRound 34 = .ok (.getfield 11, 3) := by decide +kernel
theorem dX1_turnRound_37 : decode cX1_turnRound 37 = .ok (.iload_n 3, 1) := by decide +kernel
theorem dX1_turnRound_38 : decode cX1_turnRound 38 = .ok (.aload_n 0, 1) := by decide +kernel
theorem dX1_turnRound_39 : decode cX1_turnRound 39 = .ok (.getfield 11, 3) := by decide +kernel
theorem dX1_turnRound_42 : decode cX1_turnRound 42 = .ok (.iload 4, 2) := by decide +kernel
theorem dX1_turnRound_44 : decode cX1_turnRound 44 = .ok (.baload, 1) := by decide +kernel
theorem dX1_turnRound_45 : decode cX1_turnRound 45 = .ok (.bastore, 1) := by decide +kernel
theorem dX1_turnRound_46 : decode cX1_turnRound 46 = .ok (.aload_n 0, 1) := by decide +kernel
theorem dX1_turnRound_47 : decode cX1_turnRound 47 = .ok (.getfield 11, 3) := by decide +kernel
theorem dX1_turnRound_50 : decode cX1_turnRound 50 = .ok (.iload 4, 2) := by decide +kernel
theorem dX1_turnRound_52 : decode cX1_turnRound 52 = .ok (.iload 5, 2) := by decide +kernel
theorem dX1_turnRound_54 : decode cX1_turnRound 54 = .ok (.bastore, 1) := by decide +kernel
theorem dX1_turnRound_55 : decode cX1_turnRound 55 = .ok (.iinc 3 1, 3) := by decide +kernel
theorem dX1_turnRound_58 : decode cX1_turnRound 58 = .ok (.iinc 4 (-1), 3) := by decide +kernel
theorem dX1_turnRound_61 : decode cX1_turnRound 61 = .ok (.goto (-56), 3) := by decide +kernel
theorem dX1_turnRound_64 : decode cX1_turnRound 64 = .ok (.return_, 1) := by decide +kernel
theorem dX1_putFraction_0 : decode cX1_putFraction 0 = .ok (.iconst 0, 1) := by decide +kernel
theorem dX1_putFraction_1 : decode cX1_putFraction 1 = .ok (.istore_n 2, 1) := by decide +kernel
theorem dX1_putFraction_2 : decode cX1_putFraction 2 = .ok (.iload_n 2, 1) := by decide +kernel
theorem dX1_putFraction_3 : decode cX1_putFraction 3 = .ok (.iload_n 1, 1) := by decide +kernel
theorem dX1_putFraction_4 : decode cX1_putFraction 4 = .ok (.if_icmp .ge 69, 3) := by decide +kernel
theorem dX1_putFraction_7 : decode cX1_putFraction 7 = .ok (.lconst 0, 1) := by decide +kernel
theorem dX1_putFraction_8 : decode cX1_putFraction 8 = .ok (.lstore_n 3, 1) := by decide +kernel
theorem dX1_putFraction_9 : decode cX1_putFraction 9 = .ok (.iconst 0, 1) := by decide +kernel
theorem dX1_putFraction_10 : decode cX1_putFraction 10 = .ok (.istore 5, 2) := by decide +kernel
theorem dX1_putFraction_12 : decode cX1_putFraction 12 = .ok (.iload 5, 2) := by decide +kernel
theorem dX1_putFraction_14 : decode cX1_putFraction 14 = .ok (.iconst 5, 1) := by decide +kernel
theorem dX1_putFraction_15 : decode cX1_putFraction 15 = .ok (.if_icmp .ge 43, 3) := by decide +kernel
theorem dX1_putFraction_18 : decode cX1_putFraction 18 = .ok (.aload_n 0, 1) := by decide +kernel
theorem dX1_putFraction_19 : decode cX1_putFraction 19 = .ok (.getfield 15, 3) := by decide +kernel
theorem dX1_putFraction_22 : decode cX1_putFraction 22 = .ok (.iload 5, 2) := by decide +kernel
theorem dX1_putFraction_24 : decode cX1_putFraction 24 = .ok (.laload, 1) := by decide +kernel
theorem dX1_putFraction_25 : decode cX1_putFraction 25 = .ok (.ldc2_w 79, 3) := by decide +kernel
theorem dX1_putFraction_28 : decode cX1_putFraction 28 = .ok (.lmul, 1) := by decide +kernel
theorem dX1_putFraction_29 : decode cX1_putFraction 29 = .ok (.lload_n 3, 1) := by decide +kernel
theorem dX1_putFraction_30 : decode cX1_putFraction 30 = .ok (.ladd, 1) := by decide +kernel
theorem dX1_putFraction_31 : decode cX1_putFraction 31 = .ok (.lstore 6, 2) := by decide +kernel
theorem dX1_putFraction_33 : decode cX1_putFraction 33 = .ok (.aload_n 0, 1) := by decide +kernel
theorem dX1_putFraction_34 : decode cX1_putFraction 34 = .ok (.getfield 15, 3) := by decide +kernel
theorem dX1_putFraction_37 : decode cX1_putFraction 37 = .ok (.iload 5, 2) := by decide +kernel
theorem dX1_putFraction_39 : decode cX1_putFraction 39 = .ok (.lload 6, 2) := by decide +kernel
theorem dX1_putFraction_41 : decode cX1_putFraction 41 = .ok (.ldc2_w 65, 3) := by decide +kernel
theorem dX1_putFraction_44 : decode cX1_putFraction 44 = .ok (.land, 1) := by decide +kernel
theorem dX1_putFraction_45 : decode cX1_putFraction 45 = .ok (.lastore, 1) := by decide +kernel
theorem dX1_putFraction_46 : decode cX1_putFraction 46 = .ok (.lload 6, 2) := by decide +kernel
theorem dX1_putFraction_48 : decode cX1_putFraction 48 = .ok (.bipush 32, 2) := by decide +kernel
theorem dX1_putFraction_50 : decode cX1_putFraction 50 = .ok (.lushr, 1) := by decide +kernel
theorem dX1_putFraction_51 : decode cX1_putFraction 51 = .ok (.lstore_n 3, 1) := by decide +kernel
theorem dX1_putFraction_52 : decode cX1_putFraction 52 = .ok (.iinc 5 1, 3) := by decide +kernel
theorem dX1_putFraction_55 : decode cX1_putFraction 55 = .ok (.goto (-43), 3) := by decide +kernel
theorem dX1_putFraction_58 : decode cX1_putFraction 58 = .ok (.aload_n 0, 1) := by decide +kernel
theorem dX1_putFraction_59 : decode cX1_putFraction 59 = .ok (.bipush 48, 2) := by decide +kernel
theorem dX1_putFraction_61 : decode cX1_putFraction 61 = .ok (.lload_n 3, 1) := by decide +kernel
theorem dX1_putFraction_62 : decode cX1_putFraction 62 = .ok (.l2i, 1) := by decide +kernel
theorem dX1_putFraction_63 : decode cX1_putFraction 63 = .ok (.iadd, 1) := by decide +kernel
theorem dX1_putFraction_64 : decode cX1_putFraction 64 = .ok (.invokevirtual 40, 3) := by decide +kernel
theorem dX1_putFraction_67 : decode cX1_putFraction 67 = .ok (.iinc 2 1, 3) := by decide +kernel
theorem dX1_putFraction_70 : decode cX1_putFraction 70 = .ok (.goto (-68), 3) := by decide +kernel
theorem dX1_putFraction_73 : decode cX1_putFraction 73 = .ok (.return_, 1) := by decide +kernel
theorem dX2_acted_0 : decode cX2_acted 0 = .ok (.iload_n 1, 1) := by decide +kernel
theorem dX2_acted_1 : decode cX2_acted 1 = .ok (.tableswitch 391 0 23 #[111, 119, 132, 140, 148, 156, 180, 186, 193, 200, 207, 215, 223, 229, 236, 285, 303, 309, 323, 329, 341, 351, 358, 364], 111) := by decide +kernel
theorem dX2_acted_112 : decode cX2_acted 112 = .ok (.aload_n 0, 1) := by decide +kernel
theorem dX2_acted_113 : decode cX2_acted 113 = .ok (.lload_n 2, 1) := by decide +kernel
theorem dX2_acted_114 : decode cX2_acted 114 = .ok (.lload 4, 2) := by decide +kernel
theorem dX2_acted_116 : decode cX2_acted 116 = .ok (.invokevirtual 55, 3) := by decide +kernel
theorem dX2_acted_119 : decode cX2_acted 119 = .ok (.lreturn, 1) := by decide +kernel
theorem dX2_acted_120 : decode cX2_acted 120 = .ok (.aload_n 0, 1) := by decide +kernel
theorem dX2_acted_121 : decode cX2_acted 121 = .ok (.lload_n 2, 1) := by decide +kernel
theorem dX2_acted_122 : decode cX2_acted 122 = .ok (.lload 4, 2) := by decide +kernel
theorem dX2_acted_124 : decode cX2_acted 124 = .ok (.aload_n 0, 1) := by decide +kernel
theorem dX2_acted_125 : decode cX2_acted 125 = .ok (.getfield 42, 3) := by decide +kernel
theorem dX2_acted_128 : decode cX2_acted 128 = .ok (.lxor, 1) := by decide +kernel
theorem dX2_acted_129 : decode cX2_acted 129 = .ok (.invokevirtual 55, 3) := by decide +kernel
theorem dX2_acted_132 : decode cX2_acted 132 = .ok (.lreturn, 1) := by decide +kernel
theorem dX2_acted_133 : decode cX2_acted 133 = .ok (.aload_n 0, 1) := by decide +kernel
theorem dX2_acted_134 : decode cX2_acted 134 = .ok (.lload_n 2, 1) := by decide +kernel
theorem dX2_acted_135 : decode cX2_acted 135 = .ok (.lload 4, 2) := by decide +kernel
theorem dX2_acted_137 : decode cX2_acted 137 = .ok (.invokevirtual 59, 3) := by decide +kernel
theorem dX2_acted_140 : decode cX2_acted 140 = .ok (.lreturn, 1) := by decide +kernel
theorem dX2_acted_141 : decode cX2_acted 141 = .ok (.aload_n 0, 1) := by decide +kernel
theorem dX2_acted_142 : decode cX2_acted 142 = .ok (.lload_n 2, 1) := by decide +kernel
theorem dX2_acted_143 : decode cX2_acted 143 = .ok (.lload 4, 2) := by decide +kernel
theorem dX2_acted_145 : decode cX2_acted 145 = .ok (.invokevirtual 62, 3) := by decide +kernel
theorem dX2_acted_148 : decode cX2_acted 148 = .ok (.lreturn, 1) := by decide +kernel
theorem dX2_acted_149 : decode cX2_acted 149 = .ok (.aload_n 0, 1) := by decide +kernel
theorem dX2_acted_150 : decode cX2_acted 150 = .ok (.lload_n 2, 1) := by decide +kernel
theorem dX2_acted_151 : decode cX2_acted 151 = .ok (.lload 4, 2) := by decide +kernel
theorem dX2_acted_153 : decode cX2_acted 153 = .ok (.invokevirtual 65, 3) := by decide +kernel
theorem dX2_acted_156 : decode cX2_acted 156 = .ok (.lreturn, 1) := by decide +kernel
theorem dX2_acted_157 : decode cX2_acted 157 = .ok (.aload_n 0, 1) := by decide +kernel
theorem dX2_acted_158 : decode cX2_acted 158 = .ok (.aload_n 0, 1) := by decide +kernel
theorem dX2_acted_159 : decode cX2_acted 159 = .ok (.lload_n 2, 1) := by decide +kernel
theorem dX2_acted_160 : decode cX2_acted 160 = .ok (.aload_n 0, 1) := by decide +kernel
theorem dX2_acted_161 : decode cX2_acted 161 = .ok (.lload_n 2, 1) := by decide +kernel
theorem dX2_acted_162 : decode cX2_acted 162 = .ok (.lload 4, 2) := by decide +kernel
theorem dX2_acted_164 : decode cX2_acted 164 = .ok (.invokevirtual 65, 3) := by decide +kernel
theorem dX2_acted_167 : decode cX2_acted 167 = .ok (.aload_n 0, 1) := by decide +kernel
theorem dX2_acted_168 : decode cX2_acted 168 = .ok (.getfield 42, 3) := by decide +kernel
theorem dX2_acted_171 : decode cX2_acted 171 = .ok (.lxor, 1) := by decide +kernel
theorem dX2_acted_172 : decode cX2_acted 172 = .ok (.invokevirtual 55, 3) := by decide +kernel
theorem dX2_acted_175 : decode cX2_acted 175 = .ok (.lload 4, 2) := by decide +kernel
theorem dX2_acted_177 : decode cX2_acted 177 = .ok (.invokevirtual 62, 3) := by decide +kernel
theorem dX2_acted_180 : decode cX2_acted 180 = .ok (.lreturn, 1) := by decide +kernel
theorem dX2_acted_181 : decode cX2_acted 181 = .ok (.aload_n 0, 1) := by decide +kernel
theorem dX2_acted_182 : decode cX2_acted 182 = .ok (.lload_n 2, 1) := by decide +kernel
theorem dX2_acted_183 : decode cX2_acted 183 = .ok (.invokevirtual 68, 3) := by decide +kernel
theorem dX2_acted_186 : decode cX2_acted 186 = .ok (.lreturn, 1) := by decide +kernel
theorem dX2_acted_187 : decode cX2_acted 187 = .ok (.aload_n 0, 1) := by decide +kernel
theorem dX2_acted_188 : decode cX2_acted 188 = .ok (.lload_n 2, 1) := by decide +kernel
theorem dX2_acted_189 : decode cX2_acted 189 = .ok (.iconst 0, 1) := by decide +kernel
theorem dX2_acted_190 : decode cX2_acted 190 = .ok (.invokevirtual 72, 3) := by decide +kernel
theorem dX2_acted_193 : decode cX2_acted 193 = .ok (.lreturn, 1) := by decide +kernel
theorem dX2_acted_194 : decode cX2_acted 194 = .ok (.aload_n 0, 1) := by decide +kernel
theorem dX2_acted_195 : decode cX2_acted 195 = .ok (.lload_n 2, 1) := by decide +kernel
theorem dX2_acted_196 : decode cX2_acted 196 = .ok (.iconst 1, 1) := by decide +kernel
theorem dX2_acted_197 : decode cX2_acted 197 = .ok (.invokevirtual 72, 3) := by decide +kernel
theorem dX2_acted_200 : decode cX2_acted 200 = .ok (.lreturn, 1) := by decide +kernel
theorem dX2_acted_201 : decode cX2_acted 201 = .ok (.aload_n 0, 1) := by decide +kernel
theorem dX2_acted_202 : decode cX2_acted 202 = .ok (.lload_n 2, 1) := by decide +kernel
theorem dX2_acted_203 : decode cX2_acted 203 = .ok (.iconst 2, 1) := by decide +kernel
theorem dX2_acted_204 : decode cX2_acted 204 = .ok (.invokevirtual 72, 3) := by decide +kernel
theorem dX2_acted_207 : decode cX2_acted 207 = .ok (.lreturn, 1) := by decide +kernel
theorem dX2_acted_208 : decode cX2_acted 208 = .ok (.aload_n 0, 1) := by decide +kernel
theorem dX2_acted_209 : decode cX2_acted 209 = .ok (.lload_n 2, 1) := by decide +kernel
theorem dX2_acted_210 : decode cX2_acted 210 = .ok (.lload 4, 2) := by decide +kernel
theorem dX2_acted_212 : decode cX2_acted 212 = .ok (.invokevirtual 76, 3) := by decide +kernel
theorem dX2_acted_215 : decode cX2_acted 215 = .ok (.lreturn, 1) := by decide +kernel
theorem dX2_acted_216 : decode cX2_acted 216 = .ok (.aload_n 0, 1) := by decide +kernel
theorem dX2_acted_217 : decode cX2_acted 217 = .ok (.lload_n 2, 1) := by decide +kernel
theorem dX2_acted_218 : decode cX2_acted 218 = .ok (.lload 4, 2) := by decide +kernel
theorem dX2_acted_220 : decode cX2_acted 220 = .ok (.invokevirtual 79, 3) := by decide +kernel
theorem dX2_acted_223 : decode cX2_acted 223 = .ok (.lreturn, 1) := by decide +kernel
theorem dX2_acted_224 : decode cX2_acted 224 = .ok (.aload_n 0, 1) := by decide +kernel
theorem dX2_acted_225 : decode cX2_acted 225 = .ok (.lload_n 2, 1) := by decide +kernel
theorem dX2_acted_226 : decode cX2_acted 226 = .ok (.invokevirtual 82, 3) := by decide +kernel
theorem dX2_acted_229 : decode cX2_acted 229 = .ok (.lreturn, 1) := by decide +kernel
theorem dX2_acted_230 : decode cX2_acted 230 = .ok (.lload_n 2, 1) := by decide +kernel
theorem dX2_acted_231 : decode cX2_acted 231 = .ok (.aload_n 0, 1) := by decide +kernel
theorem dX2_acted_232 : decode cX2_acted 232 = .ok (.getfield 42, 3) := by decide +kernel
theorem dX2_acted_235 : decode cX2_acted 235 = .ok (.lxor, 1) := by decide +kernel
theorem dX2_acted_236 : decode cX2_acted 236 = .ok (.lreturn, 1) := by decide +kernel
theorem dX2_acted_237 : decode cX2_acted 237 = .ok (.lload 4, 2) := by decide +kernel
theorem dX2_acted_239 : decode cX2_acted 239 = .ok (.ldc2_w 85, 3) := by decide +kernel
theorem dX2_acted_242 : decode cX2_acted 242 = .ok (.land, 1) := by decide +kernel
theorem dX2_acted_243 : decode cX2_acted 243 = .ok (.lconst 0, 1) := by decide +kernel
theorem dX2_acted_244 : decode cX2_acted 244 = .ok (.lcmp, 1) := by decide +kernel
theorem dX2_acted_245 : decode cX2_acted 245 = .ok (.ifCond .ne 17, 3) := by decide +kernel
theorem dX2_acted_248 : decode cX2_acted 248 = .ok (.aload_n 0, 1) := by decide +kernel
theorem dX2_acted_249 : decode cX2_acted 249 = .ok (.lload_n 2, 1) := by decide +kernel
theorem dX2_acted_250 : decode cX2_acted 250 = .ok (.lload 4, 2) := by decide +kernel
theorem dX2_acted_252 : decode cX2_acted 252 = .ok (.ldc2_w 87, 3) := by decide +kernel
theorem dX2_acted_255 : decode cX2_acted 255 = .ok (.land, 1) := by decide +kernel
theorem dX2_acted_256 : decode cX2_acted 256 = .ok (.invokevirtual 89, 3) := by decide +kernel
theorem dX2_acted_259 : decode cX2_acted 259 = .ok (.goto 26, 3) := by decide +kernel
theorem dX2_acted_262 : decode cX2_acted 262 = .ok (.aload_n 0, 1) := by decide +kernel
theorem dX2_acted_263 : decode cX2_acted 263 = .ok (.aload_n 0, 1) := by decide +kernel
theorem dX2_acted_264 : decode cX2_acted 264 = .ok (.getfield 46, 3) := by decide +kernel
theorem dX2_acted_267 : decode cX2_acted 267 = .ok (.aload_n 0, 1) := by decide +kernel
theorem dX2_acted_268 : decode cX2_acted 268 = .ok (.lload_n 2, 1) := by decide +kernel
theorem dX2_acted_269 : decode cX2_acted 269 = .ok (.ldc2_w 85, 3) := by decide +kernel
theorem dX2_acted_272 : decode cX2_acted 272 = .ok (.lload 4, 2) := by decide +kernel
theorem dX2_acted_274 : decode cX2_acted 274 = .ok (.ldc2_w 87, 3) := by decide +kernel
theorem dX2_acted_277 : decode cX2_acted 277 = .ok (.land, 1) := by decide +kernel
theorem dX2_acted_278 : decode cX2_acted 278 = .ok (.lsub, 1) := by decide +kernel
theorem dX2_acted_279 : decode cX2_acted 279 = .ok (.invokevirtual 89, 3) := by decide +kernel
theorem dX2_acted_282 : decode cX2_acted 282 = .ok (.invokevirtual 62, 3) := by decide +kernel
theorem dX2_acted_285 : decode cX2_acted 285 = .ok (.lreturn, 1) := by decide +kernel
theorem dX2_acted_286 : decode cX2_acted 286 = .ok (.aload_n 0, 1) := by decide +kernel
theorem dX2_acted_287 : decode cX2_acted 287 = .ok (.lload_n 2, 1) := by decide +kernel
theorem dX2_acted_288 : decode cX2_acted 288 = .ok (.lload 4, 2) := by decide +kernel
theorem dX2_acted_290 : decode cX2_acted 290 = .ok (.aload_n 0, 1) := by decide +kernel
theorem dX2_acted_291 : decode cX2_acted 291 = .ok (.getfield 39, 3) := by decide +kernel
theorem dX2_acted_294 : decode cX2_acted 294 = .ok (.lshl, 1) := by decide +kernel
theorem dX2_acted_295 : decode cX2_acted 295 = .ok (.aload_n 0, 1) := by decide +kernel
theorem dX2_acted_296 : decode cX2_acted 296 = .ok (.getfield 39, 3) := by decide +kernel
theorem dX2_acted_299 : decode cX2_acted 299 = .ok (.lshr, 1) := by decide +kernel
theorem dX2_acted_300 : decode cX2_acted 300 = .ok (.invokevirtual 92, 3) := by decide +kernel
theorem dX2_acted_303 : decode cX2_acted 303 = .ok (.lreturn, 1) := by decide +kernel
theorem dX2_acted_304 : decode cX2_acted 304 = .ok (.aload_n 0, 1) := by decide +kernel
theorem dX2_acted_305 : decode cX2_acted 305 = .ok (.lload_n 2, 1) := by decide +kernel
theorem dX2_acted_306 : decode cX2_acted 306 = .ok (.invokevirtual 95, 3) := by decide +kernel
theorem dX2_acted_309 : decode cX2_acted 309 = .ok (.lreturn, 1) := by decide +kernel
theorem dX2_acted_310 : decode cX2_acted 310 = .ok (.aload_n 0, 1) := by decide +kernel
theorem dX2_acted_311 : decode cX2_acted 311 = .ok (.lload_n 2, 1) := by decide +kernel
theorem dX2_acted_312 : decode cX2_acted 312 = .ok (.invokevirtual 82, 3) := by decide +kernel
theorem dX2_acted_315 : decode cX2_acted 315 = .ok (.lload 4, 2) := by decide +kernel
theorem dX2_acted_317 : decode cX2_acted 317 = .ok (.aload_n 0, 1) := by decide +kernel
theorem dX2_acted_318 : decode cX2_acted 318 = .ok (.getfield 42, 3) := by decide +kernel
theorem dX2_acted_321 : decode cX2_acted 321 = .ok (.land, 1) := by decide +kernel
theorem dX2_acted_322 : decode cX2_acted 322 = .ok (.lor, 1) := by decide +kernel
theorem dX2_acted_323 : decode cX2_acted 323 = .ok (.lreturn, 1) := by decide +kernel
theorem dX2_acted_324 : decode cX2_acted 324 = .ok (.aload_n 0, 1) := by decide +kernel
theorem dX2_acted_325 : decode cX2_acted 325 = .ok (.lload_n 2, 1) := by decide +kernel
theorem dX2_acted_326 : decode cX2_acted 326 = .ok (.invokevirtual 98, 3) := by decide +kernel
theorem dX2_acted_329 : decode cX2_acted 329 = .ok (.lreturn, 1) := by decide +kernel
theorem dX2_acted_330 : decode cX2_acted 330 = .ok (.aload_n 0, 1) := by decide +kernel
theorem dX2_acted_331 : decode cX2_acted 331 = .ok (.lload_n 2, 1) := by decide +kernel
theorem dX2_acted_332 : decode cX2_acted 332 = .ok (.invokevirtual 101, 3) := by decide +kernel
theorem dX2_acted_335 : decode cX2_acted 335 = .ok (.aload_n 0, 1) := by decide +kernel
theorem dX2_acted_336 : decode cX2_acted 336 = .ok (.getfield 33, 3) := by decide +kernel
theorem dX2_acted_339 : decode cX2_acted 339 = .ok (.isub, 1) := by decide +kernel
theorem dX2_acted_340 : decode cX2_acted 340 = .ok (.i2l, 1) := by decide +kernel
theorem dX2_acted_341 : decode cX2_acted 341 = .ok (.lreturn, 1) := by decide +kernel
theorem dX2_acted_342 : decode cX2_acted 342 = .ok (.aload_n 0, 1) := by decide +kernel
theorem dX2_acted_343 : decode cX2_acted 343 = .ok (.lload_n 2, 1) := by decide +kernel
theorem dX2_acted_344 : decode cX2_acted 344 = .ok (.lload 4, 2) := by decide +kernel
theorem dX2_acted_346 : decode cX2_acted 346 = .ok (.lload 6, 2) := by decide +kernel
theorem dX2_acted_348 : decode cX2_acted 348 = .ok (.invokevirtual 105, 3) := by decide +kernel
theorem dX2_acted_351 : decode cX2_acted 351 = .ok (.lreturn, 1) := by decide +kernel
theorem dX2_acted_352 : decode cX2_acted 352 = .ok (.aload_n 0, 1) := by decide +kernel
theorem dX2_acted_353 : decode cX2_acted 353 = .ok (.lload_n 2, 1) := by decide +kernel
theorem dX2_acted_354 : decode cX2_acted 354 = .ok (.l2i, 1) := by decide +kernel
theorem dX2_acted_355 : decode cX2_acted 355 = .ok (.invokevirtual 109, 3) := by decide +kernel
theorem dX2_acted_358 : decode cX2_acted 358 = .ok (.lreturn, 1) := by decide +kernel
theorem dX2_acted_359 : decode cX2_acted 359 = .ok (.aload_n 0, 1) := by decide +kernel
theorem dX2_acted_360 : decode cX2_acted 360 = .ok (.lload_n 2, 1) := by decide +kernel
theorem dX2_acted_361 : decode cX2_acted 361 = .ok (.invokevirtual 113, 3) := by decide +kernel
theorem dX2_acted_364 : decode cX2_acted 364 = .ok (.lreturn, 1) := by decide +kernel
theorem dX2_acted_365 : decode cX2_acted 365 = .ok (.aload_n 0, 1) := by decide +kernel
theorem dX2_acted_366 : decode cX2_acted 366 = .ok (.lload_n 2, 1) := by decide +kernel
theorem dX2_acted_367 : decode cX2_acted 367 = .ok (.invokevirtual 116, 3) := by decide +kernel
theorem dX2_acted_370 : decode cX2_acted 370 = .ok (.ifCond .eq 11, 3) := by decide +kernel
theorem dX2_acted_373 : decode cX2_acted 373 = .ok (.aload_n 0, 1) := by decide +kernel
theorem dX2_acted_374 : decode cX2_acted 374 = .ok (.lload_n 2, 1) := by decide +kernel
theorem dX2_acted_375 : decode cX2_acted 375 = .ok (.invokevirtual 113, 3) := by decide +kernel
theorem dX2_acted_378 : decode cX2_acted 378 = .ok (.goto 13, 3) := by decide +kernel
theorem dX2_acted_381 : decode cX2_acted 381 = .ok (.aload_n 0, 1) := by decide +kernel
theorem dX2_acted_382 : decode cX2_acted 382 = .ok (.aload_n 0, 1) := by decide +kernel
theorem dX2_acted_383 : decode cX2_acted 383 = .ok (.lload_n 2, 1) := by decide +kernel
theorem dX2_acted_384 : decode cX2_acted 384 = .ok (.iconst 2, 1) := by decide +kernel
theorem dX2_acted_385 : decode cX2_acted 385 = .ok (.invokevirtual 72, 3) := by decide +kernel
theorem dX2_acted_388 : decode cX2_acted 388 = .ok (.invokevirtual 113, 3) := by decide +kernel
theorem dX2_acted_391 : decode cX2_acted 391 = .ok (.lreturn, 1) := by decide +kernel
theorem dX2_acted_392 : decode cX2_acted 392 = .ok (.aload_n 0, 1) := by decide +kernel
theorem dX2_acted_393 : decode cX2_acted 393 = .ok (.getfield 52, 3) := by decide +kernel
theorem dX2_acted_396 : decode cX2_acted 396 = .ok (.lreturn, 1) := by decide +kernel
theorem dX2_holds_0 : decode cX2_holds 0 = .ok (.aload_n 0, 1) := by decide +kernel
theorem dX2_holds_1 : decode cX2_holds 1 = .ok (.lload_n 2, 1) := by decide +kernel
theorem dX2_holds_2 : decode cX2_holds 2 = .ok (.invokevirtual 116, 3) := by decide +kernel
theorem dX2_holds_5 : decode cX2_holds 5 = .ok (.ifCond .ne 16, 3) := by decide +kernel
theorem dX2_holds_8 : decode cX2_holds 8 = .ok (.aload_n 0, 1) := by decide +kernel
theorem dX2_holds_9 : decode cX2_holds 9 = .ok (.lload 4, 2) := by decide +kernel
theorem dX2_holds_11 : decode cX2_holds 11 = .ok (.invokevirtual 116, 3) := by decide +kernel
theorem dX2_holds_14 : decode cX2_holds 14 = .ok (.ifCond .ne 7, 3) := by decide +kernel
theorem dX2_holds_17 : decode cX2_holds 17 = .ok (.iconst 1, 1) := by decide +kernel
theorem dX2_holds_18 : decode cX2_holds 18 = .ok (.goto 4, 3) := by decide +kernel
theorem dX2_holds_21 : decode cX2_holds 21 = .ok (.iconst 0, 1) := by decide +kernel
theorem dX2_holds_22 : decode cX2_holds 22 = .ok (.istore 8, 2) := by decide +kernel
theorem dX2_holds_24 : decode cX2_holds 24 = .ok (.iload_n 1, 1) := by decide +kernel
theorem dX2_holds_25 : decode cX2_holds 25 = .ok (.tableswitch 191 0 7 #[47, 57, 75, 101, 127, 153, 179, 185], 47) := by decide +kernel
theorem dX2_holds_72 : decode cX2_holds 72 = .ok (.aload_n 0, 1) := by decide +kernel
theorem dX2_holds_73 : decode cX2_holds 73 = .ok (.lload_n 2, 1) := by decide +kernel
theorem dX2_holds_74 : decode cX2_holds 74 = .ok (.lload 4, 2) := by decide +kernel
theorem dX2_holds_76 : decode cX2_holds 76 = .ok (.lload 6, 2) := by decide +kernel
theorem dX2_holds_78 : decode cX2_holds 78 = .ok (.invokevirtual 120, 3) := by decide +kernel
theorem dX2_holds_81 : decode cX2_holds 81 = .ok (.ireturn, 1) := by decide +kernel
theorem dX2_holds_82 : decode cX2_holds 82 = .ok (.aload_n 0, 1) := by decide +kernel
theorem dX2_holds_83 : decode cX2_holds 83 = .ok (.lload_n 2, 1) := by decide +kernel
theorem dX2_holds_84 : decode cX2_holds 84 = .ok (.lload 4, 2) := by decide +kernel
theorem dX2_holds_86 : decode cX2_holds 86 = .ok (.lload 6, 2) := by decide +kernel
theorem dX2_holds_88 : decode cX2_holds 88 = .ok (.invokevirtual 120, 3) := by decide +kernel
theorem dX2_holds_91 : decode cX2_holds 91 = .ok (.ifCond .ne 7, 3) := by decide +kernel
theorem dX2_holds_94 : decode cX2_holds 94 = .ok (.iconst 1, 1) := by decide +kernel
theorem dX2_holds_95 : decode cX2_holds 95 = .ok (.goto 4, 3) := by decide +kernel
theorem dX2_holds_98 : decode cX2_holds 98 = .ok (.iconst 0, 1) := by decide +kernel
theorem dX2_holds_99 : decode cX2_holds 99 = .ok (.ireturn, 1) := by decide +kernel
theorem dX2_holds_100 : decode cX2_holds 100 = .ok (.iload 8, 2) := by decide +kernel
theorem dX2_holds_102 : decode cX2_holds 102 = .ok (.ifCond .eq 22, 3) := by decide +kernel
theorem dX2_holds_105 : decode cX2_holds 105 = .ok (.aload_n 0, 1) := by decide +kernel
theorem dX2_holds_106 : decode cX2_holds 106 = .ok (.lload_n 2, 1) := by decide +kernel
theorem dX2_holds_107 : decode cX2_holds 107 = .ok (.invokevirtual 124, 3) := by decide +kernel
theorem dX2_holds_110 : decode cX2_holds 110 = .ok (.aload_n 0, 1) := by decide +kernel
theorem dX2_holds_111 : decode cX2_holds 111 = .ok (.lload 4, 2) := by decide +kernel
theorem dX2_holds_113 : decode cX2_holds 113 = .ok (.invokevirtual 124, 3) := by decide +kernel
theorem dX2_holds_116 : decode cX2_holds 116 = .ok (.lcmp, 1) := by decide +kernel
theorem dX2_holds_117 : decode cX2_holds 117 = .ok (.ifCond .ge 7, 3) := by decide +kernel
theorem dX2_holds_120 : decode cX2_holds 120 = .ok (.iconst 1, 1) := by decide +kernel
theorem dX2_holds_121 : decode cX2_holds 121 = .ok (.goto 4, 3) := by decide +kernel
theorem dX2_holds_124 : decode cX2_holds 124 = .ok (.iconst 0, 1) := by decide +kernel
theorem dX2_holds_125 : decode cX2_holds 125 = .ok (.ireturn, 1) := by decide +kernel
theorem dX2_holds_126 : decode cX2_holds 126 = .ok (.iload 8, 2) := by decide +kernel
theorem dX2_holds_128 : decode cX2_holds 128 = .ok (.ifCond .eq 22, 3) := by decide +kernel
theorem dX2_holds_131 : decode cX2_holds 131 = .ok (.aload_n 0, 1) := by decide +kernel
theorem dX2_holds_132 : decode cX2_holds 132 = .ok (.lload_n 2, 1) := by decide +kernel
theorem dX2_holds_133 : decode cX2_holds 133 = .ok (.invokevirtual 124, 3) := by decide +kernel
theorem dX2_holds_136 : decode cX2_holds 136 = .ok (.aload_n 0, 1) := by decide +kernel
theorem dX2_holds_137 : decode cX2_holds 137 = .ok (.lload 4, 2) := by decide +kernel
theorem dX2_holds_139 : decode cX2_holds 139 = .ok (.invokevirtual 124, 3) := by decide +kernel
theorem dX2_holds_142 : decode cX2_holds 142 = .ok (.lcmp, 1) := by decide +kernel
theorem dX2_holds_143 : decode cX2_holds 143 = .ok (.ifCond .gt 7, 3) := by decide +kernel
theorem dX2_holds_146 : decode cX2_holds 146 = .ok (.iconst 1, 1) := by decide +kernel
theorem dX2_holds_147 : decode cX2_holds 147 = .ok (.goto 4, 3) := by decide +kernel
theorem dX2_holds_150 : decode cX2_holds 150 = .ok (.iconst 0, 1) := by decide +kernel
theorem dX2_holds_151 : decode cX2_holds 151 = .ok (.ireturn, 1) := by decide +kernel
theorem dX2_holds_152 : decode cX2_holds 152 = .ok (.iload 8, 2) := by decide +kernel
theorem dX2_holds_154 : decode cX2_holds 154 = .ok (.ifCond .eq 22, 3) := by decide +kernel
theorem dX2_holds_157 : decode cX2_holds 157 = .ok (.aload_n 0, 1) := by decide +kernel
theorem dX2_holds_158 : decode cX2_holds 158 = .ok (.lload_n 2, 1) := by decide +kernel
theorem dX2_holds_159 : decode cX2_holds 159 = .ok (.invokevirtual 124, 3) := by decide +kernel
theorem dX2_holds_162 : decode cX2_holds 162 = .ok (.aload_n 0, 1) := by decide +kernel
theorem dX2_holds_163 : decode cX2_holds 163 = .ok (.lload 4, 2) := by decide +kernel
theorem dX2_holds_165 : decode cX2_holds 165 = .ok (.invokevirtual 124, 3) := by decide +kernel
theorem dX2_holds_168 : decode cX2_holds 168 = .ok (.lcmp, 1) := by decide +kernel
theorem dX2_holds_169 : decode cX2_holds 169 = .ok (.ifCond .le 7, 3) := by decide +kernel
theorem dX2_holds_172 : decode cX2_holds 172 = .ok (.iconst 1, 1) := by decide +kernel
theorem dX2_holds_173 : decode cX2_holds 173 = .ok (.goto 4, 3) := by decide +kernel
theorem dX2_holds_176 : decode cX2_holds 176 = .ok (.iconst 0, 1) := by decide +kernel
theorem dX2_holds_177 : decode cX2_holds 177 = .ok (.ireturn, 1) := by decide +kernel
theorem dX2_holds_178 : decode cX2_holds 178 = .ok (.iload 8, 2) := by decide +kernel
theorem dX2_holds_180 : decode cX2_holds 180 = .ok (.ifCond .eq 22, 3) := by decide +kernel
theorem dX2_holds_183 : decode cX2_holds 183 = .ok (.aload_n 0, 1) := by decide +kernel
theorem dX2_holds_184 : decode cX2_holds 184 = .ok (.lload_n 2, 1) := by decide +kernel
theorem dX2_holds_185 : decode cX2_holds 185 = .ok (.invokevirtual 124, 3) := by decide +kernel
theorem dX2_holds_188 : decode cX2_holds 188 = .ok (.aload_n 0, 1) := by decide +kernel
theorem dX2_holds_189 : decode cX2_holds 189 = .ok (.lload 4, 2) := by decide +kernel
theorem dX2_holds_191 : decode cX2_holds 191 = .ok (.invokevirtual 124, 3) := by decide +kernel
theorem dX2_holds_194 : decode cX2_holds 194 = .ok (.lcmp, 1) := by decide +kernel
theorem dX2_holds_195 : decode cX2_holds 195 = .ok (.ifCond .lt 7, 3) := by decide +kernel
theorem dX2_holds_198 : decode cX2_holds 198 = .ok (.iconst 1, 1) := by decide +kernel
theorem dX2_holds_199 : decode cX2_holds 199 = .ok (.goto 4, 3) := by decide +kernel
theorem dX2_holds_202 : decode cX2_holds 202 = .ok (.iconst 0, 1) := by decide +kernel
theorem dX2_holds_203 : decode cX2_holds 203 = .ok (.ireturn, 1) := by decide +kernel
theorem dX2_holds_204 : decode cX2_holds 204 = .ok (.aload_n 0, 1) := by decide +kernel
theorem dX2_holds_205 : decode cX2_holds 205 = .ok (.lload_n 2, 1) := by decide +kernel
theorem dX2_holds_206 : decode cX2_holds 206 = .ok (.invokevirtual 116, 3) := by decide +kernel
theorem dX2_holds_209 : decode cX2_holds 209 = .ok (.ireturn, 1) := by decide +kernel
theorem dX2_holds_210 : decode cX2_holds 210 = .ok (.aload_n 0, 1) := by decide +kernel
theorem dX2_holds_211 : decode cX2_holds 211 = .ok (.lload_n 2, 1) := by decide +kernel
theorem dX2_holds_212 : decode cX2_holds 212 = .ok (.invokevirtual 127, 3) := by decide +kernel
theorem dX2_holds_215 : decode cX2_holds 215 = .ok (.ireturn, 1) := by decide +kernel
theorem dX2_holds_216 : decode cX2_holds 216 = .ok (.iconst 0, 1) := by decide +kernel
theorem dX2_holds_217 : decode cX2_holds 217 = .ok (.ireturn, 1) := by decide +kernel
theorem dX2_isNan_0 : decode cX2_isNan 0 = .ok (.aload_n 0, 1) := by decide +kernel
theorem dX2_isNan_1 : decode cX2_isNan 1 = .ok (.lload_n 1, 1) := by decide +kernel
theorem dX2_isNan_2 : decode cX2_isNan 2 = .ok (.invokevirtual 82, 3) := by decide +kernel
theorem dX2_isNan_5 : decode cX2_isNan 5 = .ok (.aload_n 0, 1) := by decide +kernel
theorem dX2_isNan_6 : decode cX2_isNan 6 = .ok (.getfield 49, 3) := by decide +kernel
theorem dX2_isNan_9 : decode cX2_isNan 9 = .ok (.lcmp, 1) := by decide +kernel
theorem dX2_isNan_10 : decode cX2_isNan 10 = .ok (.ifCond .le 7, 3) := by decide +kernel
theorem dX2_isNan_13 : decode cX2_isNan 13 = .ok (.iconst 1, 1) := by decide +kernel
theorem dX2_isNan_14 : decode cX2_isNan 14 = .ok (.goto 4, 3) := by decide +kernel
theorem dX2_isNan_17 : decode cX2_isNan 17 = .ok (.iconst 0, 1) := by decide +kernel
theorem dX2_isNan_18 : decode cX2_isNan 18 = .ok (.ireturn, 1) := by decide +kernel
theorem dX2_isInfinite_0 : decode cX2_isInfinite 0 = .ok (.aload_n 0, 1) := by decide +kernel
theorem dX2_isInfinite_1 : decode cX2_isInfinite 1 = .ok (.lload_n 1, 1) := by decide +kernel
theorem dX2_isInfinite_2 : decode cX2_isInfinite 2 = .ok (.invokevirtual 82, 3) := by decide +kernel
theorem dX2_isInfinite_5 : decode cX2_isInfinite 5 = .ok (.aload_n 0, 1) := by decide +kernel
theorem dX2_isInfinite_6 : decode cX2_isInfinite 6 = .ok (.getfield 49, 3) := by decide +kernel
theorem dX2_isInfinite_9 : decode cX2_isInfinite 9 = .ok (.lcmp, 1) := by decide +kernel
theorem dX2_isInfinite_10 : decode cX2_isInfinite 10 = .ok (.ifCond .ne 7, 3) := by decide +kernel
theorem dX2_isInfinite_13 : decode cX2_isInfinite 13 = .ok (.iconst 1, 1) := by decide +kernel
theorem dX2_isInfinite_14 : decode cX2_isInfinite 14 = .ok (.goto 4, 3) := by decide +kernel
theorem dX2_isInfinite_17 : decode cX2_isInfinite 17 = .ok (.iconst 0, 1) := by decide +kernel
theorem dX2_isInfinite_18 : decode cX2_isInfinite 18 = .ok (.ireturn, 1) := by decide +kernel
theorem dX2_isZero_0 : decode cX2_isZero 0 = .ok (.aload_n 0, 1) := by decide +kernel
theorem dX2_isZero_1 : decode cX2_isZero 1 = .ok (.lload_n 1, 1) := by decide +kernel
theorem dX2_isZero_2 : decode cX2_isZero 2 = .ok (.invokevirtual 82, 3) := by decide +kernel
theorem dX2_isZero_5 : decode cX2_isZero 5 = .ok (.lconst 0, 1) := by decide +kernel
theorem dX2_isZero_6 : decode cX2_isZero 6 = .ok (.lcmp, 1) := by decide +kernel
theorem dX2_isZero_7 : decode cX2_isZero 7 = .ok (.ifCond .ne 7, 3) := by decide +kernel
theorem dX2_isZero_10 : decode cX2_isZero 10 = .ok (.iconst 1, 1) := by decide +kernel
theorem dX2_isZero_11 : decode cX2_isZero 11 = .ok (.goto 4, 3) := by decide +kernel
theorem dX2_isZero_14 : decode cX2_isZero 14 = .ok (.iconst 0, 1) := by decide +kernel
theorem dX2_isZero_15 : decode cX2_isZero 15 = .ok (.ireturn, 1) := by decide +kernel
theorem dX2_isNegative_0 : decode cX2_isNegative 0 = .ok (.lload_n 1, 1) := by decide +kernel
theorem dX2_isNegative_1 : decode cX2_isNegative 1 = .ok (.aload_n 0, 1) := by decide +kernel
theorem dX2_isNegative_2 : decode cX2_isNegative 2 = .ok (.getfield 42, 3) := by decide +kernel
theorem dX2_isNegative_5 : decode cX2_isNegative 5 = .ok (.land, 1) := by decide +kernel
theorem dX2_isNegative_6 : decode cX2_isNegative 6 = .ok (.lconst 0, 1) := by decide +kernel
theorem dX2_isNegative_7 : decode cX2_isNegative 7 = .ok (.lcmp, 1) := by decide +kernel
theorem dX2_isNegative_8 : decode cX2_isNegative 8 = .ok (.ifCond .eq 7, 3) := by decide +kernel
theorem dX2_isNegative_11 : decode cX2_isNegative 11 = .ok (.iconst 1, 1) := by decide +kernel
theorem dX2_isNegative_12 : decode cX2_isNegative 12 = .ok (.goto 4, 3) := by decide +kernel
theorem dX2_isNegative_15 : decode cX2_isNegative 15 = .ok (.iconst 0, 1) := by decide +kernel
theorem dX2_isNegative_16 : decode cX2_isNegative 16 = .ok (.ireturn, 1) := by decide +kernel
theorem dX2_size_0 : decode cX2_size 0 = .ok (.lload_n 1, 1) := by decide +kernel
theorem dX2_size_1 : decode cX2_size 1 = .ok (.aload_n 0, 1) := by decide +kernel
theorem dX2_size_2 : decode cX2_size 2 = .ok (.getfield 42, 3) := by decide +kernel
theorem dX2_size_5 : decode cX2_size 5 = .ok (.lconst 1, 1) := by decide +kernel
theorem dX2_size_6 : decode cX2_size 6 = .ok (.lsub, 1) := by decide +kernel
theorem dX2_size_7 : decode cX2_size 7 = .ok (.land, 1) := by decide +kernel
theorem dX2_size_8 : decode cX2_size 8 = .ok (.lreturn, 1) := by decide +kernel
theorem dX2_biased_0 : decode cX2_biased 0 = .ok (.lload_n 1, 1) := by decide +kernel
theorem dX2_biased_1 : decode cX2_biased 1 = .ok (.aload_n 0, 1) := by decide +kernel
theorem dX2_biased_2 : decode cX2_biased 2 = .ok (.getfield 29, 3) := by decide +kernel
theorem dX2_biased_5 : decode cX2_biased 5 = .ok (.lushr, 1) := by decide +kernel
theorem dX2_biased_6 : decode cX2_biased 6 = .ok (.l2i, 1) := by decide +kernel
theorem dX2_biased_7 : decode cX2_biased 7 = .ok (.aload_n 0, 1) := by decide +kernel
theorem dX2_biased_8 : decode cX2_biased 8 = .ok (.getfield 36, 3) := by decide +kernel
theorem dX2_biased_11 : decode cX2_biased 11 = .ok (.iand, 1) := by decide +kernel
theorem dX2_biased_12 : decode cX2_biased 12 = .ok (.ireturn, 1) := by decide +kernel
theorem dX2_plain_0 : decode cX2_plain 0 = .ok (.lload_n 1, 1) := by decide +kernel
theorem dX2_plain_1 : decode cX2_plain 1 = .ok (.lconst 1, 1) := by decide +kernel
theorem dX2_plain_2 : decode cX2_plain 2 = .ok (.aload_n 0, 1) := by decide +kernel
theorem dX2_plain_3 : decode cX2_plain 3 = .ok (.getfield 29, 3) := by decide +kernel
theorem dX2_plain_6 : decode cX2_plain 6 = .ok (.lshl, 1) := by decide +kernel
theorem dX2_plain_7 : decode cX2_plain 7 = .ok (.lconst 1, 1) := by decide +kernel
theorem dX2_plain_8 : decode cX2_plain 8 = .ok (.lsub, 1) := by decide +kernel
theorem dX2_plain_9 : decode cX2_plain 9 = .ok (.land, 1) := by decide +kernel
theorem dX2_plain_10 : decode cX2_plain 10 = .ok (.lstore_n 3, 1) := by decide +kernel
theorem dX2_plain_11 : decode cX2_plain 11 = .ok (.aload_n 0, 1) := by decide +kernel
theorem dX2_plain_12 : decode cX2_plain 12 = .ok (.lload_n 1, 1) := by decide +kernel
theorem dX2_plain_13 : decode cX2_plain 13 = .ok (.invokevirtual 101, 3) := by decide +kernel
theorem dX2_plain_16 : decode cX2_plain 16 = .ok (.ifCond .ne 7, 3) := by decide +kernel
theorem dX2_plain_19 : decode cX2_plain 19 = .ok (.lload_n 3, 1) := by decide +kernel
theorem dX2_plain_20 : decode cX2_plain 20 = .ok (.goto 11, 3) := by decide +kernel
theorem dX2_plain_23 : decode cX2_plain 23 = .ok (.lload_n 3, 1) := by decide +kernel
theorem dX2_plain_24 : decode cX2_plain 24 = .ok (.lconst 1, 1) := by decide +kernel
theorem dX2_plain_25 : decode cX2_plain 25 = .ok (.aload_n 0, 1) := by decide +kernel
theorem dX2_plain_26 : decode cX2_plain 26 = .ok (.getfield 29, 3) := by decide +kernel
theorem dX2_plain_29 : decode cX2_plain 29 = .ok (.lshl, 1) := by decide +kernel
theorem dX2_plain_30 : decode cX2_plain 30 = .ok (.lor, 1) := by decide +kernel
theorem dX2_plain_31 : decode cX2_plain 31 = .ok (.lreturn, 1) := by decide +kernel
theorem dX2_scale_0 : decode cX2_scale 0 = .ok (.aload_n 0, 1) := by decide +kernel
theorem dX2_scale_1 : decode cX2_scale 1 = .ok (.lload_n 1, 1) := by decide +kernel
theorem dX2_scale_2 : decode cX2_scale 2 = .ok (.invokevirtual 101, 3) := by decide +kernel
theorem dX2_scale_5 : decode cX2_scale 5 = .ok (.iconst 1, 1) := by decide +kernel
theorem dX2_scale_6 : decode cX2_scale 6 = .ok (.invokestatic 130, 3) := by decide +kernel
theorem dX2_scale_9 : decode cX2_scale 9 = .ok (.aload_n 0, 1) := by decide +kernel
theorem dX2_scale_10 : decode cX2_scale 10 = .ok (.getfield 33, 3) := by decide +kernel
theorem dX2_scale_13 : decode cX2_scale 13 = .ok (.isub, 1) := by decide +kernel
theorem dX2_scale_14 : decode cX2_scale 14 = .ok (.aload_n 0, 1) := by decide +kernel
theorem dX2_scale_15 : decode cX2_scale 15 = .ok (.getfield 29, 3) := by decide +kernel
theorem dX2_scale_18 : decode cX2_scale 18 = .ok (.isub, 1) := by decide +kernel
theorem dX2_scale_19 : decode cX2_scale 19 = .ok (.ireturn, 1) := by decide +kernel
theorem dX2_rank_0 : decode cX2_rank 0 = .ok (.aload_n 0, 1) := by decide +kernel
theorem dX2_rank_1 : decode cX2_rank 1 = .ok (.lload_n 1, 1) := by decide +kernel
theorem dX2_rank_2 : decode cX2_rank 2 = .ok (.invokevirtual 136, 3) := by decide +kernel
theorem dX2_rank_5 : decode cX2_rank 5 = .ok (.ifCond .eq 12, 3) := by decide +kernel
theorem dX2_rank_8 : decode cX2_rank 8 = .ok (.aload_n 0, 1) := by decide +kernel
theorem dX2_rank_9 : decode cX2_rank 9 = .ok (.lload_n 1, 1) := by decide +kernel
theorem dX2_rank_10 : decode cX2_rank 10 = .ok (.invokevirtual 82, 3) := by decide +kernel
theorem dX2_rank_13 : decode cX2_rank 13 = .ok (.lneg, 1) := by decide +kernel
theorem dX2_rank_14 : decode cX2_rank 14 = .ok (.goto 8, 3) := by decide +kernel
theorem dX2_rank_17 : decode cX2_rank 17 = .ok (.aload_n 0, 1) := by decide +kernel
theorem dX2_rank_18 : decode cX2_rank 18 = .ok (.lload_n 1, 1) := by decide +kernel
theorem dX2_rank_19 : decode cX2_rank 19 = .ok (.invokevirtual 82, 3) := by decide +kernel
theorem dX2_rank_22 : decode cX2_rank 22 = .ok (.lreturn, 1) := by decide +kernel
theorem dX2_isNear_0 : decode cX2_isNear 0 = .ok (.aload_n 0, 1) := by decide +kernel
theorem dX2_isNear_1 : decode cX2_isNear 1 = .ok (.lload_n 1, 1) := by decide +kernel
theorem dX2_isNear_2 : decode cX2_isNear 2 = .ok (.invokevirtual 116, 3) := by decide +kernel
theorem dX2_isNear_5 : decode cX2_isNear 5 = .ok (.ifCond .ne 20, 3) := by decide +kernel
theorem dX2_isNear_8 : decode cX2_isNear 8 = .ok (.aload_n 0, 1) := by decide +kernel
theorem dX2_isNear_9 : decode cX2_isNear 9 = .ok (.lload_n 3, 1) := by decide +kernel
theorem dX2_isNear_10 : decode cX2_isNear 10 = .ok (.invokevirtual 116, 3) := by decide +kernel
theorem dX2_isNear_13 : decode cX2_isNear 13 = .ok (.ifCond .ne 12, 3) := by decide +kernel
theorem dX2_isNear_16 : decode cX2_isNear 16 = .ok (.aload_n 0, 1) := by decide +kernel
theorem dX2_isNear_17 : decode cX2_isNear 17 = .ok (.lload 5, 2) := by decide +kernel
theorem dX2_isNear_19 : decode cX2_isNear 19 = .ok (.invokevirtual 116, 3) := by decide +kernel
theorem dX2_isNear_22 : decode cX2_isNear 22 = .ok (.ifCond .eq 5, 3) := by decide +kernel
theorem dX2_isNear_25 : decode cX2_isNear 25 = .ok (.iconst 0, 1) := by decide +kernel
theorem dX2_isNear_26 : decode cX2_isNear 26 = .ok (.ireturn, 1) := by decide +kernel
theorem dX2_isNear_27 : decode cX2_isNear 27 = .ok (.aload_n 0, 1) := by decide +kernel
theorem dX2_isNear_28 : decode cX2_isNear 28 = .ok (.lload_n 1, 1) := by decide +kernel
theorem dX2_isNear_29 : decode cX2_isNear 29 = .ok (.invokevirtual 127, 3) := by decide +kernel
theorem dX2_isNear_32 : decode cX2_isNear 32 = .ok (.ifCond .eq 23, 3) := by decide +kernel
theorem dX2_isNear_35 : decode cX2_isNear 35 = .ok (.aload_n 0, 1) := by decide +kernel
theorem dX2_isNear_36 : decode cX2_isNear 36 = .ok (.lload_n 3, 1) := by decide +kernel
theorem dX2_isNear_37 : decode cX2_isNear 37 = .ok (.invokevirtual 127, 3) := by decide +kernel
theorem dX2_isNear_40 : decode cX2_isNear 40 = .ok (.ifCond .eq 15, 3) := by decide +kernel
theorem dX2_isNear_43 : decode cX2_isNear 43 = .ok (.lload_n 1, 1) := by decide +kernel
theorem dX2_isNear_44 : decode cX2_isNear 44 = .ok (.lload_n 3, 1) := by decide +kernel
theorem dX2_isNear_45 : decode cX2_isNear 45 = .ok (.lcmp, 1) := by decide +kernel
theorem dX2_isNear_46 : decode cX2_isNear 46 = .ok (.ifCond .ne 7, 3) := by decide +kernel
theorem dX2_isNear_49 : decode cX2_isNear 49 = .ok (.iconst 1, 1) := by decide +kernel
theorem dX2_isNear_50 : decode cX2_isNear 50 = .ok (.goto 4, 3) := by decide +kernel
theorem dX2_isNear_53 : decode cX2_isNear 53 = .ok (.iconst 0, 1) := by decide +kernel
theorem dX2_isNear_54 : decode cX2_isNear 54 = .ok (.ireturn, 1) := by decide +kernel
theorem dX2_isNear_55 : decode cX2_isNear 55 = .ok (.aload_n 0, 1) := by decide +kernel
theorem dX2_isNear_56 : decode cX2_isNear 56 = .ok (.lload 5, 2) := by decide +kernel
theorem dX2_isNear_58 : decode cX2_isNear 58 = .ok (.invokevirtual 127, 3) := by decide +kernel
theorem dX2_isNear_61 : decode cX2_isNear 61 = .ok (.ifCond .ne 28, 3) := by decide +kernel
theorem dX2_isNear_64 : decode cX2_isNear 64 = .ok (.aload_n 0, 1) := by decide +kernel
theorem dX2_isNear_65 : decode cX2_isNear 65 = .ok (.aload_n 0, 1) := by decide +kernel
theorem dX2_isNear_66 : decode cX2_isNear 66 = .ok (.lload_n 1, 1) := by decide +kernel
theorem dX2_isNear_67 : decode cX2_isNear 67 = .ok (.lload_n 3, 1) := by decide +kernel
theorem dX2_isNear_68 : decode cX2_isNear 68 = .ok (.aload_n 0, 1) := by decide +kernel
theorem dX2_isNear_69 : decode cX2_isNear 69 = .ok (.getfield 42, 3) := by decide +kernel
theorem dX2_isNear_72 : decode cX2_isNear 72 = .ok (.lxor, 1) := by decide +kernel
theorem dX2_isNear_73 : decode cX2_isNear 73 = .ok (.invokevirtual 55, 3) := by decide +kernel
theorem dX2_isNear_76 : decode cX2_isNear 76 = .ok (.invokevirtual 82, 3) := by decide +kernel
theorem dX2_isNear_79 : decode cX2_isNear 79 = .ok (.aload_n 0, 1) := by decide +kernel
theorem dX2_isNear_80 : decode cX2_isNear 80 = .ok (.lload 5, 2) := by decide +kernel
theorem dX2_isNear_82 : decode cX2_isNear 82 = .ok (.invokevirtual 82, 3) := by decide +kernel
theorem dX2_isNear_85 : decode cX2_isNear 85 = .ok (.lcmp, 1) := by decide +kernel
theorem dX2_isNear_86 : decode cX2_isNear 86 = .ok (.ifCond .gt 7, 3) := by decide +kernel
theorem dX2_isNear_89 : decode cX2_isNear 89 = .ok (.iconst 1, 1) := by decide +kernel
theorem dX2_isNear_90 : decode cX2_isNear 90 = .ok (.goto 4, 3) := by decide +kernel
theorem dX2_isNear_93 : decode cX2_isNear 93 = .ok (.iconst 0, 1) := by decide +kernel
theorem dX2_isNear_94 : decode cX2_isNear 94 = .ok (.ireturn, 1) := by decide +kernel
theorem dX2_converted_0 : decode cX2_converted 0 = .ok (.aload_n 1, 1) := by decide +kernel
theorem dX2_converted_1 : decode cX2_converted 1 = .ok (.lload_n 2, 1) := by decide +kernel
theorem dX2_converted_2 : decode cX2_converted 2 = .ok (.invokevirtual 116, 3) := by decide +kernel
theorem dX2_converted_5 : decode cX2_converted 5 = .ok (.ifCond .eq 8, 3) := by decide +kernel
theorem dX2_converted_8 : decode cX2_converted 8 = .ok (.aload_n 0, 1) := by decide +kernel
theorem dX2_converted_9 : decode cX2_converted 9 = .ok (.getfield 52, 3) := by decide +kernel
theorem dX2_converted_12 : decode cX2_converted 12 = .ok (.lreturn, 1) := by decide +kernel
theorem dX2_converted_13 : decode cX2_converted 13 = .ok (.aload_n 1, 1) := by decide +kernel
theorem dX2_converted_14 : decode cX2_converted 14 = .ok (.lload_n 2, 1) := by decide +kernel
theorem dX2_converted_15 : decode cX2_converted 15 = .ok (.invokevirtual 136, 3) := by decide +kernel
theorem dX2_converted_18 : decode cX2_converted 18 = .ok (.ifCond .eq 10, 3) := by decide +kernel
theorem dX2_converted_21 : decode cX2_converted 21 = .ok (.aload_n 0, 1) := by decide +kernel
theorem dX2_converted_22 : decode cX2_converted 22 = .ok (.getfield 42, 3) := by decide +kernel
theorem dX2_converted_25 : decode cX2_converted 25 = .ok (.goto 4, 3) := by decide +kernel
theorem dX2_converted_28 : decode cX2_converted 28 = .ok (.lconst 0, 1) := by decide +kernel
theorem dX2_converted_29 : decode cX2_converted 29 = .ok (.lstore 4, 2) := by decide +kernel
theorem dX2_converted_31 : decode cX2_converted 31 = .ok (.aload_n 1, 1) := by decide +kernel
theorem dX2_converted_32 : decode cX2_converted 32 = .ok (.lload_n 2, 1) := by decide +kernel
theorem dX2_converted_33 : decode cX2_converted 33 = .ok (.invokevirtual 127, 3) := by decide +kernel
theorem dX2_converted_36 : decode cX2_converted 36 = .ok (.ifCond .eq 11, 3) := by decide +kernel
theorem dX2_converted_39 : decode cX2_converted 39 = .ok (.lload 4, 2) := by decide +kernel
theorem dX2_converted_41 : decode cX2_converted 41 = .ok (.aload_n 0, 1) := by decide +kernel
theorem dX2_converted_42 : decode cX2_converted 42 = .ok (.getfield 49, 3) := by decide +kernel
theorem dX2_converted_45 : decode cX2_converted 45 = .ok (.lor, 1) := by decide +kernel
theorem dX2_converted_46 : decode cX2_converted 46 = .ok (.lreturn, 1) := by decide +kernel
theorem dX2_converted_47 : decode cX2_converted 47 = .ok (.aload_n 1, 1) := by decide +kernel
theorem dX2_converted_48 : decode cX2_converted 48 = .ok (.lload_n 2, 1) := by decide +kernel
theorem dX2_converted_49 : decode cX2_converted 49 = .ok (.invokevirtual 139, 3) := by decide +kernel
theorem dX2_converted_52 : decode cX2_converted 52 = .ok (.ifCond .eq 6, 3) := by decide +kernel
theorem dX2_converted_55 : decode cX2_converted 55 = .ok (.lload 4, 2) := by decide +kernel
theorem dX2_converted_57 : decode cX2_converted 57 = .ok (.lreturn, 1) := by decide +kernel
theorem dX2_converted_58 : decode cX2_converted 58 = .ok (.aload_n 0, 1) := by decide +kernel
theorem dX2_converted_59 : decode cX2_converted 59 = .ok (.aload_n 1, 1) := by decide +kernel
theorem dX2_converted_60 : decode cX2_converted 60 = .ok (.lload_n 2, 1) := by decide +kernel
theorem dX2_converted_61 : decode cX2_converted 61 = .ok (.invokevirtual 136, 3) := by decide +kernel
theorem dX2_converted_64 : decode cX2_converted 64 = .ok (.aload_n 1, 1) := by decide +kernel
theorem dX2_converted_65 : decode cX2_converted 65 = .ok (.lload_n 2, 1) := by decide +kernel
theorem dX2_converted_66 : decode cX2_converted 66 = .ok (.invokevirtual 142, 3) := by decide +kernel
theorem dX2_converted_69 : decode cX2_converted 69 = .ok (.aload_n 1, 1) := by decide +kernel
theorem dX2_converted_70 : decode cX2_converted 70 = .ok (.lload_n 2, 1) := by decide +kernel
theorem dX2_converted_71 : decode cX2_converted 71 = .ok (.invokevirtual 145, 3) := by decide +kernel
theorem dX2_converted_74 : decode cX2_converted 74 = .ok (.invokevirtual 148, 3) := by decide +kernel
theorem dX2_converted_77 : decode cX2_converted 77 = .ok (.lreturn, 1) := by decide +kernel
theorem dX2_sum_0 : decode cX2_sum 0 = .ok (.aload_n 0, 1) := by decide +kernel
theorem dX2_sum_1 : decode cX2_sum 1 = .ok (.lload_n 1, 1) := by decide +kernel
theorem dX2_sum_2 : decode cX2_sum 2 = .ok (.invokevirtual 116, 3) := by decide +kernel
theorem dX2_sum_5 : decode cX2_sum 5 = .ok (.ifCond .ne 11, 3) := by decide +kernel
theorem dX2_sum_8 : decode cX2_sum 8 = .ok (.aload_n 0, 1) := by decide +kernel
theorem dX2_sum_9 : decode cX2_sum 9 = .ok (.lload_n 3, 1) := by decide +kernel
theorem dX2_sum_10 : decode cX2_sum 10 = .ok (.invokevirtual 116, 3) := by decide +kernel
theorem dX2_sum_13 : decode cX2_sum 13 = .ok (.ifCond .eq 8, 3) := by decide +kernel
theorem dX2_sum_16 : decode cX2_sum 16 = .ok (.aload_n 0, 1) := by decide +kernel
theorem dX2_sum_17 : decode cX2_sum 17 = .ok (.getfield 52, 3) := by decide +kernel
theorem dX2_sum_20 : decode cX2_sum 20 = .ok (.lreturn, 1) := by decide +kernel
theorem dX2_sum_21 : decode cX2_sum 21 = .ok (.aload_n 0, 1) := by decide +kernel
theorem dX2_sum_22 : decode cX2_sum 22 = .ok (.lload_n 1, 1) := by decide +kernel
theorem dX2_sum_23 : decode cX2_sum 23 = .ok (.invokevirtual 127, 3) := by decide +kernel
theorem dX2_sum_26 : decode cX2_sum 26 = .ok (.ifCond .eq 26, 3) := by decide +kernel
theorem dX2_sum_29 : decode cX2_sum 29 = .ok (.aload_n 0, 1) := by decide +kernel
theorem dX2_sum_30 : decode cX2_sum 30 = .ok (.lload_n 3, 1) := by decide +kernel
theorem dX2_sum_31 : decode cX2_sum 31 = .ok (.invokevirtual 127, 3) := by decide +kernel
theorem dX2_sum_34 : decode cX2_sum 34 = .ok (.ifCond .eq 16, 3) := by decide +kernel
theorem dX2_sum_37 : decode cX2_sum 37 = .ok (.lload_n 1, 1) := by decide +kernel
theorem dX2_sum_38 : decode cX2_sum 38 = .ok (.lload_n 3, 1) := by decide +kernel
theorem dX2_sum_39 : decode cX2_sum 39 = .ok (.lcmp, 1) := by decide +kernel
theorem dX2_sum_40 : decode cX2_sum 40 = .ok (.ifCond .eq 10, 3) := by decide +kernel
theorem dX2_sum_43 : decode cX2_sum 43 = .ok (.aload_n 0, 1) := by decide +kernel
theorem dX2_sum_44 : decode cX2_sum 44 = .ok (.getfield 52, 3) := by decide +kernel
theorem dX2_sum_47 : decode cX2_sum 47 = .ok (.goto 4, 3) := by decide +kernel
theorem dX2_sum_50 : decode cX2_sum 50 = .ok (.lload_n 1, 1) := by decide +kernel
theorem dX2_sum_51 : decode cX2_sum 51 = .ok (.lreturn, 1) := by decide +kernel
theorem dX2_sum_52 : decode cX2_sum 52 = .ok (.aload_n 0, 1) := by decide +kernel
theorem dX2_sum_53 : decode cX2_sum 53 = .ok (.lload_n 3, 1) := by decide +kernel
theorem dX2_sum_54 : decode cX2_sum 54 = .ok (.invokevirtual 127, 3) := by decide +kernel
theorem dX2_sum_57 : decode cX2_sum 57 = .ok (.ifCond .eq 5, 3) := by decide +kernel
theorem dX2_sum_60 : decode cX2_sum 60 = .ok (.lload_n 3, 1) := by decide +kernel
theorem dX2_sum_61 : decode cX2_sum 61 = .ok (.lreturn, 1) := by decide +kernel
theorem dX2_sum_62 : decode cX2_sum 62 = .ok (.aload_n 0, 1) := by decide +kernel
theorem dX2_sum_63 : decode cX2_sum 63 = .ok (.lload_n 1, 1) := by decide +kernel
theorem dX2_sum_64 : decode cX2_sum 64 = .ok (.invokevirtual 139, 3) := by decide +kernel
theorem dX2_sum_67 : decode cX2_sum 67 = .ok (.ifCond .eq 15, 3) := by decide +kernel
theorem dX2_sum_70 : decode cX2_sum 70 = .ok (.aload_n 0, 1) := by decide +kernel
theorem dX2_sum_71 : decode cX2_sum 71 = .ok (.lload_n 3, 1) := by decide +kernel
theorem dX2_sum_72 : decode cX2_sum 72 = .ok (.invokevirtual 139, 3) := by decide +kernel
theorem dX2_sum_75 : decode cX2_sum 75 = .ok (.ifCond .eq 7, 3) := by decide +kernel
theorem dX2_sum_78 : decode cX2_sum 78 = .ok (.lload_n 1, 1) := by decide +kernel
theorem dX2_sum_79 : decode cX2_sum 79 = .ok (.lload_n 3, 1) := by decide +kernel
theorem dX2_sum_80 : decode cX2_sum 80 = .ok (.land, 1) := by decide +kernel
theorem dX2_sum_81 : decode cX2_sum 81 = .ok (.lreturn, 1) := by decide +kernel
theorem dX2_sum_82 : decode cX2_sum 82 = .ok (.bipush 61, 2) := by decide +kernel
theorem dX2_sum_84 : decode cX2_sum 84 = .ok (.aload_n 0, 1) := by decide +kernel
theorem dX2_sum_85 : decode cX2_sum 85 = .ok (.getfield 29, 3) := by decide +kernel
theorem dX2_sum_88 : decode cX2_sum 88 = .ok (.isub, 1) := by decide +kernel
theorem dX2_sum_89 : decode cX2_sum 89 = .ok (.istore 5, 2) := by decide +kernel
theorem dX2_sum_91 : decode cX2_sum 91 = .ok (.aload_n 0, 1) := by decide +kernel
theorem dX2_sum_92 : decode cX2_sum 92 = .ok (.lload_n 1, 1) := by decide +kernel
theorem dX2_sum_93 : decode cX2_sum 93 = .ok (.invokevirtual 142, 3) := by decide +kernel
theorem dX2_sum_96 : decode cX2_sum 96 = .ok (.aload_n 0, 1) := by decide +kernel
theorem dX2_sum_97 : decode cX2_sum 97 = .ok (.lload_n 3, 1) := by decide +kernel
theorem dX2_sum_98 : decode cX2_sum 98 = .ok (.invokevirtual 142, 3) := by decide +kernel
theorem dX2_sum_101 : decode cX2_sum 101 = .ok (.invokestatic 130, 3) := by decide +kernel
theorem dX2_sum_104 : decode cX2_sum 104 = .ok (.istore 6, 2) := by decide +kernel
theorem dX2_sum_106 : decode cX2_sum 106 = .ok (.aload_n 0, 1) := by decide +kernel
theorem dX2_sum_107 : decode cX2_sum 107 = .ok (.lload_n 1, 1) := by decide +kernel
theorem dX2_sum_108 : decode cX2_sum 108 = .ok (.invokevirtual 145, 3) := by decide +kernel
theorem dX2_sum_111 : decode cX2_sum 111 = .ok (.iload 5, 2) := by decide +kernel
theorem dX2_sum_113 : decode cX2_sum 113 = .ok (.lshl, 1) := by decide +kernel
theorem dX2_sum_114 : decode cX2_sum 114 = .ok (.iload 6, 2) := by decide +kernel
theorem dX2_sum_116 : decode cX2_sum 116 = .ok (.aload_n 0, 1) := by decide +kernel
theorem dX2_sum_117 : decode cX2_sum 117 = .ok (.lload_n 1, 1) := by decide +kernel
theorem dX2_sum_118 : decode cX2_sum 118 = .ok (.invokevirtual 142, 3) := by decide +kernel
theorem dX2_sum_121 : decode cX2_sum 121 = .ok (.isub, 1) := by decide +kernel
theorem dX2_sum_122 : decode cX2_sum 122 = .ok (.invokestatic 152, 3) := by decide +kernel
theorem dX2_sum_125 : decode cX2_sum 125 = .ok (.lstore 7, 2) := by decide +kernel
theorem dX2_sum_127 : decode cX2_sum 127 = .ok (.aload_n 0, 1) := by decide +kernel
theorem dX2_sum_128 : decode cX2_sum 128 = .ok (.lload_n 3, 1) := by decide +kernel
theorem dX2_sum_129 : decode cX2_sum 129 = .ok (.invokevirtual 145, 3) := by decide +kernel
theorem dX2_sum_132 : decode cX2_sum 132 = .ok (.iload 5, 2) := by decide +kernel
theorem dX2_sum_134 : decode cX2_sum 134 = .ok (.lshl, 1) := by decide +kernel
theorem dX2_sum_135 : decode cX2_sum 135 = .ok (.iload 6, 2) := by decide +kernel
theorem dX2_sum_137 : decode cX2_sum 137 = .ok (.aload_n 0, 1) := by decide +kernel
theorem dX2_sum_138 : decode cX2_sum 138 = .ok (.lload_n 3, 1) := by decide +kernel
theorem dX2_sum_139 : decode cX2_sum 139 = .ok (.invokevirtual 142, 3) := by decide +kernel
theorem dX2_sum_142 : decode cX2_sum 142 = .ok (.isub, 1) := by decide +kernel
theorem dX2_sum_143 : decode cX2_sum 143 = .ok (.invokestatic 152, 3) := by decide +kernel
theorem dX2_sum_146 : decode cX2_sum 146 = .ok (.lstore 9, 2) := by decide +kernel
theorem dX2_sum_148 : decode cX2_sum 148 = .ok (.aload_n 0, 1) := by decide +kernel
theorem dX2_sum_149 : decode cX2_sum 149 = .ok (.lload_n 1, 1) := by decide +kernel
theorem dX2_sum_150 : decode cX2_sum 150 = .ok (.invokevirtual 136, 3) := by decide +kernel
theorem dX2_sum_153 : decode cX2_sum 153 = .ok (.ifCond .eq 9, 3) := by decide +kernel
theorem dX2_sum_156 : decode cX2_sum 156 = .ok (.lload 7, 2) := by decide +kernel
theorem dX2_sum_158 : decode cX2_sum 158 = .ok (.lneg, 1) := by decide +kernel
theorem dX2_sum_159 : decode cX2_sum 159 = .ok (.goto 5, 3) := by decide +kernel
theorem dX2_sum_162 : decode cX2_sum 162 = .ok (.lload 7, 2) := by decide +kernel
theorem dX2_sum_164 : decode cX2_sum 164 = .ok (.aload_n 0, 1) := by decide +kernel
theorem dX2_sum_165 : decode cX2_sum 165 = .ok (.lload_n 3, 1) := by decide +kernel
theorem dX2_sum_166 : decode cX2_sum 166 = .ok (.invokevirtual 136, 3) := by decide +kernel
theorem dX2_sum_169 : decode cX2_sum 169 = .ok (.ifCond .eq 9, 3) := by decide +kernel
theorem dX2_sum_172 : decode cX2_sum 172 = .ok (.lload 9, 2) := by decide +kernel
theorem dX2_sum_174 : decode cX2_sum 174 = .ok (.lneg, 1) := by decide +kernel
theorem dX2_sum_175 : decode cX2_sum 175 = .ok (.goto 5, 3) := by decide +kernel
theorem dX2_sum_178 : decode cX2_sum 178 = .ok (.lload 9, 2) := by decide +kernel
theorem dX2_sum_180 : decode cX2_sum 180 = .ok (.ladd, 1) := by decide +kernel
theorem dX2_sum_181 : decode cX2_sum 181 = .ok (.lstore 11, 2) := by decide +kernel
theorem dX2_sum_183 : decode cX2_sum 183 = .ok (.lload 11, 2) := by decide +kernel
theorem dX2_sum_185 : decode cX2_sum 185 = .ok (.lconst 0, 1) := by decide +kernel
theorem dX2_sum_186 : decode cX2_sum 186 = .ok (.lcmp, 1) := by decide +kernel
theorem dX2_sum_187 : decode cX2_sum 187 = .ok (.ifCond .ne 5, 3) := by decide +kernel
theorem dX2_sum_190 : decode cX2_sum 190 = .ok (.lconst 0, 1) := by decide +kernel
theorem dX2_sum_191 : decode cX2_sum 191 = .ok (.lreturn, 1) := by decide +kernel
theorem dX2_sum_192 : decode cX2_sum 192 = .ok (.aload_n 0, 1) := by decide +kernel
theorem dX2_sum_193 : decode cX2_sum 193 = .ok (.lload 11, 2) := by decide +kernel
theorem dX2_sum_195 : decode cX2_sum 195 = .ok (.lconst 0, 1) := by decide +kernel
theorem dX2_sum_196 : decode cX2_sum 196 = .ok (.lcmp, 1) := by decide +kernel
theorem dX2_sum_197 : decode cX2_sum 197 = .ok (.ifCond .ge 7, 3) := by decide +kernel
theorem dX2_sum_200 : decode cX2_sum 200 = .ok (.iconst 1, 1) := by decide +kernel
theorem dX2_sum_201 : decode cX2_sum 201 = .ok (.goto 4, 3) := by decide +kernel
theorem dX2_sum_204 : decode cX2_sum 204 = .ok (.iconst 0, 1) := by decide +kernel
theorem dX2_sum_205 : decode cX2_sum 205 = .ok (.iload 6, 2) := by decide +kernel
theorem dX2_sum_207 : decode cX2_sum 207 = .ok (.iload 5, 2) := by decide +kernel
theorem dX2_sum_209 : decode cX2_sum 209 = .ok (.isub, 1) := by decide +kernel
theorem dX2_sum_210 : decode cX2_sum 210 = .ok (.lload 11, 2) := by decide +kernel
theorem dX2_sum_212 : decode cX2_sum 212 = .ok (.invokestatic 157, 3) := by decide +kernel
theorem dX2_sum_215 : decode cX2_sum 215 = .ok (.invokevirtual 148, 3) := by decide +kernel
theorem dX2_sum_218 : decode cX2_sum 218 = .ok (.lreturn, 1) := by decide +kernel
theorem dX2_product_0 : decode cX2_product 0 = .ok (.aload_n 0, 1) := by decide +kernel
theorem dX2_product_1 : decode cX2_product 1 = .ok (.lload_n 1, 1) := by decide +kernel
theorem dX2_product_2 : decode cX2_product 2 = .ok (.invokevirtual 116, 3) := by decide +kernel
theorem dX2_product_5 : decode cX2_product 5 = .ok (.ifCond .ne 11, 3) := by decide +kernel
theorem dX2_product_8 : decode cX2_product 8 = .ok (.aload_n 0, 1) := by decide +kernel
theorem dX2_product_9 : decode cX2_product 9 = .ok (.lload_n 3, 1) := by decide +kernel
theorem dX2_product_10 : decode cX2_product 10 = .ok (.invokevirtual 116, 3) := by decide +kernel
theorem dX2_product_13 : decode cX2_product 13 = .ok (.ifCond .eq 8, 3) := by decide +kernel
theorem dX2_product_16 : decode cX2_product 16 = .ok (.aload_n 0, 1) := by decide +kernel
theorem dX2_product_17 : decode cX2_product 17 = .ok (.getfield 52, 3) := by decide +kernel
theorem dX2_product_20 : decode cX2_product 20 = .ok (.lreturn, 1) := by decide +kernel
theorem dX2_product_21 : decode cX2_product 21 = .ok (.lload_n 1, 1) := by decide +kernel
theorem dX2_product_22 : decode cX2_product 22 = .ok (.lload_n 3, 1) := by decide +kernel
theorem dX2_product_23 : decode cX2_product 23 = .ok (.lxor, 1) := by decide +kernel
theorem dX2_product_24 : decode cX2_product 24 = .ok (.aload_n 0, 1) := by decide +kernel
theorem dX2_product_25 : decode cX2_product 25 = .ok (.getfield 42, 3) := by decide +kernel
theorem dX2_product_28 : decode cX2_product 28 = .ok (.land, 1) := by decide +kernel
theorem dX2_product_29 : decode cX2_product 29 = .ok (.lstore 5, 2) := by decide +kernel
theorem dX2_product_31 : decode cX2_product 31 = .ok (.aload_n 0, 1) := by decide +kernel
theorem dX2_product_32 : decode cX2_product 32 = .ok (.lload_n 1, 1) := by decide +kernel
theorem dX2_product_33 : decode cX2_product 33 = .ok (.invokevirtual 127, 3) := by decide +kernel
theorem dX2_product_36 : decode cX2_product 36 = .ok (.ifCond .ne 11, 3) := by decide +kernel
theorem dX2_product_39 : decode cX2_product 39 = .ok (.aload_n 0, 1) := by decide +kernel
theorem dX2_product_40 : decode cX2_product 40 = .ok (.lload_n 3, 1) := by decide +kernel
theorem dX2_product_41 : decode cX2_product 41 = .ok (.invokevirtual 127, 3) := by decide +kernel
theorem dX2_product_44 : decode cX2_product 44 = .ok (.ifCond .eq 34, 3) := by decide +kernel
theorem dX2_product_47 : decode cX2_product 47 = .ok (.aload_n 0, 1) := by decide +kernel
theorem dX2_product_48 : decode cX2_product 48 = .ok (.lload_n 1, 1) := by decide +kernel
theorem dX2_product_49 : decode cX2_product 49 = .ok (.invokevirtual 139, 3) := by decide +kernel
theorem dX2_product_52 : decode cX2_product 52 = .ok (.ifCond .ne 11, 3) := by decide +kernel
theorem dX2_product_55 : decode cX2_product 55 = .ok (.aload_n 0, 1) := by decide +kernel
theorem dX2_product_56 : decode cX2_product 56 = .ok (.lload_n 3, 1) := by decide +kernel
theorem dX2_product_57 : decode cX2_product 57 = .ok (.invokevirtual 139, 3) := by decide +kernel
theorem dX2_product_60 : decode cX2_product 60 = .ok (.ifCond .eq 10, 3) := by decide +kernel
theorem dX2_product_63 : decode cX2_product 63 = .ok (.aload_n 0, 1) := by decide +kernel
theorem dX2_product_64 : decode cX2_product 64 = .ok (.getfield 52, 3) := by decide +kernel
theorem dX2_product_67 : decode cX2_product 67 = .ok (.goto 10, 3) := by decide +kernel
theorem dX2_product_70 : decode cX2_product 70 = .ok (.lload 5, 2) := by decide +kernel
theorem dX2_product_72 : decode cX2_product 72 = .ok (.aload_n 0, 1) := by decide +kernel
theorem dX2_product_73 : decode cX2_product 73 = .ok (.getfield 49, 3) := by decide +kernel
theorem dX2_product_76 : decode cX2_product 76 = .ok (.lor, 1) := by decide +kernel
theorem dX2_product_77 : decode cX2_product 77 = .ok (.lreturn, 1) := by decide +kernel
