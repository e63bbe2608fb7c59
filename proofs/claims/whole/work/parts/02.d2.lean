theorem dX2_rounded_109 : decode cX2_rounded 109 = .ok (.lload 6, 2) := by decide +kernel
theorem dX2_rounded_111 : decode cX2_rounded 111 = .ok (.lload 12, 2) := by decide +kernel
theorem dX2_rounded_113 : decode cX2_rounded 113 = .ok (.iload 11, 2) := by decide +kernel
theorem dX2_rounded_115 : decode cX2_rounded 115 = .ok (.lshl, 1) := by decide +kernel
theorem dX2_rounded_116 : decode cX2_rounded 116 = .ok (.lsub, 1) := by decide +kernel
theorem dX2_rounded_117 : decode cX2_rounded 117 = .ok (.lstore 14, 2) := by decide +kernel
theorem dX2_rounded_119 : decode cX2_rounded 119 = .ok (.lconst 1, 1) := by decide +kernel
theorem dX2_rounded_120 : decode cX2_rounded 120 = .ok (.iload 11, 2) := by decide +kernel
theorem dX2_rounded_122 : decode cX2_rounded 122 = .ok (.iconst 1, 1) := by decide +kernel
theorem dX2_rounded_123 : decode cX2_rounded 123 = .ok (.isub, 1) := by decide +kernel
theorem dX2_rounded_124 : decode cX2_rounded 124 = .ok (.lshl, 1) := by decide +kernel
theorem dX2_rounded_125 : decode cX2_rounded 125 = .ok (.lstore 16, 2) := by decide +kernel
theorem dX2_rounded_127 : decode cX2_rounded 127 = .ok (.lload 14, 2) := by decide +kernel
theorem dX2_rounded_129 : decode cX2_rounded 129 = .ok (.lload 16, 2) := by decide +kernel
theorem dX2_rounded_131 : decode cX2_rounded 131 = .ok (.lcmp, 1) := by decide +kernel
theorem dX2_rounded_132 : decode cX2_rounded 132 = .ok (.ifCond .gt 20, 3) := by decide +kernel
theorem dX2_rounded_135 : decode cX2_rounded 135 = .ok (.lload 14, 2) := by decide +kernel
theorem dX2_rounded_137 : decode cX2_rounded 137 = .ok (.lload 16, 2) := by decide +kernel
theorem dX2_rounded_139 : decode cX2_rounded 139 = .ok (.lcmp, 1) := by decide +kernel
theorem dX2_rounded_140 : decode cX2_rounded 140 = .ok (.ifCond .ne 18, 3) := by decide +kernel
theorem dX2_rounded_143 : decode cX2_rounded 143 = .ok (.lload 12, 2) := by decide +kernel
theorem dX2_rounded_145 : decode cX2_rounded 145 = .ok (.lconst 1, 1) := by decide +kernel
theorem dX2_rounded_146 : decode cX2_rounded 146 = .ok (.land, 1) := by decide +kernel
theorem dX2_rounded_147 : decode cX2_rounded 147 = .ok (.lconst 0, 1) := by decide +kernel
theorem dX2_rounded_148 : decode cX2_rounded 148 = .ok (.lcmp, 1) := by decide +kernel
theorem dX2_rounded_149 : decode cX2_rounded 149 = .ok (.ifCond .eq 9, 3) := by decide +kernel
theorem dX2_rounded_152 : decode cX2_rounded 152 = .ok (.lload 12, 2) := by decide +kernel
theorem dX2_rounded_154 : decode cX2_rounded 154 = .ok (.lconst 1, 1) := by decide +kernel
theorem dX2_rounded_155 : decode cX2_rounded 155 = .ok (.ladd, 1) := by decide +kernel
theorem dX2_rounded_156 : decode cX2_rounded 156 = .ok (.lstore 12, 2) := by decide +kernel
theorem dX2_rounded_158 : decode cX2_rounded 158 = .ok (.lload 9, 2) := by decide +kernel
theorem dX2_rounded_160 : decode cX2_rounded 160 = .ok (.iload 8, 2) := by decide +kernel
theorem dX2_rounded_162 : decode cX2_rounded 162 = .ok (.iconst 1, 1) := by decide +kernel
theorem dX2_rounded_163 : decode cX2_rounded 163 = .ok (.invokestatic 130, 3) := by decide +kernel
theorem dX2_rounded_166 : decode cX2_rounded 166 = .ok (.iconst 1, 1) := by decide +kernel
theorem dX2_rounded_167 : decode cX2_rounded 167 = .ok (.isub, 1) := by decide +kernel
theorem dX2_rounded_168 : decode cX2_rounded 168 = .ok (.i2l, 1) := by decide +kernel
theorem dX2_rounded_169 : decode cX2_rounded 169 = .ok (.aload_n 0, 1) := by decide +kernel
theorem dX2_rounded_170 : decode cX2_rounded 170 = .ok (.getfield 29, 3) := by decide +kernel
theorem dX2_rounded_173 : decode cX2_rounded 173 = .ok (.lshl, 1) := by decide +kernel
theorem dX2_rounded_174 : decode cX2_rounded 174 = .ok (.lload 12, 2) := by decide +kernel
theorem dX2_rounded_176 : decode cX2_rounded 176 = .ok (.ladd, 1) := by decide +kernel
theorem dX2_rounded_177 : decode cX2_rounded 177 = .ok (.lor, 1) := by decide +kernel
theorem dX2_rounded_178 : decode cX2_rounded 178 = .ok (.lreturn, 1) := by decide +kernel
theorem dX3_init_0 : decode cX3_init 0 = .ok (.aload_n 0, 1) := by decide +kernel
theorem dX3_init_1 : decode cX3_init 1 = .ok (.invokespecial 3, 3) := by decide +kernel
theorem dX3_init_4 : decode cX3_init 4 = .ok (.aload_n 0, 1) := by decide +kernel
theorem dX3_init_5 : decode cX3_init 5 = .ok (.bipush 16, 2) := by decide +kernel
theorem dX3_init_7 : decode cX3_init 7 = .ok (.newarray .int, 2) := by decide +kernel
theorem dX3_init_9 : decode cX3_init 9 = .ok (.putfield 11, 3) := by decide +kernel
theorem dX3_init_12 : decode cX3_init 12 = .ok (.aload_n 0, 1) := by decide +kernel
theorem dX3_init_13 : decode cX3_init 13 = .ok (.bipush 40, 2) := by decide +kernel
theorem dX3_init_15 : decode cX3_init 15 = .ok (.newarray .int, 2) := by decide +kernel
theorem dX3_init_17 : decode cX3_init 17 = .ok (.putfield 15, 3) := by decide +kernel
theorem dX3_init_20 : decode cX3_init 20 = .ok (.aload_n 0, 1) := by decide +kernel
theorem dX3_init_21 : decode cX3_init 21 = .ok (.bipush 40, 2) := by decide +kernel
theorem dX3_init_23 : decode cX3_init 23 = .ok (.newarray .int, 2) := by decide +kernel
theorem dX3_init_25 : decode cX3_init 25 = .ok (.putfield 18, 3) := by decide +kernel
theorem dX3_init_28 : decode cX3_init 28 = .ok (.aload_n 0, 1) := by decide +kernel
theorem dX3_init_29 : decode cX3_init 29 = .ok (.bipush 40, 2) := by decide +kernel
theorem dX3_init_31 : decode cX3_init 31 = .ok (.newarray .int, 2) := by decide +kernel
theorem dX3_init_33 : decode cX3_init 33 = .ok (.putfield 21, 3) := by decide +kernel
theorem dX3_init_36 : decode cX3_init 36 = .ok (.aload_n 0, 1) := by decide +kernel
theorem dX3_init_37 : decode cX3_init 37 = .ok (.bipush 40, 2) := by decide +kernel
theorem dX3_init_39 : decode cX3_init 39 = .ok (.newarray .int, 2) := by decide +kernel
theorem dX3_init_41 : decode cX3_init 41 = .ok (.putfield 24, 3) := by decide +kernel
theorem dX3_init_44 : decode cX3_init 44 = .ok (.aload_n 0, 1) := by decide +kernel
theorem dX3_init_45 : decode cX3_init 45 = .ok (.bipush 40, 2) := by decide +kernel
theorem dX3_init_47 : decode cX3_init 47 = .ok (.newarray .int, 2) := by decide +kernel
theorem dX3_init_49 : decode cX3_init 49 = .ok (.putfield 27, 3) := by decide +kernel
theorem dX3_init_52 : decode cX3_init 52 = .ok (.aload_n 0, 1) := by decide +kernel
theorem dX3_init_53 : decode cX3_init 53 = .ok (.bipush (-109), 2) := by decide +kernel
theorem dX3_init_55 : decode cX3_init 55 = .ok (.putfield 30, 3) := by decide +kernel
theorem dX3_init_58 : decode cX3_init 58 = .ok (.return_, 1) := by decide +kernel
theorem dX3_isWord_0 : decode cX3_isWord 0 = .ok (.iload_n 0, 1) := by decide +kernel
theorem dX3_isWord_1 : decode cX3_isWord 1 = .ok (.ifCond .lt 13, 3) := by decide +kernel
theorem dX3_isWord_4 : decode cX3_isWord 4 = .ok (.iload_n 0, 1) := by decide +kernel
theorem dX3_isWord_5 : decode cX3_isWord 5 = .ok (.bipush 16, 2) := by decide +kernel
theorem dX3_isWord_7 : decode cX3_isWord 7 = .ok (.if_icmp .ge 7, 3) := by decide +kernel
theorem dX3_isWord_10 : decode cX3_isWord 10 = .ok (.iconst 1, 1) := by decide +kernel
theorem dX3_isWord_11 : decode cX3_isWord 11 = .ok (.goto 4, 3) := by decide +kernel
theorem dX3_isWord_14 : decode cX3_isWord 14 = .ok (.iconst 0, 1) := by decide +kernel
theorem dX3_isWord_15 : decode cX3_isWord 15 = .ok (.ireturn, 1) := by decide +kernel
theorem dX3_isStep_0 : decode cX3_isStep 0 = .ok (.iload_n 0, 1) := by decide +kernel
theorem dX3_isStep_1 : decode cX3_isStep 1 = .ok (.ifCond .lt 13, 3) := by decide +kernel
theorem dX3_isStep_4 : decode cX3_isStep 4 = .ok (.iload_n 0, 1) := by decide +kernel
theorem dX3_isStep_5 : decode cX3_isStep 5 = .ok (.bipush 40, 2) := by decide +kernel
theorem dX3_isStep_7 : decode cX3_isStep 7 = .ok (.if_icmp .ge 7, 3) := by decide +kernel
theorem dX3_isStep_10 : decode cX3_isStep 10 = .ok (.iconst 1, 1) := by decide +kernel
theorem dX3_isStep_11 : decode cX3_isStep 11 = .ok (.goto 4, 3) := by decide +kernel
theorem dX3_isStep_14 : decode cX3_isStep 14 = .ok (.iconst 0, 1) := by decide +kernel
theorem dX3_isStep_15 : decode cX3_isStep 15 = .ok (.ireturn, 1) := by decide +kernel
theorem dX3_isAct_0 : decode cX3_isAct 0 = .ok (.iload_n 0, 1) := by decide +kernel
theorem dX3_isAct_1 : decode cX3_isAct 1 = .ok (.ifCond .lt 13, 3) := by decide +kernel
theorem dX3_isAct_4 : decode cX3_isAct 4 = .ok (.iload_n 0, 1) := by decide +kernel
theorem dX3_isAct_5 : decode cX3_isAct 5 = .ok (.bipush 24, 2) := by decide +kernel
theorem dX3_isAct_7 : decode cX3_isAct 7 = .ok (.if_icmp .ge 7, 3) := by decide +kernel
theorem dX3_isAct_10 : decode cX3_isAct 10 = .ok (.iconst 1, 1) := by decide +kernel
theorem dX3_isAct_11 : decode cX3_isAct 11 = .ok (.goto 4, 3) := by decide +kernel
theorem dX3_isAct_14 : decode cX3_isAct 14 = .ok (.iconst 0, 1) := by decide +kernel
theorem dX3_isAct_15 : decode cX3_isAct 15 = .ok (.ireturn, 1) := by decide +kernel
theorem dX3_isJump_0 : decode cX3_isJump 0 = .ok (.iload_n 0, 1) := by decide +kernel
theorem dX3_isJump_1 : decode cX3_isJump 1 = .ok (.bipush 30, 2) := by decide +kernel
theorem dX3_isJump_3 : decode cX3_isJump 3 = .ok (.if_icmp .lt 13, 3) := by decide +kernel
theorem dX3_isJump_6 : decode cX3_isJump 6 = .ok (.iload_n 0, 1) := by decide +kernel
theorem dX3_isJump_7 : decode cX3_isJump 7 = .ok (.bipush 38, 2) := by decide +kernel
theorem dX3_isJump_9 : decode cX3_isJump 9 = .ok (.if_icmp .ge 7, 3) := by decide +kernel
theorem dX3_isJump_12 : decode cX3_isJump 12 = .ok (.iconst 1, 1) := by decide +kernel
theorem dX3_isJump_13 : decode cX3_isJump 13 = .ok (.goto 4, 3) := by decide +kernel
theorem dX3_isJump_16 : decode cX3_isJump 16 = .ok (.iconst 0, 1) := by decide +kernel
theorem dX3_isJump_17 : decode cX3_isJump 17 = .ok (.ireturn, 1) := by decide +kernel
theorem dX3_fits_0 : decode cX3_fits 0 = .ok (.iload_n 0, 1) := by decide +kernel
theorem dX3_fits_1 : decode cX3_fits 1 = .ok (.invokestatic 34, 3) := by decide +kernel
theorem dX3_fits_4 : decode cX3_fits 4 = .ok (.ifCond .ne 10, 3) := by decide +kernel
theorem dX3_fits_7 : decode cX3_fits 7 = .ok (.iload_n 0, 1) := by decide +kernel
theorem dX3_fits_8 : decode cX3_fits 8 = .ok (.invokestatic 38, 3) := by decide +kernel
theorem dX3_fits_11 : decode cX3_fits 11 = .ok (.ifCond .eq 56, 3) := by decide +kernel
theorem dX3_fits_14 : decode cX3_fits 14 = .ok (.iload_n 0, 1) := by decide +kernel
theorem dX3_fits_15 : decode cX3_fits 15 = .ok (.invokestatic 34, 3) := by decide +kernel
theorem dX3_fits_18 : decode cX3_fits 18 = .ok (.ifCond .eq 10, 3) := by decide +kernel
theorem dX3_fits_21 : decode cX3_fits 21 = .ok (.iload_n 1, 1) := by decide +kernel
theorem dX3_fits_22 : decode cX3_fits 22 = .ok (.invokestatic 41, 3) := by decide +kernel
theorem dX3_fits_25 : decode cX3_fits 25 = .ok (.goto 7, 3) := by decide +kernel
theorem dX3_fits_28 : decode cX3_fits 28 = .ok (.iload_n 1, 1) := by decide +kernel
theorem dX3_fits_29 : decode cX3_fits 29 = .ok (.invokestatic 44, 3) := by decide +kernel
theorem dX3_fits_32 : decode cX3_fits 32 = .ok (.istore 5, 2) := by decide +kernel
theorem dX3_fits_34 : decode cX3_fits 34 = .ok (.iload 5, 2) := by decide +kernel
theorem dX3_fits_36 : decode cX3_fits 36 = .ok (.ifCond .eq 29, 3) := by decide +kernel
theorem dX3_fits_39 : decode cX3_fits 39 = .ok (.iload_n 2, 1) := by decide +kernel
theorem dX3_fits_40 : decode cX3_fits 40 = .ok (.invokestatic 41, 3) := by decide +kernel
theorem dX3_fits_43 : decode cX3_fits 43 = .ok (.ifCond .eq 22, 3) := by decide +kernel
theorem dX3_fits_46 : decode cX3_fits 46 = .ok (.iload_n 3, 1) := by decide +kernel
theorem dX3_fits_47 : decode cX3_fits 47 = .ok (.invokestatic 41, 3) := by decide +kernel
theorem dX3_fits_50 : decode cX3_fits 50 = .ok (.ifCond .eq 15, 3) := by decide +kernel
theorem dX3_fits_53 : decode cX3_fits 53 = .ok (.iload 4, 2) := by decide +kernel
theorem dX3_fits_55 : decode cX3_fits 55 = .ok (.invokestatic 41, 3) := by decide +kernel
theorem dX3_fits_58 : decode cX3_fits 58 = .ok (.ifCond .eq 7, 3) := by decide +kernel
theorem dX3_fits_61 : decode cX3_fits 61 = .ok (.iconst 1, 1) := by decide +kernel
theorem dX3_fits_62 : decode cX3_fits 62 = .ok (.goto 4, 3) := by decide +kernel
theorem dX3_fits_65 : decode cX3_fits 65 = .ok (.iconst 0, 1) := by decide +kernel
theorem dX3_fits_66 : decode cX3_fits 66 = .ok (.ireturn, 1) := by decide +kernel
theorem dX3_fits_67 : decode cX3_fits 67 = .ok (.iload_n 0, 1) := by decide +kernel
theorem dX3_fits_68 : decode cX3_fits 68 = .ok (.tableswitch 71 40 43 #[32, 34, 39, 66], 32) := by decide +kernel
theorem dX3_fits_100 : decode cX3_fits 100 = .ok (.iconst 1, 1) := by decide +kernel
theorem dX3_fits_101 : decode cX3_fits 101 = .ok (.ireturn, 1) := by decide +kernel
theorem dX3_fits_102 : decode cX3_fits 102 = .ok (.iload_n 1, 1) := by decide +kernel
theorem dX3_fits_103 : decode cX3_fits 103 = .ok (.invokestatic 41, 3) := by decide +kernel
theorem dX3_fits_106 : decode cX3_fits 106 = .ok (.ireturn, 1) := by decide +kernel
theorem dX3_fits_107 : decode cX3_fits 107 = .ok (.iload_n 1, 1) := by decide +kernel
theorem dX3_fits_108 : decode cX3_fits 108 = .ok (.invokestatic 41, 3) := by decide +kernel
theorem dX3_fits_111 : decode cX3_fits 111 = .ok (.ifCond .eq 21, 3) := by decide +kernel
theorem dX3_fits_114 : decode cX3_fits 114 = .ok (.iload_n 2, 1) := by decide +kernel
theorem dX3_fits_115 : decode cX3_fits 115 = .ok (.invokestatic 41, 3) := by decide +kernel
theorem dX3_fits_118 : decode cX3_fits 118 = .ok (.ifCond .eq 14, 3) := by decide +kernel
theorem dX3_fits_121 : decode cX3_fits 121 = .ok (.iload_n 3, 1) := by decide +kernel
theorem dX3_fits_122 : decode cX3_fits 122 = .ok (.invokestatic 41, 3) := by decide +kernel
theorem dX3_fits_125 : decode cX3_fits 125 = .ok (.ifCond .eq 7, 3) := by decide +kernel
theorem dX3_fits_128 : decode cX3_fits 128 = .ok (.iconst 1, 1) := by decide +kernel
theorem dX3_fits_129 : decode cX3_fits 129 = .ok (.goto 4, 3) := by decide +kernel
theorem dX3_fits_132 : decode cX3_fits 132 = .ok (.iconst 0, 1) := by decide +kernel
theorem dX3_fits_133 : decode cX3_fits 133 = .ok (.ireturn, 1) := by decide +kernel
theorem dX3_fits_134 : decode cX3_fits 134 = .ok (.iload_n 1, 1) := by decide +kernel
theorem dX3_fits_135 : decode cX3_fits 135 = .ok (.invokestatic 44, 3) := by decide +kernel
theorem dX3_fits_138 : decode cX3_fits 138 = .ok (.ireturn, 1) := by decide +kernel
theorem dX3_fits_139 : decode cX3_fits 139 = .ok (.iconst 0, 1) := by decide +kernel
theorem dX3_fits_140 : decode cX3_fits 140 = .ok (.ireturn, 1) := by decide +kernel
theorem dX3_wordAt_0 : decode cX3_wordAt 0 = .ok (.iload_n 1, 1) := by decide +kernel
theorem dX3_wordAt_1 : decode cX3_wordAt 1 = .ok (.invokestatic 41, 3) := by decide +kernel
theorem dX3_wordAt_4 : decode cX3_wordAt 4 = .ok (.ifCond .eq 12, 3) := by decide +kernel
theorem dX3_wordAt_7 : decode cX3_wordAt 7 = .ok (.aload_n 0, 1) := by decide +kernel
theorem dX3_wordAt_8 : decode cX3_wordAt 8 = .ok (.getfield 11, 3) := by decide +kernel
theorem dX3_wordAt_11 : decode cX3_wordAt 11 = .ok (.iload_n 1, 1) := by decide +kernel
theorem dX3_wordAt_12 : decode cX3_wordAt 12 = .ok (.iaload, 1) := by decide +kernel
theorem dX3_wordAt_13 : decode cX3_wordAt 13 = .ok (.goto 4, 3) := by decide +kernel
theorem dX3_wordAt_16 : decode cX3_wordAt 16 = .ok (.iconst 0, 1) := by decide +kernel
theorem dX3_wordAt_17 : decode cX3_wordAt 17 = .ok (.ireturn, 1) := by decide +kernel
theorem dX3_replaced_0 : decode cX3_replaced 0 = .ok (.aload_n 0, 1) := by decide +kernel
theorem dX3_replaced_1 : decode cX3_replaced 1 = .ok (.iload_n 1, 1) := by decide +kernel
theorem dX3_replaced_2 : decode cX3_replaced 2 = .ok (.invokevirtual 47, 3) := by decide +kernel
theorem dX3_replaced_5 : decode cX3_replaced 5 = .ok (.istore_n 3, 1) := by decide +kernel
theorem dX3_replaced_6 : decode cX3_replaced 6 = .ok (.iload_n 1, 1) := by decide +kernel
theorem dX3_replaced_7 : decode cX3_replaced 7 = .ok (.invokestatic 41, 3) := by decide +kernel
theorem dX3_replaced_10 : decode cX3_replaced 10 = .ok (.ifCond .eq 10, 3) := by decide +kernel
theorem dX3_replaced_13 : decode cX3_replaced 13 = .ok (.aload_n 0, 1) := by decide +kernel
theorem dX3_replaced_14 : decode cX3_replaced 14 = .ok (.getfield 11, 3) := by decide +kernel
theorem dX3_replaced_17 : decode cX3_replaced 17 = .ok (.iload_n 1, 1) := by decide +kernel
theorem dX3_replaced_18 : decode cX3_replaced 18 = .ok (.iload_n 2, 1) := by decide +kernel
theorem dX3_replaced_19 : decode cX3_replaced 19 = .ok (.iastore, 1) := by decide +kernel
theorem dX3_replaced_20 : decode cX3_replaced 20 = .ok (.iload_n 3, 1) := by decide +kernel
theorem dX3_replaced_21 : decode cX3_replaced 21 = .ok (.ireturn, 1) := by decide +kernel
theorem dX3_add_0 : decode cX3_add 0 = .ok (.aload_n 0, 1) := by decide +kernel
theorem dX3_add_1 : decode cX3_add 1 = .ok (.getfield 51, 3) := by decide +kernel
theorem dX3_add_4 : decode cX3_add 4 = .ok (.invokestatic 44, 3) := by decide +kernel
theorem dX3_add_7 : decode cX3_add 7 = .ok (.ifCond .ne 6, 3) := by decide +kernel
theorem dX3_add_10 : decode cX3_add 10 = .ok (.bipush (-104), 2) := by decide +kernel
theorem dX3_add_12 : decode cX3_add 12 = .ok (.ireturn, 1) := by decide +kernel
theorem dX3_add_13 : decode cX3_add 13 = .ok (.aload_n 0, 1) := by decide +kernel
theorem dX3_add_14 : decode cX3_add 14 = .ok (.getfield 15, 3) := by decide +kernel
theorem dX3_add_17 : decode cX3_add 17 = .ok (.aload_n 0, 1) := by decide +kernel
theorem dX3_add_18 : decode cX3_add 18 = .ok (.getfield 51, 3) := by decide +kernel
theorem dX3_add_21 : decode cX3_add 21 = .ok (.iload_n 1, 1) := by decide +kernel
theorem dX3_add_22 : decode cX3_add 22 = .ok (.iastore, 1) := by decide +kernel
theorem dX3_add_23 : decode cX3_add 23 = .ok (.aload_n 0, 1) := by decide +kernel
theorem dX3_add_24 : decode cX3_add 24 = .ok (.getfield 18, 3) := by decide +kernel
theorem dX3_add_27 : decode cX3_add 27 = .ok (.aload_n 0, 1) := by decide +kernel
theorem dX3_add_28 : decode cX3_add 28 = .ok (.getfield 51, 3) := by decide +kernel
theorem dX3_add_31 : decode cX3_add 31 = .ok (.iload_n 2, 1) := by decide +kernel
theorem dX3_add_32 : decode cX3_add 32 = .ok (.iastore, 1) := by decide +kernel
theorem dX3_add_33 : decode cX3_add 33 = .ok (.aload_n 0, 1) := by decide +kernel
theorem dX3_add_34 : decode cX3_add 34 = .ok (.getfield 21, 3) := by decide +kernel
theorem dX3_add_37 : decode cX3_add 37 = .ok (.aload_n 0, 1) := by decide +kernel
theorem dX3_add_38 : decode cX3_add 38 = .ok (.getfield 51, 3) := by decide +kernel
theorem dX3_add_41 : decode cX3_add 41 = .ok (.iload_n 3, 1) := by decide +kernel
theorem dX3_add_42 : decode cX3_add 42 = .ok (.iastore, 1) := by decide +kernel
theorem dX3_add_43 : decode cX3_add 43 = .ok (.aload_n 0, 1) := by decide +kernel
theorem dX3_add_44 : decode cX3_add 44 = .ok (.getfield 24, 3) := by decide +kernel
theorem dX3_add_47 : decode cX3_add 47 = .ok (.aload_n 0, 1) := by decide +kernel
theorem dX3_add_48 : decode cX3_add 48 = .ok (.getfield 51, 3) := by decide +kernel
theorem dX3_add_51 : decode cX3_add 51 = .ok (.iload 4, 2) := by decide +kernel
theorem dX3_add_53 : decode cX3_add 53 = .ok (.iastore, 1) := by decide +kernel
theorem dX3_add_54 : decode cX3_add 54 = .ok (.aload_n 0, 1) := by decide +kernel
theorem dX3_add_55 : decode cX3_add 55 = .ok (.getfield 27, 3) := by decide +kernel
theorem dX3_add_58 : decode cX3_add 58 = .ok (.aload_n 0, 1) := by decide +kernel
theorem dX3_add_59 : decode cX3_add 59 = .ok (.getfield 51, 3) := by decide +kernel
theorem dX3_add_62 : decode cX3_add 62 = .ok (.iload 5, 2) := by decide +kernel
theorem dX3_add_64 : decode cX3_add 64 = .ok (.iastore, 1) := by decide +kernel
theorem dX3_add_65 : decode cX3_add 65 = .ok (.aload_n 0, 1) := by decide +kernel
theorem dX3_add_66 : decode cX3_add 66 = .ok (.dup, 1) := by decide +kernel
theorem dX3_add_67 : decode cX3_add 67 = .ok (.getfield 51, 3) := by decide +kernel
theorem dX3_add_70 : decode cX3_add 70 = .ok (.iconst 1, 1) := by decide +kernel
theorem dX3_add_71 : decode cX3_add 71 = .ok (.iadd, 1) := by decide +kernel
theorem dX3_add_72 : decode cX3_add 72 = .ok (.putfield 51, 3) := by decide +kernel
theorem dX3_add_75 : decode cX3_add 75 = .ok (.aload_n 0, 1) := by decide +kernel
theorem dX3_add_76 : decode cX3_add 76 = .ok (.getfield 51, 3) := by decide +kernel
theorem dX3_add_79 : decode cX3_add 79 = .ok (.ireturn, 1) := by decide +kernel
theorem dX3_forgetSteps_0 : decode cX3_forgetSteps 0 = .ok (.aload_n 0, 1) := by decide +kernel
theorem dX3_forgetSteps_1 : decode cX3_forgetSteps 1 = .ok (.getfield 51, 3) := by decide +kernel
theorem dX3_forgetSteps_4 : decode cX3_forgetSteps 4 = .ok (.istore_n 1, 1) := by decide +kernel
theorem dX3_forgetSteps_5 : decode cX3_forgetSteps 5 = .ok (.aload_n 0, 1) := by decide +kernel
theorem dX3_forgetSteps_6 : decode cX3_forgetSteps 6 = .ok (.iconst 0, 1) := by decide +kernel
theorem dX3_forgetSteps_7 : decode cX3_forgetSteps 7 = .ok (.putfield 51, 3) := by decide +kernel
theorem dX3_forgetSteps_10 : decode cX3_forgetSteps 10 = .ok (.iload_n 1, 1) := by decide +kernel
theorem dX3_forgetSteps_11 : decode cX3_forgetSteps 11 = .ok (.ireturn, 1) := by decide +kernel
theorem dX3_forgetAll_0 : decode cX3_forgetAll 0 = .ok (.iconst 0, 1) := by decide +kernel
theorem dX3_forgetAll_1 : decode cX3_forgetAll 1 = .ok (.istore_n 1, 1) := by decide +kernel
theorem dX3_forgetAll_2 : decode cX3_forgetAll 2 = .ok (.iload_n 1, 1) := by decide +kernel
theorem dX3_forgetAll_3 : decode cX3_forgetAll 3 = .ok (.bipush 16, 2) := by decide +kernel
theorem dX3_forgetAll_5 : decode cX3_forgetAll 5 = .ok (.if_icmp .ge 16, 3) := by decide +kernel
theorem dX3_forgetAll_8 : decode cX3_forgetAll 8 = .ok (.aload_n 0, 1) := by decide +kernel
theorem dX3_forgetAll_9 : decode cX3_forgetAll 9 = .ok (.getfield 11, 3) := by decide +kernel
theorem dX3_forgetAll_12 : decode cX3_forgetAll 12 = .ok (.iload_n 1, 1) := by decide +kernel
theorem dX3_forgetAll_13 : decode cX3_forgetAll 13 = .ok (.iconst 0, 1) := by decide +kernel
theorem dX3_forgetAll_14 : decode cX3_forgetAll 14 = .ok (.iastore, 1) := by decide +kernel
theorem dX3_forgetAll_15 : decode cX3_forgetAll 15 = .ok (.iinc 1 1, 3) := by decide +kernel
theorem dX3_forgetAll_18 : decode cX3_forgetAll 18 = .ok (.goto (-16), 3) := by decide +kernel
theorem dX3_forgetAll_21 : decode cX3_forgetAll 21 = .ok (.aload_n 0, 1) := by decide +kernel
theorem dX3_forgetAll_22 : decode cX3_forgetAll 22 = .ok (.bipush (-109), 2) := by decide +kernel
theorem dX3_forgetAll_24 : decode cX3_forgetAll 24 = .ok (.putfield 30, 3) := by decide +kernel
theorem dX3_forgetAll_27 : decode cX3_forgetAll 27 = .ok (.aload_n 0, 1) := by decide +kernel
theorem dX3_forgetAll_28 : decode cX3_forgetAll 28 = .ok (.invokevirtual 54, 3) := by decide +kernel
theorem dX3_forgetAll_31 : decode cX3_forgetAll 31 = .ok (.ireturn, 1) := by decide +kernel
theorem dX3_isThere_0 : decode cX3_isThere 0 = .ok (.iload_n 1, 1) := by decide +kernel
theorem dX3_isThere_1 : decode cX3_isThere 1 = .ok (.invokestatic 44, 3) := by decide +kernel
theorem dX3_isThere_4 : decode cX3_isThere 4 = .ok (.ifCond .eq 15, 3) := by decide +kernel
theorem dX3_isThere_7 : decode cX3_isThere 7 = .ok (.iload_n 1, 1) := by decide +kernel
theorem dX3_isThere_8 : decode cX3_isThere 8 = .ok (.aload_n 0, 1) := by decide +kernel
theorem dX3_isThere_9 : decode cX3_isThere 9 = .ok (.getfield 51, 3) := by decide +kernel
theorem dX3_isThere_12 : decode cX3_isThere 12 = .ok (.if_icmp .ge 7, 3) := by decide +kernel
theorem dX3_isThere_15 : decode cX3_isThere 15 = .ok (.iconst 1, 1) := by decide +kernel
theorem dX3_isThere_16 : decode cX3_isThere 16 = .ok (.goto 4, 3) := by decide +kernel
theorem dX3_isThere_19 : decode cX3_isThere 19 = .ok (.iconst 0, 1) := by decide +kernel
theorem dX3_isThere_20 : decode cX3_isThere 20 = .ok (.ireturn, 1) := by decide +kernel
theorem dX3_restAt_0 : decode cX3_restAt 0 = .ok (.aload_n 0, 1) := by decide +kernel
theorem dX3_restAt_1 : decode cX3_restAt 1 = .ok (.aload_n 0, 1) := by decide +kernel
theorem dX3_restAt_2 : decode cX3_restAt 2 = .ok (.iload_n 1, 1) := by decide +kernel
theorem dX3_restAt_3 : decode cX3_restAt 3 = .ok (.invokevirtual 58, 3) := by decide +kernel
theorem dX3_restAt_6 : decode cX3_restAt 6 = .ok (.ifCond .eq 7, 3) := by decide +kernel
theorem dX3_restAt_9 : decode cX3_restAt 9 = .ok (.iload_n 1, 1) := by decide +kernel
theorem dX3_restAt_10 : decode cX3_restAt 10 = .ok (.goto 5, 3) := by decide +kernel
theorem dX3_restAt_13 : decode cX3_restAt 13 = .ok (.bipush (-109), 2) := by decide +kernel
theorem dX3_restAt_15 : decode cX3_restAt 15 = .ok (.putfield 30, 3) := by decide +kernel
theorem dX3_restAt_18 : decode cX3_restAt 18 = .ok (.return_, 1) := by decide +kernel
theorem dX3_follow_0 : decode cX3_follow 0 = .ok (.aload_n 0, 1) := by decide +kernel
theorem dX3_follow_1 : decode cX3_follow 1 = .ok (.iload_n 1, 1) := by decide +kernel
theorem dX3_follow_2 : decode cX3_follow 2 = .ok (.invokevirtual 58, 3) := by decide +kernel
theorem dX3_follow_5 : decode cX3_follow 5 = .ok (.ifCond .ne 5, 3) := by decide +kernel
theorem dX3_follow_8 : decode cX3_follow 8 = .ok (.iconst (-1), 1) := by decide +kernel
theorem dX3_follow_9 : decode cX3_follow 9 = .ok (.ireturn, 1) := by decide +kernel
theorem dX3_follow_10 : decode cX3_follow 10 = .ok (.aload_n 0, 1) := by decide +kernel
theorem dX3_follow_11 : decode cX3_follow 11 = .ok (.getfield 15, 3) := by decide +kernel
theorem dX3_follow_14 : decode cX3_follow 14 = .ok (.iload_n 1, 1) := by decide +kernel
theorem dX3_follow_15 : decode cX3_follow 15 = .ok (.iaload, 1) := by decide +kernel
theorem dX3_follow_16 : decode cX3_follow 16 = .ok (.istore_n 2, 1) := by decide +kernel
theorem dX3_follow_17 : decode cX3_follow 17 = .ok (.iload_n 2, 1) := by decide +kernel
theorem dX3_follow_18 : decode cX3_follow 18 = .ok (.invokestatic 34, 3) := by decide +kernel
theorem dX3_follow_21 : decode cX3_follow 21 = .ok (.ifCond .eq 58, 3) := by decide +kernel
theorem dX3_follow_24 : decode cX3_follow 24 = .ok (.getstatic 61, 3) := by decide +kernel
theorem dX3_follow_27 : decode cX3_follow 27 = .ok (.iload_n 2, 1) := by decide +kernel
theorem dX3_follow_28 : decode cX3_follow 28 = .ok (.aload_n 0, 1) := by decide +kernel
theorem dX3_follow_29 : decode cX3_follow 29 = .ok (.aload_n 0, 1) := by decide +kernel
theorem dX3_follow_30 : decode cX3_follow 30 = .ok (.getfield 21, 3) := by decide +kernel
theorem dX3_follow_33 : decode cX3_follow 33 = .ok (.iload_n 1, 1) := by decide +kernel
theorem dX3_follow_34 : decode cX3_follow 34 = .ok (.iaload, 1) := by decide +kernel
theorem dX3_follow_35 : decode cX3_follow 35 = .ok (.invokevirtual 67, 3) := by decide +kernel
theorem dX3_follow_38 : decode cX3_follow 38 = .ok (.aload_n 0, 1) := by decide +kernel
theorem dX3_follow_39 : decode cX3_follow 39 = .ok (.aload_n 0, 1) := by decide +kernel
theorem dX3_follow_40 : decode cX3_follow 40 = .ok (.getfield 24, 3) := by decide +kernel
theorem dX3_follow_43 : decode cX3_follow 43 = .ok (.iload_n 1, 1) := by decide +kernel
theorem dX3_follow_44 : decode cX3_follow 44 = .ok (.iaload, 1) := by decide +kernel
theorem dX3_follow_45 : decode cX3_follow 45 = .ok (.invokevirtual 67, 3) := by decide +kernel
theorem dX3_follow_48 : decode cX3_follow 48 = .ok (.aload_n 0, 1) := by decide +kernel
theorem dX3_follow_49 : decode cX3_follow 49 = .ok (.aload_n 0, 1) := by decide +kernel
theorem dX3_follow_50 : decode cX3_follow 50 = .ok (.getfield 27, 3) := by decide +kernel
theorem dX3_follow_53 : decode cX3_follow 53 = .ok (.iload_n 1, 1) := by decide +kernel
theorem dX3_follow_54 : decode cX3_follow 54 = .ok (.iaload, 1) := by decide +kernel
theorem dX3_follow_55 : decode cX3_follow 55 = .ok (.invokevirtual 67, 3) := by decide +kernel
theorem dX3_follow_58 : decode cX3_follow 58 = .ok (.invokevirtual 71, 3) := by decide +kernel
theorem dX3_follow_61 : decode cX3_follow 61 = .ok (.lstore_n 3, 1) := by decide +kernel
theorem dX3_follow_62 : decode cX3_follow 62 = .ok (.aload_n 0, 1) := by decide +kernel
theorem dX3_follow_63 : decode cX3_follow 63 = .ok (.aload_n 0, 1) := by decide +kernel
theorem dX3_follow_64 : decode cX3_follow 64 = .ok (.getfield 18, 3) := by decide +kernel
theorem dX3_follow_67 : decode cX3_follow 67 = .ok (.iload_n 1, 1) := by decide +kernel
theorem dX3_follow_68 : decode cX3_follow 68 = .ok (.iaload, 1) := by decide +kernel
theorem dX3_follow_69 : decode cX3_follow 69 = .ok (.lload_n 3, 1) := by decide +kernel
theorem dX3_follow_70 : decode cX3_follow 70 = .ok (.l2i, 1) := by decide +kernel
theorem dX3_follow_71 : decode cX3_follow 71 = .ok (.invokevirtual 75, 3) := by decide +kernel
theorem dX3_follow_74 : decode cX3_follow 74 = .ok (.pop, 1) := by decide +kernel
theorem dX3_follow_75 : decode cX3_follow 75 = .ok (.iload_n 1, 1) := by decide +kernel
theorem dX3_follow_76 : decode cX3_follow 76 = .ok (.iconst 1, 1) := by decide +kernel
theorem dX3_follow_77 : decode cX3_follow 77 = .ok (.iadd, 1) := by decide +kernel
theorem dX3_follow_78 : decode cX3_follow 78 = .ok (.ireturn, 1) := by decide +kernel
theorem dX3_follow_79 : decode cX3_follow 79 = .ok (.iload_n 2, 1) := by decide +kernel
theorem dX3_follow_80 : decode cX3_follow 80 = .ok (.invokestatic 38, 3) := by decide +kernel
theorem dX3_follow_83 : decode cX3_follow 83 = .ok (.ifCond .eq 61, 3) := by decide +kernel
theorem dX3_follow_86 : decode cX3_follow 86 = .ok (.getstatic 61, 3) := by decide +kernel
theorem dX3_follow_89 : decode cX3_follow 89 = .ok (.iload_n 2, 1) := by decide +kernel
theorem dX3_follow_90 : decode cX3_follow 90 = .ok (.bipush 30, 2) := by decide +kernel
theorem dX3_follow_92 : decode cX3_follow 92 = .ok (.isub, 1) := by decide +kernel
theorem dX3_follow_93 : decode cX3_follow 93 = .ok (.aload_n 0, 1) := by decide +kernel
theorem dX3_follow_94 : decode cX3_follow 94 = .ok (.aload_n 0, 1) := by decide +kernel
theorem dX3_follow_95 : decode cX3_follow 95 = .ok (.getfield 21, 3) := by decide +kernel
theorem dX3_follow_98 : decode cX3_follow 98 = .ok (.iload_n 1, 1) := by decide +kernel
theorem dX3_follow_99 : decode cX3_follow 99 = .ok (.iaload, 1) := by decide +kernel
theorem dX3_follow_100 : decode cX3_follow 100 = .ok (.invokevirtual 67, 3) := by decide +kernel
theorem dX3_follow_103 : decode cX3_follow 103 = .ok (.aload_n 0, 1) := by decide +kernel
theorem dX3_follow_104 : decode cX3_follow 104 = .ok (.aload_n 0, 1) := by decide +kernel
theorem dX3_follow_105 : decode cX3_follow 105 = .ok (.getfield 24, 3) := by decide +kernel
theorem dX3_follow_108 : decode cX3_follow 108 = .ok (.iload_n 1, 1) := by decide +kernel
theorem dX3_follow_109 : decode cX3_follow 109 = .ok (.iaload, 1) := by decide +kernel
theorem dX3_follow_110 : decode cX3_follow 110 = .ok (.invokevirtual 67, 3) := by decide +kernel
theorem dX3_follow_113 : decode cX3_follow 113 = .ok (.aload_n 0, 1) := by decide +kernel
theorem dX3_follow_114 : decode cX3_follow 114 = .ok (.aload_n 0, 1) := by decide +kernel
theorem dX3_follow_115 : decode cX3_follow 115 = .ok (.getfield 27, 3) := by decide +kernel
theorem dX3_follow_118 : decode cX3_follow 118 = .ok (.iload_n 1, 1) := by decide +kernel
theorem dX3_follow_119 : decode cX3_follow 119 = .ok (.iaload, 1) := by decide +kernel
theorem dX3_follow_120 : decode cX3_follow 120 = .ok (.invokevirtual 67, 3) := by decide +kernel
theorem dX3_follow_123 : decode cX3_follow 123 = .ok (.invokevirtual 79, 3) := by decide +kernel
theorem dX3_follow_126 : decode cX3_follow 126 = .ok (.istore_n 3, 1) := by decide +kernel
theorem dX3_follow_127 : decode cX3_follow 127 = .ok (.iload_n 3, 1) := by decide +kernel
theorem dX3_follow_128 : decode cX3_follow 128 = .ok (.ifCond .eq 12, 3) := by decide +kernel
theorem dX3_follow_131 : decode cX3_follow 131 = .ok (.aload_n 0, 1) := by decide +kernel
theorem dX3_follow_132 : decode cX3_follow 132 = .ok (.getfield 18, 3) := by decide +kernel
theorem dX3_follow_135 : decode cX3_follow 135 = .ok (.iload_n 1, 1) := by decide +kernel
theorem dX3_follow_136 : decode cX3_follow 136 = .ok (.iaload, 1) := by decide +kernel
theorem dX3_follow_137 : decode cX3_follow 137 = .ok (.goto 6, 3) := by decide +kernel
theorem dX3_follow_140 : decode cX3_follow 140 = .ok (.iload_n 1, 1) := by decide +kernel
theorem dX3_follow_141 : decode cX3_follow 141 = .ok (.iconst 1, 1) := by decide +kernel
theorem dX3_follow_142 : decode cX3_follow 142 = .ok (.iadd, 1) := by decide +kernel
theorem dX3_follow_143 : decode cX3_follow 143 = .ok (.ireturn, 1) := by decide +kernel
theorem dX3_follow_144 : decode cX3_follow 144 = .ok (.iload_n 2, 1) := by decide +kernel
theorem dX3_follow_145 : decode cX3_follow 145 = .ok (.tableswitch 91 41 43 #[27, 48, 84], 27) := by decide +kernel
theorem dX3_follow_172 : decode cX3_follow 172 = .ok (.aload_n 0, 1) := by decide +kernel
theorem dX3_follow_173 : decode cX3_follow 173 = .ok (.aload_n 0, 1) := by decide +kernel
theorem dX3_follow_174 : decode cX3_follow 174 = .ok (.getfield 18, 3) := by decide +kernel
theorem dX3_follow_177 : decode cX3_follow 177 = .ok (.iload_n 1, 1) := by decide +kernel
theorem dX3_follow_178 : decode cX3_follow 178 = .ok (.iaload, 1) := by decide +kernel
theorem dX3_follow_179 : decode cX3_follow 179 = .ok (.aload_n 0, 1) := by decide +kernel
theorem dX3_follow_180 : decode cX3_follow 180 = .ok (.getfield 21, 3) := by decide +kernel
theorem dX3_follow_183 : decode cX3_follow 183 = .ok (.iload_n 1, 1) := by decide +kernel
theorem dX3_follow_184 : decode cX3_follow 184 = .ok (.iaload, 1) := by decide +kernel
theorem dX3_follow_185 : decode cX3_follow 185 = .ok (.invokevirtual 75, 3) := by decide +kernel
theorem dX3_follow_188 : decode cX3_follow 188 = .ok (.pop, 1) := by decide +kernel
theorem dX3_follow_189 : decode cX3_follow 189 = .ok (.iload_n 1, 1) := by decide +kernel
theorem dX3_follow_190 : decode cX3_follow 190 = .ok (.iconst 1, 1) := by decide +kernel
theorem dX3_follow_191 : decode cX3_follow 191 = .ok (.iadd, 1) := by decide +kernel
theorem dX3_follow_192 : decode cX3_follow 192 = .ok (.ireturn, 1) := by decide +kernel
theorem dX3_follow_193 : decode cX3_follow 193 = .ok (.aload_n 0, 1) := by decide +kernel
theorem dX3_follow_194 : decode cX3_follow 194 = .ok (.aload_n 0, 1) := by decide +kernel
theorem dX3_follow_195 : decode cX3_follow 195 = .ok (.getfield 18, 3) := by decide +kernel
theorem dX3_follow_198 : decode cX3_follow 198 = .ok (.iload_n 1, 1) := by decide +kernel
theorem dX3_follow_199 : decode cX3_follow 199 = .ok (.iaload, 1) := by decide +kernel
theorem dX3_follow_200 : decode cX3_follow 200 = .ok (.aload_n 0, 1) := by decide +kernel
theorem dX3_follow_201 : decode cX3_follow 201 = .ok (.aload_n 0, 1) := by decide +kernel
theorem dX3_follow_202 : decode cX3_follow 202 = .ok (.getfield 21, 3) := by decide +kernel
theorem dX3_follow_205 : decode cX3_follow 205 = .ok (.iload_n 1, 1) := by decide +kernel
theorem dX3_follow_206 : decode cX3_follow 206 = .ok (.iaload, 1) := by decide +kernel
theorem dX3_follow_207 : decode cX3_follow 207 = .ok (.invokevirtual 47, 3) := by decide +kernel
theorem dX3_follow_210 : decode cX3_follow 210 = .ok (.aload_n 0, 1) := by decide +kernel
theorem dX3_follow_211 : decode cX3_follow 211 = .ok (.aload_n 0, 1) := by decide +kernel
theorem dX3_follow_212 : decode cX3_follow 212 = .ok (.getfield 24, 3) := by decide +kernel
theorem dX3_follow_215 : decode cX3_follow 215 = .ok (.iload_n 1, 1) := by decide +kernel
theorem dX3_follow_216 : decode cX3_follow 216 = .ok (.iaload, 1) := by decide +kernel
theorem dX3_follow_217 : decode cX3_follow 217 = .ok (.invokevirtual 47, 3) := by decide +kernel
theorem dX3_follow_220 : decode cX3_follow 220 = .ok (.iadd, 1) := by decide +kernel
theorem dX3_follow_221 : decode cX3_follow 221 = .ok (.invokevirtual 75, 3) := by decide +kernel
theorem dX3_follow_224 : decode cX3_follow 224 = .ok (.pop, 1) := by decide +kernel
theorem dX3_follow_225 : decode cX3_follow 225 = .ok (.iload_n 1, 1) := by decide +kernel
theorem dX3_follow_226 : decode cX3_follow 226 = .ok (.iconst 1, 1) := by decide +kernel
theorem dX3_follow_227 : decode cX3_follow 227 = .ok (.iadd, 1) := by decide +kernel
theorem dX3_follow_228 : decode cX3_follow 228 = .ok (.ireturn, 1) := by decide +kernel
theorem dX3_follow_229 : decode cX3_follow 229 = .ok (.aload_n 0, 1) := by decide +kernel
theorem dX3_follow_230 : decode cX3_follow 230 = .ok (.getfield 18, 3) := by decide +kernel
theorem dX3_follow_233 : decode cX3_follow 233 = .ok (.iload_n 1, 1) := by decide +kernel
theorem dX3_follow_234 : decode cX3_follow 234 = .ok (.iaload, 1) := by decide +kernel
theorem dX3_follow_235 : decode cX3_follow 235 = .ok (.ireturn, 1) := by decide +kernel
theorem dX3_follow_236 : decode cX3_follow 236 = .ok (.iconst (-1), 1) := by decide +kernel
theorem dX3_follow_237 : decode cX3_follow 237 = .ok (.ireturn, 1) := by decide +kernel
theorem dX3_read_0 : decode cX3_read 0 = .ok (.aload_n 0, 1) := by decide +kernel
theorem dX3_read_1 : decode cX3_read 1 = .ok (.iload_n 1, 1) := by decide +kernel
theorem dX3_read_2 : decode cX3_read 2 = .ok (.invokevirtual 47, 3) := by decide +kernel
theorem dX3_read_5 : decode cX3_read 5 = .ok (.i2l, 1) := by decide +kernel
theorem dX3_read_6 : decode cX3_read 6 = .ok (.ldc2_w 83, 3) := by decide +kernel
theorem dX3_read_9 : decode cX3_read 9 = .ok (.land, 1) := by decide +kernel
theorem dX3_read_10 : decode cX3_read 10 = .ok (.lreturn, 1) := by decide +kernel
theorem dX4_init_0 : decode cX4_init 0 = .ok (.aload_n 0, 1) := by decide +kernel
theorem dX4_init_1 : decode cX4_init 1 = .ok (.invokespecial 1, 3) := by decide +kernel
theorem dX4_init_4 : decode cX4_init 4 = .ok (.aload_n 0, 1) := by decide +kernel
theorem dX4_init_5 : decode cX4_init 5 = .ok (.new 7, 3) := by decide +kernel
theorem dX4_init_8 : decode cX4_init 8 = .ok (.dup, 1) := by decide +kernel
theorem dX4_init_9 : decode cX4_init 9 = .ok (.invokespecial 9, 3) := by decide +kernel
theorem dX4_init_12 : decode cX4_init 12 = .ok (.putfield 10, 3) := by decide +kernel
theorem dX4_init_15 : decode cX4_init 15 = .ok (.aload_n 0, 1) := by decide +kernel
theorem dX4_init_16 : decode cX4_init 16 = .ok (.new 16, 3) := by decide +kernel
theorem dX4_init_19 : decode cX4_init 19 = .ok (.dup, 1) := by decide +kernel
theorem dX4_init_20 : decode cX4_init 20 = .ok (.invokespecial 18, 3) := by decide +kernel
theorem dX4_init_23 : decode cX4_init 23 = .ok (.putfield 19, 3) := by decide +kernel
theorem dX4_init_26 : decode cX4_init 26 = .ok (.return_, 1) := by decide +kernel
theorem dX4_act_0 : decode cX4_act 0 = .ok (.iload_n 1, 1) := by decide +kernel
theorem dX4_act_1 : decode cX4_act 1 = .ok (.ifCond .lt 9, 3) := by decide +kernel
theorem dX4_act_4 : decode cX4_act 4 = .ok (.iload_n 1, 1) := by decide +kernel
theorem dX4_act_5 : decode cX4_act 5 = .ok (.bipush 24, 2) := by decide +kernel
theorem dX4_act_7 : decode cX4_act 7 = .ok (.if_icmp .lt 13, 3) := by decide +kernel
theorem dX4_act_10 : decode cX4_act 10 = .ok (.new 23, 3) := by decide +kernel
theorem dX4_act_13 : decode cX4_act 13 = .ok (.dup, 1) := by decide +kernel
theorem dX4_act_14 : decode cX4_act 14 = .ok (.ldc 25, 2) := by decide +kernel
theorem dX4_act_16 : decode cX4_act 16 = .ok (.invokespecial 27, 3) := by decide +kernel
theorem dX4_act_19 : decode cX4_act 19 = .ok (.athrow, 1) := by decide +kernel
theorem dX4_act_20 : decode cX4_act 20 = .ok (.getstatic 30, 3) := by decide +kernel
theorem dX4_act_23 : decode cX4_act 23 = .ok (.iload_n 1, 1) := by decide +kernel
theorem dX4_act_24 : decode cX4_act 24 = .ok (.iload_n 2, 1) := by decide +kernel
theorem dX4_act_25 : decode cX4_act 25 = .ok (.i2l, 1) := by decide +kernel
theorem dX4_act_26 : decode cX4_act 26 = .ok (.ldc2_w 36, 3) := by decide +kernel
theorem dX4_act_29 : decode cX4_act 29 = .ok (.land, 1) := by decide +kernel
theorem dX4_act_30 : decode cX4_act 30 = .ok (.iload_n 3, 1) := by decide +kernel
theorem dX4_act_31 : decode cX4_act 31 = .ok (.i2l, 1) := by decide +kernel
theorem dX4_act_32 : decode cX4_act 32 = .ok (.ldc2_w 36, 3) := by decide +kernel
theorem dX4_act_35 : decode cX4_act 35 = .ok (.land, 1) := by decide +kernel
theorem dX4_act_36 : decode cX4_act 36 = .ok (.iload 4, 2) := by decide +kernel
theorem dX4_act_38 : decode cX4_act 38 = .ok (.i2l, 1) := by decide +kernel
theorem dX4_act_39 : decode cX4_act 39 = .ok (.ldc2_w 36, 3) := by decide +kernel
theorem dX4_act_42 : decode cX4_act 42 = .ok (.land, 1) := by decide +kernel
theorem dX4_act_43 : decode cX4_act 43 = .ok (.invokevirtual 38, 3) := by decide +kernel
theorem dX4_act_46 : decode cX4_act 46 = .ok (.l2i, 1) := by decide +kernel
theorem dX4_act_47 : decode cX4_act 47 = .ok (.ireturn, 1) := by decide +kernel
theorem dX4_wide_0 : decode cX4_wide 0 = .ok (.iload_n 1, 1) := by decide +kernel
theorem dX4_wide_1 : decode cX4_wide 1 = .ok (.ifCond .lt 9, 3) := by decide +kernel
theorem dX4_wide_4 : decode cX4_wide 4 = .ok (.iload_n 1, 1) := by decide +kernel
theorem dX4_wide_5 : decode cX4_wide 5 = .ok (.bipush 24, 2) := by decide +kernel
theorem dX4_wide_7 : decode cX4_wide 7 = .ok (.if_icmp .lt 13, 3) := by decide +kernel
theorem dX4_wide_10 : decode cX4_wide 10 = .ok (.new 23, 3) := by decide +kernel
theorem dX4_wide_13 : decode cX4_wide 13 = .ok (.dup, 1) := by decide +kernel
theorem dX4_wide_14 : decode cX4_wide 14 = .ok (.ldc 25, 2) := by decide +kernel
theorem dX4_wide_16 : decode cX4_wide 16 = .ok (.invokespecial 27, 3) := by decide +kernel
theorem dX4_wide_19 : decode cX4_wide 19 = .ok (.athrow, 1) := by decide +kernel
theorem dX4_wide_20 : decode cX4_wide 20 = .ok (.getstatic 42, 3) := by decide +kernel
theorem dX4_wide_23 : decode cX4_wide 23 = .ok (.iload_n 1, 1) := by decide +kernel
theorem dX4_wide_24 : decode cX4_wide 24 = .ok (.lload_n 2, 1) := by decide +kernel
theorem dX4_wide_25 : decode cX4_wide 25 = .ok (.lload 4, 2) := by decide +kernel
theorem dX4_wide_27 : decode cX4_wide 27 = .ok (.lload 6, 2) := by decide +kernel
theorem dX4_wide_29 : decode cX4_wide 29 = .ok (.invokevirtual 38, 3) := by decide +kernel
theorem dX4_wide_32 : decode cX4_wide 32 = .ok (.lreturn, 1) := by decide +kernel
theorem dX4_test_0 : decode cX4_test 0 = .ok (.iload_n 1, 1) := by decide +kernel
theorem dX4_test_1 : decode cX4_test 1 = .ok (.ifCond .lt 9, 3) := by decide +kernel
theorem dX4_test_4 : decode cX4_test 4 = .ok (.iload_n 1, 1) := by decide +kernel
theorem dX4_test_5 : decode cX4_test 5 = .ok (.bipush 8, 2) := by decide +kernel
theorem dX4_test_7 : decode cX4_test 7 = .ok (.if_icmp .lt 13, 3) := by decide +kernel
theorem dX4_test_10 : decode cX4_test 10 = .ok (.new 23, 3) := by decide +kernel
theorem dX4_test_13 : decode cX4_test 13 = .ok (.dup, 1) := by decide +kernel
theorem dX4_test_14 : decode cX4_test 14 = .ok (.ldc 45, 2) := by decide +kernel
theorem dX4_test_16 : decode cX4_test 16 = .ok (.invokespecial 27, 3) := by decide +kernel
theorem dX4_test_19 : decode cX4_test 19 = .ok (.athrow, 1) := by decide +kernel
theorem dX4_test_20 : decode cX4_test 20 = .ok (.getstatic 30, 3) := by decide +kernel
theorem dX4_test_23 : decode cX4_test 23 = .ok (.iload_n 1, 1) := by decide +kernel
theorem dX4_test_24 : decode cX4_test 24 = .ok (.iload_n 2, 1) := by decide +kernel
theorem dX4_test_25 : decode cX4_test 25 = .ok (.i2l, 1) := by decide +kernel
theorem dX4_test_26 : decode cX4_test 26 = .ok (.ldc2_w 36, 3) := by decide +kernel
theorem dX4_test_29 : decode cX4_test 29 = .ok (.land, 1) := by decide +kernel
theorem dX4_test_30 : decode cX4_test 30 = .ok (.iload_n 3, 1) := by decide +kernel
theorem dX4_test_31 : decode cX4_test 31 = .ok (.i2l, 1) := by decide +kernel
theorem dX4_test_32 : decode cX4_test 32 = .ok (.ldc2_w 36, 3) := by decide +kernel
theorem dX4_test_35 : decode cX4_test 35 = .ok (.land, 1) := by decide +kernel
theorem dX4_test_36 : decode cX4_test 36 = .ok (.iload 4, 2) := by decide +kernel
theorem dX4_test_38 : decode cX4_test 38 = .ok (.i2l, 1) := by decide +kernel
theorem dX4_test_39 : decode cX4_test 39 = .ok (.ldc2_w 36, 3) := by decide +kernel
theorem dX4_test_42 : decode cX4_test 42 = .ok (.land, 1) := by decide +kernel
theorem dX4_test_43 : decode cX4_test 43 = .ok (.invokevirtual 47, 3) := by decide +kernel
theorem dX4_test_46 : decode cX4_test 46 = .ok (.ifCond .eq 7, 3) := by decide +kernel
theorem dX4_test_49 : decode cX4_test 49 = .ok (.iconst 1, 1) := by decide +kernel
theorem dX4_test_50 : decode cX4_test 50 = .ok (.goto 4, 3) := by decide +kernel
theorem dX4_test_53 : decode cX4_test 53 = .ok (.iconst 0, 1) := by decide +kernel
theorem dX4_test_54 : decode cX4_test 54 = .ok (.ireturn, 1) := by decide +kernel
theorem dX4_wideTest_0 : decode cX4_wideTest 0 = .ok (.iload_n 1, 1) := by decide +kernel
theorem dX4_wideTest_1 : decode cX4_wideTest 1 = .ok (.ifCond .lt 9, 3) := by decide +kernel
theorem dX4_wideTest_4 : decode cX4_wideTest 4 = .ok (.iload_n 1, 1) := by decide +kernel
theorem dX4_wideTest_5 : decode cX4_wideTest 5 = .ok (.bipush 8, 2) := by decide +kernel
theorem dX4_wideTest_7 : decode cX4_wideTest 7 = .ok (.if_icmp .lt 13, 3) := by decide +kernel
theorem dX4_wideTest_10 : decode cX4_wideTest 10 = .ok (.new 23, 3) := by decide +kernel
theorem dX4_wideTest_13 : decode cX4_wideTest 13 = .ok (.dup, 1) := by decide +kernel
theorem dX4_wideTest_14 : decode cX4_wideTest 14 = .ok (.ldc 45, 2) := by decide +kernel
theorem dX4_wideTest_16 : decode cX4_wideTest 16 = .ok (.invokespecial 27, 3) := by decide +kernel
theorem dX4_wideTest_19 : decode cX4_wideTest 19 = .ok (.athrow, 1) := by decide +kernel
theorem dX4_wideTest_20 : decode cX4_wideTest 20 = .ok (.getstatic 42, 3) := by decide +kernel
theorem dX4_wideTest_23 : decode cX4_wideTest 23 = .ok (.iload_n 1, 1) := by decide +kernel
theorem dX4_wideTest_24 : decode cX4_wideTest 24 = .ok (.lload_n 2, 1) := by decide +kernel
theorem dX4_wideTest_25 : decode cX4_wideTest 25 = .ok (.lload 4, 2) := by decide +kernel
theorem dX4_wideTest_27 : decode cX4_wideTest 27 = .ok (.lload 6, 2) := by decide +kernel
theorem dX4_wideTest_29 : decode cX4_wideTest 29 = .ok (.invokevirtual 47, 3) := by decide +kernel
theorem dX4_wideTest_32 : decode cX4_wideTest 32 = .ok (.ifCond .eq 7, 3) := by decide +kernel
theorem dX4_wideTest_35 : decode cX4_wideTest 35 = .ok (.iconst 1, 1) := by decide +kernel
theorem dX4_wideTest_36 : decode cX4_wideTest 36 = .ok (.goto 4, 3) := by decide +kernel
theorem dX4_wideTest_39 : decode cX4_wideTest 39 = .ok (.iconst 0, 1) := by decide +kernel
theorem dX4_wideTest_40 : decode cX4_wideTest 40 = .ok (.ireturn, 1) := by decide +kernel
theorem dX4_widen_0 : decode cX4_widen 0 = .ok (.getstatic 42, 3) := by decide +kernel
theorem dX4_widen_3 : decode cX4_widen 3 = .ok (.getstatic 30, 3) := by decide +kernel
theorem dX4_widen_6 : decode cX4_widen 6 = .ok (.iload_n 1, 1) := by decide +kernel
theorem dX4_widen_7 : decode cX4_widen 7 = .ok (.i2l, 1) := by decide +kernel
theorem dX4_widen_8 : decode cX4_widen 8 = .ok (.ldc2_w 36, 3) := by decide +kernel
theorem dX4_widen_11 : decode cX4_widen 11 = .ok (.land, 1) := by decide +kernel
theorem dX4_widen_12 : decode cX4_widen 12 = .ok (.invokevirtual 51, 3) := by decide +kernel
theorem dX4_widen_15 : decode cX4_widen 15 = .ok (.lreturn, 1) := by decide +kernel
theorem dX4_narrow_0 : decode cX4_narrow 0 = .ok (.getstatic 30, 3) := by decide +kernel
theorem dX4_narrow_3 : decode cX4_narrow 3 = .ok (.getstatic 42, 3) := by decide +kernel
theorem dX4_narrow_6 : decode cX4_narrow 6 = .ok (.lload_n 1, 1) := by decide +kernel
theorem dX4_narrow_7 : decode cX4_narrow 7 = .ok (.invokevirtual 51, 3) := by decide +kernel
theorem dX4_narrow_10 : decode cX4_narrow 10 = .ok (.l2i, 1) := by decide +kernel
theorem dX4_narrow_11 : decode cX4_narrow 11 = .ok (.ireturn, 1) := by decide +kernel
theorem dX4_half_0 : decode cX4_half 0 = .ok (.iload_n 3, 1) := by decide +kernel
theorem dX4_half_1 : decode cX4_half 1 = .ok (.ifCond .eq 10, 3) := by decide +kernel
theorem dX4_half_4 : decode cX4_half 4 = .ok (.lload_n 1, 1) := by decide +kernel
theorem dX4_half_5 : decode cX4_half 5 = .ok (.bipush 32, 2) := by decide +kernel
theorem dX4_half_7 : decode cX4_half 7 = .ok (.lushr, 1) := by decide +kernel
theorem dX4_half_8 : decode cX4_half 8 = .ok (.goto 4, 3) := by decide +kernel
theorem dX4_half_11 : decode cX4_half 11 = .ok (.lload_n 1, 1) := by decide +kernel
theorem dX4_half_12 : decode cX4_half 12 = .ok (.l2i, 1) := by decide +kernel
theorem dX4_half_13 : decode cX4_half 13 = .ok (.ireturn, 1) := by decide +kernel
theorem dX4_join_0 : decode cX4_join 0 = .ok (.iload_n 1, 1) := by decide +kernel
theorem dX4_join_1 : decode cX4_join 1 = .ok (.i2l, 1) := by decide +kernel
theorem dX4_join_2 : decode cX4_join 2 = .ok (.bipush 32, 2) := by decide +kernel
theorem dX4_join_4 : decode cX4_join 4 = .ok (.lshl, 1) := by decide +kernel
theorem dX4_join_5 : decode cX4_join 5 = .ok (.iload_n 2, 1) := by decide +kernel
theorem dX4_join_6 : decode cX4_join 6 = .ok (.i2l, 1) := by decide +kernel
theorem dX4_join_7 : decode cX4_join 7 = .ok (.ldc2_w 36, 3) := by decide +kernel
theorem dX4_join_10 : decode cX4_join 10 = .ok (.land, 1) := by decide +kernel
theorem dX4_join_11 : decode cX4_join 11 = .ok (.lor, 1) := by decide +kernel
theorem dX4_join_12 : decode cX4_join 12 = .ok (.lreturn, 1) := by decide +kernel
theorem dX4_print_0 : decode cX4_print 0 = .ok (.iload_n 2, 1) := by decide +kernel
theorem dX4_print_1 : decode cX4_print 1 = .ok (.ifCond .lt 9, 3) := by decide +kernel
theorem dX4_print_4 : decode cX4_print 4 = .ok (.iload_n 2, 1) := by decide +kernel
theorem dX4_print_5 : decode cX4_print 5 = .ok (.bipush 40, 2) := by decide +kernel
theorem dX4_print_7 : decode cX4_print 7 = .ok (.if_icmp .le 6, 3) := by decide +kernel
theorem dX4_print_10 : decode cX4_print 10 = .ok (.bipush (-102), 2) := by decide +kernel
theorem dX4_print_12 : decode cX4_print 12 = .ok (.ireturn, 1) := by decide +kernel
theorem dX4_print_13 : decode cX4_print 13 = .ok (.aload_n 0, 1) := by decide +kernel
theorem dX4_print_14 : decode cX4_print 14 = .ok (.getfield 19, 3) := by decide +kernel
theorem dX4_print_17 : decode cX4_print 17 = .ok (.iload_n 1, 1) := by decide +kernel
theorem dX4_print_18 : decode cX4_print 18 = .ok (.i2l, 1) := by decide +kernel
theorem dX4_print_19 : decode cX4_print 19 = .ok (.ldc2_w 36, 3) := by decide +kernel
theorem dX4_print_22 : decode cX4_print 22 = .ok (.land, 1) := by decide +kernel
theorem dX4_print_23 : decode cX4_print 23 = .ok (.iload_n 2, 1) := by decide +kernel
theorem dX4_print_24 : decode cX4_print 24 = .ok (.invokevirtual 55, 3) := by decide +kernel
theorem dX4_print_27 : decode cX4_print 27 = .ok (.ireturn, 1) := by decide +kernel
theorem dX4_at_0 : decode cX4_at 0 = .ok (.aload_n 0, 1) := by decide +kernel
theorem dX4_at_1 : decode cX4_at 1 = .ok (.getfield 19, 3) := by decide +kernel
theorem dX4_at_4 : decode cX4_at 4 = .ok (.iload_n 1, 1) := by decide +kernel
theorem dX4_at_5 : decode cX4_at 5 = .ok (.invokevirtual 59, 3) := by decide +kernel
theorem dX4_at_8 : decode cX4_at 8 = .ok (.ireturn, 1) := by decide +kernel
theorem dX4_set_0 : decode cX4_set 0 = .ok (.iload_n 1, 1) := by decide +kernel
theorem dX4_set_1 : decode cX4_set 1 = .ok (.invokestatic 63, 3) := by decide +kernel
theorem dX4_set_4 : decode cX4_set 4 = .ok (.ifCond .ne 13, 3) := by decide +kernel
theorem dX4_set_7 : decode cX4_set 7 = .ok (.new 67, 3) := by decide +kernel
theorem dX4_set_10 : decode cX4_set 10 = .ok (.dup, 1) := by decide +kernel
theorem dX4_set_11 : decode cX4_set 11 = .ok (.ldc 69, 2) := by decide +kernel
theorem dX4_set_13 : decode cX4_set 13 = .ok (.invokespecial 71, 3) := by decide +kernel
theorem dX4_set_16 : decode cX4_set 16 = .ok (.athrow, 1) := by decide +kernel
theorem dX4_set_17 : decode cX4_set 17 = .ok (.aload_n 0, 1) := by decide +kernel
theorem dX4_set_18 : decode cX4_set 18 = .ok (.getfield 10, 3) := by decide +kernel
theorem dX4_set_21 : decode cX4_set 21 = .ok (.iload_n 1, 1) := by decide +kernel
theorem dX4_set_22 : decode cX4_set 22 = .ok (.iload_n 2, 1) := by decide +kernel
theorem dX4_set_23 : decode cX4_set 23 = .ok (.invokevirtual 72, 3) := by decide +kernel
theorem dX4_set_26 : decode cX4_set 26 = .ok (.ireturn, 1) := by decide +kernel
theorem dX4_word_0 : decode cX4_word 0 = .ok (.iload_n 1, 1) := by decide +kernel
theorem dX4_word_1 : decode cX4_word 1 = .ok (.invokestatic 63, 3) := by decide +kernel
theorem dX4_word_4 : decode cX4_word 4 = .ok (.ifCond .ne 13, 3) := by decide +kernel
theorem dX4_word_7 : decode cX4_word 7 = .ok (.new 67, 3) := by decide +kernel
theorem dX4_word_10 : decode cX4_word 10 = .ok (.dup, 1) := by decide +kernel
theorem dX4_word_11 : decode cX4_word 11 = .ok (.ldc 69, 2) := by decide +kernel
theorem dX4_word_13 : decode cX4_word 13 = .ok (.invokespecial 71, 3) := by decide +kernel
theorem dX4_word_16 : decode cX4_word 16 = .ok (.athrow, 1) := by decide +kernel
theorem dX4_word_17 : decode cX4_word 17 = .ok (.aload_n 0, 1) := by decide +kernel
theorem dX4_word_18 : decode cX4_word 18 = .ok (.getfield 10, 3) := by decide +kernel
theorem dX4_word_21 : decode cX4_word 21 = .ok (.iload_n 1, 1) := by decide +kernel
theorem dX4_word_22 : decode cX4_word 22 = .ok (.invokevirtual 76, 3) := by decide +kernel
theorem dX4_word_25 : decode cX4_word 25 = .ok (.ireturn, 1) := by decide +kernel
theorem dX4_step_0 : decode cX4_step 0 = .ok (.iload_n 1, 1) := by decide +kernel
theorem dX4_step_1 : decode cX4_step 1 = .ok (.iload_n 2, 1) := by decide +kernel
theorem dX4_step_2 : decode cX4_step 2 = .ok (.iload_n 3, 1) := by decide +kernel
theorem dX4_step_3 : decode cX4_step 3 = .ok (.iload 4, 2) := by decide +kernel
theorem dX4_step_5 : decode cX4_step 5 = .ok (.iload 5, 2) := by decide +kernel
theorem dX4_step_7 : decode cX4_step 7 = .ok (.invokestatic 79, 3) := by decide +kernel
theorem dX4_step_10 : decode cX4_step 10 = .ok (.ifCond .ne 6, 3) := by decide +kernel
theorem dX4_step_13 : decode cX4_step 13 = .ok (.bipush (-102), 2) := by decide +kernel
theorem dX4_step_15 : decode cX4_step 15 = .ok (.ireturn, 1) := by decide +kernel
theorem dX4_step_16 : decode cX4_step 16 = .ok (.aload_n 0, 1) := by decide +kernel
theorem dX4_step_17 : decode cX4_step 17 = .ok (.getfield 10, 3) := by decide +kernel
theorem dX4_step_20 : decode cX4_step 20 = .ok (.iload_n 1, 1) := by decide +kernel
theorem dX4_step_21 : decode cX4_step 21 = .ok (.iload_n 2, 1) := by decide +kernel
theorem dX4_step_22 : decode cX4_step 22 = .ok (.iload_n 3, 1) := by decide +kernel
theorem dX4_step_23 : decode cX4_step 23 = .ok (.iload 4, 2) := by decide +kernel
theorem dX4_step_25 : decode cX4_step 25 = .ok (.iload 5, 2) := by decide +kernel
theorem dX4_step_27 : decode cX4_step 27 = .ok (.invokevirtual 83, 3) := by decide +kernel
theorem dX4_step_30 : decode cX4_step 30 = .ok (.ireturn, 1) := by decide +kernel
theorem dX4_drop_0 : decode cX4_drop 0 = .ok (.aload_n 0, 1) := by decide +kernel
theorem dX4_drop_1 : decode cX4_drop 1 = .ok (.getfield 10, 3) := by decide +kernel
theorem dX4_drop_4 : decode cX4_drop 4 = .ok (.invokevirtual 87, 3) := by decide +kernel
theorem dX4_drop_7 : decode cX4_drop 7 = .ok (.ireturn, 1) := by decide +kernel
theorem dX4_run_0 : decode cX4_run 0 = .ok (.iload_n 1, 1) := by decide +kernel
theorem dX4_run_1 : decode cX4_run 1 = .ok (.invokestatic 91, 3) := by decide +kernel
theorem dX4_run_4 : decode cX4_run 4 = .ok (.ifCond .eq 15, 3) := by decide +kernel
theorem dX4_run_7 : decode cX4_run 7 = .ok (.iload_n 2, 1) := by decide +kernel
theorem dX4_run_8 : decode cX4_run 8 = .ok (.iconst 1, 1) := by decide +kernel
theorem dX4_run_9 : decode cX4_run 9 = .ok (.if_icmp .lt 10, 3) := by decide +kernel
theorem dX4_run_12 : decode cX4_run 12 = .ok (.iload_n 2, 1) := by decide +kernel
theorem dX4_run_13 : decode cX4_run 13 = .ok (.sipush 2000, 3) := by decide +kernel
theorem dX4_run_16 : decode cX4_run 16 = .ok (.if_icmp .le 6, 3) := by decide +kernel
theorem dX4_run_19 : decode cX4_run 19 = .ok (.bipush (-102), 2) := by decide +kernel
theorem dX4_run_21 : decode cX4_run 21 = .ok (.ireturn, 1) := by decide +kernel
theorem dX4_run_22 : decode cX4_run 22 = .ok (.iload_n 1, 1) := by decide +kernel
theorem dX4_run_23 : decode cX4_run 23 = .ok (.istore_n 3, 1) := by decide +kernel
theorem dX4_run_24 : decode cX4_run 24 = .ok (.iconst 0, 1) := by decide +kernel
theorem dX4_run_25 : decode cX4_run 25 = .ok (.istore 4, 2) := by decide +kernel
theorem dX4_run_27 : decode cX4_run 27 = .ok (.iload 4, 2) := by decide +kernel
theorem dX4_run_29 : decode cX4_run 29 = .ok (.iload_n 2, 1) := by decide +kernel
theorem dX4_run_30 : decode cX4_run 30 = .ok (.if_icmp .ge 29, 3) := by decide +kernel
theorem dX4_run_33 : decode cX4_run 33 = .ok (.aload_n 0, 1) := by decide +kernel
theorem dX4_run_34 : decode cX4_run 34 = .ok (.getfield 10, 3) := by decide +kernel
theorem dX4_run_37 : decode cX4_run 37 = .ok (.iload_n 3, 1) := by decide +kernel
theorem dX4_run_38 : decode cX4_run 38 = .ok (.invokevirtual 94, 3) := by decide +kernel
theorem dX4_run_41 : decode cX4_run 41 = .ok (.ifCond .eq 18, 3) := by decide +kernel
theorem dX4_run_44 : decode cX4_run 44 = .ok (.aload_n 0, 1) := by decide +kernel
theorem dX4_run_45 : decode cX4_run 45 = .ok (.getfield 10, 3) := by decide +kernel
theorem dX4_run_48 : decode cX4_run 48 = .ok (.iload_n 3, 1) := by decide +kernel
theorem dX4_run_49 : decode cX4_run 49 = .ok (.invokevirtual 97, 3) := by decide +kernel
theorem dX4_run_52 : decode cX4_run 52 = .ok (.istore_n 3, 1) := by decide +kernel
theorem dX4_run_53 : decode cX4_run 53 = .ok (.iinc 4 1, 3) := by decide +kernel
theorem dX4_run_56 : decode cX4_run 56 = .ok (.goto (-29), 3) := by decide +kernel
theorem dX4_run_59 : decode cX4_run 59 = .ok (.aload_n 0, 1) := by decide +kernel
theorem dX4_run_60 : decode cX4_run 60 = .ok (.getfield 10, 3) := by decide +kernel
theorem dX4_run_63 : decode cX4_run 63 = .ok (.iload_n 3, 1) := by decide +kernel
theorem dX4_run_64 : decode cX4_run 64 = .ok (.invokevirtual 100, 3) := by decide +kernel
theorem dX4_run_67 : decode cX4_run 67 = .ok (.iload 4, 2) := by decide +kernel
theorem dX4_run_69 : decode cX4_run 69 = .ok (.ireturn, 1) := by decide +kernel
theorem dX4_next_0 : decode cX4_next 0 = .ok (.aload_n 0, 1) := by decide +kernel
theorem dX4_next_1 : decode cX4_next 1 = .ok (.getfield 10, 3) := by decide +kernel
theorem dX4_next_4 : decode cX4_next 4 = .ok (.getfield 104, 3) := by decide +kernel
theorem dX4_next_7 : decode cX4_next 7 = .ok (.ireturn, 1) := by decide +kernel
theorem dX4_clear_0 : decode cX4_clear 0 = .ok (.aload_n 0, 1) := by decide +kernel
theorem dX4_clear_1 : decode cX4_clear 1 = .ok (.getfield 19, 3) := by decide +kernel
theorem dX4_clear_4 : decode cX4_clear 4 = .ok (.invokevirtual 108, 3) := by decide +kernel
theorem dX4_clear_7 : decode cX4_clear 7 = .ok (.aload_n 0, 1) := by decide +kernel
theorem dX4_clear_8 : decode cX4_clear 8 = .ok (.getfield 10, 3) := by decide +kernel
theorem dX4_clear_11 : decode cX4_clear 11 = .ok (.invokevirtual 111, 3) := by decide +kernel
theorem dX4_clear_14 : decode cX4_clear 14 = .ok (.ireturn, 1) := by decide +kernel
theorem dX5_init_0 : decode cX5_init 0 = .ok (.aload_n 0, 1) := by decide +kernel
theorem dX5_init_1 : decode cX5_init 1 = .ok (.invokespecial 1, 3) := by decide +kernel
theorem dX5_init_4 : decode cX5_init 4 = .ok (.aload_n 0, 1) := by decide +kernel
theorem dX5_init_5 : decode cX5_init 5 = .ok (.bipush 16, 2) := by decide +kernel
theorem dX5_init_7 : decode cX5_init 7 = .ok (.newarray .int, 2) := by decide +kernel
theorem dX5_init_9 : decode cX5_init 9 = .ok (.putfield 7, 3) := by decide +kernel
theorem dX5_init_12 : decode cX5_init 12 = .ok (.aload_n 0, 1) := by decide +kernel
theorem dX5_init_13 : decode cX5_init 13 = .ok (.bipush 40, 2) := by decide +kernel
theorem dX5_init_15 : decode cX5_init 15 = .ok (.newarray .int, 2) := by decide +kernel
theorem dX5_init_17 : decode cX5_init 17 = .ok (.putfield 13, 3) := by decide +kernel
theorem dX5_init_20 : decode cX5_init 20 = .ok (.aload_n 0, 1) := by decide +kernel
theorem dX5_init_21 : decode cX5_init 21 = .ok (.bipush 40, 2) := by decide +kernel
theorem dX5_init_23 : decode cX5_init 23 = .ok (.newarray .int, 2) := by decide +kernel
theorem dX5_init_25 : decode cX5_init 25 = .ok (.putfield 16, 3) := by decide +kernel
theorem dX5_init_28 : decode cX5_init 28 = .ok (.aload_n 0, 1) := by decide +kernel
theorem dX5_init_29 : decode cX5_init 29 = .ok (.bipush 40, 2) := by decide +kernel
theorem dX5_init_31 : decode cX5_init 31 = .ok (.newarray .int, 2) := by decide +kernel
theorem dX5_init_33 : decode cX5_init 33 = .ok (.putfield 19, 3) := by decide +kernel
theorem dX5_init_36 : decode cX5_init 36 = .ok (.aload_n 0, 1) := by decide +kernel
theorem dX5_init_37 : decode cX5_init 37 = .ok (.bipush 40, 2) := by decide +kernel
theorem dX5_init_39 : decode cX5_init 39 = .ok (.newarray .int, 2) := by decide +kernel
theorem dX5_init_41 : decode cX5_init 41 = .ok (.putfield 22, 3) := by decide +kernel
theorem dX5_init_44 : decode cX5_init 44 = .ok (.aload_n 0, 1) := by decide +kernel
theorem dX5_init_45 : decode cX5_init 45 = .ok (.bipush 40, 2) := by decide +kernel
theorem dX5_init_47 : decode cX5_init 47 = .ok (.newarray .int, 2) := by decide +kernel
theorem dX5_init_49 : decode cX5_init 49 = .ok (.putfield 25, 3) := by decide +kernel
theorem dX5_init_52 : decode cX5_init 52 = .ok (.aload_n 0, 1) := by decide +kernel
theorem dX5_init_53 : decode cX5_init 53 = .ok (.bipush (-109), 2) := by decide +kernel
theorem dX5_init_55 : decode cX5_init 55 = .ok (.putfield 28, 3) := by decide +kernel
theorem dX5_init_58 : decode cX5_init 58 = .ok (.aload_n 0, 1) := by decide +kernel
theorem dX5_init_59 : decode cX5_init 59 = .ok (.sipush 290, 3) := by decide +kernel
theorem dX5_init_62 : decode cX5_init 62 = .ok (.newarray .long, 2) := by decide +kernel
theorem dX5_init_64 : decode cX5_init 64 = .ok (.putfield 32, 3) := by decide +kernel
theorem dX5_init_67 : decode cX5_init 67 = .ok (.aload_n 0, 1) := by decide +kernel
theorem dX5_init_68 : decode cX5_init 68 = .ok (.bipush 120, 2) := by decide +kernel
theorem dX5_init_70 : decode cX5_init 70 = .ok (.newarray .byte, 2) := by decide +kernel
theorem dX5_init_72 : decode cX5_init 72 = .ok (.putfield 36, 3) := by decide +kernel
theorem dX5_init_75 : decode cX5_init 75 = .ok (.aload_n 0, 1) := by decide +kernel
theorem dX5_init_76 : decode cX5_init 76 = .ok (.bipush 60, 2) := by decide +kernel
theorem dX5_init_78 : decode cX5_init 78 = .ok (.newarray .int, 2) := by decide +kernel
theorem dX5_init_80 : decode cX5_init 80 = .ok (.putfield 40, 3) := by decide +kernel
theorem dX5_init_83 : decode cX5_init 83 = .ok (.aload_n 0, 1) := by decide +kernel
theorem dX5_init_84 : decode cX5_init 84 = .ok (.bipush 12, 2) := by decide +kernel
theorem dX5_init_86 : decode cX5_init 86 = .ok (.newarray .int, 2) := by decide +kernel
theorem dX5_init_88 : decode cX5_init 88 = .ok (.putfield 43, 3) := by decide +kernel
theorem dX5_init_91 : decode cX5_init 91 = .ok (.return_, 1) := by decide +kernel
theorem dX5_in_0 : decode cX5_in 0 = .ok (.iload_n 0, 1) := by decide +kernel
theorem dX5_in_1 : decode cX5_in 1 = .ok (.iload_n 1, 1) := by decide +kernel
theorem dX5_in_2 : decode cX5_in 2 = .ok (.if_icmp .lt 12, 3) := by decide +kernel
theorem dX5_in_5 : decode cX5_in 5 = .ok (.iload_n 0, 1) := by decide +kernel
theorem dX5_in_6 : decode cX5_in 6 = .ok (.iload_n 2, 1) := by decide +kernel
theorem dX5_in_7 : decode cX5_in 7 = .ok (.if_icmp .gt 7, 3) := by decide +kernel
theorem dX5_in_10 : decode cX5_in 10 = .ok (.iconst 1, 1) := by decide +kernel
theorem dX5_in_11 : decode cX5_in 11 = .ok (.goto 4, 3) := by decide +kernel
theorem dX5_in_14 : decode cX5_in 14 = .ok (.iconst 0, 1) := by decide +kernel
theorem dX5_in_15 : decode cX5_in 15 = .ok (.ireturn, 1) := by decide +kernel
theorem dX5_mantissa_0 : decode cX5_mantissa 0 = .ok (.iload_n 0, 1) := by decide +kernel
theorem dX5_mantissa_1 : decode cX5_mantissa 1 = .ok (.ifCond .eq 8, 3) := by decide +kernel
theorem dX5_mantissa_4 : decode cX5_mantissa 4 = .ok (.bipush 52, 2) := by decide +kernel
theorem dX5_mantissa_6 : decode cX5_mantissa 6 = .ok (.goto 5, 3) := by decide +kernel
theorem dX5_mantissa_9 : decode cX5_mantissa 9 = .ok (.bipush 23, 2) := by decide +kernel
theorem dX5_mantissa_11 : decode cX5_mantissa 11 = .ok (.ireturn, 1) := by decide +kernel
theorem dX5_top_0 : decode cX5_top 0 = .ok (.iload_n 0, 1) := by decide +kernel
theorem dX5_top_1 : decode cX5_top 1 = .ok (.ifCond .eq 9, 3) := by decide +kernel
theorem dX5_top_4 : decode cX5_top 4 = .ok (.sipush 2047, 3) := by decide +kernel
theorem dX5_top_7 : decode cX5_top 7 = .ok (.goto 6, 3) := by decide +kernel
theorem dX5_top_10 : decode cX5_top 10 = .ok (.sipush 255, 3) := by decide +kernel
theorem dX5_top_13 : decode cX5_top 13 = .ok (.ireturn, 1) := by decide +kernel
theorem dX5_bias_0 : decode cX5_bias 0 = .ok (.iload_n 0, 1) := by decide +kernel
theorem dX5_bias_1 : decode cX5_bias 1 = .ok (.ifCond .eq 9, 3) := by decide +kernel
theorem dX5_bias_4 : decode cX5_bias 4 = .ok (.sipush 1023, 3) := by decide +kernel
theorem dX5_bias_7 : decode cX5_bias 7 = .ok (.goto 5, 3) := by decide +kernel
theorem dX5_bias_10 : decode cX5_bias 10 = .ok (.bipush 127, 2) := by decide +kernel
theorem dX5_bias_12 : decode cX5_bias 12 = .ok (.ireturn, 1) := by decide +kernel
theorem dX5_signBit_0 : decode cX5_signBit 0 = .ok (.iload_n 0, 1) := by decide +kernel
theorem dX5_signBit_1 : decode cX5_signBit 1 = .ok (.ifCond .eq 9, 3) := by decide +kernel
theorem dX5_signBit_4 : decode cX5_signBit 4 = .ok (.ldc2_w 46, 3) := by decide +kernel
theorem dX5_signBit_7 : decode cX5_signBit 7 = .ok (.goto 6, 3) := by decide +kernel
theorem dX5_signBit_10 : decode cX5_signBit 10 = .ok (.ldc2_w 48, 3) := by decide +kernel
theorem dX5_signBit_13 : decode cX5_signBit 13 = .ok (.lreturn, 1) := by decide +kernel
theorem dX5_nan_0 : decode cX5_nan 0 = .ok (.iload_n 0, 1) := by decide +kernel
theorem dX5_nan_1 : decode cX5_nan 1 = .ok (.ifCond .eq 9, 3) := by decide +kernel
theorem dX5_nan_4 : decode cX5_nan 4 = .ok (.ldc2_w 50, 3) := by decide +kernel
theorem dX5_nan_7 : decode cX5_nan 7 = .ok (.goto 6, 3) := by decide +kernel
theorem dX5_nan_10 : decode cX5_nan 10 = .ok (.ldc2_w 52, 3) := by decide +kernel
theorem dX5_nan_13 : decode cX5_nan 13 = .ok (.lreturn, 1) := by decide +kernel
theorem dX5_infinite_0 : decode cX5_infinite 0 = .ok (.iload_n 1, 1) := by decide +kernel
theorem dX5_infinite_1 : decode cX5_infinite 1 = .ok (.invokestatic 54, 3) := by decide +kernel
theorem dX5_infinite_4 : decode cX5_infinite 4 = .ok (.i2l, 1) := by decide +kernel
theorem dX5_infinite_5 : decode cX5_infinite 5 = .ok (.iload_n 1, 1) := by decide +kernel
theorem dX5_infinite_6 : decode cX5_infinite 6 = .ok (.invokestatic 58, 3) := by decide +kernel
theorem dX5_infinite_9 : decode cX5_infinite 9 = .ok (.lshl, 1) := by decide +kernel
theorem dX5_infinite_10 : decode cX5_infinite 10 = .ok (.iload_n 0, 1) := by decide +kernel
theorem dX5_infinite_11 : decode cX5_infinite 11 = .ok (.ifCond .eq 10, 3) := by decide +kernel
theorem dX5_infinite_14 : decode cX5_infinite 14 = .ok (.iload_n 1, 1) := by decide +kernel
theorem dX5_infinite_15 : decode cX5_infinite 15 = .ok (.invokestatic 61, 3) := by decide +kernel
theorem dX5_infinite_18 : decode cX5_infinite 18 = .ok (.goto 4, 3) := by decide +kernel
theorem dX5_infinite_21 : decode cX5_infinite 21 = .ok (.lconst 0, 1) := by decide +kernel
theorem dX5_infinite_22 : decode cX5_infinite 22 = .ok (.lor, 1) := by decide +kernel
theorem dX5_infinite_23 : decode cX5_infinite 23 = .ok (.lreturn, 1) := by decide +kernel
theorem dX5_isNegative_0 : decode cX5_isNegative 0 = .ok (.lload_n 0, 1) := by decide +kernel
theorem dX5_isNegative_1 : decode cX5_isNegative 1 = .ok (.iload_n 2, 1) := by decide +kernel
theorem dX5_isNegative_2 : decode cX5_isNegative 2 = .ok (.invokestatic 61, 3) := by decide +kernel
theorem dX5_isNegative_5 : decode cX5_isNegative 5 = .ok (.land, 1) := by decide +kernel
theorem dX5_isNegative_6 : decode cX5_isNegative 6 = .ok (.lconst 0, 1) := by decide +kernel
theorem dX5_isNegative_7 : decode cX5_isNegative 7 = .ok (.lcmp, 1) := by decide +kernel
theorem dX5_isNegative_8 : decode cX5_isNegative 8 = .ok (.ifCond .eq 7, 3) := by decide +kernel
theorem dX5_isNegative_11 : decode cX5_isNegative 11 = .ok (.iconst 1, 1) := by decide +kernel
theorem dX5_isNegative_12 : decode cX5_isNegative 12 = .ok (.goto 4, 3) := by decide +kernel
theorem dX5_isNegative_15 : decode cX5_isNegative 15 = .ok (.iconst 0, 1) := by decide +kernel
theorem dX5_isNegative_16 : decode cX5_isNegative 16 = .ok (.ireturn, 1) := by decide +kernel
theorem dX5_size_0 : decode cX5_size 0 = .ok (.lload_n 0, 1) := by decide +kernel
theorem dX5_size_1 : decode cX5_size 1 = .ok (.iload_n 2, 1) := by decide +kernel
theorem dX5_size_2 : decode cX5_size 2 = .ok (.invokestatic 61, 3) := by decide +kernel
theorem dX5_size_5 : decode cX5_size 5 = .ok (.ldc2_w 65, 3) := by decide +kernel
theorem dX5_size_8 : decode cX5_size 8 = .ok (.lxor, 1) := by decide +kernel
theorem dX5_size_9 : decode cX5_size 9 = .ok (.land, 1) := by decide +kernel
theorem dX5_size_10 : decode cX5_size 10 = .ok (.lreturn, 1) := by decide +kernel
theorem dX5_isNan_0 : decode cX5_isNan 0 = .ok (.lload_n 0, 1) := by decide +kernel
theorem dX5_isNan_1 : decode cX5_isNan 1 = .ok (.iload_n 2, 1) := by decide +kernel
theorem dX5_isNan_2 : decode cX5_isNan 2 = .ok (.invokestatic 67, 3) := by decide +kernel
theorem dX5_isNan_5 : decode cX5_isNan 5 = .ok (.iconst 0, 1) := by decide +kernel
theorem dX5_isNan_6 : decode cX5_isNan 6 = .ok (.iload_n 2, 1) := by decide +kernel
theorem dX5_isNan_7 : decode cX5_isNan 7 = .ok (.invokestatic 71, 3) := by decide +kernel
theorem dX5_isNan_10 : decode cX5_isNan 10 = .ok (.lcmp, 1) := by decide +kernel
theorem dX5_isNan_11 : decode cX5_isNan 11 = .ok (.ifCond .le 7, 3) := by decide +kernel
theorem dX5_isNan_14 : decode cX5_isNan 14 = .ok (.iconst 1, 1) := by decide +kernel
theorem dX5_isNan_15 : decode cX5_isNan 15 = .ok (.goto 4, 3) := by decide +kernel
theorem dX5_isNan_18 : decode cX5_isNan 18 = .ok (.iconst 0, 1) := by decide +kernel
theorem dX5_isNan_19 : decode cX5_isNan 19 = .ok (.ireturn, 1) := by decide +kernel
theorem dX5_isInfinite_0 : decode cX5_isInfinite 0 = .ok (.lload_n 0, 1) := by decide +kernel
theorem dX5_isInfinite_1 : decode cX5_isInfinite 1 = .ok (.iload_n 2, 1) := by decide +kernel
theorem dX5_isInfinite_2 : decode cX5_isInfinite 2 = .ok (.invokestatic 67, 3) := by decide +kernel
theorem dX5_isInfinite_5 : decode cX5_isInfinite 5 = .ok (.iconst 0, 1) := by decide +kernel
theorem dX5_isInfinite_6 : decode cX5_isInfinite 6 = .ok (.iload_n 2, 1) := by decide +kernel
theorem dX5_isInfinite_7 : decode cX5_isInfinite 7 = .ok (.invokestatic 71, 3) := by decide +kernel
theorem dX5_isInfinite_10 : decode cX5_isInfinite 10 = .ok (.lcmp, 1) := by decide +kernel
theorem dX5_isInfinite_11 : decode cX5_isInfinite 11 = .ok (.ifCond .ne 7, 3) := by decide +kernel
theorem dX5_isInfinite_14 : decode cX5_isInfinite 14 = .ok (.iconst 1, 1) := by decide +kernel
theorem dX5_isInfinite_15 : decode cX5_isInfinite 15 = .ok (.goto 4, 3) := by decide +kernel
theorem dX5_isInfinite_18 : decode cX5_isInfinite 18 = .ok (.iconst 0, 1) := by decide +kernel
theorem dX5_isInfinite_19 : decode cX5_isInfinite 19 = .ok (.ireturn, 1) := by decide +kernel
theorem dX5_isZero_0 : decode cX5_isZero 0 = .ok (.lload_n 0, 1) := by decide +kernel
theorem dX5_isZero_1 : decode cX5_isZero 1 = .ok (.iload_n 2, 1) := by decide +kernel
theorem dX5_isZero_2 : decode cX5_isZero 2 = .ok (.invokestatic 67, 3) := by decide +kernel
theorem dX5_isZero_5 : decode cX5_isZero 5 = .ok (.lconst 0, 1) := by decide +kernel
theorem dX5_isZero_6 : decode cX5_isZero 6 = .ok (.lcmp, 1) := by decide +kernel
theorem dX5_isZero_7 : decode cX5_isZero 7 = .ok (.ifCond .ne 7, 3) := by decide +kernel
theorem dX5_isZero_10 : decode cX5_isZero 10 = .ok (.iconst 1, 1) := by decide +kernel
theorem dX5_isZero_11 : decode cX5_isZero 11 = .ok (.goto 4, 3) := by decide +kernel
theorem dX5_isZero_14 : decode cX5_isZero 14 = .ok (.iconst 0, 1) := by decide +kernel
theorem dX5_isZero_15 : decode cX5_isZero 15 = .ok (.ireturn, 1) := by decide +kernel
theorem dX5_exponentBits_0 : decode cX5_exponentBits 0 = .ok (.lload_n 0, 1) := by decide +kernel
theorem dX5_exponentBits_1 : decode cX5_exponentBits 1 = .ok (.iload_n 2, 1) := by decide +kernel
theorem dX5_exponentBits_2 : decode cX5_exponentBits 2 = .ok (.invokestatic 67, 3) := by decide +kernel
theorem dX5_exponentBits_5 : decode cX5_exponentBits 5 = .ok (.iload_n 2, 1) := by decide +kernel
theorem dX5_exponentBits_6 : decode cX5_exponentBits 6 = .ok (.invokestatic 58, 3) := by decide +kernel
theorem dX5_exponentBits_9 : decode cX5_exponentBits 9 = .ok (.lushr, 1) := by decide +kernel
theorem dX5_exponentBits_10 : decode cX5_exponentBits 10 = .ok (.l2i, 1) := by decide +kernel
theorem dX5_exponentBits_11 : decode cX5_exponentBits 11 = .ok (.ireturn, 1) := by decide +kernel
theorem dX5_digitsOf_0 : decode cX5_digitsOf 0 = .ok (.lload_n 0, 1) := by decide +kernel
theorem dX5_digitsOf_1 : decode cX5_digitsOf 1 = .ok (.iload_n 2, 1) := by decide +kernel
theorem dX5_digitsOf_2 : decode cX5_digitsOf 2 = .ok (.invokestatic 67, 3) := by decide +kernel
theorem dX5_digitsOf_5 : decode cX5_digitsOf 5 = .ok (.lconst 1, 1) := by decide +kernel
theorem dX5_digitsOf_6 : decode cX5_digitsOf 6 = .ok (.iload_n 2, 1) := by decide +kernel
theorem dX5_digitsOf_7 : decode cX5_digitsOf 7 = .ok (.invokestatic 58, 3) := by decide +kernel
theorem dX5_digitsOf_10 : decode cX5_digitsOf 10 = .ok (.lshl, 1) := by decide +kernel
theorem dX5_digitsOf_11 : decode cX5_digitsOf 11 = .ok (.lconst 1, 1) := by decide +kernel
theorem dX5_digitsOf_12 : decode cX5_digitsOf 12 = .ok (.lsub, 1) := by decide +kernel
theorem dX5_digitsOf_13 : decode cX5_digitsOf 13 = .ok (.land, 1) := by decide +kernel
theorem dX5_digitsOf_14 : decode cX5_digitsOf 14 = .ok (.lstore_n 3, 1) := by decide +kernel
theorem dX5_digitsOf_15 : decode cX5_digitsOf 15 = .ok (.lload_n 0, 1) := by decide +kernel
theorem dX5_digitsOf_16 : decode cX5_digitsOf 16 = .ok (.iload_n 2, 1) := by decide +kernel
theorem dX5_digitsOf_17 : decode cX5_digitsOf 17 = .ok (.invokestatic 75, 3) := by decide +kernel
theorem dX5_digitsOf_20 : decode cX5_digitsOf 20 = .ok (.ifCond .ne 7, 3) := by decide +kernel
theorem dX5_digitsOf_23 : decode cX5_digitsOf 23 = .ok (.lload_n 3, 1) := by decide +kernel
theorem dX5_digitsOf_24 : decode cX5_digitsOf 24 = .ok (.goto 11, 3) := by decide +kernel
theorem dX5_digitsOf_27 : decode cX5_digitsOf 27 = .ok (.lload_n 3, 1) := by decide +kernel
theorem dX5_digitsOf_28 : decode cX5_digitsOf 28 = .ok (.lconst 1, 1) := by decide +kernel
theorem dX5_digitsOf_29 : decode cX5_digitsOf 29 = .ok (.iload_n 2, 1) := by decide +kernel
theorem dX5_digitsOf_30 : decode cX5_digitsOf 30 = .ok (.invokestatic 58, 3) := by decide +kernel
theorem dX5_digitsOf_33 : decode cX5_digitsOf 33 = .ok (.lshl, 1) := by decide +kernel
theorem dX5_digitsOf_34 : decode cX5_digitsOf 34 = .ok (.lor, 1) := by decide +kernel
theorem dX5_digitsOf_35 : decode cX5_digitsOf 35 = .ok (.lreturn, 1) := by decide +kernel
theorem dX5_exponentOf_0 : decode cX5_exponentOf 0 = .ok (.lload_n 0, 1) := by decide +kernel
theorem dX5_exponentOf_1 : decode cX5_exponentOf 1 = .ok (.iload_n 2, 1) := by decide +kernel
theorem dX5_exponentOf_2 : decode cX5_exponentOf 2 = .ok (.invokestatic 75, 3) := by decide +kernel
theorem dX5_exponentOf_5 : decode cX5_exponentOf 5 = .ok (.istore_n 3, 1) := by decide +kernel
theorem dX5_exponentOf_6 : decode cX5_exponentOf 6 = .ok (.iload_n 3, 1) := by decide +kernel
theorem dX5_exponentOf_7 : decode cX5_exponentOf 7 = .ok (.ifCond .ne 7, 3) := by decide +kernel
theorem dX5_exponentOf_10 : decode cX5_exponentOf 10 = .ok (.iconst 1, 1) := by decide +kernel
theorem dX5_exponentOf_11 : decode cX5_exponentOf 11 = .ok (.goto 4, 3) := by decide +kernel
theorem dX5_exponentOf_14 : decode cX5_exponentOf 14 = .ok (.iload_n 3, 1) := by decide +kernel
theorem dX5_exponentOf_15 : decode cX5_exponentOf 15 = .ok (.iload_n 2, 1) := by decide +kernel
theorem dX5_exponentOf_16 : decode cX5_exponentOf 16 = .ok (.invokestatic 79, 3) := by decide +kernel
theorem dX5_exponentOf_19 : decode cX5_exponentOf 19 = .ok (.isub, 1) := by decide +kernel
theorem dX5_exponentOf_20 : decode cX5_exponentOf 20 = .ok (.iload_n 2, 1) := by decide +kernel
theorem dX5_exponentOf_21 : decode cX5_exponentOf 21 = .ok (.invokestatic 58, 3) := by decide +kernel
theorem dX5_exponentOf_24 : decode cX5_exponentOf 24 = .ok (.isub, 1) := by decide +kernel
theorem dX5_exponentOf_25 : decode cX5_exponentOf 25 = .ok (.ireturn, 1) := by decide +kernel
theorem dX5_bitsOf_0 : decode cX5_bitsOf 0 = .ok (.iconst 0, 1) := by decide +kernel
theorem dX5_bitsOf_1 : decode cX5_bitsOf 1 = .ok (.istore_n 2, 1) := by decide +kernel
theorem dX5_bitsOf_2 : decode cX5_bitsOf 2 = .ok (.iload_n 2, 1) := by decide +kernel
theorem dX5_bitsOf_3 : decode cX5_bitsOf 3 = .ok (.bipush 63, 2) := by decide +kernel
theorem dX5_bitsOf_5 : decode cX5_bitsOf 5 = .ok (.if_icmp .ge 17, 3) := by decide +kernel
theorem dX5_bitsOf_8 : decode cX5_bitsOf 8 = .ok (.lload_n 0, 1) := by decide +kernel
theorem dX5_bitsOf_9 : decode cX5_bitsOf 9 = .ok (.iload_n 2, 1) := by decide +kernel
theorem dX5_bitsOf_10 : decode cX5_bitsOf 10 = .ok (.lushr, 1) := by decide +kernel
theorem dX5_bitsOf_11 : decode cX5_bitsOf 11 = .ok (.lconst 0, 1) := by decide +kernel
theorem dX5_bitsOf_12 : decode cX5_bitsOf 12 = .ok (.lcmp, 1) := by decide +kernel
theorem dX5_bitsOf_13 : decode cX5_bitsOf 13 = .ok (.ifCond .eq 9, 3) := by decide +kernel
theorem dX5_bitsOf_16 : decode cX5_bitsOf 16 = .ok (.iinc 2 1, 3) := by decide +kernel
theorem dX5_bitsOf_19 : decode cX5_bitsOf 19 = .ok (.goto (-17), 3) := by decide +kernel
theorem dX5_bitsOf_22 : decode cX5_bitsOf 22 = .ok (.iload_n 2, 1) := by decide +kernel
theorem dX5_bitsOf_23 : decode cX5_bitsOf 23 = .ok (.ireturn, 1) := by decide +kernel
theorem dX5_rounded_0 : decode cX5_rounded 0 = .ok (.iload_n 0, 1) := by decide +kernel
theorem dX5_rounded_1 : decode cX5_rounded 1 = .ok (.ifCond .eq 11, 3) := by decide +kernel
theorem dX5_rounded_4 : decode cX5_rounded 4 = .ok (.iload 5, 2) := by decide +kernel
theorem dX5_rounded_6 : decode cX5_rounded 6 = .ok (.invokestatic 61, 3) := by decide +kernel
theorem dX5_rounded_9 : decode cX5_rounded 9 = .ok (.goto 4, 3) := by decide +kernel
theorem dX5_rounded_12 : decode cX5_rounded 12 = .ok (.lconst 0, 1) := by decide +kernel
theorem dX5_rounded_13 : decode cX5_rounded 13 = .ok (.lstore 6, 2) := by decide +kernel
theorem dX5_rounded_15 : decode cX5_rounded 15 = .ok (.lload_n 1, 1) := by decide +kernel
theorem dX5_rounded_16 : decode cX5_rounded 16 = .ok (.lconst 0, 1) := by decide +kernel
theorem dX5_rounded_17 : decode cX5_rounded 17 = .ok (.lcmp, 1) := by decide +kernel
theorem dX5_rounded_18 : decode cX5_rounded 18 = .ok (.ifCond .ne 6, 3) := by decide +kernel
theorem dX5_rounded_21 : decode cX5_rounded 21 = .ok (.lload 6, 2) := by decide +kernel
theorem dX5_rounded_23 : decode cX5_rounded 23 = .ok (.lreturn, 1) := by decide +kernel
theorem dX5_rounded_24 : decode cX5_rounded 24 = .ok (.iload 5, 2) := by decide +kernel
theorem dX5_rounded_26 : decode cX5_rounded 26 = .ok (.invokestatic 58, 3) := by decide +kernel
theorem dX5_rounded_29 : decode cX5_rounded 29 = .ok (.iconst 1, 1) := by decide +kernel
theorem dX5_rounded_30 : decode cX5_rounded 30 = .ok (.iadd, 1) := by decide +kernel
theorem dX5_rounded_31 : decode cX5_rounded 31 = .ok (.istore 8, 2) := by decide +kernel
theorem dX5_rounded_33 : decode cX5_rounded 33 = .ok (.iconst 1, 1) := by decide +kernel
theorem dX5_rounded_34 : decode cX5_rounded 34 = .ok (.iload 5, 2) := by decide +kernel
theorem dX5_rounded_36 : decode cX5_rounded 36 = .ok (.invokestatic 79, 3) := by decide +kernel
theorem dX5_rounded_39 : decode cX5_rounded 39 = .ok (.isub, 1) := by decide +kernel
theorem dX5_rounded_40 : decode cX5_rounded 40 = .ok (.iload 5, 2) := by decide +kernel
theorem dX5_rounded_42 : decode cX5_rounded 42 = .ok (.invokestatic 58, 3) := by decide +kernel
theorem dX5_rounded_45 : decode cX5_rounded 45 = .ok (.isub, 1) := by decide +kernel
theorem dX5_rounded_46 : decode cX5_rounded 46 = .ok (.istore 9, 2) := by decide +kernel
theorem dX5_rounded_48 : decode cX5_rounded 48 = .ok (.lload_n 1, 1) := by decide +kernel
theorem dX5_rounded_49 : decode cX5_rounded 49 = .ok (.invokestatic 82, 3) := by decide +kernel
theorem dX5_rounded_52 : decode cX5_rounded 52 = .ok (.iload 8, 2) := by decide +kernel
theorem dX5_rounded_54 : decode cX5_rounded 54 = .ok (.isub, 1) := by decide +kernel
theorem dX5_rounded_55 : decode cX5_rounded 55 = .ok (.istore 10, 2) := by decide +kernel
theorem dX5_rounded_57 : decode cX5_rounded 57 = .ok (.iload_n 3, 1) := by decide +kernel
theorem dX5_rounded_58 : decode cX5_rounded 58 = .ok (.iload 10, 2) := by decide +kernel
theorem dX5_rounded_60 : decode cX5_rounded 60 = .ok (.iadd, 1) := by decide +kernel
theorem dX5_rounded_61 : decode cX5_rounded 61 = .ok (.iload 9, 2) := by decide +kernel
theorem dX5_rounded_63 : decode cX5_rounded 63 = .ok (.if_icmp .ge 10, 3) := by decide +kernel
theorem dX5_rounded_66 : decode cX5_rounded 66 = .ok (.iload 9, 2) := by decide +kernel
theorem dX5_rounded_68 : decode cX5_rounded 68 = .ok (.iload_n 3, 1) := by decide +kernel
theorem dX5_rounded_69 : decode cX5_rounded 69 = .ok (.isub, 1) := by decide +kernel
theorem dX5_rounded_70 : decode cX5_rounded 70 = .ok (.goto 5, 3) := by decide +kernel
theorem dX5_rounded_73 : decode cX5_rounded 73 = .ok (.iload 10, 2) := by decide +kernel
theorem dX5_rounded_75 : decode cX5_rounded 75 = .ok (.istore 10, 2) := by decide +kernel
theorem dX5_rounded_77 : decode cX5_rounded 77 = .ok (.lload_n 1, 1) := by decide +kernel
theorem dX5_rounded_78 : decode cX5_rounded 78 = .ok (.lstore 11, 2) := by decide +kernel
theorem dX5_rounded_80 : decode cX5_rounded 80 = .ok (.iload_n 3, 1) := by decide +kernel
theorem dX5_rounded_81 : decode cX5_rounded 81 = .ok (.istore 13, 2) := by decide +kernel
theorem dX5_rounded_83 : decode cX5_rounded 83 = .ok (.iload 10, 2) := by decide +kernel
theorem dX5_rounded_85 : decode cX5_rounded 85 = .ok (.ifCond .le 134, 3) := by decide +kernel
theorem dX5_rounded_88 : decode cX5_rounded 88 = .ok (.iload 10, 2) := by decide +kernel
theorem dX5_rounded_90 : decode cX5_rounded 90 = .ok (.bipush 62, 2) := by decide +kernel
theorem dX5_rounded_92 : decode cX5_rounded 92 = .ok (.if_icmp .le 7, 3) := by decide +kernel
theorem dX5_rounded_95 : decode cX5_rounded 95 = .ok (.iconst 1, 1) := by decide +kernel
theorem dX5_rounded_96 : decode cX5_rounded 96 = .ok (.goto 4, 3) := by decide +kernel
theorem dX5_rounded_99 : decode cX5_rounded 99 = .ok (.iconst 0, 1) := by decide +kernel
theorem dX5_rounded_100 : decode cX5_rounded 100 = .ok (.istore 14, 2) := by decide +kernel
theorem dX5_rounded_102 : decode cX5_rounded 102 = .ok (.iload 14, 2) := by decide +kernel
theorem dX5_rounded_104 : decode cX5_rounded 104 = .ok (.ifCond .eq 7, 3) := by decide +kernel
theorem dX5_rounded_107 : decode cX5_rounded 107 = .ok (.lconst 0, 1) := by decide +kernel
theorem dX5_rounded_108 : decode cX5_rounded 108 = .ok (.goto 7, 3) := by decide +kernel
theorem dX5_rounded_111 : decode cX5_rounded 111 = .ok (.lload_n 1, 1) := by decide +kernel
theorem dX5_rounded_112 : decode cX5_rounded 112 = .ok (.iload 10, 2) := by decide +kernel
theorem dX5_rounded_114 : decode cX5_rounded 114 = .ok (.lushr, 1) := by decide +kernel
theorem dX5_rounded_115 : decode cX5_rounded 115 = .ok (.lstore 11, 2) := by decide +kernel
theorem dX5_rounded_117 : decode cX5_rounded 117 = .ok (.iload 14, 2) := by decide +kernel
theorem dX5_rounded_119 : decode cX5_rounded 119 = .ok (.ifCond .eq 7, 3) := by decide +kernel
theorem dX5_rounded_122 : decode cX5_rounded 122 = .ok (.lload_n 1, 1) := by decide +kernel
theorem dX5_rounded_123 : decode cX5_rounded 123 = .ok (.goto 11, 3) := by decide +kernel
theorem dX5_rounded_126 : decode cX5_rounded 126 = .ok (.lload_n 1, 1) := by decide +kernel
theorem dX5_rounded_127 : decode cX5_rounded 127 = .ok (.lconst 1, 1) := by decide +kernel
theorem dX5_rounded_128 : decode cX5_rounded 128 = .ok (.iload 10, 2) := by decide +kernel
theorem dX5_rounded_130 : decode cX5_rounded 130 = .ok (.lshl, 1) := by decide +kernel
theorem dX5_rounded_131 : decode cX5_rounded 131 = .ok (.lconst 1, 1) := by decide +kernel
theorem dX5_rounded_132 : decode cX5_rounded 132 = .ok (.lsub, 1) := by decide +kernel
theorem dX5_rounded_133 : decode cX5_rounded 133 = .ok (.land, 1) := by decide +kernel
theorem dX5_rounded_134 : decode cX5_rounded 134 = .ok (.lstore 15, 2) := by decide +kernel
theorem dX5_rounded_136 : decode cX5_rounded 136 = .ok (.iload 14, 2) := by decide +kernel
theorem dX5_rounded_138 : decode cX5_rounded 138 = .ok (.ifCond .eq 7, 3) := by decide +kernel
theorem dX5_rounded_141 : decode cX5_rounded 141 = .ok (.lconst 0, 1) := by decide +kernel
theorem dX5_rounded_142 : decode cX5_rounded 142 = .ok (.goto 9, 3) := by decide +kernel
theorem dX5_rounded_145 : decode cX5_rounded 145 = .ok (.lconst 1, 1) := by decide +kernel
theorem dX5_rounded_146 : decode cX5_rounded 146 = .ok (.iload 10, 2) := by decide +kernel
theorem dX5_rounded_148 : decode cX5_rounded 148 = .ok (.iconst 1, 1) := by decide +kernel
theorem dX5_rounded_149 : decode cX5_rounded 149 = .ok (.isub, 1) := by decide +kernel
theorem dX5_rounded_150 : decode cX5_rounded 150 = .ok (.lshl, 1) := by decide +kernel
theorem dX5_rounded_151 : decode cX5_rounded 151 = .ok (.lstore 17, 2) := by decide +kernel
theorem dX5_rounded_153 : decode cX5_rounded 153 = .ok (.iload 14, 2) := by decide +kernel
theorem dX5_rounded_155 : decode cX5_rounded 155 = .ok (.ifCond .ne 37, 3) := by decide +kernel
theorem dX5_rounded_158 : decode cX5_rounded 158 = .ok (.lload 15, 2) := by decide +kernel
theorem dX5_rounded_160 : decode cX5_rounded 160 = .ok (.lload 17, 2) := by decide +kernel
theorem dX5_rounded_162 : decode cX5_rounded 162 = .ok (.lcmp, 1) := by decide +kernel
theorem dX5_rounded_163 : decode cX5_rounded 163 = .ok (.ifCond .gt 25, 3) := by decide +kernel
theorem dX5_rounded_166 : decode cX5_rounded 166 = .ok (.lload 15, 2) := by decide +kernel
theorem dX5_rounded_168 : decode cX5_rounded 168 = .ok (.lload 17, 2) := by decide +kernel
theorem dX5_rounded_170 : decode cX5_rounded 170 = .ok (.lcmp, 1) := by decide +kernel
theorem dX5_rounded_171 : decode cX5_rounded 171 = .ok (.ifCond .ne 21, 3) := by decide +kernel
theorem dX5_rounded_174 : decode cX5_rounded 174 = .ok (.iload 4, 2) := by decide +kernel
theorem dX5_rounded_176 : decode cX5_rounded 176 = .ok (.ifCond .ne 12, 3) := by decide +kernel
theorem dX5_rounded_179 : decode cX5_rounded 179 = .ok (.lload 11, 2) := by decide +kernel
theorem dX5_rounded_181 : decode cX5_rounded 181 = .ok (.lconst 1, 1) := by decide +kernel
theorem dX5_rounded_182 : decode cX5_rounded 182 = .ok (.land, 1) := by decide +kernel
theorem dX5_rounded_183 : decode cX5_rounded 183 = .ok (.lconst 1, 1) := by decide +kernel
theorem dX5_rounded_184 : decode cX5_rounded 184 = .ok (.lcmp, 1) := by decide +kernel
theorem dX5_rounded_185 : decode cX5_rounded 185 = .ok (.ifCond .ne 7, 3) := by decide +kernel
theorem dX5_rounded_188 : decode cX5_rounded 188 = .ok (.iconst 1, 1) := by decide +kernel
theorem dX5_rounded_189 : decode cX5_rounded 189 = .ok (.goto 4, 3) := by decide +kernel
theorem dX5_rounded_192 : decode cX5_rounded 192 = .ok (.iconst 0, 1) := by decide +kernel
theorem dX5_rounded_193 : decode cX5_rounded 193 = .ok (.istore 19, 2) := by decide +kernel
theorem dX5_rounded_195 : decode cX5_rounded 195 = .ok (.lload 11, 2) := by decide +kernel
theorem dX5_rounded_197 : decode cX5_rounded 197 = .ok (.iload 19, 2) := by decide +kernel
theorem dX5_rounded_199 : decode cX5_rounded 199 = .ok (.ifCond .eq 7, 3) := by decide +kernel
theorem dX5_rounded_202 : decode cX5_rounded 202 = .ok (.lconst 1, 1) := by decide +kernel
theorem dX5_rounded_203 : decode cX5_rounded 203 = .ok (.goto 4, 3) := by decide +kernel
theorem dX5_rounded_206 : decode cX5_rounded 206 = .ok (.lconst 0, 1) := by decide +kernel
theorem dX5_rounded_207 : decode cX5_rounded 207 = .ok (.ladd, 1) := by decide +kernel
theorem dX5_rounded_208 : decode cX5_rounded 208 = .ok (.lstore 11, 2) := by decide +kernel
theorem dX5_rounded_210 : decode cX5_rounded 210 = .ok (.iload_n 3, 1) := by decide +kernel
theorem dX5_rounded_211 : decode cX5_rounded 211 = .ok (.iload 10, 2) := by decide +kernel
theorem dX5_rounded_213 : decode cX5_rounded 213 = .ok (.iadd, 1) := by decide +kernel
theorem dX5_rounded_214 : decode cX5_rounded 214 = .ok (.istore 13, 2) := by decide +kernel
theorem dX5_rounded_216 : decode cX5_rounded 216 = .ok (.goto 16, 3) := by decide +kernel
theorem dX5_rounded_219 : decode cX5_rounded 219 = .ok (.lload_n 1, 1) := by decide +kernel
theorem dX5_rounded_220 : decode cX5_rounded 220 = .ok (.iload 10, 2) := by decide +kernel
theorem dX5_rounded_222 : decode cX5_rounded 222 = .ok (.ineg, 1) := by decide +kernel
theorem dX5_rounded_223 : decode cX5_rounded 223 = .ok (.lshl, 1) := by decide +kernel
theorem dX5_rounded_224 : decode cX5_rounded 224 = .ok (.lstore 11, 2) := by decide +kernel
theorem dX5_rounded_226 : decode cX5_rounded 226 = .ok (.iload_n 3, 1) := by decide +kernel
theorem dX5_rounded_227 : decode cX5_rounded 227 = .ok (.iload 10, 2) := by decide +kernel
theorem dX5_rounded_229 : decode cX5_rounded 229 = .ok (.iadd, 1) := by decide +kernel
theorem dX5_rounded_230 : decode cX5_rounded 230 = .ok (.istore 13, 2) := by decide +kernel
theorem dX5_rounded_232 : decode cX5_rounded 232 = .ok (.lload 11, 2) := by decide +kernel
theorem dX5_rounded_234 : decode cX5_rounded 234 = .ok (.lconst 1, 1) := by decide +kernel
theorem dX5_rounded_235 : decode cX5_rounded 235 = .ok (.iload 8, 2) := by decide +kernel
theorem dX5_rounded_237 : decode cX5_rounded 237 = .ok (.lshl, 1) := by decide +kernel
theorem dX5_rounded_238 : decode cX5_rounded 238 = .ok (.lcmp, 1) := by decide +kernel
theorem dX5_rounded_239 : decode cX5_rounded 239 = .ok (.ifCond .ne 12, 3) := by decide +kernel
theorem dX5_rounded_242 : decode cX5_rounded 242 = .ok (.lload 11, 2) := by decide +kernel
theorem dX5_rounded_244 : decode cX5_rounded 244 = .ok (.iconst 1, 1) := by decide +kernel
theorem dX5_rounded_245 : decode cX5_rounded 245 = .ok (.lushr, 1) := by decide +kernel
theorem dX5_rounded_246 : decode cX5_rounded 246 = .ok (.lstore 11, 2) := by decide +kernel
theorem dX5_rounded_248 : decode cX5_rounded 248 = .ok (.iinc 13 1, 3) := by decide +kernel
theorem dX5_rounded_251 : decode cX5_rounded 251 = .ok (.lload 11, 2) := by decide +kernel
theorem dX5_rounded_253 : decode cX5_rounded 253 = .ok (.lconst 1, 1) := by decide +kernel
theorem dX5_rounded_254 : decode cX5_rounded 254 = .ok (.iload 5, 2) := by decide +kernel
theorem dX5_rounded_256 : decode cX5_rounded 256 = .ok (.invokestatic 58, 3) := by decide +kernel
theorem dX5_rounded_259 : decode cX5_rounded 259 = .ok (.lshl, 1) := by decide +kernel
theorem dX5_rounded_260 : decode cX5_rounded 260 = .ok (.lcmp, 1) := by decide +kernel
theorem dX5_rounded_261 : decode cX5_rounded 261 = .ok (.ifCond .ge 9, 3) := by decide +kernel
theorem dX5_rounded_264 : decode cX5_rounded 264 = .ok (.lload 6, 2) := by decide +kernel
theorem dX5_rounded_266 : decode cX5_rounded 266 = .ok (.lload 11, 2) := by decide +kernel
theorem dX5_rounded_268 : decode cX5_rounded 268 = .ok (.lor, 1) := by decide +kernel
theorem dX5_rounded_269 : decode cX5_rounded 269 = .ok (.lreturn, 1) := by decide +kernel
theorem dX5_rounded_270 : decode cX5_rounded 270 = .ok (.iload 13, 2) := by decide +kernel
theorem dX5_rounded_272 : decode cX5_rounded 272 = .ok (.iload 5, 2) := by decide +kernel
theorem dX5_rounded_274 : decode cX5_rounded 274 = .ok (.invokestatic 79, 3) := by decide +kernel
theorem dX5_rounded_277 : decode cX5_rounded 277 = .ok (.iadd, 1) := by decide +kernel
theorem dX5_rounded_278 : decode cX5_rounded 278 = .ok (.iload 5, 2) := by decide +kernel
theorem dX5_rounded_280 : decode cX5_rounded 280 = .ok (.invokestatic 58, 3) := by decide +kernel
theorem dX5_rounded_283 : decode cX5_rounded 283 = .ok (.iadd, 1) := by decide +kernel
theorem dX5_rounded_284 : decode cX5_rounded 284 = .ok (.istore 14, 2) := by decide +kernel
theorem dX5_rounded_286 : decode cX5_rounded 286 = .ok (.iload 14, 2) := by decide +kernel
theorem dX5_rounded_288 : decode cX5_rounded 288 = .ok (.iload 5, 2) := by decide +kernel
theorem dX5_rounded_290 : decode cX5_rounded 290 = .ok (.invokestatic 54, 3) := by decide +kernel
theorem dX5_rounded_293 : decode cX5_rounded 293 = .ok (.if_icmp .lt 15, 3) := by decide +kernel
theorem dX5_rounded_296 : decode cX5_rounded 296 = .ok (.lload 6, 2) := by decide +kernel
theorem dX5_rounded_298 : decode cX5_rounded 298 = .ok (.iconst 0, 1) := by decide +kernel
theorem dX5_rounded_299 : decode cX5_rounded 299 = .ok (.iload 5, 2) := by decide +kernel
theorem dX5_rounded_301 : decode cX5_rounded 301 = .ok (.invokestatic 71, 3) := by decide +kernel
theorem dX5_rounded_304 : decode cX5_rounded 304 = .ok (.lor, 1) := by decide +kernel
theorem dX5_rounded_305 : decode cX5_rounded 305 = .ok (.goto 28, 3) := by decide +kernel
theorem dX5_rounded_308 : decode cX5_rounded 308 = .ok (.lload 6, 2) := by decide +kernel
theorem dX5_rounded_310 : decode cX5_rounded 310 = .ok (.iload 14, 2) := by decide +kernel
theorem dX5_rounded_312 : decode cX5_rounded 312 = .ok (.i2l, 1) := by decide +kernel
theorem dX5_rounded_313 : decode cX5_rounded 313 = .ok (.iload 5, 2) := by decide +kernel
theorem dX5_rounded_315 : decode cX5_rounded 315 = .ok (.invokestatic 58, 3) := by decide +kernel
theorem dX5_rounded_318 : decode cX5_rounded 318 = .ok (.lshl, 1) := by decide +kernel
theorem dX5_rounded_319 : decode cX5_rounded 319 = .ok (.lor, 1) := by decide +kernel
theorem dX5_rounded_320 : decode cX5_rounded 320 = .ok (.lload 11, 2) := by decide +kernel
theorem dX5_rounded_322 : decode cX5_rounded 322 = .ok (.lconst 1, 1) := by decide +kernel
theorem dX5_rounded_323 : decode cX5_rounded 323 = .ok (.iload 5, 2) := by decide +kernel
theorem dX5_rounded_325 : decode cX5_rounded 325 = .ok (.invokestatic 58, 3) := by decide +kernel
theorem dX5_rounded_328 : decode cX5_rounded 328 = .ok (.lshl, 1) := by decide +kernel
theorem dX5_rounded_329 : decode cX5_rounded 329 = .ok (.lconst 1, 1) := by decide +kernel
theorem dX5_rounded_330 : decode cX5_rounded 330 = .ok (.lsub, 1) := by decide +kernel
theorem dX5_rounded_331 : decode cX5_rounded 331 = .ok (.land, 1) := by decide +kernel
theorem dX5_rounded_332 : decode cX5_rounded 332 = .ok (.lor, 1) := by decide +kernel
theorem dX5_rounded_333 : decode cX5_rounded 333 = .ok (.lreturn, 1) := by decide +kernel
theorem dX5_clearSum_0 : decode cX5_clearSum 0 = .ok (.iconst 0, 1) := by decide +kernel
theorem dX5_clearSum_1 : decode cX5_clearSum 1 = .ok (.istore_n 1, 1) := by decide +kernel
theorem dX5_clearSum_2 : decode cX5_clearSum 2 = .ok (.iload_n 1, 1) := by decide +kernel
theorem dX5_clearSum_3 : decode cX5_clearSum 3 = .ok (.sipush 290, 3) := by decide +kernel
theorem dX5_clearSum_6 : decode cX5_clearSum 6 = .ok (.if_icmp .ge 16, 3) := by decide +kernel
theorem dX5_clearSum_9 : decode cX5_clearSum 9 = .ok (.aload_n 0, 1) := by decide +kernel
theorem dX5_clearSum_10 : decode cX5_clearSum 10 = .ok (.getfield 32, 3) := by decide +kernel
theorem dX5_clearSum_13 : decode cX5_clearSum 13 = .ok (.iload_n 1, 1) := by decide +kernel
theorem dX5_clearSum_14 : decode cX5_clearSum 14 = .ok (.lconst 0, 1) := by decide +kernel
theorem dX5_clearSum_15 : decode cX5_clearSum 15 = .ok (.lastore, 1) := by decide +kernel
theorem dX5_clearSum_16 : decode cX5_clearSum 16 = .ok (.iinc 1 1, 3) := by decide +kernel
theorem dX5_clearSum_19 : decode cX5_clearSum 19 = .ok (.goto (-17), 3) := by decide +kernel
theorem dX5_clearSum_22 : decode cX5_clearSum 22 = .ok (.return_, 1) := by decide +kernel
theorem dX5_addTo_0 : decode cX5_addTo 0 = .ok (.iload 4, 2) := by decide +kernel
theorem dX5_addTo_2 : decode cX5_addTo 2 = .ok (.sipush 2200, 3) := by decide +kernel
theorem dX5_addTo_5 : decode cX5_addTo 5 = .ok (.iadd, 1) := by decide +kernel
theorem dX5_addTo_6 : decode cX5_addTo 6 = .ok (.istore 5, 2) := by decide +kernel
theorem dX5_addTo_8 : decode cX5_addTo 8 = .ok (.iload 5, 2) := by decide +kernel
theorem dX5_addTo_10 : decode cX5_addTo 10 = .ok (.bipush 16, 2) := by decide +kernel
theorem dX5_addTo_12 : decode cX5_addTo 12 = .ok (.irem, 1) := by decide +kernel
theorem dX5_addTo_13 : decode cX5_addTo 13 = .ok (.istore 6, 2) := by decide +kernel
theorem dX5_addTo_15 : decode cX5_addTo 15 = .ok (.iload 5, 2) := by decide +kernel
theorem dX5_addTo_17 : decode cX5_addTo 17 = .ok (.bipush 16, 2) := by decide +kernel
theorem dX5_addTo_19 : decode cX5_addTo 19 = .ok (.idiv, 1) := by decide +kernel
theorem dX5_addTo_20 : decode cX5_addTo 20 = .ok (.istore 7, 2) := by decide +kernel
theorem dX5_addTo_22 : decode cX5_addTo 22 = .ok (.iconst 0, 1) := by decide +kernel
theorem dX5_addTo_23 : decode cX5_addTo 23 = .ok (.istore 8, 2) := by decide +kernel
theorem dX5_addTo_25 : decode cX5_addTo 25 = .ok (.iload 8, 2) := by decide +kernel
theorem dX5_addTo_27 : decode cX5_addTo 27 = .ok (.iconst 4, 1) := by decide +kernel
theorem dX5_addTo_28 : decode cX5_addTo 28 = .ok (.if_icmp .ge 92, 3) := by decide +kernel
theorem dX5_addTo_31 : decode cX5_addTo 31 = .ok (.lload_n 2, 1) := by decide +kernel
theorem dX5_addTo_32 : decode cX5_addTo 32 = .ok (.bipush 16, 2) := by decide +kernel
theorem dX5_addTo_34 : decode cX5_addTo 34 = .ok (.iload 8, 2) := by decide +kernel
theorem dX5_addTo_36 : decode cX5_addTo 36 = .ok (.imul, 1) := by decide +kernel
theorem dX5_addTo_37 : decode cX5_addTo 37 = .ok (.lushr, 1) := by decide +kernel
theorem dX5_addTo_38 : decode cX5_addTo 38 = .ok (.ldc2_w 86, 3) := by decide +kernel
theorem dX5_addTo_41 : decode cX5_addTo 41 = .ok (.land, 1) := by decide +kernel
theorem dX5_addTo_42 : decode cX5_addTo 42 = .ok (.iload 6, 2) := by decide +kernel
theorem dX5_addTo_44 : decode cX5_addTo 44 = .ok (.lshl, 1) := by decide +kernel
theorem dX5_addTo_45 : decode cX5_addTo 45 = .ok (.lstore 9, 2) := by decide +kernel
theorem dX5_addTo_47 : decode cX5_addTo 47 = .ok (.lload 9, 2) := by decide +kernel
theorem dX5_addTo_49 : decode cX5_addTo 49 = .ok (.ldc2_w 86, 3) := by decide +kernel
theorem dX5_addTo_52 : decode cX5_addTo 52 = .ok (.land, 1) := by decide +kernel
theorem dX5_addTo_53 : decode cX5_addTo 53 = .ok (.lstore 11, 2) := by decide +kernel
theorem dX5_addTo_55 : decode cX5_addTo 55 = .ok (.lload 9, 2) := by decide +kernel
theorem dX5_addTo_57 : decode cX5_addTo 57 = .ok (.bipush 16, 2) := by decide +kernel
theorem dX5_addTo_59 : decode cX5_addTo 59 = .ok (.lushr, 1) := by decide +kernel
theorem dX5_addTo_60 : decode cX5_addTo 60 = .ok (.lstore 13, 2) := by decide +kernel
theorem dX5_addTo_62 : decode cX5_addTo 62 = .ok (.aload_n 0, 1) := by decide +kernel
theorem dX5_addTo_63 : decode cX5_addTo 63 = .ok (.getfield 32, 3) := by decide +kernel
theorem dX5_addTo_66 : decode cX5_addTo 66 = .ok (.iload 7, 2) := by decide +kernel
theorem dX5_addTo_68 : decode cX5_addTo 68 = .ok (.iload 8, 2) := by decide +kernel
theorem dX5_addTo_70 : decode cX5_addTo 70 = .ok (.iadd, 1) := by decide +kernel
theorem dX5_addTo_71 : decode cX5_addTo 71 = .ok (.dup2, 1) := by decide +kernel
theorem dX5_addTo_72 : decode cX5_addTo 72 = .ok (.laload, 1) := by decide +kernel
theorem dX5_addTo_73 : decode cX5_addTo 73 = .ok (.iload_n 1, 1) := by decide +kernel
theorem dX5_addTo_74 : decode cX5_addTo 74 = .ok (.ifCond .eq 9, 3) := by decide +kernel
theorem dX5_addTo_77 : decode cX5_addTo 77 = .ok (.lload 11, 2) := by decide +kernel
theorem dX5_addTo_79 : decode cX5_addTo 79 = .ok (.lneg, 1) := by decide +kernel
theorem dX5_addTo_80 : decode cX5_addTo 80 = .ok (.goto 5, 3) := by decide +kernel
theorem dX5_addTo_83 : decode cX5_addTo 83 = .ok (.lload 11, 2) := by decide +kernel
theorem dX5_addTo_85 : decode cX5_addTo 85 = .ok (.ladd, 1) := by decide +kernel
theorem dX5_addTo_86 : decode cX5_addTo 86 = .ok (.lastore, 1) := by decide +kernel
theorem dX5_addTo_87 : decode cX5_addTo 87 = .ok (.aload_n 0, 1) := by decide +kernel
theorem dX5_addTo_88 : decode cX5_addTo 88 = .ok (.getfield 32, 3) := by decide +kernel
theorem dX5_addTo_91 : decode cX5_addTo 91 = .ok (.iload 7, 2) := by decide +kernel
theorem dX5_addTo_93 : decode cX5_addTo 93 = .ok (.iload 8, 2) := by decide +kernel
theorem dX5_addTo_95 : decode cX5_addTo 95 = .ok (.iadd, 1) := by decide +kernel
theorem dX5_addTo_96 : decode cX5_addTo 96 = .ok (.iconst 1, 1) := by decide +kernel
theorem dX5_addTo_97 : decode cX5_addTo 97 = .ok (.iadd, 1) := by decide +kernel
theorem dX5_addTo_98 : decode cX5_addTo 98 = .ok (.dup2, 1) := by decide +kernel
theorem dX5_addTo_99 : decode cX5_addTo 99 = .ok (.laload, 1) := by decide +kernel
theorem dX5_addTo_100 : decode cX5_addTo 100 = .ok (.iload_n 1, 1) := by decide +kernel
theorem dX5_addTo_101 : decode cX5_addTo 101 = .ok (.ifCond .eq 9, 3) := by decide +kernel
theorem dX5_addTo_104 : decode cX5_addTo 104 = .ok (.lload 13, 2) := by decide +kernel
theorem dX5_addTo_106 : decode cX5_addTo 106 = .ok (.lneg, 1) := by decide +kernel
theorem dX5_addTo_107 : decode cX5_addTo 107 = .ok (.goto 5, 3) := by decide +kernel
theorem dX5_addTo_110 : decode cX5_addTo 110 = .ok (.lload 13, 2) := by decide +kernel
theorem dX5_addTo_112 : decode cX5_addTo 112 = .ok (.ladd, 1) := by decide +kernel
theorem dX5_addTo_113 : decode cX5_addTo 113 = .ok (.lastore, 1) := by decide +kernel
theorem dX5_addTo_114 : decode cX5_addTo 114 = .ok (.iinc 8 1, 3) := by decide +kernel
theorem dX5_addTo_117 : decode cX5_addTo 117 = .ok (.goto (-92), 3) := by decide +kernel
theorem dX5_addTo_120 : decode cX5_addTo 120 = .ok (.return_, 1) := by decide +kernel
theorem dX5_addProduct_0 : decode cX5_addProduct 0 = .ok (.iconst 0, 1) := by decide +kernel
theorem dX5_addProduct_1 : decode cX5_addProduct 1 = .ok (.istore 7, 2) := by decide +kernel
theorem dX5_addProduct_3 : decode cX5_addProduct 3 = .ok (.iload 7, 2) := by decide +kernel
theorem dX5_addProduct_5 : decode cX5_addProduct 5 = .ok (.bipush 7, 2) := by decide +kernel
theorem dX5_addProduct_7 : decode cX5_addProduct 7 = .ok (.if_icmp .ge 36, 3) := by decide +kernel
theorem dX5_addProduct_10 : decode cX5_addProduct 10 = .ok (.aload_n 0, 1) := by decide +kernel
theorem dX5_addProduct_11 : decode cX5_addProduct 11 = .ok (.iload_n 1, 1) := by decide +kernel
theorem dX5_addProduct_12 : decode cX5_addProduct 12 = .ok (.lload_n 2, 1) := by decide +kernel
theorem dX5_addProduct_13 : decode cX5_addProduct 13 = .ok (.bipush 8, 2) := by decide +kernel
theorem dX5_addProduct_15 : decode cX5_addProduct 15 = .ok (.iload 7, 2) := by decide +kernel
theorem dX5_addProduct_17 : decode cX5_addProduct 17 = .ok (.imul, 1) := by decide +kernel
theorem dX5_addProduct_18 : decode cX5_addProduct 18 = .ok (.lushr, 1) := by decide +kernel
theorem dX5_addProduct_19 : decode cX5_addProduct 19 = .ok (.ldc2_w 88, 3) := by decide +kernel
theorem dX5_addProduct_22 : decode cX5_addProduct 22 = .ok (.land, 1) := by decide +kernel
theorem dX5_addProduct_23 : decode cX5_addProduct 23 = .ok (.lload 4, 2) := by decide +kernel
theorem dX5_addProduct_25 : decode cX5_addProduct 25 = .ok (.lmul, 1) := by decide +kernel
theorem dX5_addProduct_26 : decode cX5_addProduct 26 = .ok (.iload 6, 2) := by decide +kernel
theorem dX5_addProduct_28 : decode cX5_addProduct 28 = .ok (.bipush 8, 2) := by decide +kernel
theorem dX5_addProduct_30 : decode cX5_addProduct 30 = .ok (.iload 7, 2) := by decide +kernel
theorem dX5_addProduct_32 : decode cX5_addProduct 32 = .ok (.imul, 1) := by decide +kernel
theorem dX5_addProduct_33 : decode cX5_addProduct 33 = .ok (.iadd, 1) := by decide +kernel
theorem dX5_addProduct_34 : decode cX5_addProduct 34 = .ok (.invokevirtual 90, 3) := by decide +kernel
theorem dX5_addProduct_37 : decode cX5_addProduct 37 = .ok (.iinc 7 1, 3) := by decide +kernel
theorem dX5_addProduct_40 : decode cX5_addProduct 40 = .ok (.goto (-37), 3) := by decide +kernel
theorem dX5_addProduct_43 : decode cX5_addProduct 43 = .ok (.return_, 1) := by decide +kernel
theorem dX5_carry_0 : decode cX5_carry 0 = .ok (.lconst 0, 1) := by decide +kernel
theorem dX5_carry_1 : decode cX5_carry 1 = .ok (.lstore_n 1, 1) := by decide +kernel
theorem dX5_carry_2 : decode cX5_carry 2 = .ok (.iconst 0, 1) := by decide +kernel
theorem dX5_carry_3 : decode cX5_carry 3 = .ok (.istore_n 3, 1) := by decide +kernel
theorem dX5_carry_4 : decode cX5_carry 4 = .ok (.iload_n 3, 1) := by decide +kernel
theorem dX5_carry_5 : decode cX5_carry 5 = .ok (.sipush 290, 3) := by decide +kernel
theorem dX5_carry_8 : decode cX5_carry 8 = .ok (.if_icmp .ge 34, 3) := by decide +kernel
theorem dX5_carry_11 : decode cX5_carry 11 = .ok (.lload_n 1, 1) := by decide +kernel
theorem dX5_carry_12 : decode cX5_carry 12 = .ok (.aload_n 0, 1) := by decide +kernel
