theorem dX5_done_125 : decode cX5_done 125 = .ok (.iaload, 1) := by decide +kernel
theorem dX5_done_126 : decode cX5_done 126 = .ok (.iaload, 1) := by decide +kernel
theorem dX5_done_127 : decode cX5_done 127 = .ok (.aload_n 0, 1) := by decide +kernel
theorem dX5_done_128 : decode cX5_done 128 = .ok (.getfield 7, 3) := by decide +kernel
theorem dX5_done_131 : decode cX5_done 131 = .ok (.aload_n 0, 1) := by decide +kernel
theorem dX5_done_132 : decode cX5_done 132 = .ok (.getfield 22, 3) := by decide +kernel
theorem dX5_done_135 : decode cX5_done 135 = .ok (.iload_n 1, 1) := by decide +kernel
theorem dX5_done_136 : decode cX5_done 136 = .ok (.iaload, 1) := by decide +kernel
theorem dX5_done_137 : decode cX5_done 137 = .ok (.iaload, 1) := by decide +kernel
theorem dX5_done_138 : decode cX5_done 138 = .ok (.aload_n 0, 1) := by decide +kernel
theorem dX5_done_139 : decode cX5_done 139 = .ok (.getfield 7, 3) := by decide +kernel
theorem dX5_done_142 : decode cX5_done 142 = .ok (.aload_n 0, 1) := by decide +kernel
theorem dX5_done_143 : decode cX5_done 143 = .ok (.getfield 25, 3) := by decide +kernel
theorem dX5_done_146 : decode cX5_done 146 = .ok (.iload_n 1, 1) := by decide +kernel
theorem dX5_done_147 : decode cX5_done 147 = .ok (.iaload, 1) := by decide +kernel
theorem dX5_done_148 : decode cX5_done 148 = .ok (.iaload, 1) := by decide +kernel
theorem dX5_done_149 : decode cX5_done 149 = .ok (.invokevirtual 232, 3) := by decide +kernel
theorem dX5_done_152 : decode cX5_done 152 = .ok (.iastore, 1) := by decide +kernel
theorem dX5_done_153 : decode cX5_done 153 = .ok (.goto 64, 3) := by decide +kernel
theorem dX5_done_156 : decode cX5_done 156 = .ok (.aload_n 0, 1) := by decide +kernel
theorem dX5_done_157 : decode cX5_done 157 = .ok (.iload_n 2, 1) := by decide +kernel
theorem dX5_done_158 : decode cX5_done 158 = .ok (.bipush 30, 2) := by decide +kernel
theorem dX5_done_160 : decode cX5_done 160 = .ok (.isub, 1) := by decide +kernel
theorem dX5_done_161 : decode cX5_done 161 = .ok (.aload_n 0, 1) := by decide +kernel
theorem dX5_done_162 : decode cX5_done 162 = .ok (.getfield 7, 3) := by decide +kernel
theorem dX5_done_165 : decode cX5_done 165 = .ok (.aload_n 0, 1) := by decide +kernel
theorem dX5_done_166 : decode cX5_done 166 = .ok (.getfield 19, 3) := by decide +kernel
theorem dX5_done_169 : decode cX5_done 169 = .ok (.iload_n 1, 1) := by decide +kernel
theorem dX5_done_170 : decode cX5_done 170 = .ok (.iaload, 1) := by decide +kernel
theorem dX5_done_171 : decode cX5_done 171 = .ok (.iaload, 1) := by decide +kernel
theorem dX5_done_172 : decode cX5_done 172 = .ok (.invokestatic 217, 3) := by decide +kernel
theorem dX5_done_175 : decode cX5_done 175 = .ok (.aload_n 0, 1) := by decide +kernel
theorem dX5_done_176 : decode cX5_done 176 = .ok (.getfield 7, 3) := by decide +kernel
theorem dX5_done_179 : decode cX5_done 179 = .ok (.aload_n 0, 1) := by decide +kernel
theorem dX5_done_180 : decode cX5_done 180 = .ok (.getfield 22, 3) := by decide +kernel
theorem dX5_done_183 : decode cX5_done 183 = .ok (.iload_n 1, 1) := by decide +kernel
theorem dX5_done_184 : decode cX5_done 184 = .ok (.iaload, 1) := by decide +kernel
theorem dX5_done_185 : decode cX5_done 185 = .ok (.iaload, 1) := by decide +kernel
theorem dX5_done_186 : decode cX5_done 186 = .ok (.invokestatic 217, 3) := by decide +kernel
theorem dX5_done_189 : decode cX5_done 189 = .ok (.aload_n 0, 1) := by decide +kernel
theorem dX5_done_190 : decode cX5_done 190 = .ok (.getfield 7, 3) := by decide +kernel
theorem dX5_done_193 : decode cX5_done 193 = .ok (.aload_n 0, 1) := by decide +kernel
theorem dX5_done_194 : decode cX5_done 194 = .ok (.getfield 25, 3) := by decide +kernel
theorem dX5_done_197 : decode cX5_done 197 = .ok (.iload_n 1, 1) := by decide +kernel
theorem dX5_done_198 : decode cX5_done 198 = .ok (.iaload, 1) := by decide +kernel
theorem dX5_done_199 : decode cX5_done 199 = .ok (.iaload, 1) := by decide +kernel
theorem dX5_done_200 : decode cX5_done 200 = .ok (.invokestatic 217, 3) := by decide +kernel
theorem dX5_done_203 : decode cX5_done 203 = .ok (.iconst 0, 1) := by decide +kernel
theorem dX5_done_204 : decode cX5_done 204 = .ok (.invokevirtual 240, 3) := by decide +kernel
theorem dX5_done_207 : decode cX5_done 207 = .ok (.ifCond .eq 10, 3) := by decide +kernel
theorem dX5_done_210 : decode cX5_done 210 = .ok (.aload_n 0, 1) := by decide +kernel
theorem dX5_done_211 : decode cX5_done 211 = .ok (.getfield 16, 3) := by decide +kernel
theorem dX5_done_214 : decode cX5_done 214 = .ok (.iload_n 1, 1) := by decide +kernel
theorem dX5_done_215 : decode cX5_done 215 = .ok (.iaload, 1) := by decide +kernel
theorem dX5_done_216 : decode cX5_done 216 = .ok (.ireturn, 1) := by decide +kernel
theorem dX5_done_217 : decode cX5_done 217 = .ok (.iload_n 1, 1) := by decide +kernel
theorem dX5_done_218 : decode cX5_done 218 = .ok (.iconst 1, 1) := by decide +kernel
theorem dX5_done_219 : decode cX5_done 219 = .ok (.iadd, 1) := by decide +kernel
theorem dX5_done_220 : decode cX5_done 220 = .ok (.ireturn, 1) := by decide +kernel
theorem dX5_run_0 : decode cX5_run 0 = .ok (.iload_n 1, 1) := by decide +kernel
theorem dX5_run_1 : decode cX5_run 1 = .ok (.iconst 0, 1) := by decide +kernel
theorem dX5_run_2 : decode cX5_run 2 = .ok (.bipush 39, 2) := by decide +kernel
theorem dX5_run_4 : decode cX5_run 4 = .ok (.invokestatic 225, 3) := by decide +kernel
theorem dX5_run_7 : decode cX5_run 7 = .ok (.ifCond .eq 14, 3) := by decide +kernel
theorem dX5_run_10 : decode cX5_run 10 = .ok (.iload_n 2, 1) := by decide +kernel
theorem dX5_run_11 : decode cX5_run 11 = .ok (.iconst 1, 1) := by decide +kernel
theorem dX5_run_12 : decode cX5_run 12 = .ok (.sipush 2000, 3) := by decide +kernel
theorem dX5_run_15 : decode cX5_run 15 = .ok (.invokestatic 225, 3) := by decide +kernel
theorem dX5_run_18 : decode cX5_run 18 = .ok (.ifCond .ne 6, 3) := by decide +kernel
theorem dX5_run_21 : decode cX5_run 21 = .ok (.bipush (-102), 2) := by decide +kernel
theorem dX5_run_23 : decode cX5_run 23 = .ok (.ireturn, 1) := by decide +kernel
theorem dX5_run_24 : decode cX5_run 24 = .ok (.iload_n 1, 1) := by decide +kernel
theorem dX5_run_25 : decode cX5_run 25 = .ok (.aload_n 0, 1) := by decide +kernel
theorem dX5_run_26 : decode cX5_run 26 = .ok (.getfield 274, 3) := by decide +kernel
theorem dX5_run_29 : decode cX5_run 29 = .ok (.if_icmp .ge 7, 3) := by decide +kernel
theorem dX5_run_32 : decode cX5_run 32 = .ok (.iload_n 1, 1) := by decide +kernel
theorem dX5_run_33 : decode cX5_run 33 = .ok (.goto 5, 3) := by decide +kernel
theorem dX5_run_36 : decode cX5_run 36 = .ok (.bipush (-109), 2) := by decide +kernel
theorem dX5_run_38 : decode cX5_run 38 = .ok (.istore_n 3, 1) := by decide +kernel
theorem dX5_run_39 : decode cX5_run 39 = .ok (.iconst 0, 1) := by decide +kernel
theorem dX5_run_40 : decode cX5_run 40 = .ok (.istore 4, 2) := by decide +kernel
theorem dX5_run_42 : decode cX5_run 42 = .ok (.iload_n 3, 1) := by decide +kernel
theorem dX5_run_43 : decode cX5_run 43 = .ok (.ifCond .lt 36, 3) := by decide +kernel
theorem dX5_run_46 : decode cX5_run 46 = .ok (.iload 4, 2) := by decide +kernel
theorem dX5_run_48 : decode cX5_run 48 = .ok (.iload_n 2, 1) := by decide +kernel
theorem dX5_run_49 : decode cX5_run 49 = .ok (.if_icmp .ge 30, 3) := by decide +kernel
theorem dX5_run_52 : decode cX5_run 52 = .ok (.aload_n 0, 1) := by decide +kernel
theorem dX5_run_53 : decode cX5_run 53 = .ok (.iload_n 3, 1) := by decide +kernel
theorem dX5_run_54 : decode cX5_run 54 = .ok (.invokevirtual 277, 3) := by decide +kernel
theorem dX5_run_57 : decode cX5_run 57 = .ok (.istore_n 3, 1) := by decide +kernel
theorem dX5_run_58 : decode cX5_run 58 = .ok (.iload_n 3, 1) := by decide +kernel
theorem dX5_run_59 : decode cX5_run 59 = .ok (.aload_n 0, 1) := by decide +kernel
theorem dX5_run_60 : decode cX5_run 60 = .ok (.getfield 274, 3) := by decide +kernel
theorem dX5_run_63 : decode cX5_run 63 = .ok (.if_icmp .lt 8, 3) := by decide +kernel
theorem dX5_run_66 : decode cX5_run 66 = .ok (.bipush (-109), 2) := by decide +kernel
theorem dX5_run_68 : decode cX5_run 68 = .ok (.goto 4, 3) := by decide +kernel
theorem dX5_run_71 : decode cX5_run 71 = .ok (.iload_n 3, 1) := by decide +kernel
theorem dX5_run_72 : decode cX5_run 72 = .ok (.istore_n 3, 1) := by decide +kernel
theorem dX5_run_73 : decode cX5_run 73 = .ok (.iinc 4 1, 3) := by decide +kernel
theorem dX5_run_76 : decode cX5_run 76 = .ok (.goto (-34), 3) := by decide +kernel
theorem dX5_run_79 : decode cX5_run 79 = .ok (.aload_n 0, 1) := by decide +kernel
theorem dX5_run_80 : decode cX5_run 80 = .ok (.iload_n 3, 1) := by decide +kernel
theorem dX5_run_81 : decode cX5_run 81 = .ok (.putfield 28, 3) := by decide +kernel
theorem dX5_run_84 : decode cX5_run 84 = .ok (.iload 4, 2) := by decide +kernel
theorem dX5_run_86 : decode cX5_run 86 = .ok (.ireturn, 1) := by decide +kernel
theorem dX5_next_0 : decode cX5_next 0 = .ok (.aload_n 0, 1) := by decide +kernel
theorem dX5_next_1 : decode cX5_next 1 = .ok (.getfield 28, 3) := by decide +kernel
theorem dX5_next_4 : decode cX5_next 4 = .ok (.ireturn, 1) := by decide +kernel
theorem dX5_clear_0 : decode cX5_clear 0 = .ok (.aload_n 0, 1) := by decide +kernel
theorem dX5_clear_1 : decode cX5_clear 1 = .ok (.getfield 274, 3) := by decide +kernel
theorem dX5_clear_4 : decode cX5_clear 4 = .ok (.istore_n 1, 1) := by decide +kernel
theorem dX5_clear_5 : decode cX5_clear 5 = .ok (.aload_n 0, 1) := by decide +kernel
theorem dX5_clear_6 : decode cX5_clear 6 = .ok (.iconst 0, 1) := by decide +kernel
theorem dX5_clear_7 : decode cX5_clear 7 = .ok (.putfield 274, 3) := by decide +kernel
theorem dX5_clear_10 : decode cX5_clear 10 = .ok (.aload_n 0, 1) := by decide +kernel
theorem dX5_clear_11 : decode cX5_clear 11 = .ok (.iconst 0, 1) := by decide +kernel
theorem dX5_clear_12 : decode cX5_clear 12 = .ok (.putfield 245, 3) := by decide +kernel
theorem dX5_clear_15 : decode cX5_clear 15 = .ok (.aload_n 0, 1) := by decide +kernel
theorem dX5_clear_16 : decode cX5_clear 16 = .ok (.bipush (-109), 2) := by decide +kernel
theorem dX5_clear_18 : decode cX5_clear 18 = .ok (.putfield 28, 3) := by decide +kernel
theorem dX5_clear_21 : decode cX5_clear 21 = .ok (.iconst 0, 1) := by decide +kernel
theorem dX5_clear_22 : decode cX5_clear 22 = .ok (.istore_n 2, 1) := by decide +kernel
theorem dX5_clear_23 : decode cX5_clear 23 = .ok (.iload_n 2, 1) := by decide +kernel
theorem dX5_clear_24 : decode cX5_clear 24 = .ok (.bipush 16, 2) := by decide +kernel
theorem dX5_clear_26 : decode cX5_clear 26 = .ok (.if_icmp .ge 16, 3) := by decide +kernel
theorem dX5_clear_29 : decode cX5_clear 29 = .ok (.aload_n 0, 1) := by decide +kernel
theorem dX5_clear_30 : decode cX5_clear 30 = .ok (.getfield 7, 3) := by decide +kernel
theorem dX5_clear_33 : decode cX5_clear 33 = .ok (.iload_n 2, 1) := by decide +kernel
theorem dX5_clear_34 : decode cX5_clear 34 = .ok (.iconst 0, 1) := by decide +kernel
theorem dX5_clear_35 : decode cX5_clear 35 = .ok (.iastore, 1) := by decide +kernel
theorem dX5_clear_36 : decode cX5_clear 36 = .ok (.iinc 2 1, 3) := by decide +kernel
theorem dX5_clear_39 : decode cX5_clear 39 = .ok (.goto (-16), 3) := by decide +kernel
theorem dX5_clear_42 : decode cX5_clear 42 = .ok (.iload_n 1, 1) := by decide +kernel
theorem dX5_clear_43 : decode cX5_clear 43 = .ok (.ireturn, 1) := by decide +kernel
theorem dL_act_0 : decode cL_act 0 = .ok (.aload 5, 2) := by decide +kernel
theorem dL_act_2 : decode cL_act 2 = .ok (.iconst 0, 1) := by decide +kernel
theorem dL_act_3 : decode cL_act 3 = .ok (.aload_n 0, 1) := by decide +kernel
theorem dL_act_4 : decode cL_act 4 = .ok (.iload_n 1, 1) := by decide +kernel
theorem dL_act_5 : decode cL_act 5 = .ok (.iload_n 2, 1) := by decide +kernel
theorem dL_act_6 : decode cL_act 6 = .ok (.iload_n 3, 1) := by decide +kernel
theorem dL_act_7 : decode cL_act 7 = .ok (.iload 4, 2) := by decide +kernel
theorem dL_act_9 : decode cL_act 9 = .ok (.invokevirtual 7, 3) := by decide +kernel
theorem dL_act_12 : decode cL_act 12 = .ok (.i2l, 1) := by decide +kernel
theorem dL_act_13 : decode cL_act 13 = .ok (.lastore, 1) := by decide +kernel
theorem dL_act_14 : decode cL_act 14 = .ok (.goto 7, 3) := by decide +kernel
theorem dL_act_17 : decode cL_act 17 = .ok (.astore 6, 2) := by decide +kernel
theorem dL_act_19 : decode cL_act 19 = .ok (.iconst 1, 1) := by decide +kernel
theorem dL_act_20 : decode cL_act 20 = .ok (.ireturn, 1) := by decide +kernel
theorem dL_act_21 : decode cL_act 21 = .ok (.iconst 0, 1) := by decide +kernel
theorem dL_act_22 : decode cL_act 22 = .ok (.ireturn, 1) := by decide +kernel
theorem dL_wide_0 : decode cL_wide 0 = .ok (.aload 8, 2) := by decide +kernel
theorem dL_wide_2 : decode cL_wide 2 = .ok (.iconst 0, 1) := by decide +kernel
theorem dL_wide_3 : decode cL_wide 3 = .ok (.aload_n 0, 1) := by decide +kernel
theorem dL_wide_4 : decode cL_wide 4 = .ok (.iload_n 1, 1) := by decide +kernel
theorem dL_wide_5 : decode cL_wide 5 = .ok (.lload_n 2, 1) := by decide +kernel
theorem dL_wide_6 : decode cL_wide 6 = .ok (.lload 4, 2) := by decide +kernel
theorem dL_wide_8 : decode cL_wide 8 = .ok (.lload 6, 2) := by decide +kernel
theorem dL_wide_10 : decode cL_wide 10 = .ok (.invokevirtual 15, 3) := by decide +kernel
theorem dL_wide_13 : decode cL_wide 13 = .ok (.lastore, 1) := by decide +kernel
theorem dL_wide_14 : decode cL_wide 14 = .ok (.goto 7, 3) := by decide +kernel
theorem dL_wide_17 : decode cL_wide 17 = .ok (.astore 9, 2) := by decide +kernel
theorem dL_wide_19 : decode cL_wide 19 = .ok (.iconst 1, 1) := by decide +kernel
theorem dL_wide_20 : decode cL_wide 20 = .ok (.ireturn, 1) := by decide +kernel
theorem dL_wide_21 : decode cL_wide 21 = .ok (.iconst 0, 1) := by decide +kernel
theorem dL_wide_22 : decode cL_wide 22 = .ok (.ireturn, 1) := by decide +kernel
theorem dL_test_0 : decode cL_test 0 = .ok (.aload 5, 2) := by decide +kernel
theorem dL_test_2 : decode cL_test 2 = .ok (.iconst 0, 1) := by decide +kernel
theorem dL_test_3 : decode cL_test 3 = .ok (.aload_n 0, 1) := by decide +kernel
theorem dL_test_4 : decode cL_test 4 = .ok (.iload_n 1, 1) := by decide +kernel
theorem dL_test_5 : decode cL_test 5 = .ok (.iload_n 2, 1) := by decide +kernel
theorem dL_test_6 : decode cL_test 6 = .ok (.iload_n 3, 1) := by decide +kernel
theorem dL_test_7 : decode cL_test 7 = .ok (.iload 4, 2) := by decide +kernel
theorem dL_test_9 : decode cL_test 9 = .ok (.invokevirtual 19, 3) := by decide +kernel
theorem dL_test_12 : decode cL_test 12 = .ok (.i2l, 1) := by decide +kernel
theorem dL_test_13 : decode cL_test 13 = .ok (.lastore, 1) := by decide +kernel
theorem dL_test_14 : decode cL_test 14 = .ok (.goto 7, 3) := by decide +kernel
theorem dL_test_17 : decode cL_test 17 = .ok (.astore 6, 2) := by decide +kernel
theorem dL_test_19 : decode cL_test 19 = .ok (.iconst 1, 1) := by decide +kernel
theorem dL_test_20 : decode cL_test 20 = .ok (.ireturn, 1) := by decide +kernel
theorem dL_test_21 : decode cL_test 21 = .ok (.iconst 0, 1) := by decide +kernel
theorem dL_test_22 : decode cL_test 22 = .ok (.ireturn, 1) := by decide +kernel
theorem dL_wideTest_0 : decode cL_wideTest 0 = .ok (.aload 8, 2) := by decide +kernel
theorem dL_wideTest_2 : decode cL_wideTest 2 = .ok (.iconst 0, 1) := by decide +kernel
theorem dL_wideTest_3 : decode cL_wideTest 3 = .ok (.aload_n 0, 1) := by decide +kernel
theorem dL_wideTest_4 : decode cL_wideTest 4 = .ok (.iload_n 1, 1) := by decide +kernel
theorem dL_wideTest_5 : decode cL_wideTest 5 = .ok (.lload_n 2, 1) := by decide +kernel
theorem dL_wideTest_6 : decode cL_wideTest 6 = .ok (.lload 4, 2) := by decide +kernel
theorem dL_wideTest_8 : decode cL_wideTest 8 = .ok (.lload 6, 2) := by decide +kernel
theorem dL_wideTest_10 : decode cL_wideTest 10 = .ok (.invokevirtual 22, 3) := by decide +kernel
theorem dL_wideTest_13 : decode cL_wideTest 13 = .ok (.i2l, 1) := by decide +kernel
theorem dL_wideTest_14 : decode cL_wideTest 14 = .ok (.lastore, 1) := by decide +kernel
theorem dL_wideTest_15 : decode cL_wideTest 15 = .ok (.goto 7, 3) := by decide +kernel
theorem dL_wideTest_18 : decode cL_wideTest 18 = .ok (.astore 9, 2) := by decide +kernel
theorem dL_wideTest_20 : decode cL_wideTest 20 = .ok (.iconst 1, 1) := by decide +kernel
theorem dL_wideTest_21 : decode cL_wideTest 21 = .ok (.ireturn, 1) := by decide +kernel
theorem dL_wideTest_22 : decode cL_wideTest 22 = .ok (.iconst 0, 1) := by decide +kernel
theorem dL_wideTest_23 : decode cL_wideTest 23 = .ok (.ireturn, 1) := by decide +kernel
theorem dL_set_0 : decode cL_set 0 = .ok (.aload_n 3, 1) := by decide +kernel
theorem dL_set_1 : decode cL_set 1 = .ok (.iconst 0, 1) := by decide +kernel
theorem dL_set_2 : decode cL_set 2 = .ok (.aload_n 0, 1) := by decide +kernel
theorem dL_set_3 : decode cL_set 3 = .ok (.iload_n 1, 1) := by decide +kernel
theorem dL_set_4 : decode cL_set 4 = .ok (.iload_n 2, 1) := by decide +kernel
theorem dL_set_5 : decode cL_set 5 = .ok (.invokevirtual 26, 3) := by decide +kernel
theorem dL_set_8 : decode cL_set 8 = .ok (.i2l, 1) := by decide +kernel
theorem dL_set_9 : decode cL_set 9 = .ok (.lastore, 1) := by decide +kernel
theorem dL_set_10 : decode cL_set 10 = .ok (.goto 7, 3) := by decide +kernel
theorem dL_set_13 : decode cL_set 13 = .ok (.astore 4, 2) := by decide +kernel
theorem dL_set_15 : decode cL_set 15 = .ok (.iconst 1, 1) := by decide +kernel
theorem dL_set_16 : decode cL_set 16 = .ok (.ireturn, 1) := by decide +kernel
theorem dL_set_17 : decode cL_set 17 = .ok (.iconst 0, 1) := by decide +kernel
theorem dL_set_18 : decode cL_set 18 = .ok (.ireturn, 1) := by decide +kernel
theorem dL_word_0 : decode cL_word 0 = .ok (.aload_n 2, 1) := by decide +kernel
theorem dL_word_1 : decode cL_word 1 = .ok (.iconst 0, 1) := by decide +kernel
theorem dL_word_2 : decode cL_word 2 = .ok (.aload_n 0, 1) := by decide +kernel
theorem dL_word_3 : decode cL_word 3 = .ok (.iload_n 1, 1) := by decide +kernel
theorem dL_word_4 : decode cL_word 4 = .ok (.invokevirtual 32, 3) := by decide +kernel
theorem dL_word_7 : decode cL_word 7 = .ok (.i2l, 1) := by decide +kernel
theorem dL_word_8 : decode cL_word 8 = .ok (.lastore, 1) := by decide +kernel
theorem dL_word_9 : decode cL_word 9 = .ok (.goto 6, 3) := by decide +kernel
theorem dL_word_12 : decode cL_word 12 = .ok (.astore_n 3, 1) := by decide +kernel
theorem dL_word_13 : decode cL_word 13 = .ok (.iconst 1, 1) := by decide +kernel
theorem dL_word_14 : decode cL_word 14 = .ok (.ireturn, 1) := by decide +kernel
theorem dL_word_15 : decode cL_word 15 = .ok (.iconst 0, 1) := by decide +kernel
theorem dL_word_16 : decode cL_word 16 = .ok (.ireturn, 1) := by decide +kernel
theorem dL_law_0 : decode cL_law 0 = .ok (.new 8, 3) := by decide +kernel
theorem dL_law_3 : decode cL_law 3 = .ok (.dup, 1) := by decide +kernel
theorem dL_law_4 : decode cL_law 4 = .ok (.invokespecial 36, 3) := by decide +kernel
theorem dL_law_7 : decode cL_law 7 = .ok (.astore_n 1, 1) := by decide +kernel
theorem dL_law_8 : decode cL_law 8 = .ok (.new 37, 3) := by decide +kernel
theorem dL_law_11 : decode cL_law 11 = .ok (.dup, 1) := by decide +kernel
theorem dL_law_12 : decode cL_law 12 = .ok (.invokespecial 39, 3) := by decide +kernel
theorem dL_law_15 : decode cL_law 15 = .ok (.astore_n 2, 1) := by decide +kernel
theorem dL_law_16 : decode cL_law 16 = .ok (.iconst 1, 1) := by decide +kernel
theorem dL_law_17 : decode cL_law 17 = .ok (.newarray .long, 2) := by decide +kernel
theorem dL_law_19 : decode cL_law 19 = .ok (.astore_n 3, 1) := by decide +kernel
theorem dL_law_20 : decode cL_law 20 = .ok (.iconst 0, 1) := by decide +kernel
theorem dL_law_21 : decode cL_law 21 = .ok (.istore 4, 2) := by decide +kernel
theorem dL_law_23 : decode cL_law 23 = .ok (.iload 4, 2) := by decide +kernel
theorem dL_law_25 : decode cL_law 25 = .ok (.aload_n 0, 1) := by decide +kernel
theorem dL_law_26 : decode cL_law 26 = .ok (.arraylength, 1) := by decide +kernel
theorem dL_law_27 : decode cL_law 27 = .ok (.bipush 8, 2) := by decide +kernel
theorem dL_law_29 : decode cL_law 29 = .ok (.isub, 1) := by decide +kernel
theorem dL_law_30 : decode cL_law 30 = .ok (.if_icmp .gt 1208, 3) := by decide +kernel
theorem dL_law_33 : decode cL_law 33 = .ok (.aload_n 0, 1) := by decide +kernel
theorem dL_law_34 : decode cL_law 34 = .ok (.iload 4, 2) := by decide +kernel
theorem dL_law_36 : decode cL_law 36 = .ok (.iaload, 1) := by decide +kernel
theorem dL_law_37 : decode cL_law 37 = .ok (.bipush 31, 2) := by decide +kernel
theorem dL_law_39 : decode cL_law 39 = .ok (.iand, 1) := by decide +kernel
theorem dL_law_40 : decode cL_law 40 = .ok (.tableswitch 1192 0 16 #[84, 176, 367, 459, 651, 677, 734, 819, 857, 894, 919, 987, 1043, 1116, 1129, 1166, 1179], 84) := by decide +kernel
theorem dL_law_124 : decode cL_law 124 = .ok (.aload_n 1, 1) := by decide +kernel
theorem dL_law_125 : decode cL_law 125 = .ok (.aload_n 0, 1) := by decide +kernel
theorem dL_law_126 : decode cL_law 126 = .ok (.iload 4, 2) := by decide +kernel
theorem dL_law_128 : decode cL_law 128 = .ok (.iconst 1, 1) := by decide +kernel
theorem dL_law_129 : decode cL_law 129 = .ok (.iadd, 1) := by decide +kernel
theorem dL_law_130 : decode cL_law 130 = .ok (.iaload, 1) := by decide +kernel
theorem dL_law_131 : decode cL_law 131 = .ok (.aload_n 0, 1) := by decide +kernel
theorem dL_law_132 : decode cL_law 132 = .ok (.iload 4, 2) := by decide +kernel
theorem dL_law_134 : decode cL_law 134 = .ok (.iconst 2, 1) := by decide +kernel
theorem dL_law_135 : decode cL_law 135 = .ok (.iadd, 1) := by decide +kernel
theorem dL_law_136 : decode cL_law 136 = .ok (.iaload, 1) := by decide +kernel
theorem dL_law_137 : decode cL_law 137 = .ok (.aload_n 0, 1) := by decide +kernel
theorem dL_law_138 : decode cL_law 138 = .ok (.iload 4, 2) := by decide +kernel
theorem dL_law_140 : decode cL_law 140 = .ok (.iconst 3, 1) := by decide +kernel
theorem dL_law_141 : decode cL_law 141 = .ok (.iadd, 1) := by decide +kernel
theorem dL_law_142 : decode cL_law 142 = .ok (.iaload, 1) := by decide +kernel
theorem dL_law_143 : decode cL_law 143 = .ok (.aload_n 0, 1) := by decide +kernel
theorem dL_law_144 : decode cL_law 144 = .ok (.iload 4, 2) := by decide +kernel
theorem dL_law_146 : decode cL_law 146 = .ok (.iconst 4, 1) := by decide +kernel
theorem dL_law_147 : decode cL_law 147 = .ok (.iadd, 1) := by decide +kernel
theorem dL_law_148 : decode cL_law 148 = .ok (.iaload, 1) := by decide +kernel
theorem dL_law_149 : decode cL_law 149 = .ok (.aload_n 3, 1) := by decide +kernel
theorem dL_law_150 : decode cL_law 150 = .ok (.invokestatic 40, 3) := by decide +kernel
theorem dL_law_153 : decode cL_law 153 = .ok (.istore 5, 2) := by decide +kernel
theorem dL_law_155 : decode cL_law 155 = .ok (.aload_n 2, 1) := by decide +kernel
theorem dL_law_156 : decode cL_law 156 = .ok (.aload_n 0, 1) := by decide +kernel
theorem dL_law_157 : decode cL_law 157 = .ok (.iload 4, 2) := by decide +kernel
theorem dL_law_159 : decode cL_law 159 = .ok (.iconst 1, 1) := by decide +kernel
theorem dL_law_160 : decode cL_law 160 = .ok (.iadd, 1) := by decide +kernel
theorem dL_law_161 : decode cL_law 161 = .ok (.iaload, 1) := by decide +kernel
theorem dL_law_162 : decode cL_law 162 = .ok (.aload_n 0, 1) := by decide +kernel
theorem dL_law_163 : decode cL_law 163 = .ok (.iload 4, 2) := by decide +kernel
theorem dL_law_165 : decode cL_law 165 = .ok (.iconst 2, 1) := by decide +kernel
theorem dL_law_166 : decode cL_law 166 = .ok (.iadd, 1) := by decide +kernel
theorem dL_law_167 : decode cL_law 167 = .ok (.iaload, 1) := by decide +kernel
theorem dL_law_168 : decode cL_law 168 = .ok (.aload_n 0, 1) := by decide +kernel
theorem dL_law_169 : decode cL_law 169 = .ok (.iload 4, 2) := by decide +kernel
theorem dL_law_171 : decode cL_law 171 = .ok (.iconst 3, 1) := by decide +kernel
theorem dL_law_172 : decode cL_law 172 = .ok (.iadd, 1) := by decide +kernel
theorem dL_law_173 : decode cL_law 173 = .ok (.iaload, 1) := by decide +kernel
theorem dL_law_174 : decode cL_law 174 = .ok (.aload_n 0, 1) := by decide +kernel
theorem dL_law_175 : decode cL_law 175 = .ok (.iload 4, 2) := by decide +kernel
theorem dL_law_177 : decode cL_law 177 = .ok (.iconst 4, 1) := by decide +kernel
theorem dL_law_178 : decode cL_law 178 = .ok (.iadd, 1) := by decide +kernel
theorem dL_law_179 : decode cL_law 179 = .ok (.iaload, 1) := by decide +kernel
theorem dL_law_180 : decode cL_law 180 = .ok (.invokevirtual 45, 3) := by decide +kernel
theorem dL_law_183 : decode cL_law 183 = .ok (.istore 6, 2) := by decide +kernel
theorem dL_law_185 : decode cL_law 185 = .ok (.aload_n 2, 1) := by decide +kernel
theorem dL_law_186 : decode cL_law 186 = .ok (.invokevirtual 46, 3) := by decide +kernel
theorem dL_law_189 : decode cL_law 189 = .ok (.iload 5, 2) := by decide +kernel
theorem dL_law_191 : decode cL_law 191 = .ok (.if_icmp .eq 5, 3) := by decide +kernel
theorem dL_law_194 : decode cL_law 194 = .ok (.iconst 0, 1) := by decide +kernel
theorem dL_law_195 : decode cL_law 195 = .ok (.ireturn, 1) := by decide +kernel
theorem dL_law_196 : decode cL_law 196 = .ok (.iload 5, 2) := by decide +kernel
theorem dL_law_198 : decode cL_law 198 = .ok (.ifCond .ne 15, 3) := by decide +kernel
theorem dL_law_201 : decode cL_law 201 = .ok (.aload_n 3, 1) := by decide +kernel
theorem dL_law_202 : decode cL_law 202 = .ok (.iconst 0, 1) := by decide +kernel
theorem dL_law_203 : decode cL_law 203 = .ok (.laload, 1) := by decide +kernel
theorem dL_law_204 : decode cL_law 204 = .ok (.iload 6, 2) := by decide +kernel
theorem dL_law_206 : decode cL_law 206 = .ok (.i2l, 1) := by decide +kernel
theorem dL_law_207 : decode cL_law 207 = .ok (.lcmp, 1) := by decide +kernel
theorem dL_law_208 : decode cL_law 208 = .ok (.ifCond .eq 5, 3) := by decide +kernel
theorem dL_law_211 : decode cL_law 211 = .ok (.iconst 0, 1) := by decide +kernel
theorem dL_law_212 : decode cL_law 212 = .ok (.ireturn, 1) := by decide +kernel
theorem dL_law_213 : decode cL_law 213 = .ok (.goto 1019, 3) := by decide +kernel
theorem dL_law_216 : decode cL_law 216 = .ok (.aload_n 1, 1) := by decide +kernel
theorem dL_law_217 : decode cL_law 217 = .ok (.aload_n 0, 1) := by decide +kernel
theorem dL_law_218 : decode cL_law 218 = .ok (.iload 4, 2) := by decide +kernel
theorem dL_law_220 : decode cL_law 220 = .ok (.iconst 1, 1) := by decide +kernel
theorem dL_law_221 : decode cL_law 221 = .ok (.iadd, 1) := by decide +kernel
theorem dL_law_222 : decode cL_law 222 = .ok (.iaload, 1) := by decide +kernel
theorem dL_law_223 : decode cL_law 223 = .ok (.aload_n 0, 1) := by decide +kernel
theorem dL_law_224 : decode cL_law 224 = .ok (.iload 4, 2) := by decide +kernel
theorem dL_law_226 : decode cL_law 226 = .ok (.iconst 2, 1) := by decide +kernel
theorem dL_law_227 : decode cL_law 227 = .ok (.iadd, 1) := by decide +kernel
theorem dL_law_228 : decode cL_law 228 = .ok (.iaload, 1) := by decide +kernel
theorem dL_law_229 : decode cL_law 229 = .ok (.i2l, 1) := by decide +kernel
theorem dL_law_230 : decode cL_law 230 = .ok (.bipush 32, 2) := by decide +kernel
theorem dL_law_232 : decode cL_law 232 = .ok (.lshl, 1) := by decide +kernel
theorem dL_law_233 : decode cL_law 233 = .ok (.aload_n 0, 1) := by decide +kernel
theorem dL_law_234 : decode cL_law 234 = .ok (.iload 4, 2) := by decide +kernel
theorem dL_law_236 : decode cL_law 236 = .ok (.iconst 3, 1) := by decide +kernel
theorem dL_law_237 : decode cL_law 237 = .ok (.iadd, 1) := by decide +kernel
theorem dL_law_238 : decode cL_law 238 = .ok (.iaload, 1) := by decide +kernel
theorem dL_law_239 : decode cL_law 239 = .ok (.i2l, 1) := by decide +kernel
theorem dL_law_240 : decode cL_law 240 = .ok (.ldc2_w 50, 3) := by decide +kernel
theorem dL_law_243 : decode cL_law 243 = .ok (.land, 1) := by decide +kernel
theorem dL_law_244 : decode cL_law 244 = .ok (.lor, 1) := by decide +kernel
theorem dL_law_245 : decode cL_law 245 = .ok (.aload_n 0, 1) := by decide +kernel
theorem dL_law_246 : decode cL_law 246 = .ok (.iload 4, 2) := by decide +kernel
theorem dL_law_248 : decode cL_law 248 = .ok (.iconst 4, 1) := by decide +kernel
theorem dL_law_249 : decode cL_law 249 = .ok (.iadd, 1) := by decide +kernel
theorem dL_law_250 : decode cL_law 250 = .ok (.iaload, 1) := by decide +kernel
theorem dL_law_251 : decode cL_law 251 = .ok (.i2l, 1) := by decide +kernel
theorem dL_law_252 : decode cL_law 252 = .ok (.bipush 32, 2) := by decide +kernel
theorem dL_law_254 : decode cL_law 254 = .ok (.lshl, 1) := by decide +kernel
theorem dL_law_255 : decode cL_law 255 = .ok (.aload_n 0, 1) := by decide +kernel
theorem dL_law_256 : decode cL_law 256 = .ok (.iload 4, 2) := by decide +kernel
theorem dL_law_258 : decode cL_law 258 = .ok (.iconst 5, 1) := by decide +kernel
theorem dL_law_259 : decode cL_law 259 = .ok (.iadd, 1) := by decide +kernel
theorem dL_law_260 : decode cL_law 260 = .ok (.iaload, 1) := by decide +kernel
theorem dL_law_261 : decode cL_law 261 = .ok (.i2l, 1) := by decide +kernel
theorem dL_law_262 : decode cL_law 262 = .ok (.ldc2_w 50, 3) := by decide +kernel
theorem dL_law_265 : decode cL_law 265 = .ok (.land, 1) := by decide +kernel
theorem dL_law_266 : decode cL_law 266 = .ok (.lor, 1) := by decide +kernel
theorem dL_law_267 : decode cL_law 267 = .ok (.aload_n 0, 1) := by decide +kernel
theorem dL_law_268 : decode cL_law 268 = .ok (.iload 4, 2) := by decide +kernel
theorem dL_law_270 : decode cL_law 270 = .ok (.bipush 6, 2) := by decide +kernel
theorem dL_law_272 : decode cL_law 272 = .ok (.iadd, 1) := by decide +kernel
theorem dL_law_273 : decode cL_law 273 = .ok (.iaload, 1) := by decide +kernel
theorem dL_law_274 : decode cL_law 274 = .ok (.i2l, 1) := by decide +kernel
theorem dL_law_275 : decode cL_law 275 = .ok (.bipush 32, 2) := by decide +kernel
theorem dL_law_277 : decode cL_law 277 = .ok (.lshl, 1) := by decide +kernel
theorem dL_law_278 : decode cL_law 278 = .ok (.aload_n 0, 1) := by decide +kernel
theorem dL_law_279 : decode cL_law 279 = .ok (.iload 4, 2) := by decide +kernel
theorem dL_law_281 : decode cL_law 281 = .ok (.bipush 7, 2) := by decide +kernel
theorem dL_law_283 : decode cL_law 283 = .ok (.iadd, 1) := by decide +kernel
theorem dL_law_284 : decode cL_law 284 = .ok (.iaload, 1) := by decide +kernel
theorem dL_law_285 : decode cL_law 285 = .ok (.i2l, 1) := by decide +kernel
theorem dL_law_286 : decode cL_law 286 = .ok (.ldc2_w 50, 3) := by decide +kernel
theorem dL_law_289 : decode cL_law 289 = .ok (.land, 1) := by decide +kernel
theorem dL_law_290 : decode cL_law 290 = .ok (.lor, 1) := by decide +kernel
theorem dL_law_291 : decode cL_law 291 = .ok (.aload_n 3, 1) := by decide +kernel
theorem dL_law_292 : decode cL_law 292 = .ok (.invokestatic 52, 3) := by decide +kernel
theorem dL_law_295 : decode cL_law 295 = .ok (.istore 5, 2) := by decide +kernel
theorem dL_law_297 : decode cL_law 297 = .ok (.aload_n 2, 1) := by decide +kernel
theorem dL_law_298 : decode cL_law 298 = .ok (.aload_n 0, 1) := by decide +kernel
theorem dL_law_299 : decode cL_law 299 = .ok (.iload 4, 2) := by decide +kernel
theorem dL_law_301 : decode cL_law 301 = .ok (.iconst 1, 1) := by decide +kernel
theorem dL_law_302 : decode cL_law 302 = .ok (.iadd, 1) := by decide +kernel
theorem dL_law_303 : decode cL_law 303 = .ok (.iaload, 1) := by decide +kernel
theorem dL_law_304 : decode cL_law 304 = .ok (.aload_n 0, 1) := by decide +kernel
theorem dL_law_305 : decode cL_law 305 = .ok (.iload 4, 2) := by decide +kernel
theorem dL_law_307 : decode cL_law 307 = .ok (.iconst 2, 1) := by decide +kernel
theorem dL_law_308 : decode cL_law 308 = .ok (.iadd, 1) := by decide +kernel
theorem dL_law_309 : decode cL_law 309 = .ok (.iaload, 1) := by decide +kernel
theorem dL_law_310 : decode cL_law 310 = .ok (.i2l, 1) := by decide +kernel
theorem dL_law_311 : decode cL_law 311 = .ok (.bipush 32, 2) := by decide +kernel
theorem dL_law_313 : decode cL_law 313 = .ok (.lshl, 1) := by decide +kernel
theorem dL_law_314 : decode cL_law 314 = .ok (.aload_n 0, 1) := by decide +kernel
theorem dL_law_315 : decode cL_law 315 = .ok (.iload 4, 2) := by decide +kernel
theorem dL_law_317 : decode cL_law 317 = .ok (.iconst 3, 1) := by decide +kernel
theorem dL_law_318 : decode cL_law 318 = .ok (.iadd, 1) := by decide +kernel
theorem dL_law_319 : decode cL_law 319 = .ok (.iaload, 1) := by decide +kernel
theorem dL_law_320 : decode cL_law 320 = .ok (.i2l, 1) := by decide +kernel
theorem dL_law_321 : decode cL_law 321 = .ok (.ldc2_w 50, 3) := by decide +kernel
theorem dL_law_324 : decode cL_law 324 = .ok (.land, 1) := by decide +kernel
theorem dL_law_325 : decode cL_law 325 = .ok (.lor, 1) := by decide +kernel
theorem dL_law_326 : decode cL_law 326 = .ok (.aload_n 0, 1) := by decide +kernel
theorem dL_law_327 : decode cL_law 327 = .ok (.iload 4, 2) := by decide +kernel
theorem dL_law_329 : decode cL_law 329 = .ok (.iconst 4, 1) := by decide +kernel
theorem dL_law_330 : decode cL_law 330 = .ok (.iadd, 1) := by decide +kernel
theorem dL_law_331 : decode cL_law 331 = .ok (.iaload, 1) := by decide +kernel
theorem dL_law_332 : decode cL_law 332 = .ok (.i2l, 1) := by decide +kernel
theorem dL_law_333 : decode cL_law 333 = .ok (.bipush 32, 2) := by decide +kernel
theorem dL_law_335 : decode cL_law 335 = .ok (.lshl, 1) := by decide +kernel
theorem dL_law_336 : decode cL_law 336 = .ok (.aload_n 0, 1) := by decide +kernel
theorem dL_law_337 : decode cL_law 337 = .ok (.iload 4, 2) := by decide +kernel
theorem dL_law_339 : decode cL_law 339 = .ok (.iconst 5, 1) := by decide +kernel
theorem dL_law_340 : decode cL_law 340 = .ok (.iadd, 1) := by decide +kernel
theorem dL_law_341 : decode cL_law 341 = .ok (.iaload, 1) := by decide +kernel
theorem dL_law_342 : decode cL_law 342 = .ok (.i2l, 1) := by decide +kernel
theorem dL_law_343 : decode cL_law 343 = .ok (.ldc2_w 50, 3) := by decide +kernel
theorem dL_law_346 : decode cL_law 346 = .ok (.land, 1) := by decide +kernel
theorem dL_law_347 : decode cL_law 347 = .ok (.lor, 1) := by decide +kernel
theorem dL_law_348 : decode cL_law 348 = .ok (.aload_n 0, 1) := by decide +kernel
theorem dL_law_349 : decode cL_law 349 = .ok (.iload 4, 2) := by decide +kernel
theorem dL_law_351 : decode cL_law 351 = .ok (.bipush 6, 2) := by decide +kernel
theorem dL_law_353 : decode cL_law 353 = .ok (.iadd, 1) := by decide +kernel
theorem dL_law_354 : decode cL_law 354 = .ok (.iaload, 1) := by decide +kernel
theorem dL_law_355 : decode cL_law 355 = .ok (.i2l, 1) := by decide +kernel
theorem dL_law_356 : decode cL_law 356 = .ok (.bipush 32, 2) := by decide +kernel
theorem dL_law_358 : decode cL_law 358 = .ok (.lshl, 1) := by decide +kernel
theorem dL_law_359 : decode cL_law 359 = .ok (.aload_n 0, 1) := by decide +kernel
theorem dL_law_360 : decode cL_law 360 = .ok (.iload 4, 2) := by decide +kernel
theorem dL_law_362 : decode cL_law 362 = .ok (.bipush 7, 2) := by decide +kernel
theorem dL_law_364 : decode cL_law 364 = .ok (.iadd, 1) := by decide +kernel
theorem dL_law_365 : decode cL_law 365 = .ok (.iaload, 1) := by decide +kernel
theorem dL_law_366 : decode cL_law 366 = .ok (.i2l, 1) := by decide +kernel
theorem dL_law_367 : decode cL_law 367 = .ok (.ldc2_w 50, 3) := by decide +kernel
theorem dL_law_370 : decode cL_law 370 = .ok (.land, 1) := by decide +kernel
theorem dL_law_371 : decode cL_law 371 = .ok (.lor, 1) := by decide +kernel
theorem dL_law_372 : decode cL_law 372 = .ok (.invokevirtual 55, 3) := by decide +kernel
theorem dL_law_375 : decode cL_law 375 = .ok (.lstore 6, 2) := by decide +kernel
theorem dL_law_377 : decode cL_law 377 = .ok (.aload_n 2, 1) := by decide +kernel
theorem dL_law_378 : decode cL_law 378 = .ok (.invokevirtual 46, 3) := by decide +kernel
theorem dL_law_381 : decode cL_law 381 = .ok (.iload 5, 2) := by decide +kernel
theorem dL_law_383 : decode cL_law 383 = .ok (.if_icmp .eq 5, 3) := by decide +kernel
theorem dL_law_386 : decode cL_law 386 = .ok (.iconst 0, 1) := by decide +kernel
theorem dL_law_387 : decode cL_law 387 = .ok (.ireturn, 1) := by decide +kernel
theorem dL_law_388 : decode cL_law 388 = .ok (.iload 5, 2) := by decide +kernel
theorem dL_law_390 : decode cL_law 390 = .ok (.ifCond .ne 14, 3) := by decide +kernel
theorem dL_law_393 : decode cL_law 393 = .ok (.aload_n 3, 1) := by decide +kernel
theorem dL_law_394 : decode cL_law 394 = .ok (.iconst 0, 1) := by decide +kernel
theorem dL_law_395 : decode cL_law 395 = .ok (.laload, 1) := by decide +kernel
theorem dL_law_396 : decode cL_law 396 = .ok (.lload 6, 2) := by decide +kernel
theorem dL_law_398 : decode cL_law 398 = .ok (.lcmp, 1) := by decide +kernel
theorem dL_law_399 : decode cL_law 399 = .ok (.ifCond .eq 5, 3) := by decide +kernel
theorem dL_law_402 : decode cL_law 402 = .ok (.iconst 0, 1) := by decide +kernel
theorem dL_law_403 : decode cL_law 403 = .ok (.ireturn, 1) := by decide +kernel
theorem dL_law_404 : decode cL_law 404 = .ok (.goto 828, 3) := by decide +kernel
theorem dL_law_407 : decode cL_law 407 = .ok (.aload_n 1, 1) := by decide +kernel
theorem dL_law_408 : decode cL_law 408 = .ok (.aload_n 0, 1) := by decide +kernel
theorem dL_law_409 : decode cL_law 409 = .ok (.iload 4, 2) := by decide +kernel
theorem dL_law_411 : decode cL_law 411 = .ok (.iconst 1, 1) := by decide +kernel
theorem dL_law_412 : decode cL_law 412 = .ok (.iadd, 1) := by decide +kernel
theorem dL_law_413 : decode cL_law 413 = .ok (.iaload, 1) := by decide +kernel
theorem dL_law_414 : decode cL_law 414 = .ok (.aload_n 0, 1) := by decide +kernel
theorem dL_law_415 : decode cL_law 415 = .ok (.iload 4, 2) := by decide +kernel
theorem dL_law_417 : decode cL_law 417 = .ok (.iconst 2, 1) := by decide +kernel
theorem dL_law_418 : decode cL_law 418 = .ok (.iadd, 1) := by decide +kernel
theorem dL_law_419 : decode cL_law 419 = .ok (.iaload, 1) := by decide +kernel
theorem dL_law_420 : decode cL_law 420 = .ok (.aload_n 0, 1) := by decide +kernel
theorem dL_law_421 : decode cL_law 421 = .ok (.iload 4, 2) := by decide +kernel
theorem dL_law_423 : decode cL_law 423 = .ok (.iconst 3, 1) := by decide +kernel
theorem dL_law_424 : decode cL_law 424 = .ok (.iadd, 1) := by decide +kernel
theorem dL_law_425 : decode cL_law 425 = .ok (.iaload, 1) := by decide +kernel
theorem dL_law_426 : decode cL_law 426 = .ok (.aload_n 0, 1) := by decide +kernel
theorem dL_law_427 : decode cL_law 427 = .ok (.iload 4, 2) := by decide +kernel
theorem dL_law_429 : decode cL_law 429 = .ok (.iconst 4, 1) := by decide +kernel
theorem dL_law_430 : decode cL_law 430 = .ok (.iadd, 1) := by decide +kernel
theorem dL_law_431 : decode cL_law 431 = .ok (.iaload, 1) := by decide +kernel
theorem dL_law_432 : decode cL_law 432 = .ok (.aload_n 3, 1) := by decide +kernel
theorem dL_law_433 : decode cL_law 433 = .ok (.invokestatic 56, 3) := by decide +kernel
theorem dL_law_436 : decode cL_law 436 = .ok (.istore 5, 2) := by decide +kernel
theorem dL_law_438 : decode cL_law 438 = .ok (.aload_n 2, 1) := by decide +kernel
theorem dL_law_439 : decode cL_law 439 = .ok (.aload_n 0, 1) := by decide +kernel
theorem dL_law_440 : decode cL_law 440 = .ok (.iload 4, 2) := by decide +kernel
theorem dL_law_442 : decode cL_law 442 = .ok (.iconst 1, 1) := by decide +kernel
theorem dL_law_443 : decode cL_law 443 = .ok (.iadd, 1) := by decide +kernel
theorem dL_law_444 : decode cL_law 444 = .ok (.iaload, 1) := by decide +kernel
theorem dL_law_445 : decode cL_law 445 = .ok (.aload_n 0, 1) := by decide +kernel
theorem dL_law_446 : decode cL_law 446 = .ok (.iload 4, 2) := by decide +kernel
theorem dL_law_448 : decode cL_law 448 = .ok (.iconst 2, 1) := by decide +kernel
theorem dL_law_449 : decode cL_law 449 = .ok (.iadd, 1) := by decide +kernel
theorem dL_law_450 : decode cL_law 450 = .ok (.iaload, 1) := by decide +kernel
theorem dL_law_451 : decode cL_law 451 = .ok (.aload_n 0, 1) := by decide +kernel
theorem dL_law_452 : decode cL_law 452 = .ok (.iload 4, 2) := by decide +kernel
theorem dL_law_454 : decode cL_law 454 = .ok (.iconst 3, 1) := by decide +kernel
theorem dL_law_455 : decode cL_law 455 = .ok (.iadd, 1) := by decide +kernel
theorem dL_law_456 : decode cL_law 456 = .ok (.iaload, 1) := by decide +kernel
theorem dL_law_457 : decode cL_law 457 = .ok (.aload_n 0, 1) := by decide +kernel
theorem dL_law_458 : decode cL_law 458 = .ok (.iload 4, 2) := by decide +kernel
theorem dL_law_460 : decode cL_law 460 = .ok (.iconst 4, 1) := by decide +kernel
theorem dL_law_461 : decode cL_law 461 = .ok (.iadd, 1) := by decide +kernel
theorem dL_law_462 : decode cL_law 462 = .ok (.iaload, 1) := by decide +kernel
theorem dL_law_463 : decode cL_law 463 = .ok (.invokevirtual 58, 3) := by decide +kernel
theorem dL_law_466 : decode cL_law 466 = .ok (.istore 6, 2) := by decide +kernel
theorem dL_law_468 : decode cL_law 468 = .ok (.aload_n 2, 1) := by decide +kernel
theorem dL_law_469 : decode cL_law 469 = .ok (.invokevirtual 46, 3) := by decide +kernel
theorem dL_law_472 : decode cL_law 472 = .ok (.iload 5, 2) := by decide +kernel
theorem dL_law_474 : decode cL_law 474 = .ok (.if_icmp .eq 5, 3) := by decide +kernel
theorem dL_law_477 : decode cL_law 477 = .ok (.iconst 0, 1) := by decide +kernel
theorem dL_law_478 : decode cL_law 478 = .ok (.ireturn, 1) := by decide +kernel
theorem dL_law_479 : decode cL_law 479 = .ok (.iload 5, 2) := by decide +kernel
theorem dL_law_481 : decode cL_law 481 = .ok (.ifCond .ne 15, 3) := by decide +kernel
theorem dL_law_484 : decode cL_law 484 = .ok (.aload_n 3, 1) := by decide +kernel
theorem dL_law_485 : decode cL_law 485 = .ok (.iconst 0, 1) := by decide +kernel
theorem dL_law_486 : decode cL_law 486 = .ok (.laload, 1) := by decide +kernel
theorem dL_law_487 : decode cL_law 487 = .ok (.iload 6, 2) := by decide +kernel
theorem dL_law_489 : decode cL_law 489 = .ok (.i2l, 1) := by decide +kernel
theorem dL_law_490 : decode cL_law 490 = .ok (.lcmp, 1) := by decide +kernel
theorem dL_law_491 : decode cL_law 491 = .ok (.ifCond .eq 5, 3) := by decide +kernel
theorem dL_law_494 : decode cL_law 494 = .ok (.iconst 0, 1) := by decide +kernel
theorem dL_law_495 : decode cL_law 495 = .ok (.ireturn, 1) := by decide +kernel
theorem dL_law_496 : decode cL_law 496 = .ok (.goto 736, 3) := by decide +kernel
theorem dL_law_499 : decode cL_law 499 = .ok (.aload_n 1, 1) := by decide +kernel
theorem dL_law_500 : decode cL_law 500 = .ok (.aload_n 0, 1) := by decide +kernel
theorem dL_law_501 : decode cL_law 501 = .ok (.iload 4, 2) := by decide +kernel
theorem dL_law_503 : decode cL_law 503 = .ok (.iconst 1, 1) := by decide +kernel
theorem dL_law_504 : decode cL_law 504 = .ok (.iadd, 1) := by decide +kernel
theorem dL_law_505 : decode cL_law 505 = .ok (.iaload, 1) := by decide +kernel
theorem dL_law_506 : decode cL_law 506 = .ok (.aload_n 0, 1) := by decide +kernel
theorem dL_law_507 : decode cL_law 507 = .ok (.iload 4, 2) := by decide +kernel
theorem dL_law_509 : decode cL_law 509 = .ok (.iconst 2, 1) := by decide +kernel
theorem dL_law_510 : decode cL_law 510 = .ok (.iadd, 1) := by decide +kernel
theorem dL_law_511 : decode cL_law 511 = .ok (.iaload, 1) := by decide +kernel
theorem dL_law_512 : decode cL_law 512 = .ok (.i2l, 1) := by decide +kernel
theorem dL_law_513 : decode cL_law 513 = .ok (.bipush 32, 2) := by decide +kernel
theorem dL_law_515 : decode cL_law 515 = .ok (.lshl, 1) := by decide +kernel
theorem dL_law_516 : decode cL_law 516 = .ok (.aload_n 0, 1) := by decide +kernel
theorem dL_law_517 : decode cL_law 517 = .ok (.iload 4, 2) := by decide +kernel
theorem dL_law_519 : decode cL_law 519 = .ok (.iconst 3, 1) := by decide +kernel
theorem dL_law_520 : decode cL_law 520 = .ok (.iadd, 1) := by decide +kernel
theorem dL_law_521 : decode cL_law 521 = .ok (.iaload, 1) := by decide +kernel
theorem dL_law_522 : decode cL_law 522 = .ok (.i2l, 1) := by decide +kernel
theorem dL_law_523 : decode cL_law 523 = .ok (.ldc2_w 50, 3) := by decide +kernel
theorem dL_law_526 : decode cL_law 526 = .ok (.land, 1) := by decide +kernel
theorem dL_law_527 : decode cL_law 527 = .ok (.lor, 1) := by decide +kernel
theorem dL_law_528 : decode cL_law 528 = .ok (.aload_n 0, 1) := by decide +kernel
theorem dL_law_529 : decode cL_law 529 = .ok (.iload 4, 2) := by decide +kernel
theorem dL_law_531 : decode cL_law 531 = .ok (.iconst 4, 1) := by decide +kernel
theorem dL_law_532 : decode cL_law 532 = .ok (.iadd, 1) := by decide +kernel
theorem dL_law_533 : decode cL_law 533 = .ok (.iaload, 1) := by decide +kernel
theorem dL_law_534 : decode cL_law 534 = .ok (.i2l, 1) := by decide +kernel
theorem dL_law_535 : decode cL_law 535 = .ok (.bipush 32, 2) := by decide +kernel
theorem dL_law_537 : decode cL_law 537 = .ok (.lshl, 1) := by decide +kernel
theorem dL_law_538 : decode cL_law 538 = .ok (.aload_n 0, 1) := by decide +kernel
theorem dL_law_539 : decode cL_law 539 = .ok (.iload 4, 2) := by decide +kernel
theorem dL_law_541 : decode cL_law 541 = .ok (.iconst 5, 1) := by decide +kernel
theorem dL_law_542 : decode cL_law 542 = .ok (.iadd, 1) := by decide +kernel
theorem dL_law_543 : decode cL_law 543 = .ok (.iaload, 1) := by decide +kernel
theorem dL_law_544 : decode cL_law 544 = .ok (.i2l, 1) := by decide +kernel
theorem dL_law_545 : decode cL_law 545 = .ok (.ldc2_w 50, 3) := by decide +kernel
theorem dL_law_548 : decode cL_law 548 = .ok (.land, 1) := by decide +kernel
theorem dL_law_549 : decode cL_law 549 = .ok (.lor, 1) := by decide +kernel
theorem dL_law_550 : decode cL_law 550 = .ok (.aload_n 0, 1) := by decide +kernel
theorem dL_law_551 : decode cL_law 551 = .ok (.iload 4, 2) := by decide +kernel
theorem dL_law_553 : decode cL_law 553 = .ok (.bipush 6, 2) := by decide +kernel
theorem dL_law_555 : decode cL_law 555 = .ok (.iadd, 1) := by decide +kernel
theorem dL_law_556 : decode cL_law 556 = .ok (.iaload, 1) := by decide +kernel
theorem dL_law_557 : decode cL_law 557 = .ok (.i2l, 1) := by decide +kernel
theorem dL_law_558 : decode cL_law 558 = .ok (.bipush 32, 2) := by decide +kernel
theorem dL_law_560 : decode cL_law 560 = .ok (.lshl, 1) := by decide +kernel
theorem dL_law_561 : decode cL_law 561 = .ok (.aload_n 0, 1) := by decide +kernel
theorem dL_law_562 : decode cL_law 562 = .ok (.iload 4, 2) := by decide +kernel
theorem dL_law_564 : decode cL_law 564 = .ok (.bipush 7, 2) := by decide +kernel
theorem dL_law_566 : decode cL_law 566 = .ok (.iadd, 1) := by decide +kernel
theorem dL_law_567 : decode cL_law 567 = .ok (.iaload, 1) := by decide +kernel
theorem dL_law_568 : decode cL_law 568 = .ok (.i2l, 1) := by decide +kernel
theorem dL_law_569 : decode cL_law 569 = .ok (.ldc2_w 50, 3) := by decide +kernel
theorem dL_law_572 : decode cL_law 572 = .ok (.land, 1) := by decide +kernel
theorem dL_law_573 : decode cL_law 573 = .ok (.lor, 1) := by decide +kernel
theorem dL_law_574 : decode cL_law 574 = .ok (.aload_n 3, 1) := by decide +kernel
theorem dL_law_575 : decode cL_law 575 = .ok (.invokestatic 59, 3) := by decide +kernel
theorem dL_law_578 : decode cL_law 578 = .ok (.istore 5, 2) := by decide +kernel
theorem dL_law_580 : decode cL_law 580 = .ok (.aload_n 2, 1) := by decide +kernel
theorem dL_law_581 : decode cL_law 581 = .ok (.aload_n 0, 1) := by decide +kernel
theorem dL_law_582 : decode cL_law 582 = .ok (.iload 4, 2) := by decide +kernel
theorem dL_law_584 : decode cL_law 584 = .ok (.iconst 1, 1) := by decide +kernel
theorem dL_law_585 : decode cL_law 585 = .ok (.iadd, 1) := by decide +kernel
theorem dL_law_586 : decode cL_law 586 = .ok (.iaload, 1) := by decide +kernel
theorem dL_law_587 : decode cL_law 587 = .ok (.aload_n 0, 1) := by decide +kernel
theorem dL_law_588 : decode cL_law 588 = .ok (.iload 4, 2) := by decide +kernel
theorem dL_law_590 : decode cL_law 590 = .ok (.iconst 2, 1) := by decide +kernel
theorem dL_law_591 : decode cL_law 591 = .ok (.iadd, 1) := by decide +kernel
theorem dL_law_592 : decode cL_law 592 = .ok (.iaload, 1) := by decide +kernel
theorem dL_law_593 : decode cL_law 593 = .ok (.i2l, 1) := by decide +kernel
theorem dL_law_594 : decode cL_law 594 = .ok (.bipush 32, 2) := by decide +kernel
theorem dL_law_596 : decode cL_law 596 = .ok (.lshl, 1) := by decide +kernel
theorem dL_law_597 : decode cL_law 597 = .ok (.aload_n 0, 1) := by decide +kernel
theorem dL_law_598 : decode cL_law 598 = .ok (.iload 4, 2) := by decide +kernel
theorem dL_law_600 : decode cL_law 600 = .ok (.iconst 3, 1) := by decide +kernel
theorem dL_law_601 : decode cL_law 601 = .ok (.iadd, 1) := by decide +kernel
theorem dL_law_602 : decode cL_law 602 = .ok (.iaload, 1) := by decide +kernel
theorem dL_law_603 : decode cL_law 603 = .ok (.i2l, 1) := by decide +kernel
theorem dL_law_604 : decode cL_law 604 = .ok (.ldc2_w 50, 3) := by decide +kernel
theorem dL_law_607 : decode cL_law 607 = .ok (.land, 1) := by decide +kernel
theorem dL_law_608 : decode cL_law 608 = .ok (.lor, 1) := by decide +kernel
theorem dL_law_609 : decode cL_law 609 = .ok (.aload_n 0, 1) := by decide +kernel
theorem dL_law_610 : decode cL_law 610 = .ok (.iload 4, 2) := by decide +kernel
theorem dL_law_612 : decode cL_law 612 = .ok (.iconst 4, 1) := by decide +kernel
theorem dL_law_613 : decode cL_law 613 = .ok (.iadd, 1) := by decide +kernel
theorem dL_law_614 : decode cL_law 614 = .ok (.iaload, 1) := by decide +kernel
theorem dL_law_615 : decode cL_law 615 = .ok (.i2l, 1) := by decide +kernel
theorem dL_law_616 : decode cL_law 616 = .ok (.bipush 32, 2) := by decide +kernel
theorem dL_law_618 : decode cL_law 618 = .ok (.lshl, 1) := by decide +kernel
theorem dL_law_619 : decode cL_law 619 = .ok (.aload_n 0, 1) := by decide +kernel
theorem dL_law_620 : decode cL_law 620 = .ok (.iload 4, 2) := by decide +kernel
theorem dL_law_622 : decode cL_law 622 = .ok (.iconst 5, 1) := by decide +kernel
theorem dL_law_623 : decode cL_law 623 = .ok (.iadd, 1) := by decide +kernel
theorem dL_law_624 : decode cL_law 624 = .ok (.iaload, 1) := by decide +kernel
theorem dL_law_625 : decode cL_law 625 = .ok (.i2l, 1) := by decide +kernel
theorem dL_law_626 : decode cL_law 626 = .ok (.ldc2_w 50, 3) := by decide +kernel
theorem dL_law_629 : decode cL_law 629 = .ok (.land, 1) := by decide +kernel
theorem dL_law_630 : decode cL_law 630 = .ok (.lor, 1) := by decide +kernel
theorem dL_law_631 : decode cL_law 631 = .ok (.aload_n 0, 1) := by decide +kernel
theorem dL_law_632 : decode cL_law 632 = .ok (.iload 4, 2) := by decide +kernel
theorem dL_law_634 : decode cL_law 634 = .ok (.bipush 6, 2) := by decide +kernel
theorem dL_law_636 : decode cL_law 636 = .ok (.iadd, 1) := by decide +kernel
theorem dL_law_637 : decode cL_law 637 = .ok (.iaload, 1) := by decide +kernel
theorem dL_law_638 : decode cL_law 638 = .ok (.i2l, 1) := by decide +kernel
theorem dL_law_639 : decode cL_law 639 = .ok (.bipush 32, 2) := by decide +kernel
theorem dL_law_641 : decode cL_law 641 = .ok (.lshl, 1) := by decide +kernel
theorem dL_law_642 : decode cL_law 642 = .ok (.aload_n 0, 1) := by decide +kernel
theorem dL_law_643 : decode cL_law 643 = .ok (.iload 4, 2) := by decide +kernel
theorem dL_law_645 : decode cL_law 645 = .ok (.bipush 7, 2) := by decide +kernel
theorem dL_law_647 : decode cL_law 647 = .ok (.iadd, 1) := by decide +kernel
theorem dL_law_648 : decode cL_law 648 = .ok (.iaload, 1) := by decide +kernel
theorem dL_law_649 : decode cL_law 649 = .ok (.i2l, 1) := by decide +kernel
theorem dL_law_650 : decode cL_law 650 = .ok (.ldc2_w 50, 3) := by decide +kernel
theorem dL_law_653 : decode cL_law 653 = .ok (.land, 1) := by decide +kernel
theorem dL_law_654 : decode cL_law 654 = .ok (.lor, 1) := by decide +kernel
theorem dL_law_655 : decode cL_law 655 = .ok (.invokevirtual 61, 3) := by decide +kernel
theorem dL_law_658 : decode cL_law 658 = .ok (.istore 6, 2) := by decide +kernel
theorem dL_law_660 : decode cL_law 660 = .ok (.aload_n 2, 1) := by decide +kernel
theorem dL_law_661 : decode cL_law 661 = .ok (.invokevirtual 46, 3) := by decide +kernel
theorem dL_law_664 : decode cL_law 664 = .ok (.iload 5, 2) := by decide +kernel
theorem dL_law_666 : decode cL_law 666 = .ok (.if_icmp .eq 5, 3) := by decide +kernel
theorem dL_law_669 : decode cL_law 669 = .ok (.iconst 0, 1) := by decide +kernel
theorem dL_law_670 : decode cL_law 670 = .ok (.ireturn, 1) := by decide +kernel
theorem dL_law_671 : decode cL_law 671 = .ok (.iload 5, 2) := by decide +kernel
theorem dL_law_673 : decode cL_law 673 = .ok (.ifCond .ne 15, 3) := by decide +kernel
theorem dL_law_676 : decode cL_law 676 = .ok (.aload_n 3, 1) := by decide +kernel
theorem dL_law_677 : decode cL_law 677 = .ok (.iconst 0, 1) := by decide +kernel
theorem dL_law_678 : decode cL_law 678 = .ok (.laload, 1) := by decide +kernel
theorem dL_law_679 : decode cL_law 679 = .ok (.iload 6, 2) := by decide +kernel
theorem dL_law_681 : decode cL_law 681 = .ok (.i2l, 1) := by decide +kernel
theorem dL_law_682 : decode cL_law 682 = .ok (.lcmp, 1) := by decide +kernel
theorem dL_law_683 : decode cL_law 683 = .ok (.ifCond .eq 5, 3) := by decide +kernel
theorem dL_law_686 : decode cL_law 686 = .ok (.iconst 0, 1) := by decide +kernel
theorem dL_law_687 : decode cL_law 687 = .ok (.ireturn, 1) := by decide +kernel
theorem dL_law_688 : decode cL_law 688 = .ok (.goto 544, 3) := by decide +kernel
theorem dL_law_691 : decode cL_law 691 = .ok (.aload_n 1, 1) := by decide +kernel
theorem dL_law_692 : decode cL_law 692 = .ok (.aload_n 0, 1) := by decide +kernel
theorem dL_law_693 : decode cL_law 693 = .ok (.iload 4, 2) := by decide +kernel
theorem dL_law_695 : decode cL_law 695 = .ok (.iconst 1, 1) := by decide +kernel
theorem dL_law_696 : decode cL_law 696 = .ok (.iadd, 1) := by decide +kernel
theorem dL_law_697 : decode cL_law 697 = .ok (.iaload, 1) := by decide +kernel
theorem dL_law_698 : decode cL_law 698 = .ok (.invokevirtual 62, 3) := by decide +kernel
theorem dL_law_701 : decode cL_law 701 = .ok (.aload_n 2, 1) := by decide +kernel
theorem dL_law_702 : decode cL_law 702 = .ok (.aload_n 0, 1) := by decide +kernel
theorem dL_law_703 : decode cL_law 703 = .ok (.iload 4, 2) := by decide +kernel
theorem dL_law_705 : decode cL_law 705 = .ok (.iconst 1, 1) := by decide +kernel
theorem dL_law_706 : decode cL_law 706 = .ok (.iadd, 1) := by decide +kernel
theorem dL_law_707 : decode cL_law 707 = .ok (.iaload, 1) := by decide +kernel
theorem dL_law_708 : decode cL_law 708 = .ok (.invokevirtual 66, 3) := by decide +kernel
theorem dL_law_711 : decode cL_law 711 = .ok (.lcmp, 1) := by decide +kernel
theorem dL_law_712 : decode cL_law 712 = .ok (.ifCond .eq 520, 3) := by decide +kernel
theorem dL_law_715 : decode cL_law 715 = .ok (.iconst 0, 1) := by decide +kernel
theorem dL_law_716 : decode cL_law 716 = .ok (.ireturn, 1) := by decide +kernel
theorem dL_law_717 : decode cL_law 717 = .ok (.aload_n 1, 1) := by decide +kernel
theorem dL_law_718 : decode cL_law 718 = .ok (.aload_n 0, 1) := by decide +kernel
theorem dL_law_719 : decode cL_law 719 = .ok (.iload 4, 2) := by decide +kernel
theorem dL_law_721 : decode cL_law 721 = .ok (.iconst 1, 1) := by decide +kernel
theorem dL_law_722 : decode cL_law 722 = .ok (.iadd, 1) := by decide +kernel
theorem dL_law_723 : decode cL_law 723 = .ok (.iaload, 1) := by decide +kernel
theorem dL_law_724 : decode cL_law 724 = .ok (.i2l, 1) := by decide +kernel
theorem dL_law_725 : decode cL_law 725 = .ok (.bipush 32, 2) := by decide +kernel
theorem dL_law_727 : decode cL_law 727 = .ok (.lshl, 1) := by decide +kernel
theorem dL_law_728 : decode cL_law 728 = .ok (.aload_n 0, 1) := by decide +kernel
theorem dL_law_729 : decode cL_law 729 = .ok (.iload 4, 2) := by decide +kernel
theorem dL_law_731 : decode cL_law 731 = .ok (.iconst 2, 1) := by decide +kernel
theorem dL_law_732 : decode cL_law 732 = .ok (.iadd, 1) := by decide +kernel
theorem dL_law_733 : decode cL_law 733 = .ok (.iaload, 1) := by decide +kernel
theorem dL_law_734 : decode cL_law 734 = .ok (.i2l, 1) := by decide +kernel
theorem dL_law_735 : decode cL_law 735 = .ok (.ldc2_w 50, 3) := by decide +kernel
theorem dL_law_738 : decode cL_law 738 = .ok (.land, 1) := by decide +kernel
theorem dL_law_739 : decode cL_law 739 = .ok (.lor, 1) := by decide +kernel
theorem dL_law_740 : decode cL_law 740 = .ok (.invokevirtual 67, 3) := by decide +kernel
theorem dL_law_743 : decode cL_law 743 = .ok (.aload_n 2, 1) := by decide +kernel
theorem dL_law_744 : decode cL_law 744 = .ok (.aload_n 0, 1) := by decide +kernel
theorem dL_law_745 : decode cL_law 745 = .ok (.iload 4, 2) := by decide +kernel
theorem dL_law_747 : decode cL_law 747 = .ok (.iconst 1, 1) := by decide +kernel
theorem dL_law_748 : decode cL_law 748 = .ok (.iadd, 1) := by decide +kernel
theorem dL_law_749 : decode cL_law 749 = .ok (.iaload, 1) := by decide +kernel
theorem dL_law_750 : decode cL_law 750 = .ok (.i2l, 1) := by decide +kernel
theorem dL_law_751 : decode cL_law 751 = .ok (.bipush 32, 2) := by decide +kernel
theorem dL_law_753 : decode cL_law 753 = .ok (.lshl, 1) := by decide +kernel
theorem dL_law_754 : decode cL_law 754 = .ok (.aload_n 0, 1) := by decide +kernel
theorem dL_law_755 : decode cL_law 755 = .ok (.iload 4, 2) := by decide +kernel
theorem dL_law_757 : decode cL_law 757 = .ok (.iconst 2, 1) := by decide +kernel
theorem dL_law_758 : decode cL_law 758 = .ok (.iadd, 1) := by decide +kernel
theorem dL_law_759 : decode cL_law 759 = .ok (.iaload, 1) := by decide +kernel
theorem dL_law_760 : decode cL_law 760 = .ok (.i2l, 1) := by decide +kernel
theorem dL_law_761 : decode cL_law 761 = .ok (.ldc2_w 50, 3) := by decide +kernel
theorem dL_law_764 : decode cL_law 764 = .ok (.land, 1) := by decide +kernel
theorem dL_law_765 : decode cL_law 765 = .ok (.lor, 1) := by decide +kernel
theorem dL_law_766 : decode cL_law 766 = .ok (.invokevirtual 71, 3) := by decide +kernel
theorem dL_law_769 : decode cL_law 769 = .ok (.if_icmp .eq 463, 3) := by decide +kernel
theorem dL_law_772 : decode cL_law 772 = .ok (.iconst 0, 1) := by decide +kernel
theorem dL_law_773 : decode cL_law 773 = .ok (.ireturn, 1) := by decide +kernel
theorem dL_law_774 : decode cL_law 774 = .ok (.aload_n 1, 1) := by decide +kernel
theorem dL_law_775 : decode cL_law 775 = .ok (.aload_n 0, 1) := by decide +kernel
theorem dL_law_776 : decode cL_law 776 = .ok (.iload 4, 2) := by decide +kernel
theorem dL_law_778 : decode cL_law 778 = .ok (.iconst 1, 1) := by decide +kernel
theorem dL_law_779 : decode cL_law 779 = .ok (.iadd, 1) := by decide +kernel
theorem dL_law_780 : decode cL_law 780 = .ok (.iaload, 1) := by decide +kernel
theorem dL_law_781 : decode cL_law 781 = .ok (.i2l, 1) := by decide +kernel
theorem dL_law_782 : decode cL_law 782 = .ok (.bipush 32, 2) := by decide +kernel
theorem dL_law_784 : decode cL_law 784 = .ok (.lshl, 1) := by decide +kernel
theorem dL_law_785 : decode cL_law 785 = .ok (.aload_n 0, 1) := by decide +kernel
theorem dL_law_786 : decode cL_law 786 = .ok (.iload 4, 2) := by decide +kernel
theorem dL_law_788 : decode cL_law 788 = .ok (.iconst 2, 1) := by decide +kernel
theorem dL_law_789 : decode cL_law 789 = .ok (.iadd, 1) := by decide +kernel
theorem dL_law_790 : decode cL_law 790 = .ok (.iaload, 1) := by decide +kernel
theorem dL_law_791 : decode cL_law 791 = .ok (.i2l, 1) := by decide +kernel
theorem dL_law_792 : decode cL_law 792 = .ok (.ldc2_w 50, 3) := by decide +kernel
theorem dL_law_795 : decode cL_law 795 = .ok (.land, 1) := by decide +kernel
theorem dL_law_796 : decode cL_law 796 = .ok (.lor, 1) := by decide +kernel
theorem dL_law_797 : decode cL_law 797 = .ok (.aload_n 0, 1) := by decide +kernel
theorem dL_law_798 : decode cL_law 798 = .ok (.iload 4, 2) := by decide +kernel
theorem dL_law_800 : decode cL_law 800 = .ok (.iconst 3, 1) := by decide +kernel
theorem dL_law_801 : decode cL_law 801 = .ok (.iadd, 1) := by decide +kernel
theorem dL_law_802 : decode cL_law 802 = .ok (.iaload, 1) := by decide +kernel
theorem dL_law_803 : decode cL_law 803 = .ok (.ifCond .eq 7, 3) := by decide +kernel
theorem dL_law_806 : decode cL_law 806 = .ok (.iconst 1, 1) := by decide +kernel
theorem dL_law_807 : decode cL_law 807 = .ok (.goto 4, 3) := by decide +kernel
theorem dL_law_810 : decode cL_law 810 = .ok (.iconst 0, 1) := by decide +kernel
theorem dL_law_811 : decode cL_law 811 = .ok (.invokevirtual 72, 3) := by decide +kernel
theorem dL_law_814 : decode cL_law 814 = .ok (.aload_n 2, 1) := by decide +kernel
theorem dL_law_815 : decode cL_law 815 = .ok (.aload_n 0, 1) := by decide +kernel
theorem dL_law_816 : decode cL_law 816 = .ok (.iload 4, 2) := by decide +kernel
theorem dL_law_818 : decode cL_law 818 = .ok (.iconst 1, 1) := by decide +kernel
theorem dL_law_819 : decode cL_law 819 = .ok (.iadd, 1) := by decide +kernel
theorem dL_law_820 : decode cL_law 820 = .ok (.iaload, 1) := by decide +kernel
theorem dL_law_821 : decode cL_law 821 = .ok (.i2l, 1) := by decide +kernel
theorem dL_law_822 : decode cL_law 822 = .ok (.bipush 32, 2) := by decide +kernel
theorem dL_law_824 : decode cL_law 824 = .ok (.lshl, 1) := by decide +kernel
theorem dL_law_825 : decode cL_law 825 = .ok (.aload_n 0, 1) := by decide +kernel
theorem dL_law_826 : decode cL_law 826 = .ok (.iload 4, 2) := by decide +kernel
theorem dL_law_828 : decode cL_law 828 = .ok (.iconst 2, 1) := by decide +kernel
theorem dL_law_829 : decode cL_law 829 = .ok (.iadd, 1) := by decide +kernel
theorem dL_law_830 : decode cL_law 830 = .ok (.iaload, 1) := by decide +kernel
theorem dL_law_831 : decode cL_law 831 = .ok (.i2l, 1) := by decide +kernel
theorem dL_law_832 : decode cL_law 832 = .ok (.ldc2_w 50, 3) := by decide +kernel
theorem dL_law_835 : decode cL_law 835 = .ok (.land, 1) := by decide +kernel
theorem dL_law_836 : decode cL_law 836 = .ok (.lor, 1) := by decide +kernel
theorem dL_law_837 : decode cL_law 837 = .ok (.aload_n 0, 1) := by decide +kernel
theorem dL_law_838 : decode cL_law 838 = .ok (.iload 4, 2) := by decide +kernel
theorem dL_law_840 : decode cL_law 840 = .ok (.iconst 3, 1) := by decide +kernel
theorem dL_law_841 : decode cL_law 841 = .ok (.iadd, 1) := by decide +kernel
theorem dL_law_842 : decode cL_law 842 = .ok (.iaload, 1) := by decide +kernel
theorem dL_law_843 : decode cL_law 843 = .ok (.ifCond .eq 7, 3) := by decide +kernel
theorem dL_law_846 : decode cL_law 846 = .ok (.iconst 1, 1) := by decide +kernel
theorem dL_law_847 : decode cL_law 847 = .ok (.goto 4, 3) := by decide +kernel
theorem dL_law_850 : decode cL_law 850 = .ok (.iconst 0, 1) := by decide +kernel
theorem dL_law_851 : decode cL_law 851 = .ok (.invokevirtual 76, 3) := by decide +kernel
theorem dL_law_854 : decode cL_law 854 = .ok (.if_icmp .eq 378, 3) := by decide +kernel
theorem dL_law_857 : decode cL_law 857 = .ok (.iconst 0, 1) := by decide +kernel
theorem dL_law_858 : decode cL_law 858 = .ok (.ireturn, 1) := by decide +kernel
theorem dL_law_859 : decode cL_law 859 = .ok (.aload_n 1, 1) := by decide +kernel
theorem dL_law_860 : decode cL_law 860 = .ok (.aload_n 0, 1) := by decide +kernel
theorem dL_law_861 : decode cL_law 861 = .ok (.iload 4, 2) := by decide +kernel
theorem dL_law_863 : decode cL_law 863 = .ok (.iconst 1, 1) := by decide +kernel
theorem dL_law_864 : decode cL_law 864 = .ok (.iadd, 1) := by decide +kernel
theorem dL_law_865 : decode cL_law 865 = .ok (.iaload, 1) := by decide +kernel
theorem dL_law_866 : decode cL_law 866 = .ok (.aload_n 0, 1) := by decide +kernel
theorem dL_law_867 : decode cL_law 867 = .ok (.iload 4, 2) := by decide +kernel
theorem dL_law_869 : decode cL_law 869 = .ok (.iconst 2, 1) := by decide +kernel
theorem dL_law_870 : decode cL_law 870 = .ok (.iadd, 1) := by decide +kernel
theorem dL_law_871 : decode cL_law 871 = .ok (.iaload, 1) := by decide +kernel
theorem dL_law_872 : decode cL_law 872 = .ok (.invokevirtual 77, 3) := by decide +kernel
theorem dL_law_875 : decode cL_law 875 = .ok (.aload_n 2, 1) := by decide +kernel
theorem dL_law_876 : decode cL_law 876 = .ok (.aload_n 0, 1) := by decide +kernel
theorem dL_law_877 : decode cL_law 877 = .ok (.iload 4, 2) := by decide +kernel
theorem dL_law_879 : decode cL_law 879 = .ok (.iconst 1, 1) := by decide +kernel
theorem dL_law_880 : decode cL_law 880 = .ok (.iadd, 1) := by decide +kernel
theorem dL_law_881 : decode cL_law 881 = .ok (.iaload, 1) := by decide +kernel
theorem dL_law_882 : decode cL_law 882 = .ok (.aload_n 0, 1) := by decide +kernel
theorem dL_law_883 : decode cL_law 883 = .ok (.iload 4, 2) := by decide +kernel
theorem dL_law_885 : decode cL_law 885 = .ok (.iconst 2, 1) := by decide +kernel
theorem dL_law_886 : decode cL_law 886 = .ok (.iadd, 1) := by decide +kernel
theorem dL_law_887 : decode cL_law 887 = .ok (.iaload, 1) := by decide +kernel
theorem dL_law_888 : decode cL_law 888 = .ok (.invokevirtual 81, 3) := by decide +kernel
theorem dL_law_891 : decode cL_law 891 = .ok (.lcmp, 1) := by decide +kernel
theorem dL_law_892 : decode cL_law 892 = .ok (.ifCond .eq 340, 3) := by decide +kernel
theorem dL_law_895 : decode cL_law 895 = .ok (.iconst 0, 1) := by decide +kernel
theorem dL_law_896 : decode cL_law 896 = .ok (.ireturn, 1) := by decide +kernel
theorem dL_law_897 : decode cL_law 897 = .ok (.aload_n 1, 1) := by decide +kernel
theorem dL_law_898 : decode cL_law 898 = .ok (.aload_n 0, 1) := by decide +kernel
theorem dL_law_899 : decode cL_law 899 = .ok (.iload 4, 2) := by decide +kernel
theorem dL_law_901 : decode cL_law 901 = .ok (.iconst 1, 1) := by decide +kernel
theorem dL_law_902 : decode cL_law 902 = .ok (.iadd, 1) := by decide +kernel
theorem dL_law_903 : decode cL_law 903 = .ok (.iaload, 1) := by decide +kernel
theorem dL_law_904 : decode cL_law 904 = .ok (.aload_n 0, 1) := by decide +kernel
theorem dL_law_905 : decode cL_law 905 = .ok (.iload 4, 2) := by decide +kernel
theorem dL_law_907 : decode cL_law 907 = .ok (.iconst 2, 1) := by decide +kernel
theorem dL_law_908 : decode cL_law 908 = .ok (.iadd, 1) := by decide +kernel
theorem dL_law_909 : decode cL_law 909 = .ok (.iaload, 1) := by decide +kernel
theorem dL_law_910 : decode cL_law 910 = .ok (.invokevirtual 82, 3) := by decide +kernel
theorem dL_law_913 : decode cL_law 913 = .ok (.aload_n 2, 1) := by decide +kernel
theorem dL_law_914 : decode cL_law 914 = .ok (.aload_n 0, 1) := by decide +kernel
theorem dL_law_915 : decode cL_law 915 = .ok (.iload 4, 2) := by decide +kernel
theorem dL_law_917 : decode cL_law 917 = .ok (.iconst 1, 1) := by decide +kernel
theorem dL_law_918 : decode cL_law 918 = .ok (.iadd, 1) := by decide +kernel
theorem dL_law_919 : decode cL_law 919 = .ok (.iaload, 1) := by decide +kernel
theorem dL_law_920 : decode cL_law 920 = .ok (.aload_n 0, 1) := by decide +kernel
theorem dL_law_921 : decode cL_law 921 = .ok (.iload 4, 2) := by decide +kernel
theorem dL_law_923 : decode cL_law 923 = .ok (.iconst 2, 1) := by decide +kernel
theorem dL_law_924 : decode cL_law 924 = .ok (.iadd, 1) := by decide +kernel
theorem dL_law_925 : decode cL_law 925 = .ok (.iaload, 1) := by decide +kernel
theorem dL_law_926 : decode cL_law 926 = .ok (.invokevirtual 85, 3) := by decide +kernel
theorem dL_law_929 : decode cL_law 929 = .ok (.if_icmp .eq 303, 3) := by decide +kernel
theorem dL_law_932 : decode cL_law 932 = .ok (.iconst 0, 1) := by decide +kernel
theorem dL_law_933 : decode cL_law 933 = .ok (.ireturn, 1) := by decide +kernel
theorem dL_law_934 : decode cL_law 934 = .ok (.aload_n 1, 1) := by decide +kernel
theorem dL_law_935 : decode cL_law 935 = .ok (.aload_n 0, 1) := by decide +kernel
theorem dL_law_936 : decode cL_law 936 = .ok (.iload 4, 2) := by decide +kernel
theorem dL_law_938 : decode cL_law 938 = .ok (.iconst 1, 1) := by decide +kernel
theorem dL_law_939 : decode cL_law 939 = .ok (.iadd, 1) := by decide +kernel
theorem dL_law_940 : decode cL_law 940 = .ok (.iaload, 1) := by decide +kernel
theorem dL_law_941 : decode cL_law 941 = .ok (.invokevirtual 86, 3) := by decide +kernel
theorem dL_law_944 : decode cL_law 944 = .ok (.aload_n 2, 1) := by decide +kernel
theorem dL_law_945 : decode cL_law 945 = .ok (.aload_n 0, 1) := by decide +kernel
theorem dL_law_946 : decode cL_law 946 = .ok (.iload 4, 2) := by decide +kernel
theorem dL_law_948 : decode cL_law 948 = .ok (.iconst 1, 1) := by decide +kernel
theorem dL_law_949 : decode cL_law 949 = .ok (.iadd, 1) := by decide +kernel
theorem dL_law_950 : decode cL_law 950 = .ok (.iaload, 1) := by decide +kernel
theorem dL_law_951 : decode cL_law 951 = .ok (.invokevirtual 89, 3) := by decide +kernel
theorem dL_law_954 : decode cL_law 954 = .ok (.if_icmp .eq 278, 3) := by decide +kernel
theorem dL_law_957 : decode cL_law 957 = .ok (.iconst 0, 1) := by decide +kernel
theorem dL_law_958 : decode cL_law 958 = .ok (.ireturn, 1) := by decide +kernel
theorem dL_law_959 : decode cL_law 959 = .ok (.aload_n 1, 1) := by decide +kernel
theorem dL_law_960 : decode cL_law 960 = .ok (.aload_n 0, 1) := by decide +kernel
theorem dL_law_961 : decode cL_law 961 = .ok (.iload 4, 2) := by decide +kernel
theorem dL_law_963 : decode cL_law 963 = .ok (.iconst 1, 1) := by decide +kernel
theorem dL_law_964 : decode cL_law 964 = .ok (.iadd, 1) := by decide +kernel
theorem dL_law_965 : decode cL_law 965 = .ok (.iaload, 1) := by decide +kernel
theorem dL_law_966 : decode cL_law 966 = .ok (.aload_n 0, 1) := by decide +kernel
theorem dL_law_967 : decode cL_law 967 = .ok (.iload 4, 2) := by decide +kernel
theorem dL_law_969 : decode cL_law 969 = .ok (.iconst 2, 1) := by decide +kernel
theorem dL_law_970 : decode cL_law 970 = .ok (.iadd, 1) := by decide +kernel
theorem dL_law_971 : decode cL_law 971 = .ok (.iaload, 1) := by decide +kernel
theorem dL_law_972 : decode cL_law 972 = .ok (.aload_n 3, 1) := by decide +kernel
theorem dL_law_973 : decode cL_law 973 = .ok (.invokestatic 90, 3) := by decide +kernel
theorem dL_law_976 : decode cL_law 976 = .ok (.istore 5, 2) := by decide +kernel
theorem dL_law_978 : decode cL_law 978 = .ok (.aload_n 2, 1) := by decide +kernel
theorem dL_law_979 : decode cL_law 979 = .ok (.aload_n 0, 1) := by decide +kernel
theorem dL_law_980 : decode cL_law 980 = .ok (.iload 4, 2) := by decide +kernel
theorem dL_law_982 : decode cL_law 982 = .ok (.iconst 1, 1) := by decide +kernel
theorem dL_law_983 : decode cL_law 983 = .ok (.iadd, 1) := by decide +kernel
theorem dL_law_984 : decode cL_law 984 = .ok (.iaload, 1) := by decide +kernel
theorem dL_law_985 : decode cL_law 985 = .ok (.aload_n 0, 1) := by decide +kernel
theorem dL_law_986 : decode cL_law 986 = .ok (.iload 4, 2) := by decide +kernel
theorem dL_law_988 : decode cL_law 988 = .ok (.iconst 2, 1) := by decide +kernel
theorem dL_law_989 : decode cL_law 989 = .ok (.iadd, 1) := by decide +kernel
theorem dL_law_990 : decode cL_law 990 = .ok (.iaload, 1) := by decide +kernel
theorem dL_law_991 : decode cL_law 991 = .ok (.invokevirtual 93, 3) := by decide +kernel
theorem dL_law_994 : decode cL_law 994 = .ok (.istore 6, 2) := by decide +kernel
theorem dL_law_996 : decode cL_law 996 = .ok (.aload_n 2, 1) := by decide +kernel
theorem dL_law_997 : decode cL_law 997 = .ok (.invokevirtual 46, 3) := by decide +kernel
theorem dL_law_1000 : decode cL_law 1000 = .ok (.iload 5, 2) := by decide +kernel
theorem dL_law_1002 : decode cL_law 1002 = .ok (.if_icmp .eq 5, 3) := by decide +kernel
theorem dL_law_1005 : decode cL_law 1005 = .ok (.iconst 0, 1) := by decide +kernel
theorem dL_law_1006 : decode cL_law 1006 = .ok (.ireturn, 1) := by decide +kernel
theorem dL_law_1007 : decode cL_law 1007 = .ok (.iload 5, 2) := by decide +kernel
theorem dL_law_1009 : decode cL_law 1009 = .ok (.ifCond .ne 15, 3) := by decide +kernel
theorem dL_law_1012 : decode cL_law 1012 = .ok (.aload_n 3, 1) := by decide +kernel
theorem dL_law_1013 : decode cL_law 1013 = .ok (.iconst 0, 1) := by decide +kernel
theorem dL_law_1014 : decode cL_law 1014 = .ok (.laload, 1) := by decide +kernel
theorem dL_law_1015 : decode cL_law 1015 = .ok (.iload 6, 2) := by decide +kernel
theorem dL_law_1017 : decode cL_law 1017 = .ok (.i2l, 1) := by decide +kernel
theorem dL_law_1018 : decode cL_law 1018 = .ok (.lcmp, 1) := by decide +kernel
theorem dL_law_1019 : decode cL_law 1019 = .ok (.ifCond .eq 5, 3) := by decide +kernel
theorem dL_law_1022 : decode cL_law 1022 = .ok (.iconst 0, 1) := by decide +kernel
theorem dL_law_1023 : decode cL_law 1023 = .ok (.ireturn, 1) := by decide +kernel
theorem dL_law_1024 : decode cL_law 1024 = .ok (.goto 208, 3) := by decide +kernel
theorem dL_law_1027 : decode cL_law 1027 = .ok (.aload_n 1, 1) := by decide +kernel
theorem dL_law_1028 : decode cL_law 1028 = .ok (.aload_n 0, 1) := by decide +kernel
theorem dL_law_1029 : decode cL_law 1029 = .ok (.iload 4, 2) := by decide +kernel
theorem dL_law_1031 : decode cL_law 1031 = .ok (.iconst 1, 1) := by decide +kernel
theorem dL_law_1032 : decode cL_law 1032 = .ok (.iadd, 1) := by decide +kernel
theorem dL_law_1033 : decode cL_law 1033 = .ok (.iaload, 1) := by decide +kernel
theorem dL_law_1034 : decode cL_law 1034 = .ok (.aload_n 3, 1) := by decide +kernel
theorem dL_law_1035 : decode cL_law 1035 = .ok (.invokestatic 94, 3) := by decide +kernel
theorem dL_law_1038 : decode cL_law 1038 = .ok (.istore 5, 2) := by decide +kernel
theorem dL_law_1040 : decode cL_law 1040 = .ok (.aload_n 2, 1) := by decide +kernel
theorem dL_law_1041 : decode cL_law 1041 = .ok (.aload_n 0, 1) := by decide +kernel
theorem dL_law_1042 : decode cL_law 1042 = .ok (.iload 4, 2) := by decide +kernel
theorem dL_law_1044 : decode cL_law 1044 = .ok (.iconst 1, 1) := by decide +kernel
theorem dL_law_1045 : decode cL_law 1045 = .ok (.iadd, 1) := by decide +kernel
theorem dL_law_1046 : decode cL_law 1046 = .ok (.iaload, 1) := by decide +kernel
theorem dL_law_1047 : decode cL_law 1047 = .ok (.invokevirtual 97, 3) := by decide +kernel
theorem dL_law_1050 : decode cL_law 1050 = .ok (.istore 6, 2) := by decide +kernel
theorem dL_law_1052 : decode cL_law 1052 = .ok (.aload_n 2, 1) := by decide +kernel
theorem dL_law_1053 : decode cL_law 1053 = .ok (.invokevirtual 46, 3) := by decide +kernel
theorem dL_law_1056 : decode cL_law 1056 = .ok (.iload 5, 2) := by decide +kernel
theorem dL_law_1058 : decode cL_law 1058 = .ok (.if_icmp .eq 5, 3) := by decide +kernel
theorem dL_law_1061 : decode cL_law 1061 = .ok (.iconst 0, 1) := by decide +kernel
theorem dL_law_1062 : decode cL_law 1062 = .ok (.ireturn, 1) := by decide +kernel
theorem dL_law_1063 : decode cL_law 1063 = .ok (.iload 5, 2) := by decide +kernel
theorem dL_law_1065 : decode cL_law 1065 = .ok (.ifCond .ne 15, 3) := by decide +kernel
theorem dL_law_1068 : decode cL_law 1068 = .ok (.aload_n 3, 1) := by decide +kernel
theorem dL_law_1069 : decode cL_law 1069 = .ok (.iconst 0, 1) := by decide +kernel
theorem dL_law_1070 : decode cL_law 1070 = .ok (.laload, 1) := by decide +kernel
theorem dL_law_1071 : decode cL_law 1071 = .ok (.iload 6, 2) := by decide +kernel
theorem dL_law_1073 : decode cL_law 1073 = .ok (.i2l, 1) := by decide +kernel
theorem dL_law_1074 : decode cL_law 1074 = .ok (.lcmp, 1) := by decide +kernel
theorem dL_law_1075 : decode cL_law 1075 = .ok (.ifCond .eq 5, 3) := by decide +kernel
theorem dL_law_1078 : decode cL_law 1078 = .ok (.iconst 0, 1) := by decide +kernel
theorem dL_law_1079 : decode cL_law 1079 = .ok (.ireturn, 1) := by decide +kernel
theorem dL_law_1080 : decode cL_law 1080 = .ok (.goto 152, 3) := by decide +kernel
theorem dL_law_1083 : decode cL_law 1083 = .ok (.aload_n 1, 1) := by decide +kernel
theorem dL_law_1084 : decode cL_law 1084 = .ok (.aload_n 0, 1) := by decide +kernel
theorem dL_law_1085 : decode cL_law 1085 = .ok (.iload 4, 2) := by decide +kernel
theorem dL_law_1087 : decode cL_law 1087 = .ok (.iconst 1, 1) := by decide +kernel
theorem dL_law_1088 : decode cL_law 1088 = .ok (.iadd, 1) := by decide +kernel
theorem dL_law_1089 : decode cL_law 1089 = .ok (.iaload, 1) := by decide +kernel
theorem dL_law_1090 : decode cL_law 1090 = .ok (.aload_n 0, 1) := by decide +kernel
theorem dL_law_1091 : decode cL_law 1091 = .ok (.iload 4, 2) := by decide +kernel
theorem dL_law_1093 : decode cL_law 1093 = .ok (.iconst 2, 1) := by decide +kernel
theorem dL_law_1094 : decode cL_law 1094 = .ok (.iadd, 1) := by decide +kernel
theorem dL_law_1095 : decode cL_law 1095 = .ok (.iaload, 1) := by decide +kernel
theorem dL_law_1096 : decode cL_law 1096 = .ok (.aload_n 0, 1) := by decide +kernel
theorem dL_law_1097 : decode cL_law 1097 = .ok (.iload 4, 2) := by decide +kernel
theorem dL_law_1099 : decode cL_law 1099 = .ok (.iconst 3, 1) := by decide +kernel
theorem dL_law_1100 : decode cL_law 1100 = .ok (.iadd, 1) := by decide +kernel
theorem dL_law_1101 : decode cL_law 1101 = .ok (.iaload, 1) := by decide +kernel
theorem dL_law_1102 : decode cL_law 1102 = .ok (.aload_n 0, 1) := by decide +kernel
theorem dL_law_1103 : decode cL_law 1103 = .ok (.iload 4, 2) := by decide +kernel
theorem dL_law_1105 : decode cL_law 1105 = .ok (.iconst 4, 1) := by decide +kernel
theorem dL_law_1106 : decode cL_law 1106 = .ok (.iadd, 1) := by decide +kernel
theorem dL_law_1107 : decode cL_law 1107 = .ok (.iaload, 1) := by decide +kernel
theorem dL_law_1108 : decode cL_law 1108 = .ok (.aload_n 0, 1) := by decide +kernel
theorem dL_law_1109 : decode cL_law 1109 = .ok (.iload 4, 2) := by decide +kernel
theorem dL_law_1111 : decode cL_law 1111 = .ok (.iconst 5, 1) := by decide +kernel
theorem dL_law_1112 : decode cL_law 1112 = .ok (.iadd, 1) := by decide +kernel
theorem dL_law_1113 : decode cL_law 1113 = .ok (.iaload, 1) := by decide +kernel
theorem dL_law_1114 : decode cL_law 1114 = .ok (.invokevirtual 98, 3) := by decide +kernel
theorem dL_law_1117 : decode cL_law 1117 = .ok (.aload_n 2, 1) := by decide +kernel
theorem dL_law_1118 : decode cL_law 1118 = .ok (.aload_n 0, 1) := by decide +kernel
theorem dL_law_1119 : decode cL_law 1119 = .ok (.iload 4, 2) := by decide +kernel
theorem dL_law_1121 : decode cL_law 1121 = .ok (.iconst 1, 1) := by decide +kernel
theorem dL_law_1122 : decode cL_law 1122 = .ok (.iadd, 1) := by decide +kernel
theorem dL_law_1123 : decode cL_law 1123 = .ok (.iaload, 1) := by decide +kernel
theorem dL_law_1124 : decode cL_law 1124 = .ok (.aload_n 0, 1) := by decide +kernel
theorem dL_law_1125 : decode cL_law 1125 = .ok (.iload 4, 2) := by decide +kernel
theorem dL_law_1127 : decode cL_law 1127 = .ok (.iconst 2, 1) := by decide +kernel
theorem dL_law_1128 : decode cL_law 1128 = .ok (.iadd, 1) := by decide +kernel
theorem dL_law_1129 : decode cL_law 1129 = .ok (.iaload, 1) := by decide +kernel
theorem dL_law_1130 : decode cL_law 1130 = .ok (.aload_n 0, 1) := by decide +kernel
theorem dL_law_1131 : decode cL_law 1131 = .ok (.iload 4, 2) := by decide +kernel
theorem dL_law_1133 : decode cL_law 1133 = .ok (.iconst 3, 1) := by decide +kernel
theorem dL_law_1134 : decode cL_law 1134 = .ok (.iadd, 1) := by decide +kernel
theorem dL_law_1135 : decode cL_law 1135 = .ok (.iaload, 1) := by decide +kernel
theorem dL_law_1136 : decode cL_law 1136 = .ok (.aload_n 0, 1) := by decide +kernel
theorem dL_law_1137 : decode cL_law 1137 = .ok (.iload 4, 2) := by decide +kernel
theorem dL_law_1139 : decode cL_law 1139 = .ok (.iconst 4, 1) := by decide +kernel
theorem dL_law_1140 : decode cL_law 1140 = .ok (.iadd, 1) := by decide +kernel
theorem dL_law_1141 : decode cL_law 1141 = .ok (.iaload, 1) := by decide +kernel
theorem dL_law_1142 : decode cL_law 1142 = .ok (.aload_n 0, 1) := by decide +kernel
theorem dL_law_1143 : decode cL_law 1143 = .ok (.iload 4, 2) := by decide +kernel
theorem dL_law_1145 : decode cL_law 1145 = .ok (.iconst 5, 1) := by decide +kernel
theorem dL_law_1146 : decode cL_law 1146 = .ok (.iadd, 1) := by decide +kernel
theorem dL_law_1147 : decode cL_law 1147 = .ok (.iaload, 1) := by decide +kernel
theorem dL_law_1148 : decode cL_law 1148 = .ok (.invokevirtual 102, 3) := by decide +kernel
theorem dL_law_1151 : decode cL_law 1151 = .ok (.if_icmp .eq 81, 3) := by decide +kernel
theorem dL_law_1154 : decode cL_law 1154 = .ok (.iconst 0, 1) := by decide +kernel
theorem dL_law_1155 : decode cL_law 1155 = .ok (.ireturn, 1) := by decide +kernel
theorem dL_law_1156 : decode cL_law 1156 = .ok (.aload_n 1, 1) := by decide +kernel
theorem dL_law_1157 : decode cL_law 1157 = .ok (.invokevirtual 103, 3) := by decide +kernel
theorem dL_law_1160 : decode cL_law 1160 = .ok (.aload_n 2, 1) := by decide +kernel
theorem dL_law_1161 : decode cL_law 1161 = .ok (.invokevirtual 106, 3) := by decide +kernel
theorem dL_law_1164 : decode cL_law 1164 = .ok (.if_icmp .eq 68, 3) := by decide +kernel
theorem dL_law_1167 : decode cL_law 1167 = .ok (.iconst 0, 1) := by decide +kernel
theorem dL_law_1168 : decode cL_law 1168 = .ok (.ireturn, 1) := by decide +kernel
theorem dL_law_1169 : decode cL_law 1169 = .ok (.aload_n 1, 1) := by decide +kernel
theorem dL_law_1170 : decode cL_law 1170 = .ok (.aload_n 0, 1) := by decide +kernel
theorem dL_law_1171 : decode cL_law 1171 = .ok (.iload 4, 2) := by decide +kernel
theorem dL_law_1173 : decode cL_law 1173 = .ok (.iconst 1, 1) := by decide +kernel
theorem dL_law_1174 : decode cL_law 1174 = .ok (.iadd, 1) := by decide +kernel
theorem dL_law_1175 : decode cL_law 1175 = .ok (.iaload, 1) := by decide +kernel
theorem dL_law_1176 : decode cL_law 1176 = .ok (.aload_n 0, 1) := by decide +kernel
theorem dL_law_1177 : decode cL_law 1177 = .ok (.iload 4, 2) := by decide +kernel
theorem dL_law_1179 : decode cL_law 1179 = .ok (.iconst 2, 1) := by decide +kernel
theorem dL_law_1180 : decode cL_law 1180 = .ok (.iadd, 1) := by decide +kernel
theorem dL_law_1181 : decode cL_law 1181 = .ok (.iaload, 1) := by decide +kernel
theorem dL_law_1182 : decode cL_law 1182 = .ok (.invokevirtual 107, 3) := by decide +kernel
theorem dL_law_1185 : decode cL_law 1185 = .ok (.aload_n 2, 1) := by decide +kernel
theorem dL_law_1186 : decode cL_law 1186 = .ok (.aload_n 0, 1) := by decide +kernel
theorem dL_law_1187 : decode cL_law 1187 = .ok (.iload 4, 2) := by decide +kernel
theorem dL_law_1189 : decode cL_law 1189 = .ok (.iconst 1, 1) := by decide +kernel
theorem dL_law_1190 : decode cL_law 1190 = .ok (.iadd, 1) := by decide +kernel
theorem dL_law_1191 : decode cL_law 1191 = .ok (.iaload, 1) := by decide +kernel
theorem dL_law_1192 : decode cL_law 1192 = .ok (.aload_n 0, 1) := by decide +kernel
theorem dL_law_1193 : decode cL_law 1193 = .ok (.iload 4, 2) := by decide +kernel
theorem dL_law_1195 : decode cL_law 1195 = .ok (.iconst 2, 1) := by decide +kernel
theorem dL_law_1196 : decode cL_law 1196 = .ok (.iadd, 1) := by decide +kernel
theorem dL_law_1197 : decode cL_law 1197 = .ok (.iaload, 1) := by decide +kernel
theorem dL_law_1198 : decode cL_law 1198 = .ok (.invokevirtual 110, 3) := by decide +kernel
theorem dL_law_1201 : decode cL_law 1201 = .ok (.if_icmp .eq 31, 3) := by decide +kernel
theorem dL_law_1204 : decode cL_law 1204 = .ok (.iconst 0, 1) := by decide +kernel
theorem dL_law_1205 : decode cL_law 1205 = .ok (.ireturn, 1) := by decide +kernel
theorem dL_law_1206 : decode cL_law 1206 = .ok (.aload_n 1, 1) := by decide +kernel
theorem dL_law_1207 : decode cL_law 1207 = .ok (.invokevirtual 111, 3) := by decide +kernel
theorem dL_law_1210 : decode cL_law 1210 = .ok (.aload_n 2, 1) := by decide +kernel
theorem dL_law_1211 : decode cL_law 1211 = .ok (.invokevirtual 114, 3) := by decide +kernel
theorem dL_law_1214 : decode cL_law 1214 = .ok (.if_icmp .eq 18, 3) := by decide +kernel
theorem dL_law_1217 : decode cL_law 1217 = .ok (.iconst 0, 1) := by decide +kernel
theorem dL_law_1218 : decode cL_law 1218 = .ok (.ireturn, 1) := by decide +kernel
theorem dL_law_1219 : decode cL_law 1219 = .ok (.aload_n 1, 1) := by decide +kernel
theorem dL_law_1220 : decode cL_law 1220 = .ok (.invokevirtual 115, 3) := by decide +kernel
theorem dL_law_1223 : decode cL_law 1223 = .ok (.aload_n 2, 1) := by decide +kernel
theorem dL_law_1224 : decode cL_law 1224 = .ok (.invokevirtual 118, 3) := by decide +kernel
theorem dL_law_1227 : decode cL_law 1227 = .ok (.if_icmp .eq 5, 3) := by decide +kernel
theorem dL_law_1230 : decode cL_law 1230 = .ok (.iconst 0, 1) := by decide +kernel
theorem dL_law_1231 : decode cL_law 1231 = .ok (.ireturn, 1) := by decide +kernel
theorem dL_law_1232 : decode cL_law 1232 = .ok (.iinc 4 8, 3) := by decide +kernel
theorem dL_law_1235 : decode cL_law 1235 = .ok (.goto (-1212), 3) := by decide +kernel
theorem dL_law_1238 : decode cL_law 1238 = .ok (.iconst 1, 1) := by decide +kernel
theorem dL_law_1239 : decode cL_law 1239 = .ok (.ireturn, 1) := by decide +kernel
