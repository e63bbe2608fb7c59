theorem dX5_carry_13 : decode cX5_carry 13 = .ok (.getfield 32, 3) := by decide +kernel
theorem dX5_carry_16 : decode cX5_carry 16 = .ok (.iload_n 3, 1) := by decide +kernel
theorem dX5_carry_17 : decode cX5_carry 17 = .ok (.laload, 1) := by decide +kernel
theorem dX5_carry_18 : decode cX5_carry 18 = .ok (.ladd, 1) := by decide +kernel
theorem dX5_carry_19 : decode cX5_carry 19 = .ok (.lstore_n 1, 1) := by decide +kernel
theorem dX5_carry_20 : decode cX5_carry 20 = .ok (.aload_n 0, 1) := by decide +kernel
theorem dX5_carry_21 : decode cX5_carry 21 = .ok (.getfield 32, 3) := by decide +kernel
theorem dX5_carry_24 : decode cX5_carry 24 = .ok (.iload_n 3, 1) := by decide +kernel
theorem dX5_carry_25 : decode cX5_carry 25 = .ok (.lload_n 1, 1) := by decide +kernel
theorem dX5_carry_26 : decode cX5_carry 26 = .ok (.ldc2_w 86, 3) := by decide +kernel
theorem dX5_carry_29 : decode cX5_carry 29 = .ok (.land, 1) := by decide +kernel
theorem dX5_carry_30 : decode cX5_carry 30 = .ok (.lastore, 1) := by decide +kernel
theorem dX5_carry_31 : decode cX5_carry 31 = .ok (.lload_n 1, 1) := by decide +kernel
theorem dX5_carry_32 : decode cX5_carry 32 = .ok (.bipush 16, 2) := by decide +kernel
theorem dX5_carry_34 : decode cX5_carry 34 = .ok (.lshr, 1) := by decide +kernel
theorem dX5_carry_35 : decode cX5_carry 35 = .ok (.lstore_n 1, 1) := by decide +kernel
theorem dX5_carry_36 : decode cX5_carry 36 = .ok (.iinc 3 1, 3) := by decide +kernel
theorem dX5_carry_39 : decode cX5_carry 39 = .ok (.goto (-35), 3) := by decide +kernel
theorem dX5_carry_42 : decode cX5_carry 42 = .ok (.lload_n 1, 1) := by decide +kernel
theorem dX5_carry_43 : decode cX5_carry 43 = .ok (.lreturn, 1) := by decide +kernel
theorem dX5_sumRounded_0 : decode cX5_sumRounded 0 = .ok (.aload_n 0, 1) := by decide +kernel
theorem dX5_sumRounded_1 : decode cX5_sumRounded 1 = .ok (.invokevirtual 94, 3) := by decide +kernel
theorem dX5_sumRounded_4 : decode cX5_sumRounded 4 = .ok (.lconst 0, 1) := by decide +kernel
theorem dX5_sumRounded_5 : decode cX5_sumRounded 5 = .ok (.lcmp, 1) := by decide +kernel
theorem dX5_sumRounded_6 : decode cX5_sumRounded 6 = .ok (.ifCond .ge 7, 3) := by decide +kernel
theorem dX5_sumRounded_9 : decode cX5_sumRounded 9 = .ok (.iconst 1, 1) := by decide +kernel
theorem dX5_sumRounded_10 : decode cX5_sumRounded 10 = .ok (.goto 4, 3) := by decide +kernel
theorem dX5_sumRounded_13 : decode cX5_sumRounded 13 = .ok (.iconst 0, 1) := by decide +kernel
theorem dX5_sumRounded_14 : decode cX5_sumRounded 14 = .ok (.istore_n 3, 1) := by decide +kernel
theorem dX5_sumRounded_15 : decode cX5_sumRounded 15 = .ok (.iload_n 3, 1) := by decide +kernel
theorem dX5_sumRounded_16 : decode cX5_sumRounded 16 = .ok (.ifCond .eq 41, 3) := by decide +kernel
theorem dX5_sumRounded_19 : decode cX5_sumRounded 19 = .ok (.iconst 0, 1) := by decide +kernel
theorem dX5_sumRounded_20 : decode cX5_sumRounded 20 = .ok (.istore 4, 2) := by decide +kernel
theorem dX5_sumRounded_22 : decode cX5_sumRounded 22 = .ok (.iload 4, 2) := by decide +kernel
theorem dX5_sumRounded_24 : decode cX5_sumRounded 24 = .ok (.sipush 290, 3) := by decide +kernel
theorem dX5_sumRounded_27 : decode cX5_sumRounded 27 = .ok (.if_icmp .ge 24, 3) := by decide +kernel
theorem dX5_sumRounded_30 : decode cX5_sumRounded 30 = .ok (.aload_n 0, 1) := by decide +kernel
theorem dX5_sumRounded_31 : decode cX5_sumRounded 31 = .ok (.getfield 32, 3) := by decide +kernel
theorem dX5_sumRounded_34 : decode cX5_sumRounded 34 = .ok (.iload 4, 2) := by decide +kernel
theorem dX5_sumRounded_36 : decode cX5_sumRounded 36 = .ok (.aload_n 0, 1) := by decide +kernel
theorem dX5_sumRounded_37 : decode cX5_sumRounded 37 = .ok (.getfield 32, 3) := by decide +kernel
theorem dX5_sumRounded_40 : decode cX5_sumRounded 40 = .ok (.iload 4, 2) := by decide +kernel
theorem dX5_sumRounded_42 : decode cX5_sumRounded 42 = .ok (.laload, 1) := by decide +kernel
theorem dX5_sumRounded_43 : decode cX5_sumRounded 43 = .ok (.lneg, 1) := by decide +kernel
theorem dX5_sumRounded_44 : decode cX5_sumRounded 44 = .ok (.lastore, 1) := by decide +kernel
theorem dX5_sumRounded_45 : decode cX5_sumRounded 45 = .ok (.iinc 4 1, 3) := by decide +kernel
theorem dX5_sumRounded_48 : decode cX5_sumRounded 48 = .ok (.goto (-26), 3) := by decide +kernel
theorem dX5_sumRounded_51 : decode cX5_sumRounded 51 = .ok (.aload_n 0, 1) := by decide +kernel
theorem dX5_sumRounded_52 : decode cX5_sumRounded 52 = .ok (.invokevirtual 94, 3) := by decide +kernel
theorem dX5_sumRounded_55 : decode cX5_sumRounded 55 = .ok (.lstore 4, 2) := by decide +kernel
theorem dX5_sumRounded_57 : decode cX5_sumRounded 57 = .ok (.sipush 289, 3) := by decide +kernel
theorem dX5_sumRounded_60 : decode cX5_sumRounded 60 = .ok (.istore 4, 2) := by decide +kernel
theorem dX5_sumRounded_62 : decode cX5_sumRounded 62 = .ok (.iload 4, 2) := by decide +kernel
theorem dX5_sumRounded_64 : decode cX5_sumRounded 64 = .ok (.ifCond .lt 21, 3) := by decide +kernel
theorem dX5_sumRounded_67 : decode cX5_sumRounded 67 = .ok (.aload_n 0, 1) := by decide +kernel
theorem dX5_sumRounded_68 : decode cX5_sumRounded 68 = .ok (.getfield 32, 3) := by decide +kernel
theorem dX5_sumRounded_71 : decode cX5_sumRounded 71 = .ok (.iload 4, 2) := by decide +kernel
theorem dX5_sumRounded_73 : decode cX5_sumRounded 73 = .ok (.laload, 1) := by decide +kernel
theorem dX5_sumRounded_74 : decode cX5_sumRounded 74 = .ok (.lconst 0, 1) := by decide +kernel
theorem dX5_sumRounded_75 : decode cX5_sumRounded 75 = .ok (.lcmp, 1) := by decide +kernel
theorem dX5_sumRounded_76 : decode cX5_sumRounded 76 = .ok (.ifCond .ne 9, 3) := by decide +kernel
theorem dX5_sumRounded_79 : decode cX5_sumRounded 79 = .ok (.iinc 4 (-1), 3) := by decide +kernel
theorem dX5_sumRounded_82 : decode cX5_sumRounded 82 = .ok (.goto (-20), 3) := by decide +kernel
theorem dX5_sumRounded_85 : decode cX5_sumRounded 85 = .ok (.iload 4, 2) := by decide +kernel
theorem dX5_sumRounded_87 : decode cX5_sumRounded 87 = .ok (.ifCond .ge 16, 3) := by decide +kernel
theorem dX5_sumRounded_90 : decode cX5_sumRounded 90 = .ok (.iload_n 1, 1) := by decide +kernel
theorem dX5_sumRounded_91 : decode cX5_sumRounded 91 = .ok (.ifCond .eq 10, 3) := by decide +kernel
theorem dX5_sumRounded_94 : decode cX5_sumRounded 94 = .ok (.iload_n 2, 1) := by decide +kernel
theorem dX5_sumRounded_95 : decode cX5_sumRounded 95 = .ok (.invokestatic 61, 3) := by decide +kernel
theorem dX5_sumRounded_98 : decode cX5_sumRounded 98 = .ok (.goto 4, 3) := by decide +kernel
theorem dX5_sumRounded_101 : decode cX5_sumRounded 101 = .ok (.lconst 0, 1) := by decide +kernel
theorem dX5_sumRounded_102 : decode cX5_sumRounded 102 = .ok (.lreturn, 1) := by decide +kernel
theorem dX5_sumRounded_103 : decode cX5_sumRounded 103 = .ok (.lconst 0, 1) := by decide +kernel
theorem dX5_sumRounded_104 : decode cX5_sumRounded 104 = .ok (.lstore 5, 2) := by decide +kernel
theorem dX5_sumRounded_106 : decode cX5_sumRounded 106 = .ok (.iconst 0, 1) := by decide +kernel
theorem dX5_sumRounded_107 : decode cX5_sumRounded 107 = .ok (.istore 7, 2) := by decide +kernel
theorem dX5_sumRounded_109 : decode cX5_sumRounded 109 = .ok (.iload 4, 2) := by decide +kernel
theorem dX5_sumRounded_111 : decode cX5_sumRounded 111 = .ok (.istore 8, 2) := by decide +kernel
theorem dX5_sumRounded_113 : decode cX5_sumRounded 113 = .ok (.iload 8, 2) := by decide +kernel
theorem dX5_sumRounded_115 : decode cX5_sumRounded 115 = .ok (.ifCond .lt 41, 3) := by decide +kernel
theorem dX5_sumRounded_118 : decode cX5_sumRounded 118 = .ok (.iload 7, 2) := by decide +kernel
theorem dX5_sumRounded_120 : decode cX5_sumRounded 120 = .ok (.bipush 16, 2) := by decide +kernel
theorem dX5_sumRounded_122 : decode cX5_sumRounded 122 = .ok (.iadd, 1) := by decide +kernel
theorem dX5_sumRounded_123 : decode cX5_sumRounded 123 = .ok (.bipush 61, 2) := by decide +kernel
theorem dX5_sumRounded_125 : decode cX5_sumRounded 125 = .ok (.if_icmp .gt 31, 3) := by decide +kernel
theorem dX5_sumRounded_128 : decode cX5_sumRounded 128 = .ok (.lload 5, 2) := by decide +kernel
theorem dX5_sumRounded_130 : decode cX5_sumRounded 130 = .ok (.bipush 16, 2) := by decide +kernel
theorem dX5_sumRounded_132 : decode cX5_sumRounded 132 = .ok (.lshl, 1) := by decide +kernel
theorem dX5_sumRounded_133 : decode cX5_sumRounded 133 = .ok (.aload_n 0, 1) := by decide +kernel
theorem dX5_sumRounded_134 : decode cX5_sumRounded 134 = .ok (.getfield 32, 3) := by decide +kernel
theorem dX5_sumRounded_137 : decode cX5_sumRounded 137 = .ok (.iload 8, 2) := by decide +kernel
theorem dX5_sumRounded_139 : decode cX5_sumRounded 139 = .ok (.laload, 1) := by decide +kernel
theorem dX5_sumRounded_140 : decode cX5_sumRounded 140 = .ok (.lor, 1) := by decide +kernel
theorem dX5_sumRounded_141 : decode cX5_sumRounded 141 = .ok (.lstore 5, 2) := by decide +kernel
theorem dX5_sumRounded_143 : decode cX5_sumRounded 143 = .ok (.lload 5, 2) := by decide +kernel
theorem dX5_sumRounded_145 : decode cX5_sumRounded 145 = .ok (.invokestatic 82, 3) := by decide +kernel
theorem dX5_sumRounded_148 : decode cX5_sumRounded 148 = .ok (.istore 7, 2) := by decide +kernel
theorem dX5_sumRounded_150 : decode cX5_sumRounded 150 = .ok (.iinc 8 (-1), 3) := by decide +kernel
theorem dX5_sumRounded_153 : decode cX5_sumRounded 153 = .ok (.goto (-40), 3) := by decide +kernel
theorem dX5_sumRounded_156 : decode cX5_sumRounded 156 = .ok (.bipush 16, 2) := by decide +kernel
theorem dX5_sumRounded_158 : decode cX5_sumRounded 158 = .ok (.iload 8, 2) := by decide +kernel
theorem dX5_sumRounded_160 : decode cX5_sumRounded 160 = .ok (.iconst 1, 1) := by decide +kernel
theorem dX5_sumRounded_161 : decode cX5_sumRounded 161 = .ok (.iadd, 1) := by decide +kernel
theorem dX5_sumRounded_162 : decode cX5_sumRounded 162 = .ok (.imul, 1) := by decide +kernel
theorem dX5_sumRounded_163 : decode cX5_sumRounded 163 = .ok (.istore 9, 2) := by decide +kernel
theorem dX5_sumRounded_165 : decode cX5_sumRounded 165 = .ok (.iconst 0, 1) := by decide +kernel
theorem dX5_sumRounded_166 : decode cX5_sumRounded 166 = .ok (.istore 10, 2) := by decide +kernel
theorem dX5_sumRounded_168 : decode cX5_sumRounded 168 = .ok (.iload 8, 2) := by decide +kernel
theorem dX5_sumRounded_170 : decode cX5_sumRounded 170 = .ok (.ifCond .lt 70, 3) := by decide +kernel
theorem dX5_sumRounded_173 : decode cX5_sumRounded 173 = .ok (.bipush 61, 2) := by decide +kernel
theorem dX5_sumRounded_175 : decode cX5_sumRounded 175 = .ok (.iload 7, 2) := by decide +kernel
theorem dX5_sumRounded_177 : decode cX5_sumRounded 177 = .ok (.isub, 1) := by decide +kernel
theorem dX5_sumRounded_178 : decode cX5_sumRounded 178 = .ok (.istore 11, 2) := by decide +kernel
theorem dX5_sumRounded_180 : decode cX5_sumRounded 180 = .ok (.lload 5, 2) := by decide +kernel
theorem dX5_sumRounded_182 : decode cX5_sumRounded 182 = .ok (.iload 11, 2) := by decide +kernel
theorem dX5_sumRounded_184 : decode cX5_sumRounded 184 = .ok (.lshl, 1) := by decide +kernel
theorem dX5_sumRounded_185 : decode cX5_sumRounded 185 = .ok (.aload_n 0, 1) := by decide +kernel
theorem dX5_sumRounded_186 : decode cX5_sumRounded 186 = .ok (.getfield 32, 3) := by decide +kernel
theorem dX5_sumRounded_189 : decode cX5_sumRounded 189 = .ok (.iload 8, 2) := by decide +kernel
theorem dX5_sumRounded_191 : decode cX5_sumRounded 191 = .ok (.laload, 1) := by decide +kernel
theorem dX5_sumRounded_192 : decode cX5_sumRounded 192 = .ok (.bipush 16, 2) := by decide +kernel
theorem dX5_sumRounded_194 : decode cX5_sumRounded 194 = .ok (.iload 11, 2) := by decide +kernel
theorem dX5_sumRounded_196 : decode cX5_sumRounded 196 = .ok (.isub, 1) := by decide +kernel
theorem dX5_sumRounded_197 : decode cX5_sumRounded 197 = .ok (.lushr, 1) := by decide +kernel
theorem dX5_sumRounded_198 : decode cX5_sumRounded 198 = .ok (.lor, 1) := by decide +kernel
theorem dX5_sumRounded_199 : decode cX5_sumRounded 199 = .ok (.lstore 5, 2) := by decide +kernel
theorem dX5_sumRounded_201 : decode cX5_sumRounded 201 = .ok (.aload_n 0, 1) := by decide +kernel
theorem dX5_sumRounded_202 : decode cX5_sumRounded 202 = .ok (.getfield 32, 3) := by decide +kernel
theorem dX5_sumRounded_205 : decode cX5_sumRounded 205 = .ok (.iload 8, 2) := by decide +kernel
theorem dX5_sumRounded_207 : decode cX5_sumRounded 207 = .ok (.laload, 1) := by decide +kernel
theorem dX5_sumRounded_208 : decode cX5_sumRounded 208 = .ok (.lconst 1, 1) := by decide +kernel
theorem dX5_sumRounded_209 : decode cX5_sumRounded 209 = .ok (.bipush 16, 2) := by decide +kernel
theorem dX5_sumRounded_211 : decode cX5_sumRounded 211 = .ok (.iload 11, 2) := by decide +kernel
theorem dX5_sumRounded_213 : decode cX5_sumRounded 213 = .ok (.isub, 1) := by decide +kernel
theorem dX5_sumRounded_214 : decode cX5_sumRounded 214 = .ok (.lshl, 1) := by decide +kernel
theorem dX5_sumRounded_215 : decode cX5_sumRounded 215 = .ok (.lconst 1, 1) := by decide +kernel
theorem dX5_sumRounded_216 : decode cX5_sumRounded 216 = .ok (.lsub, 1) := by decide +kernel
theorem dX5_sumRounded_217 : decode cX5_sumRounded 217 = .ok (.land, 1) := by decide +kernel
theorem dX5_sumRounded_218 : decode cX5_sumRounded 218 = .ok (.lconst 0, 1) := by decide +kernel
theorem dX5_sumRounded_219 : decode cX5_sumRounded 219 = .ok (.lcmp, 1) := by decide +kernel
theorem dX5_sumRounded_220 : decode cX5_sumRounded 220 = .ok (.ifCond .eq 7, 3) := by decide +kernel
theorem dX5_sumRounded_223 : decode cX5_sumRounded 223 = .ok (.iconst 1, 1) := by decide +kernel
theorem dX5_sumRounded_224 : decode cX5_sumRounded 224 = .ok (.goto 4, 3) := by decide +kernel
theorem dX5_sumRounded_227 : decode cX5_sumRounded 227 = .ok (.iconst 0, 1) := by decide +kernel
theorem dX5_sumRounded_228 : decode cX5_sumRounded 228 = .ok (.istore 10, 2) := by decide +kernel
theorem dX5_sumRounded_230 : decode cX5_sumRounded 230 = .ok (.iload 9, 2) := by decide +kernel
theorem dX5_sumRounded_232 : decode cX5_sumRounded 232 = .ok (.iload 11, 2) := by decide +kernel
theorem dX5_sumRounded_234 : decode cX5_sumRounded 234 = .ok (.isub, 1) := by decide +kernel
theorem dX5_sumRounded_235 : decode cX5_sumRounded 235 = .ok (.istore 9, 2) := by decide +kernel
theorem dX5_sumRounded_237 : decode cX5_sumRounded 237 = .ok (.iinc 8 (-1), 3) := by decide +kernel
theorem dX5_sumRounded_240 : decode cX5_sumRounded 240 = .ok (.iconst 0, 1) := by decide +kernel
theorem dX5_sumRounded_241 : decode cX5_sumRounded 241 = .ok (.istore 11, 2) := by decide +kernel
theorem dX5_sumRounded_243 : decode cX5_sumRounded 243 = .ok (.iload 11, 2) := by decide +kernel
theorem dX5_sumRounded_245 : decode cX5_sumRounded 245 = .ok (.iload 8, 2) := by decide +kernel
theorem dX5_sumRounded_247 : decode cX5_sumRounded 247 = .ok (.if_icmp .gt 33, 3) := by decide +kernel
theorem dX5_sumRounded_250 : decode cX5_sumRounded 250 = .ok (.iload 10, 2) := by decide +kernel
theorem dX5_sumRounded_252 : decode cX5_sumRounded 252 = .ok (.ifCond .ne 15, 3) := by decide +kernel
theorem dX5_sumRounded_255 : decode cX5_sumRounded 255 = .ok (.aload_n 0, 1) := by decide +kernel
theorem dX5_sumRounded_256 : decode cX5_sumRounded 256 = .ok (.getfield 32, 3) := by decide +kernel
theorem dX5_sumRounded_259 : decode cX5_sumRounded 259 = .ok (.iload 11, 2) := by decide +kernel
theorem dX5_sumRounded_261 : decode cX5_sumRounded 261 = .ok (.laload, 1) := by decide +kernel
theorem dX5_sumRounded_262 : decode cX5_sumRounded 262 = .ok (.lconst 0, 1) := by decide +kernel
theorem dX5_sumRounded_263 : decode cX5_sumRounded 263 = .ok (.lcmp, 1) := by decide +kernel
theorem dX5_sumRounded_264 : decode cX5_sumRounded 264 = .ok (.ifCond .eq 7, 3) := by decide +kernel
theorem dX5_sumRounded_267 : decode cX5_sumRounded 267 = .ok (.iconst 1, 1) := by decide +kernel
theorem dX5_sumRounded_268 : decode cX5_sumRounded 268 = .ok (.goto 4, 3) := by decide +kernel
theorem dX5_sumRounded_271 : decode cX5_sumRounded 271 = .ok (.iconst 0, 1) := by decide +kernel
theorem dX5_sumRounded_272 : decode cX5_sumRounded 272 = .ok (.istore 10, 2) := by decide +kernel
theorem dX5_sumRounded_274 : decode cX5_sumRounded 274 = .ok (.iinc 11 1, 3) := by decide +kernel
theorem dX5_sumRounded_277 : decode cX5_sumRounded 277 = .ok (.goto (-34), 3) := by decide +kernel
theorem dX5_sumRounded_280 : decode cX5_sumRounded 280 = .ok (.iload_n 3, 1) := by decide +kernel
theorem dX5_sumRounded_281 : decode cX5_sumRounded 281 = .ok (.lload 5, 2) := by decide +kernel
theorem dX5_sumRounded_283 : decode cX5_sumRounded 283 = .ok (.iload 9, 2) := by decide +kernel
theorem dX5_sumRounded_285 : decode cX5_sumRounded 285 = .ok (.sipush 2200, 3) := by decide +kernel
theorem dX5_sumRounded_288 : decode cX5_sumRounded 288 = .ok (.isub, 1) := by decide +kernel
theorem dX5_sumRounded_289 : decode cX5_sumRounded 289 = .ok (.iload 10, 2) := by decide +kernel
theorem dX5_sumRounded_291 : decode cX5_sumRounded 291 = .ok (.iload_n 2, 1) := by decide +kernel
theorem dX5_sumRounded_292 : decode cX5_sumRounded 292 = .ok (.invokestatic 98, 3) := by decide +kernel
theorem dX5_sumRounded_295 : decode cX5_sumRounded 295 = .ok (.lreturn, 1) := by decide +kernel
theorem dX5_add_0 : decode cX5_add 0 = .ok (.lload_n 1, 1) := by decide +kernel
theorem dX5_add_1 : decode cX5_add 1 = .ok (.iload 5, 2) := by decide +kernel
theorem dX5_add_3 : decode cX5_add 3 = .ok (.invokestatic 102, 3) := by decide +kernel
theorem dX5_add_6 : decode cX5_add 6 = .ok (.ifCond .ne 12, 3) := by decide +kernel
theorem dX5_add_9 : decode cX5_add 9 = .ok (.lload_n 3, 1) := by decide +kernel
theorem dX5_add_10 : decode cX5_add 10 = .ok (.iload 5, 2) := by decide +kernel
theorem dX5_add_12 : decode cX5_add 12 = .ok (.invokestatic 102, 3) := by decide +kernel
theorem dX5_add_15 : decode cX5_add 15 = .ok (.ifCond .eq 9, 3) := by decide +kernel
theorem dX5_add_18 : decode cX5_add 18 = .ok (.iload 5, 2) := by decide +kernel
theorem dX5_add_20 : decode cX5_add 20 = .ok (.invokestatic 106, 3) := by decide +kernel
theorem dX5_add_23 : decode cX5_add 23 = .ok (.lreturn, 1) := by decide +kernel
theorem dX5_add_24 : decode cX5_add 24 = .ok (.lload_n 1, 1) := by decide +kernel
theorem dX5_add_25 : decode cX5_add 25 = .ok (.iload 5, 2) := by decide +kernel
theorem dX5_add_27 : decode cX5_add 27 = .ok (.invokestatic 109, 3) := by decide +kernel
theorem dX5_add_30 : decode cX5_add 30 = .ok (.lload_n 3, 1) := by decide +kernel
theorem dX5_add_31 : decode cX5_add 31 = .ok (.iload 5, 2) := by decide +kernel
theorem dX5_add_33 : decode cX5_add 33 = .ok (.invokestatic 109, 3) := by decide +kernel
theorem dX5_add_36 : decode cX5_add 36 = .ok (.if_icmp .eq 7, 3) := by decide +kernel
theorem dX5_add_39 : decode cX5_add 39 = .ok (.iconst 1, 1) := by decide +kernel
theorem dX5_add_40 : decode cX5_add 40 = .ok (.goto 4, 3) := by decide +kernel
theorem dX5_add_43 : decode cX5_add 43 = .ok (.iconst 0, 1) := by decide +kernel
theorem dX5_add_44 : decode cX5_add 44 = .ok (.istore 6, 2) := by decide +kernel
theorem dX5_add_46 : decode cX5_add 46 = .ok (.lload_n 1, 1) := by decide +kernel
theorem dX5_add_47 : decode cX5_add 47 = .ok (.iload 5, 2) := by decide +kernel
theorem dX5_add_49 : decode cX5_add 49 = .ok (.invokestatic 112, 3) := by decide +kernel
theorem dX5_add_52 : decode cX5_add 52 = .ok (.ifCond .ne 12, 3) := by decide +kernel
theorem dX5_add_55 : decode cX5_add 55 = .ok (.lload_n 3, 1) := by decide +kernel
theorem dX5_add_56 : decode cX5_add 56 = .ok (.iload 5, 2) := by decide +kernel
theorem dX5_add_58 : decode cX5_add 58 = .ok (.invokestatic 112, 3) := by decide +kernel
theorem dX5_add_61 : decode cX5_add 61 = .ok (.ifCond .eq 49, 3) := by decide +kernel
theorem dX5_add_64 : decode cX5_add 64 = .ok (.lload_n 1, 1) := by decide +kernel
theorem dX5_add_65 : decode cX5_add 65 = .ok (.iload 5, 2) := by decide +kernel
theorem dX5_add_67 : decode cX5_add 67 = .ok (.invokestatic 112, 3) := by decide +kernel
theorem dX5_add_70 : decode cX5_add 70 = .ok (.ifCond .eq 25, 3) := by decide +kernel
theorem dX5_add_73 : decode cX5_add 73 = .ok (.lload_n 3, 1) := by decide +kernel
theorem dX5_add_74 : decode cX5_add 74 = .ok (.iload 5, 2) := by decide +kernel
theorem dX5_add_76 : decode cX5_add 76 = .ok (.invokestatic 112, 3) := by decide +kernel
theorem dX5_add_79 : decode cX5_add 79 = .ok (.ifCond .eq 16, 3) := by decide +kernel
theorem dX5_add_82 : decode cX5_add 82 = .ok (.iload 6, 2) := by decide +kernel
theorem dX5_add_84 : decode cX5_add 84 = .ok (.ifCond .eq 11, 3) := by decide +kernel
theorem dX5_add_87 : decode cX5_add 87 = .ok (.iload 5, 2) := by decide +kernel
theorem dX5_add_89 : decode cX5_add 89 = .ok (.invokestatic 106, 3) := by decide +kernel
theorem dX5_add_92 : decode cX5_add 92 = .ok (.goto 17, 3) := by decide +kernel
theorem dX5_add_95 : decode cX5_add 95 = .ok (.lload_n 1, 1) := by decide +kernel
theorem dX5_add_96 : decode cX5_add 96 = .ok (.iload 5, 2) := by decide +kernel
theorem dX5_add_98 : decode cX5_add 98 = .ok (.invokestatic 112, 3) := by decide +kernel
theorem dX5_add_101 : decode cX5_add 101 = .ok (.ifCond .eq 7, 3) := by decide +kernel
theorem dX5_add_104 : decode cX5_add 104 = .ok (.lload_n 1, 1) := by decide +kernel
theorem dX5_add_105 : decode cX5_add 105 = .ok (.goto 4, 3) := by decide +kernel
theorem dX5_add_108 : decode cX5_add 108 = .ok (.lload_n 3, 1) := by decide +kernel
theorem dX5_add_109 : decode cX5_add 109 = .ok (.lreturn, 1) := by decide +kernel
theorem dX5_add_110 : decode cX5_add 110 = .ok (.aload_n 0, 1) := by decide +kernel
theorem dX5_add_111 : decode cX5_add 111 = .ok (.invokevirtual 115, 3) := by decide +kernel
theorem dX5_add_114 : decode cX5_add 114 = .ok (.aload_n 0, 1) := by decide +kernel
theorem dX5_add_115 : decode cX5_add 115 = .ok (.lload_n 1, 1) := by decide +kernel
theorem dX5_add_116 : decode cX5_add 116 = .ok (.iload 5, 2) := by decide +kernel
theorem dX5_add_118 : decode cX5_add 118 = .ok (.invokestatic 109, 3) := by decide +kernel
theorem dX5_add_121 : decode cX5_add 121 = .ok (.lload_n 1, 1) := by decide +kernel
theorem dX5_add_122 : decode cX5_add 122 = .ok (.iload 5, 2) := by decide +kernel
theorem dX5_add_124 : decode cX5_add 124 = .ok (.invokestatic 118, 3) := by decide +kernel
theorem dX5_add_127 : decode cX5_add 127 = .ok (.lload_n 1, 1) := by decide +kernel
theorem dX5_add_128 : decode cX5_add 128 = .ok (.iload 5, 2) := by decide +kernel
theorem dX5_add_130 : decode cX5_add 130 = .ok (.invokestatic 121, 3) := by decide +kernel
theorem dX5_add_133 : decode cX5_add 133 = .ok (.invokevirtual 90, 3) := by decide +kernel
theorem dX5_add_136 : decode cX5_add 136 = .ok (.aload_n 0, 1) := by decide +kernel
theorem dX5_add_137 : decode cX5_add 137 = .ok (.lload_n 3, 1) := by decide +kernel
theorem dX5_add_138 : decode cX5_add 138 = .ok (.iload 5, 2) := by decide +kernel
theorem dX5_add_140 : decode cX5_add 140 = .ok (.invokestatic 109, 3) := by decide +kernel
theorem dX5_add_143 : decode cX5_add 143 = .ok (.lload_n 3, 1) := by decide +kernel
theorem dX5_add_144 : decode cX5_add 144 = .ok (.iload 5, 2) := by decide +kernel
theorem dX5_add_146 : decode cX5_add 146 = .ok (.invokestatic 118, 3) := by decide +kernel
theorem dX5_add_149 : decode cX5_add 149 = .ok (.lload_n 3, 1) := by decide +kernel
theorem dX5_add_150 : decode cX5_add 150 = .ok (.iload 5, 2) := by decide +kernel
theorem dX5_add_152 : decode cX5_add 152 = .ok (.invokestatic 121, 3) := by decide +kernel
theorem dX5_add_155 : decode cX5_add 155 = .ok (.invokevirtual 90, 3) := by decide +kernel
theorem dX5_add_158 : decode cX5_add 158 = .ok (.aload_n 0, 1) := by decide +kernel
theorem dX5_add_159 : decode cX5_add 159 = .ok (.lload_n 1, 1) := by decide +kernel
theorem dX5_add_160 : decode cX5_add 160 = .ok (.iload 5, 2) := by decide +kernel
theorem dX5_add_162 : decode cX5_add 162 = .ok (.invokestatic 109, 3) := by decide +kernel
theorem dX5_add_165 : decode cX5_add 165 = .ok (.ifCond .eq 16, 3) := by decide +kernel
theorem dX5_add_168 : decode cX5_add 168 = .ok (.lload_n 3, 1) := by decide +kernel
theorem dX5_add_169 : decode cX5_add 169 = .ok (.iload 5, 2) := by decide +kernel
theorem dX5_add_171 : decode cX5_add 171 = .ok (.invokestatic 109, 3) := by decide +kernel
theorem dX5_add_174 : decode cX5_add 174 = .ok (.ifCond .eq 7, 3) := by decide +kernel
theorem dX5_add_177 : decode cX5_add 177 = .ok (.iconst 1, 1) := by decide +kernel
theorem dX5_add_178 : decode cX5_add 178 = .ok (.goto 4, 3) := by decide +kernel
theorem dX5_add_181 : decode cX5_add 181 = .ok (.iconst 0, 1) := by decide +kernel
theorem dX5_add_182 : decode cX5_add 182 = .ok (.iload 5, 2) := by decide +kernel
theorem dX5_add_184 : decode cX5_add 184 = .ok (.invokevirtual 124, 3) := by decide +kernel
theorem dX5_add_187 : decode cX5_add 187 = .ok (.lreturn, 1) := by decide +kernel
theorem dX5_negated_0 : decode cX5_negated 0 = .ok (.lload_n 1, 1) := by decide +kernel
theorem dX5_negated_1 : decode cX5_negated 1 = .ok (.iload_n 3, 1) := by decide +kernel
theorem dX5_negated_2 : decode cX5_negated 2 = .ok (.invokestatic 61, 3) := by decide +kernel
theorem dX5_negated_5 : decode cX5_negated 5 = .ok (.lxor, 1) := by decide +kernel
theorem dX5_negated_6 : decode cX5_negated 6 = .ok (.lreturn, 1) := by decide +kernel
theorem dX5_fused_0 : decode cX5_fused 0 = .ok (.lload_n 1, 1) := by decide +kernel
theorem dX5_fused_1 : decode cX5_fused 1 = .ok (.iload 8, 2) := by decide +kernel
theorem dX5_fused_3 : decode cX5_fused 3 = .ok (.invokestatic 102, 3) := by decide +kernel
theorem dX5_fused_6 : decode cX5_fused 6 = .ok (.ifCond .ne 27, 3) := by decide +kernel
theorem dX5_fused_9 : decode cX5_fused 9 = .ok (.lload_n 3, 1) := by decide +kernel
theorem dX5_fused_10 : decode cX5_fused 10 = .ok (.iload 8, 2) := by decide +kernel
theorem dX5_fused_12 : decode cX5_fused 12 = .ok (.invokestatic 102, 3) := by decide +kernel
theorem dX5_fused_15 : decode cX5_fused 15 = .ok (.ifCond .ne 18, 3) := by decide +kernel
theorem dX5_fused_18 : decode cX5_fused 18 = .ok (.iload 7, 2) := by decide +kernel
theorem dX5_fused_20 : decode cX5_fused 20 = .ok (.ifCond .eq 19, 3) := by decide +kernel
theorem dX5_fused_23 : decode cX5_fused 23 = .ok (.lload 5, 2) := by decide +kernel
theorem dX5_fused_25 : decode cX5_fused 25 = .ok (.iload 8, 2) := by decide +kernel
theorem dX5_fused_27 : decode cX5_fused 27 = .ok (.invokestatic 102, 3) := by decide +kernel
theorem dX5_fused_30 : decode cX5_fused 30 = .ok (.ifCond .eq 9, 3) := by decide +kernel
theorem dX5_fused_33 : decode cX5_fused 33 = .ok (.iload 8, 2) := by decide +kernel
theorem dX5_fused_35 : decode cX5_fused 35 = .ok (.invokestatic 106, 3) := by decide +kernel
theorem dX5_fused_38 : decode cX5_fused 38 = .ok (.lreturn, 1) := by decide +kernel
theorem dX5_fused_39 : decode cX5_fused 39 = .ok (.lload_n 1, 1) := by decide +kernel
theorem dX5_fused_40 : decode cX5_fused 40 = .ok (.iload 8, 2) := by decide +kernel
theorem dX5_fused_42 : decode cX5_fused 42 = .ok (.invokestatic 109, 3) := by decide +kernel
theorem dX5_fused_45 : decode cX5_fused 45 = .ok (.lload_n 3, 1) := by decide +kernel
theorem dX5_fused_46 : decode cX5_fused 46 = .ok (.iload 8, 2) := by decide +kernel
theorem dX5_fused_48 : decode cX5_fused 48 = .ok (.invokestatic 109, 3) := by decide +kernel
theorem dX5_fused_51 : decode cX5_fused 51 = .ok (.if_icmp .eq 7, 3) := by decide +kernel
theorem dX5_fused_54 : decode cX5_fused 54 = .ok (.iconst 1, 1) := by decide +kernel
theorem dX5_fused_55 : decode cX5_fused 55 = .ok (.goto 4, 3) := by decide +kernel
theorem dX5_fused_58 : decode cX5_fused 58 = .ok (.iconst 0, 1) := by decide +kernel
theorem dX5_fused_59 : decode cX5_fused 59 = .ok (.istore 9, 2) := by decide +kernel
theorem dX5_fused_61 : decode cX5_fused 61 = .ok (.lload_n 1, 1) := by decide +kernel
theorem dX5_fused_62 : decode cX5_fused 62 = .ok (.iload 8, 2) := by decide +kernel
theorem dX5_fused_64 : decode cX5_fused 64 = .ok (.invokestatic 112, 3) := by decide +kernel
theorem dX5_fused_67 : decode cX5_fused 67 = .ok (.ifCond .ne 12, 3) := by decide +kernel
theorem dX5_fused_70 : decode cX5_fused 70 = .ok (.lload_n 3, 1) := by decide +kernel
theorem dX5_fused_71 : decode cX5_fused 71 = .ok (.iload 8, 2) := by decide +kernel
theorem dX5_fused_73 : decode cX5_fused 73 = .ok (.invokestatic 112, 3) := by decide +kernel
theorem dX5_fused_76 : decode cX5_fused 76 = .ok (.ifCond .eq 76, 3) := by decide +kernel
theorem dX5_fused_79 : decode cX5_fused 79 = .ok (.lload_n 1, 1) := by decide +kernel
theorem dX5_fused_80 : decode cX5_fused 80 = .ok (.iload 8, 2) := by decide +kernel
theorem dX5_fused_82 : decode cX5_fused 82 = .ok (.invokestatic 127, 3) := by decide +kernel
theorem dX5_fused_85 : decode cX5_fused 85 = .ok (.ifCond .ne 39, 3) := by decide +kernel
theorem dX5_fused_88 : decode cX5_fused 88 = .ok (.lload_n 3, 1) := by decide +kernel
theorem dX5_fused_89 : decode cX5_fused 89 = .ok (.iload 8, 2) := by decide +kernel
theorem dX5_fused_91 : decode cX5_fused 91 = .ok (.invokestatic 127, 3) := by decide +kernel
theorem dX5_fused_94 : decode cX5_fused 94 = .ok (.ifCond .ne 30, 3) := by decide +kernel
theorem dX5_fused_97 : decode cX5_fused 97 = .ok (.iload 7, 2) := by decide +kernel
theorem dX5_fused_99 : decode cX5_fused 99 = .ok (.ifCond .eq 29, 3) := by decide +kernel
theorem dX5_fused_102 : decode cX5_fused 102 = .ok (.lload 5, 2) := by decide +kernel
theorem dX5_fused_104 : decode cX5_fused 104 = .ok (.iload 8, 2) := by decide +kernel
theorem dX5_fused_106 : decode cX5_fused 106 = .ok (.invokestatic 112, 3) := by decide +kernel
theorem dX5_fused_109 : decode cX5_fused 109 = .ok (.ifCond .eq 19, 3) := by decide +kernel
theorem dX5_fused_112 : decode cX5_fused 112 = .ok (.lload 5, 2) := by decide +kernel
theorem dX5_fused_114 : decode cX5_fused 114 = .ok (.iload 8, 2) := by decide +kernel
theorem dX5_fused_116 : decode cX5_fused 116 = .ok (.invokestatic 109, 3) := by decide +kernel
theorem dX5_fused_119 : decode cX5_fused 119 = .ok (.iload 9, 2) := by decide +kernel
theorem dX5_fused_121 : decode cX5_fused 121 = .ok (.if_icmp .eq 7, 3) := by decide +kernel
theorem dX5_fused_124 : decode cX5_fused 124 = .ok (.iconst 1, 1) := by decide +kernel
theorem dX5_fused_125 : decode cX5_fused 125 = .ok (.goto 4, 3) := by decide +kernel
theorem dX5_fused_128 : decode cX5_fused 128 = .ok (.iconst 0, 1) := by decide +kernel
theorem dX5_fused_129 : decode cX5_fused 129 = .ok (.istore 10, 2) := by decide +kernel
theorem dX5_fused_131 : decode cX5_fused 131 = .ok (.iload 10, 2) := by decide +kernel
theorem dX5_fused_133 : decode cX5_fused 133 = .ok (.ifCond .eq 11, 3) := by decide +kernel
theorem dX5_fused_136 : decode cX5_fused 136 = .ok (.iload 8, 2) := by decide +kernel
theorem dX5_fused_138 : decode cX5_fused 138 = .ok (.invokestatic 106, 3) := by decide +kernel
theorem dX5_fused_141 : decode cX5_fused 141 = .ok (.goto 10, 3) := by decide +kernel
theorem dX5_fused_144 : decode cX5_fused 144 = .ok (.iload 9, 2) := by decide +kernel
theorem dX5_fused_146 : decode cX5_fused 146 = .ok (.iload 8, 2) := by decide +kernel
theorem dX5_fused_148 : decode cX5_fused 148 = .ok (.invokestatic 71, 3) := by decide +kernel
theorem dX5_fused_151 : decode cX5_fused 151 = .ok (.lreturn, 1) := by decide +kernel
theorem dX5_fused_152 : decode cX5_fused 152 = .ok (.iload 7, 2) := by decide +kernel
theorem dX5_fused_154 : decode cX5_fused 154 = .ok (.ifCond .eq 16, 3) := by decide +kernel
theorem dX5_fused_157 : decode cX5_fused 157 = .ok (.lload 5, 2) := by decide +kernel
theorem dX5_fused_159 : decode cX5_fused 159 = .ok (.iload 8, 2) := by decide +kernel
theorem dX5_fused_161 : decode cX5_fused 161 = .ok (.invokestatic 112, 3) := by decide +kernel
theorem dX5_fused_164 : decode cX5_fused 164 = .ok (.ifCond .eq 6, 3) := by decide +kernel
theorem dX5_fused_167 : decode cX5_fused 167 = .ok (.lload 5, 2) := by decide +kernel
theorem dX5_fused_169 : decode cX5_fused 169 = .ok (.lreturn, 1) := by decide +kernel
theorem dX5_fused_170 : decode cX5_fused 170 = .ok (.aload_n 0, 1) := by decide +kernel
theorem dX5_fused_171 : decode cX5_fused 171 = .ok (.invokevirtual 115, 3) := by decide +kernel
theorem dX5_fused_174 : decode cX5_fused 174 = .ok (.aload_n 0, 1) := by decide +kernel
theorem dX5_fused_175 : decode cX5_fused 175 = .ok (.iload 9, 2) := by decide +kernel
theorem dX5_fused_177 : decode cX5_fused 177 = .ok (.lload_n 1, 1) := by decide +kernel
theorem dX5_fused_178 : decode cX5_fused 178 = .ok (.iload 8, 2) := by decide +kernel
theorem dX5_fused_180 : decode cX5_fused 180 = .ok (.invokestatic 118, 3) := by decide +kernel
theorem dX5_fused_183 : decode cX5_fused 183 = .ok (.lload_n 3, 1) := by decide +kernel
theorem dX5_fused_184 : decode cX5_fused 184 = .ok (.iload 8, 2) := by decide +kernel
theorem dX5_fused_186 : decode cX5_fused 186 = .ok (.invokestatic 118, 3) := by decide +kernel
theorem dX5_fused_189 : decode cX5_fused 189 = .ok (.lload_n 1, 1) := by decide +kernel
theorem dX5_fused_190 : decode cX5_fused 190 = .ok (.iload 8, 2) := by decide +kernel
theorem dX5_fused_192 : decode cX5_fused 192 = .ok (.invokestatic 121, 3) := by decide +kernel
theorem dX5_fused_195 : decode cX5_fused 195 = .ok (.lload_n 3, 1) := by decide +kernel
theorem dX5_fused_196 : decode cX5_fused 196 = .ok (.iload 8, 2) := by decide +kernel
theorem dX5_fused_198 : decode cX5_fused 198 = .ok (.invokestatic 121, 3) := by decide +kernel
theorem dX5_fused_201 : decode cX5_fused 201 = .ok (.iadd, 1) := by decide +kernel
theorem dX5_fused_202 : decode cX5_fused 202 = .ok (.invokevirtual 130, 3) := by decide +kernel
theorem dX5_fused_205 : decode cX5_fused 205 = .ok (.iload 9, 2) := by decide +kernel
theorem dX5_fused_207 : decode cX5_fused 207 = .ok (.istore 10, 2) := by decide +kernel
theorem dX5_fused_209 : decode cX5_fused 209 = .ok (.iload 7, 2) := by decide +kernel
theorem dX5_fused_211 : decode cX5_fused 211 = .ok (.ifCond .eq 90, 3) := by decide +kernel
theorem dX5_fused_214 : decode cX5_fused 214 = .ok (.aload_n 0, 1) := by decide +kernel
theorem dX5_fused_215 : decode cX5_fused 215 = .ok (.lload 5, 2) := by decide +kernel
theorem dX5_fused_217 : decode cX5_fused 217 = .ok (.iload 8, 2) := by decide +kernel
theorem dX5_fused_219 : decode cX5_fused 219 = .ok (.invokestatic 109, 3) := by decide +kernel
theorem dX5_fused_222 : decode cX5_fused 222 = .ok (.lload 5, 2) := by decide +kernel
theorem dX5_fused_224 : decode cX5_fused 224 = .ok (.iload 8, 2) := by decide +kernel
theorem dX5_fused_226 : decode cX5_fused 226 = .ok (.invokestatic 118, 3) := by decide +kernel
theorem dX5_fused_229 : decode cX5_fused 229 = .ok (.lload 5, 2) := by decide +kernel
theorem dX5_fused_231 : decode cX5_fused 231 = .ok (.iload 8, 2) := by decide +kernel
theorem dX5_fused_233 : decode cX5_fused 233 = .ok (.invokestatic 121, 3) := by decide +kernel
theorem dX5_fused_236 : decode cX5_fused 236 = .ok (.invokevirtual 90, 3) := by decide +kernel
theorem dX5_fused_239 : decode cX5_fused 239 = .ok (.lload 5, 2) := by decide +kernel
theorem dX5_fused_241 : decode cX5_fused 241 = .ok (.iload 8, 2) := by decide +kernel
theorem dX5_fused_243 : decode cX5_fused 243 = .ok (.invokestatic 127, 3) := by decide +kernel
theorem dX5_fused_246 : decode cX5_fused 246 = .ok (.ifCond .eq 25, 3) := by decide +kernel
theorem dX5_fused_249 : decode cX5_fused 249 = .ok (.lload_n 1, 1) := by decide +kernel
theorem dX5_fused_250 : decode cX5_fused 250 = .ok (.iload 8, 2) := by decide +kernel
theorem dX5_fused_252 : decode cX5_fused 252 = .ok (.invokestatic 127, 3) := by decide +kernel
theorem dX5_fused_255 : decode cX5_fused 255 = .ok (.ifCond .ne 12, 3) := by decide +kernel
theorem dX5_fused_258 : decode cX5_fused 258 = .ok (.lload_n 3, 1) := by decide +kernel
theorem dX5_fused_259 : decode cX5_fused 259 = .ok (.iload 8, 2) := by decide +kernel
theorem dX5_fused_261 : decode cX5_fused 261 = .ok (.invokestatic 127, 3) := by decide +kernel
theorem dX5_fused_264 : decode cX5_fused 264 = .ok (.ifCond .eq 7, 3) := by decide +kernel
theorem dX5_fused_267 : decode cX5_fused 267 = .ok (.iconst 1, 1) := by decide +kernel
theorem dX5_fused_268 : decode cX5_fused 268 = .ok (.goto 4, 3) := by decide +kernel
theorem dX5_fused_271 : decode cX5_fused 271 = .ok (.iconst 0, 1) := by decide +kernel
theorem dX5_fused_272 : decode cX5_fused 272 = .ok (.istore 11, 2) := by decide +kernel
theorem dX5_fused_274 : decode cX5_fused 274 = .ok (.iload 11, 2) := by decide +kernel
theorem dX5_fused_276 : decode cX5_fused 276 = .ok (.ifCond .eq 22, 3) := by decide +kernel
theorem dX5_fused_279 : decode cX5_fused 279 = .ok (.iload 9, 2) := by decide +kernel
theorem dX5_fused_281 : decode cX5_fused 281 = .ok (.ifCond .eq 17, 3) := by decide +kernel
theorem dX5_fused_284 : decode cX5_fused 284 = .ok (.lload 5, 2) := by decide +kernel
theorem dX5_fused_286 : decode cX5_fused 286 = .ok (.iload 8, 2) := by decide +kernel
theorem dX5_fused_288 : decode cX5_fused 288 = .ok (.invokestatic 109, 3) := by decide +kernel
theorem dX5_fused_291 : decode cX5_fused 291 = .ok (.ifCond .eq 7, 3) := by decide +kernel
theorem dX5_fused_294 : decode cX5_fused 294 = .ok (.iconst 1, 1) := by decide +kernel
theorem dX5_fused_295 : decode cX5_fused 295 = .ok (.goto 4, 3) := by decide +kernel
theorem dX5_fused_298 : decode cX5_fused 298 = .ok (.iconst 0, 1) := by decide +kernel
theorem dX5_fused_299 : decode cX5_fused 299 = .ok (.istore 10, 2) := by decide +kernel
theorem dX5_fused_301 : decode cX5_fused 301 = .ok (.aload_n 0, 1) := by decide +kernel
theorem dX5_fused_302 : decode cX5_fused 302 = .ok (.iload 10, 2) := by decide +kernel
theorem dX5_fused_304 : decode cX5_fused 304 = .ok (.iload 8, 2) := by decide +kernel
theorem dX5_fused_306 : decode cX5_fused 306 = .ok (.invokevirtual 124, 3) := by decide +kernel
theorem dX5_fused_309 : decode cX5_fused 309 = .ok (.lreturn, 1) := by decide +kernel
theorem dX5_multiply_0 : decode cX5_multiply 0 = .ok (.aload_n 0, 1) := by decide +kernel
theorem dX5_multiply_1 : decode cX5_multiply 1 = .ok (.lload_n 1, 1) := by decide +kernel
theorem dX5_multiply_2 : decode cX5_multiply 2 = .ok (.lload_n 3, 1) := by decide +kernel
theorem dX5_multiply_3 : decode cX5_multiply 3 = .ok (.lconst 0, 1) := by decide +kernel
theorem dX5_multiply_4 : decode cX5_multiply 4 = .ok (.iconst 0, 1) := by decide +kernel
theorem dX5_multiply_5 : decode cX5_multiply 5 = .ok (.iload 5, 2) := by decide +kernel
theorem dX5_multiply_7 : decode cX5_multiply 7 = .ok (.invokevirtual 134, 3) := by decide +kernel
theorem dX5_multiply_10 : decode cX5_multiply 10 = .ok (.lreturn, 1) := by decide +kernel
theorem dX5_divide_0 : decode cX5_divide 0 = .ok (.lload_n 1, 1) := by decide +kernel
theorem dX5_divide_1 : decode cX5_divide 1 = .ok (.iload 5, 2) := by decide +kernel
theorem dX5_divide_3 : decode cX5_divide 3 = .ok (.invokestatic 109, 3) := by decide +kernel
theorem dX5_divide_6 : decode cX5_divide 6 = .ok (.lload_n 3, 1) := by decide +kernel
theorem dX5_divide_7 : decode cX5_divide 7 = .ok (.iload 5, 2) := by decide +kernel
theorem dX5_divide_9 : decode cX5_divide 9 = .ok (.invokestatic 109, 3) := by decide +kernel
theorem dX5_divide_12 : decode cX5_divide 12 = .ok (.if_icmp .eq 7, 3) := by decide +kernel
theorem dX5_divide_15 : decode cX5_divide 15 = .ok (.iconst 1, 1) := by decide +kernel
theorem dX5_divide_16 : decode cX5_divide 16 = .ok (.goto 4, 3) := by decide +kernel
theorem dX5_divide_19 : decode cX5_divide 19 = .ok (.iconst 0, 1) := by decide +kernel
theorem dX5_divide_20 : decode cX5_divide 20 = .ok (.istore 6, 2) := by decide +kernel
theorem dX5_divide_22 : decode cX5_divide 22 = .ok (.lload_n 1, 1) := by decide +kernel
theorem dX5_divide_23 : decode cX5_divide 23 = .ok (.iload 5, 2) := by decide +kernel
theorem dX5_divide_25 : decode cX5_divide 25 = .ok (.invokestatic 102, 3) := by decide +kernel
theorem dX5_divide_28 : decode cX5_divide 28 = .ok (.ifCond .ne 48, 3) := by decide +kernel
theorem dX5_divide_31 : decode cX5_divide 31 = .ok (.lload_n 3, 1) := by decide +kernel
theorem dX5_divide_32 : decode cX5_divide 32 = .ok (.iload 5, 2) := by decide +kernel
theorem dX5_divide_34 : decode cX5_divide 34 = .ok (.invokestatic 102, 3) := by decide +kernel
theorem dX5_divide_37 : decode cX5_divide 37 = .ok (.ifCond .ne 39, 3) := by decide +kernel
theorem dX5_divide_40 : decode cX5_divide 40 = .ok (.lload_n 1, 1) := by decide +kernel
theorem dX5_divide_41 : decode cX5_divide 41 = .ok (.iload 5, 2) := by decide +kernel
theorem dX5_divide_43 : decode cX5_divide 43 = .ok (.invokestatic 112, 3) := by decide +kernel
theorem dX5_divide_46 : decode cX5_divide 46 = .ok (.ifCond .eq 12, 3) := by decide +kernel
theorem dX5_divide_49 : decode cX5_divide 49 = .ok (.lload_n 3, 1) := by decide +kernel
theorem dX5_divide_50 : decode cX5_divide 50 = .ok (.iload 5, 2) := by decide +kernel
theorem dX5_divide_52 : decode cX5_divide 52 = .ok (.invokestatic 112, 3) := by decide +kernel
theorem dX5_divide_55 : decode cX5_divide 55 = .ok (.ifCond .ne 21, 3) := by decide +kernel
theorem dX5_divide_58 : decode cX5_divide 58 = .ok (.lload_n 1, 1) := by decide +kernel
theorem dX5_divide_59 : decode cX5_divide 59 = .ok (.iload 5, 2) := by decide +kernel
theorem dX5_divide_61 : decode cX5_divide 61 = .ok (.invokestatic 127, 3) := by decide +kernel
theorem dX5_divide_64 : decode cX5_divide 64 = .ok (.ifCond .eq 16, 3) := by decide +kernel
theorem dX5_divide_67 : decode cX5_divide 67 = .ok (.lload_n 3, 1) := by decide +kernel
theorem dX5_divide_68 : decode cX5_divide 68 = .ok (.iload 5, 2) := by decide +kernel
theorem dX5_divide_70 : decode cX5_divide 70 = .ok (.invokestatic 127, 3) := by decide +kernel
theorem dX5_divide_73 : decode cX5_divide 73 = .ok (.ifCond .eq 7, 3) := by decide +kernel
theorem dX5_divide_76 : decode cX5_divide 76 = .ok (.iconst 1, 1) := by decide +kernel
theorem dX5_divide_77 : decode cX5_divide 77 = .ok (.goto 4, 3) := by decide +kernel
theorem dX5_divide_80 : decode cX5_divide 80 = .ok (.iconst 0, 1) := by decide +kernel
theorem dX5_divide_81 : decode cX5_divide 81 = .ok (.istore 7, 2) := by decide +kernel
theorem dX5_divide_83 : decode cX5_divide 83 = .ok (.iload 7, 2) := by decide +kernel
theorem dX5_divide_85 : decode cX5_divide 85 = .ok (.ifCond .eq 9, 3) := by decide +kernel
theorem dX5_divide_88 : decode cX5_divide 88 = .ok (.iload 5, 2) := by decide +kernel
theorem dX5_divide_90 : decode cX5_divide 90 = .ok (.invokestatic 106, 3) := by decide +kernel
theorem dX5_divide_93 : decode cX5_divide 93 = .ok (.lreturn, 1) := by decide +kernel
theorem dX5_divide_94 : decode cX5_divide 94 = .ok (.lload_n 1, 1) := by decide +kernel
theorem dX5_divide_95 : decode cX5_divide 95 = .ok (.iload 5, 2) := by decide +kernel
theorem dX5_divide_97 : decode cX5_divide 97 = .ok (.invokestatic 112, 3) := by decide +kernel
theorem dX5_divide_100 : decode cX5_divide 100 = .ok (.ifCond .ne 12, 3) := by decide +kernel
theorem dX5_divide_103 : decode cX5_divide 103 = .ok (.lload_n 3, 1) := by decide +kernel
theorem dX5_divide_104 : decode cX5_divide 104 = .ok (.iload 5, 2) := by decide +kernel
theorem dX5_divide_106 : decode cX5_divide 106 = .ok (.invokestatic 127, 3) := by decide +kernel
theorem dX5_divide_109 : decode cX5_divide 109 = .ok (.ifCond .eq 11, 3) := by decide +kernel
theorem dX5_divide_112 : decode cX5_divide 112 = .ok (.iload 6, 2) := by decide +kernel
theorem dX5_divide_114 : decode cX5_divide 114 = .ok (.iload 5, 2) := by decide +kernel
theorem dX5_divide_116 : decode cX5_divide 116 = .ok (.invokestatic 71, 3) := by decide +kernel
theorem dX5_divide_119 : decode cX5_divide 119 = .ok (.lreturn, 1) := by decide +kernel
theorem dX5_divide_120 : decode cX5_divide 120 = .ok (.iload 6, 2) := by decide +kernel
theorem dX5_divide_122 : decode cX5_divide 122 = .ok (.ifCond .eq 11, 3) := by decide +kernel
theorem dX5_divide_125 : decode cX5_divide 125 = .ok (.iload 5, 2) := by decide +kernel
theorem dX5_divide_127 : decode cX5_divide 127 = .ok (.invokestatic 61, 3) := by decide +kernel
theorem dX5_divide_130 : decode cX5_divide 130 = .ok (.goto 4, 3) := by decide +kernel
theorem dX5_divide_133 : decode cX5_divide 133 = .ok (.lconst 0, 1) := by decide +kernel
theorem dX5_divide_134 : decode cX5_divide 134 = .ok (.lstore 8, 2) := by decide +kernel
theorem dX5_divide_136 : decode cX5_divide 136 = .ok (.lload_n 1, 1) := by decide +kernel
theorem dX5_divide_137 : decode cX5_divide 137 = .ok (.iload 5, 2) := by decide +kernel
theorem dX5_divide_139 : decode cX5_divide 139 = .ok (.invokestatic 127, 3) := by decide +kernel
theorem dX5_divide_142 : decode cX5_divide 142 = .ok (.ifCond .ne 12, 3) := by decide +kernel
theorem dX5_divide_145 : decode cX5_divide 145 = .ok (.lload_n 3, 1) := by decide +kernel
theorem dX5_divide_146 : decode cX5_divide 146 = .ok (.iload 5, 2) := by decide +kernel
theorem dX5_divide_148 : decode cX5_divide 148 = .ok (.invokestatic 112, 3) := by decide +kernel
theorem dX5_divide_151 : decode cX5_divide 151 = .ok (.ifCond .eq 6, 3) := by decide +kernel
theorem dX5_divide_154 : decode cX5_divide 154 = .ok (.lload 8, 2) := by decide +kernel
theorem dX5_divide_156 : decode cX5_divide 156 = .ok (.lreturn, 1) := by decide +kernel
theorem dX5_divide_157 : decode cX5_divide 157 = .ok (.lload_n 1, 1) := by decide +kernel
theorem dX5_divide_158 : decode cX5_divide 158 = .ok (.iload 5, 2) := by decide +kernel
theorem dX5_divide_160 : decode cX5_divide 160 = .ok (.invokestatic 118, 3) := by decide +kernel
theorem dX5_divide_163 : decode cX5_divide 163 = .ok (.lstore 10, 2) := by decide +kernel
theorem dX5_divide_165 : decode cX5_divide 165 = .ok (.lload_n 3, 1) := by decide +kernel
theorem dX5_divide_166 : decode cX5_divide 166 = .ok (.iload 5, 2) := by decide +kernel
theorem dX5_divide_168 : decode cX5_divide 168 = .ok (.invokestatic 118, 3) := by decide +kernel
theorem dX5_divide_171 : decode cX5_divide 171 = .ok (.lstore 12, 2) := by decide +kernel
theorem dX5_divide_173 : decode cX5_divide 173 = .ok (.lload_n 1, 1) := by decide +kernel
theorem dX5_divide_174 : decode cX5_divide 174 = .ok (.iload 5, 2) := by decide +kernel
theorem dX5_divide_176 : decode cX5_divide 176 = .ok (.invokestatic 121, 3) := by decide +kernel
theorem dX5_divide_179 : decode cX5_divide 179 = .ok (.lload_n 3, 1) := by decide +kernel
theorem dX5_divide_180 : decode cX5_divide 180 = .ok (.iload 5, 2) := by decide +kernel
theorem dX5_divide_182 : decode cX5_divide 182 = .ok (.invokestatic 121, 3) := by decide +kernel
theorem dX5_divide_185 : decode cX5_divide 185 = .ok (.isub, 1) := by decide +kernel
theorem dX5_divide_186 : decode cX5_divide 186 = .ok (.istore 14, 2) := by decide +kernel
theorem dX5_divide_188 : decode cX5_divide 188 = .ok (.bipush 53, 2) := by decide +kernel
theorem dX5_divide_190 : decode cX5_divide 190 = .ok (.lload 10, 2) := by decide +kernel
theorem dX5_divide_192 : decode cX5_divide 192 = .ok (.invokestatic 82, 3) := by decide +kernel
theorem dX5_divide_195 : decode cX5_divide 195 = .ok (.isub, 1) := by decide +kernel
theorem dX5_divide_196 : decode cX5_divide 196 = .ok (.istore 15, 2) := by decide +kernel
theorem dX5_divide_198 : decode cX5_divide 198 = .ok (.bipush 53, 2) := by decide +kernel
theorem dX5_divide_200 : decode cX5_divide 200 = .ok (.lload 12, 2) := by decide +kernel
theorem dX5_divide_202 : decode cX5_divide 202 = .ok (.invokestatic 82, 3) := by decide +kernel
theorem dX5_divide_205 : decode cX5_divide 205 = .ok (.isub, 1) := by decide +kernel
theorem dX5_divide_206 : decode cX5_divide 206 = .ok (.istore 16, 2) := by decide +kernel
theorem dX5_divide_208 : decode cX5_divide 208 = .ok (.lload 10, 2) := by decide +kernel
theorem dX5_divide_210 : decode cX5_divide 210 = .ok (.iload 15, 2) := by decide +kernel
theorem dX5_divide_212 : decode cX5_divide 212 = .ok (.lshl, 1) := by decide +kernel
theorem dX5_divide_213 : decode cX5_divide 213 = .ok (.lstore 10, 2) := by decide +kernel
theorem dX5_divide_215 : decode cX5_divide 215 = .ok (.lload 12, 2) := by decide +kernel
theorem dX5_divide_217 : decode cX5_divide 217 = .ok (.iload 16, 2) := by decide +kernel
theorem dX5_divide_219 : decode cX5_divide 219 = .ok (.lshl, 1) := by decide +kernel
theorem dX5_divide_220 : decode cX5_divide 220 = .ok (.lstore 12, 2) := by decide +kernel
theorem dX5_divide_222 : decode cX5_divide 222 = .ok (.iload 14, 2) := by decide +kernel
theorem dX5_divide_224 : decode cX5_divide 224 = .ok (.iload 16, 2) := by decide +kernel
theorem dX5_divide_226 : decode cX5_divide 226 = .ok (.iload 15, 2) := by decide +kernel
theorem dX5_divide_228 : decode cX5_divide 228 = .ok (.isub, 1) := by decide +kernel
theorem dX5_divide_229 : decode cX5_divide 229 = .ok (.iadd, 1) := by decide +kernel
theorem dX5_divide_230 : decode cX5_divide 230 = .ok (.istore 14, 2) := by decide +kernel
theorem dX5_divide_232 : decode cX5_divide 232 = .ok (.lconst 0, 1) := by decide +kernel
theorem dX5_divide_233 : decode cX5_divide 233 = .ok (.lstore 17, 2) := by decide +kernel
theorem dX5_divide_235 : decode cX5_divide 235 = .ok (.iconst 0, 1) := by decide +kernel
theorem dX5_divide_236 : decode cX5_divide 236 = .ok (.istore 19, 2) := by decide +kernel
theorem dX5_divide_238 : decode cX5_divide 238 = .ok (.iload 19, 2) := by decide +kernel
theorem dX5_divide_240 : decode cX5_divide 240 = .ok (.bipush 58, 2) := by decide +kernel
theorem dX5_divide_242 : decode cX5_divide 242 = .ok (.if_icmp .ge 42, 3) := by decide +kernel
theorem dX5_divide_245 : decode cX5_divide 245 = .ok (.lload 17, 2) := by decide +kernel
theorem dX5_divide_247 : decode cX5_divide 247 = .ok (.iconst 1, 1) := by decide +kernel
theorem dX5_divide_248 : decode cX5_divide 248 = .ok (.lshl, 1) := by decide +kernel
theorem dX5_divide_249 : decode cX5_divide 249 = .ok (.lstore 17, 2) := by decide +kernel
theorem dX5_divide_251 : decode cX5_divide 251 = .ok (.lload 10, 2) := by decide +kernel
theorem dX5_divide_253 : decode cX5_divide 253 = .ok (.lload 12, 2) := by decide +kernel
theorem dX5_divide_255 : decode cX5_divide 255 = .ok (.lcmp, 1) := by decide +kernel
theorem dX5_divide_256 : decode cX5_divide 256 = .ok (.ifCond .lt 16, 3) := by decide +kernel
theorem dX5_divide_259 : decode cX5_divide 259 = .ok (.lload 17, 2) := by decide +kernel
theorem dX5_divide_261 : decode cX5_divide 261 = .ok (.lconst 1, 1) := by decide +kernel
theorem dX5_divide_262 : decode cX5_divide 262 = .ok (.ladd, 1) := by decide +kernel
theorem dX5_divide_263 : decode cX5_divide 263 = .ok (.lstore 17, 2) := by decide +kernel
theorem dX5_divide_265 : decode cX5_divide 265 = .ok (.lload 10, 2) := by decide +kernel
theorem dX5_divide_267 : decode cX5_divide 267 = .ok (.lload 12, 2) := by decide +kernel
theorem dX5_divide_269 : decode cX5_divide 269 = .ok (.lsub, 1) := by decide +kernel
theorem dX5_divide_270 : decode cX5_divide 270 = .ok (.lstore 10, 2) := by decide +kernel
theorem dX5_divide_272 : decode cX5_divide 272 = .ok (.lload 10, 2) := by decide +kernel
theorem dX5_divide_274 : decode cX5_divide 274 = .ok (.iconst 1, 1) := by decide +kernel
theorem dX5_divide_275 : decode cX5_divide 275 = .ok (.lshl, 1) := by decide +kernel
theorem dX5_divide_276 : decode cX5_divide 276 = .ok (.lstore 10, 2) := by decide +kernel
theorem dX5_divide_278 : decode cX5_divide 278 = .ok (.iinc 19 1, 3) := by decide +kernel
theorem dX5_divide_281 : decode cX5_divide 281 = .ok (.goto (-43), 3) := by decide +kernel
theorem dX5_divide_284 : decode cX5_divide 284 = .ok (.iload 6, 2) := by decide +kernel
theorem dX5_divide_286 : decode cX5_divide 286 = .ok (.lload 17, 2) := by decide +kernel
theorem dX5_divide_288 : decode cX5_divide 288 = .ok (.iload 14, 2) := by decide +kernel
theorem dX5_divide_290 : decode cX5_divide 290 = .ok (.bipush 57, 2) := by decide +kernel
theorem dX5_divide_292 : decode cX5_divide 292 = .ok (.isub, 1) := by decide +kernel
theorem dX5_divide_293 : decode cX5_divide 293 = .ok (.lload 10, 2) := by decide +kernel
theorem dX5_divide_295 : decode cX5_divide 295 = .ok (.lconst 0, 1) := by decide +kernel
theorem dX5_divide_296 : decode cX5_divide 296 = .ok (.lcmp, 1) := by decide +kernel
theorem dX5_divide_297 : decode cX5_divide 297 = .ok (.ifCond .eq 7, 3) := by decide +kernel
theorem dX5_divide_300 : decode cX5_divide 300 = .ok (.iconst 1, 1) := by decide +kernel
theorem dX5_divide_301 : decode cX5_divide 301 = .ok (.goto 4, 3) := by decide +kernel
theorem dX5_divide_304 : decode cX5_divide 304 = .ok (.iconst 0, 1) := by decide +kernel
theorem dX5_divide_305 : decode cX5_divide 305 = .ok (.iload 5, 2) := by decide +kernel
theorem dX5_divide_307 : decode cX5_divide 307 = .ok (.invokestatic 98, 3) := by decide +kernel
theorem dX5_divide_310 : decode cX5_divide 310 = .ok (.lreturn, 1) := by decide +kernel
theorem dX5_rest_0 : decode cX5_rest 0 = .ok (.lload_n 1, 1) := by decide +kernel
theorem dX5_rest_1 : decode cX5_rest 1 = .ok (.iload 5, 2) := by decide +kernel
theorem dX5_rest_3 : decode cX5_rest 3 = .ok (.invokestatic 102, 3) := by decide +kernel
theorem dX5_rest_6 : decode cX5_rest 6 = .ok (.ifCond .ne 30, 3) := by decide +kernel
theorem dX5_rest_9 : decode cX5_rest 9 = .ok (.lload_n 3, 1) := by decide +kernel
theorem dX5_rest_10 : decode cX5_rest 10 = .ok (.iload 5, 2) := by decide +kernel
theorem dX5_rest_12 : decode cX5_rest 12 = .ok (.invokestatic 102, 3) := by decide +kernel
theorem dX5_rest_15 : decode cX5_rest 15 = .ok (.ifCond .ne 21, 3) := by decide +kernel
theorem dX5_rest_18 : decode cX5_rest 18 = .ok (.lload_n 1, 1) := by decide +kernel
theorem dX5_rest_19 : decode cX5_rest 19 = .ok (.iload 5, 2) := by decide +kernel
theorem dX5_rest_21 : decode cX5_rest 21 = .ok (.invokestatic 112, 3) := by decide +kernel
theorem dX5_rest_24 : decode cX5_rest 24 = .ok (.ifCond .ne 12, 3) := by decide +kernel
theorem dX5_rest_27 : decode cX5_rest 27 = .ok (.lload_n 3, 1) := by decide +kernel
theorem dX5_rest_28 : decode cX5_rest 28 = .ok (.iload 5, 2) := by decide +kernel
theorem dX5_rest_30 : decode cX5_rest 30 = .ok (.invokestatic 127, 3) := by decide +kernel
theorem dX5_rest_33 : decode cX5_rest 33 = .ok (.ifCond .eq 9, 3) := by decide +kernel
theorem dX5_rest_36 : decode cX5_rest 36 = .ok (.iload 5, 2) := by decide +kernel
theorem dX5_rest_38 : decode cX5_rest 38 = .ok (.invokestatic 106, 3) := by decide +kernel
theorem dX5_rest_41 : decode cX5_rest 41 = .ok (.lreturn, 1) := by decide +kernel
theorem dX5_rest_42 : decode cX5_rest 42 = .ok (.lload_n 3, 1) := by decide +kernel
theorem dX5_rest_43 : decode cX5_rest 43 = .ok (.iload 5, 2) := by decide +kernel
theorem dX5_rest_45 : decode cX5_rest 45 = .ok (.invokestatic 112, 3) := by decide +kernel
theorem dX5_rest_48 : decode cX5_rest 48 = .ok (.ifCond .ne 19, 3) := by decide +kernel
theorem dX5_rest_51 : decode cX5_rest 51 = .ok (.lload_n 1, 1) := by decide +kernel
theorem dX5_rest_52 : decode cX5_rest 52 = .ok (.iload 5, 2) := by decide +kernel
theorem dX5_rest_54 : decode cX5_rest 54 = .ok (.invokestatic 67, 3) := by decide +kernel
theorem dX5_rest_57 : decode cX5_rest 57 = .ok (.lload_n 3, 1) := by decide +kernel
theorem dX5_rest_58 : decode cX5_rest 58 = .ok (.iload 5, 2) := by decide +kernel
theorem dX5_rest_60 : decode cX5_rest 60 = .ok (.invokestatic 67, 3) := by decide +kernel
theorem dX5_rest_63 : decode cX5_rest 63 = .ok (.lcmp, 1) := by decide +kernel
theorem dX5_rest_64 : decode cX5_rest 64 = .ok (.ifCond .ge 5, 3) := by decide +kernel
theorem dX5_rest_67 : decode cX5_rest 67 = .ok (.lload_n 1, 1) := by decide +kernel
theorem dX5_rest_68 : decode cX5_rest 68 = .ok (.lreturn, 1) := by decide +kernel
theorem dX5_rest_69 : decode cX5_rest 69 = .ok (.lload_n 1, 1) := by decide +kernel
theorem dX5_rest_70 : decode cX5_rest 70 = .ok (.iload 5, 2) := by decide +kernel
theorem dX5_rest_72 : decode cX5_rest 72 = .ok (.invokestatic 118, 3) := by decide +kernel
theorem dX5_rest_75 : decode cX5_rest 75 = .ok (.lstore 6, 2) := by decide +kernel
theorem dX5_rest_77 : decode cX5_rest 77 = .ok (.lload_n 3, 1) := by decide +kernel
theorem dX5_rest_78 : decode cX5_rest 78 = .ok (.iload 5, 2) := by decide +kernel
theorem dX5_rest_80 : decode cX5_rest 80 = .ok (.invokestatic 118, 3) := by decide +kernel
theorem dX5_rest_83 : decode cX5_rest 83 = .ok (.lstore 8, 2) := by decide +kernel
theorem dX5_rest_85 : decode cX5_rest 85 = .ok (.lload_n 1, 1) := by decide +kernel
theorem dX5_rest_86 : decode cX5_rest 86 = .ok (.iload 5, 2) := by decide +kernel
theorem dX5_rest_88 : decode cX5_rest 88 = .ok (.invokestatic 121, 3) := by decide +kernel
theorem dX5_rest_91 : decode cX5_rest 91 = .ok (.lload_n 3, 1) := by decide +kernel
theorem dX5_rest_92 : decode cX5_rest 92 = .ok (.iload 5, 2) := by decide +kernel
theorem dX5_rest_94 : decode cX5_rest 94 = .ok (.invokestatic 121, 3) := by decide +kernel
theorem dX5_rest_97 : decode cX5_rest 97 = .ok (.isub, 1) := by decide +kernel
theorem dX5_rest_98 : decode cX5_rest 98 = .ok (.istore 10, 2) := by decide +kernel
theorem dX5_rest_100 : decode cX5_rest 100 = .ok (.lload_n 3, 1) := by decide +kernel
theorem dX5_rest_101 : decode cX5_rest 101 = .ok (.iload 5, 2) := by decide +kernel
theorem dX5_rest_103 : decode cX5_rest 103 = .ok (.invokestatic 121, 3) := by decide +kernel
theorem dX5_rest_106 : decode cX5_rest 106 = .ok (.istore 11, 2) := by decide +kernel
theorem dX5_rest_108 : decode cX5_rest 108 = .ok (.iload 10, 2) := by decide +kernel
theorem dX5_rest_110 : decode cX5_rest 110 = .ok (.ifCond .ge 19, 3) := by decide +kernel
theorem dX5_rest_113 : decode cX5_rest 113 = .ok (.lload 8, 2) := by decide +kernel
theorem dX5_rest_115 : decode cX5_rest 115 = .ok (.iload 10, 2) := by decide +kernel
theorem dX5_rest_117 : decode cX5_rest 117 = .ok (.ineg, 1) := by decide +kernel
theorem dX5_rest_118 : decode cX5_rest 118 = .ok (.lshl, 1) := by decide +kernel
theorem dX5_rest_119 : decode cX5_rest 119 = .ok (.lstore 8, 2) := by decide +kernel
theorem dX5_rest_121 : decode cX5_rest 121 = .ok (.lload_n 1, 1) := by decide +kernel
theorem dX5_rest_122 : decode cX5_rest 122 = .ok (.iload 5, 2) := by decide +kernel
theorem dX5_rest_124 : decode cX5_rest 124 = .ok (.invokestatic 121, 3) := by decide +kernel
theorem dX5_rest_127 : decode cX5_rest 127 = .ok (.istore 11, 2) := by decide +kernel
theorem dX5_rest_129 : decode cX5_rest 129 = .ok (.lload 6, 2) := by decide +kernel
theorem dX5_rest_131 : decode cX5_rest 131 = .ok (.lload 8, 2) := by decide +kernel
theorem dX5_rest_133 : decode cX5_rest 133 = .ok (.lrem, 1) := by decide +kernel
theorem dX5_rest_134 : decode cX5_rest 134 = .ok (.lstore 6, 2) := by decide +kernel
theorem dX5_rest_136 : decode cX5_rest 136 = .ok (.iconst 0, 1) := by decide +kernel
theorem dX5_rest_137 : decode cX5_rest 137 = .ok (.istore 12, 2) := by decide +kernel
theorem dX5_rest_139 : decode cX5_rest 139 = .ok (.iload 12, 2) := by decide +kernel
theorem dX5_rest_141 : decode cX5_rest 141 = .ok (.iload 10, 2) := by decide +kernel
theorem dX5_rest_143 : decode cX5_rest 143 = .ok (.if_icmp .ge 34, 3) := by decide +kernel
theorem dX5_rest_146 : decode cX5_rest 146 = .ok (.lload 6, 2) := by decide +kernel
theorem dX5_rest_148 : decode cX5_rest 148 = .ok (.iconst 1, 1) := by decide +kernel
theorem dX5_rest_149 : decode cX5_rest 149 = .ok (.lshl, 1) := by decide +kernel
theorem dX5_rest_150 : decode cX5_rest 150 = .ok (.lstore 6, 2) := by decide +kernel
theorem dX5_rest_152 : decode cX5_rest 152 = .ok (.lload 6, 2) := by decide +kernel
theorem dX5_rest_154 : decode cX5_rest 154 = .ok (.lload 6, 2) := by decide +kernel
theorem dX5_rest_156 : decode cX5_rest 156 = .ok (.lload 8, 2) := by decide +kernel
theorem dX5_rest_158 : decode cX5_rest 158 = .ok (.lcmp, 1) := by decide +kernel
theorem dX5_rest_159 : decode cX5_rest 159 = .ok (.ifCond .lt 8, 3) := by decide +kernel
theorem dX5_rest_162 : decode cX5_rest 162 = .ok (.lload 8, 2) := by decide +kernel
theorem dX5_rest_164 : decode cX5_rest 164 = .ok (.goto 4, 3) := by decide +kernel
theorem dX5_rest_167 : decode cX5_rest 167 = .ok (.lconst 0, 1) := by decide +kernel
theorem dX5_rest_168 : decode cX5_rest 168 = .ok (.lsub, 1) := by decide +kernel
theorem dX5_rest_169 : decode cX5_rest 169 = .ok (.lstore 6, 2) := by decide +kernel
theorem dX5_rest_171 : decode cX5_rest 171 = .ok (.iinc 12 1, 3) := by decide +kernel
theorem dX5_rest_174 : decode cX5_rest 174 = .ok (.goto (-35), 3) := by decide +kernel
theorem dX5_rest_177 : decode cX5_rest 177 = .ok (.lload_n 1, 1) := by decide +kernel
theorem dX5_rest_178 : decode cX5_rest 178 = .ok (.iload 5, 2) := by decide +kernel
theorem dX5_rest_180 : decode cX5_rest 180 = .ok (.invokestatic 109, 3) := by decide +kernel
theorem dX5_rest_183 : decode cX5_rest 183 = .ok (.lload 6, 2) := by decide +kernel
theorem dX5_rest_185 : decode cX5_rest 185 = .ok (.iload 11, 2) := by decide +kernel
theorem dX5_rest_187 : decode cX5_rest 187 = .ok (.iconst 0, 1) := by decide +kernel
theorem dX5_rest_188 : decode cX5_rest 188 = .ok (.iload 5, 2) := by decide +kernel
theorem dX5_rest_190 : decode cX5_rest 190 = .ok (.invokestatic 98, 3) := by decide +kernel
theorem dX5_rest_193 : decode cX5_rest 193 = .ok (.lreturn, 1) := by decide +kernel
theorem dX5_root_0 : decode cX5_root 0 = .ok (.lload_n 1, 1) := by decide +kernel
theorem dX5_root_1 : decode cX5_root 1 = .ok (.iload_n 3, 1) := by decide +kernel
theorem dX5_root_2 : decode cX5_root 2 = .ok (.invokestatic 102, 3) := by decide +kernel
theorem dX5_root_5 : decode cX5_root 5 = .ok (.ifCond .ne 19, 3) := by decide +kernel
theorem dX5_root_8 : decode cX5_root 8 = .ok (.lload_n 1, 1) := by decide +kernel
theorem dX5_root_9 : decode cX5_root 9 = .ok (.iload_n 3, 1) := by decide +kernel
theorem dX5_root_10 : decode cX5_root 10 = .ok (.invokestatic 109, 3) := by decide +kernel
theorem dX5_root_13 : decode cX5_root 13 = .ok (.ifCond .eq 16, 3) := by decide +kernel
theorem dX5_root_16 : decode cX5_root 16 = .ok (.lload_n 1, 1) := by decide +kernel
theorem dX5_root_17 : decode cX5_root 17 = .ok (.iload_n 3, 1) := by decide +kernel
theorem dX5_root_18 : decode cX5_root 18 = .ok (.invokestatic 127, 3) := by decide +kernel
theorem dX5_root_21 : decode cX5_root 21 = .ok (.ifCond .ne 8, 3) := by decide +kernel
theorem dX5_root_24 : decode cX5_root 24 = .ok (.iload_n 3, 1) := by decide +kernel
theorem dX5_root_25 : decode cX5_root 25 = .ok (.invokestatic 106, 3) := by decide +kernel
theorem dX5_root_28 : decode cX5_root 28 = .ok (.lreturn, 1) := by decide +kernel
theorem dX5_root_29 : decode cX5_root 29 = .ok (.lload_n 1, 1) := by decide +kernel
theorem dX5_root_30 : decode cX5_root 30 = .ok (.iload_n 3, 1) := by decide +kernel
theorem dX5_root_31 : decode cX5_root 31 = .ok (.invokestatic 127, 3) := by decide +kernel
theorem dX5_root_34 : decode cX5_root 34 = .ok (.ifCond .ne 11, 3) := by decide +kernel
theorem dX5_root_37 : decode cX5_root 37 = .ok (.lload_n 1, 1) := by decide +kernel
theorem dX5_root_38 : decode cX5_root 38 = .ok (.iload_n 3, 1) := by decide +kernel
theorem dX5_root_39 : decode cX5_root 39 = .ok (.invokestatic 112, 3) := by decide +kernel
theorem dX5_root_42 : decode cX5_root 42 = .ok (.ifCond .eq 5, 3) := by decide +kernel
theorem dX5_root_45 : decode cX5_root 45 = .ok (.lload_n 1, 1) := by decide +kernel
theorem dX5_root_46 : decode cX5_root 46 = .ok (.lreturn, 1) := by decide +kernel
theorem dX5_root_47 : decode cX5_root 47 = .ok (.lload_n 1, 1) := by decide +kernel
theorem dX5_root_48 : decode cX5_root 48 = .ok (.iload_n 3, 1) := by decide +kernel
theorem dX5_root_49 : decode cX5_root 49 = .ok (.invokestatic 118, 3) := by decide +kernel
theorem dX5_root_52 : decode cX5_root 52 = .ok (.lstore 4, 2) := by decide +kernel
theorem dX5_root_54 : decode cX5_root 54 = .ok (.lload_n 1, 1) := by decide +kernel
theorem dX5_root_55 : decode cX5_root 55 = .ok (.iload_n 3, 1) := by decide +kernel
theorem dX5_root_56 : decode cX5_root 56 = .ok (.invokestatic 121, 3) := by decide +kernel
theorem dX5_root_59 : decode cX5_root 59 = .ok (.istore 6, 2) := by decide +kernel
theorem dX5_root_61 : decode cX5_root 61 = .ok (.bipush 54, 2) := by decide +kernel
theorem dX5_root_63 : decode cX5_root 63 = .ok (.lload 4, 2) := by decide +kernel
theorem dX5_root_65 : decode cX5_root 65 = .ok (.invokestatic 82, 3) := by decide +kernel
theorem dX5_root_68 : decode cX5_root 68 = .ok (.isub, 1) := by decide +kernel
theorem dX5_root_69 : decode cX5_root 69 = .ok (.istore 7, 2) := by decide +kernel
theorem dX5_root_71 : decode cX5_root 71 = .ok (.iload 7, 2) := by decide +kernel
theorem dX5_root_73 : decode cX5_root 73 = .ok (.iload 6, 2) := by decide +kernel
theorem dX5_root_75 : decode cX5_root 75 = .ok (.iload 7, 2) := by decide +kernel
theorem dX5_root_77 : decode cX5_root 77 = .ok (.isub, 1) := by decide +kernel
theorem dX5_root_78 : decode cX5_root 78 = .ok (.iconst 2, 1) := by decide +kernel
theorem dX5_root_79 : decode cX5_root 79 = .ok (.irem, 1) := by decide +kernel
theorem dX5_root_80 : decode cX5_root 80 = .ok (.ifCond .ne 7, 3) := by decide +kernel
theorem dX5_root_83 : decode cX5_root 83 = .ok (.iconst 0, 1) := by decide +kernel
theorem dX5_root_84 : decode cX5_root 84 = .ok (.goto 4, 3) := by decide +kernel
theorem dX5_root_87 : decode cX5_root 87 = .ok (.iconst 1, 1) := by decide +kernel
theorem dX5_root_88 : decode cX5_root 88 = .ok (.iadd, 1) := by decide +kernel
theorem dX5_root_89 : decode cX5_root 89 = .ok (.istore 7, 2) := by decide +kernel
theorem dX5_root_91 : decode cX5_root 91 = .ok (.lload 4, 2) := by decide +kernel
theorem dX5_root_93 : decode cX5_root 93 = .ok (.iload 7, 2) := by decide +kernel
theorem dX5_root_95 : decode cX5_root 95 = .ok (.lshl, 1) := by decide +kernel
theorem dX5_root_96 : decode cX5_root 96 = .ok (.lstore 4, 2) := by decide +kernel
theorem dX5_root_98 : decode cX5_root 98 = .ok (.iload 6, 2) := by decide +kernel
theorem dX5_root_100 : decode cX5_root 100 = .ok (.iload 7, 2) := by decide +kernel
theorem dX5_root_102 : decode cX5_root 102 = .ok (.isub, 1) := by decide +kernel
theorem dX5_root_103 : decode cX5_root 103 = .ok (.istore 6, 2) := by decide +kernel
theorem dX5_root_105 : decode cX5_root 105 = .ok (.lconst 0, 1) := by decide +kernel
theorem dX5_root_106 : decode cX5_root 106 = .ok (.lstore 8, 2) := by decide +kernel
theorem dX5_root_108 : decode cX5_root 108 = .ok (.lconst 0, 1) := by decide +kernel
theorem dX5_root_109 : decode cX5_root 109 = .ok (.lstore 10, 2) := by decide +kernel
theorem dX5_root_111 : decode cX5_root 111 = .ok (.iconst 0, 1) := by decide +kernel
theorem dX5_root_112 : decode cX5_root 112 = .ok (.istore 12, 2) := by decide +kernel
theorem dX5_root_114 : decode cX5_root 114 = .ok (.iload 12, 2) := by decide +kernel
theorem dX5_root_116 : decode cX5_root 116 = .ok (.bipush 57, 2) := by decide +kernel
theorem dX5_root_118 : decode cX5_root 118 = .ok (.if_icmp .ge 82, 3) := by decide +kernel
theorem dX5_root_121 : decode cX5_root 121 = .ok (.bipush 54, 2) := by decide +kernel
theorem dX5_root_123 : decode cX5_root 123 = .ok (.iconst 2, 1) := by decide +kernel
theorem dX5_root_124 : decode cX5_root 124 = .ok (.iload 12, 2) := by decide +kernel
theorem dX5_root_126 : decode cX5_root 126 = .ok (.imul, 1) := by decide +kernel
theorem dX5_root_127 : decode cX5_root 127 = .ok (.isub, 1) := by decide +kernel
theorem dX5_root_128 : decode cX5_root 128 = .ok (.istore 13, 2) := by decide +kernel
theorem dX5_root_130 : decode cX5_root 130 = .ok (.iload 13, 2) := by decide +kernel
theorem dX5_root_132 : decode cX5_root 132 = .ok (.ifCond .lt 15, 3) := by decide +kernel
theorem dX5_root_135 : decode cX5_root 135 = .ok (.lload 4, 2) := by decide +kernel
theorem dX5_root_137 : decode cX5_root 137 = .ok (.iload 13, 2) := by decide +kernel
theorem dX5_root_139 : decode cX5_root 139 = .ok (.lushr, 1) := by decide +kernel
theorem dX5_root_140 : decode cX5_root 140 = .ok (.ldc2_w 138, 3) := by decide +kernel
theorem dX5_root_143 : decode cX5_root 143 = .ok (.land, 1) := by decide +kernel
theorem dX5_root_144 : decode cX5_root 144 = .ok (.goto 4, 3) := by decide +kernel
theorem dX5_root_147 : decode cX5_root 147 = .ok (.lconst 0, 1) := by decide +kernel
theorem dX5_root_148 : decode cX5_root 148 = .ok (.lstore 14, 2) := by decide +kernel
theorem dX5_root_150 : decode cX5_root 150 = .ok (.lload 10, 2) := by decide +kernel
theorem dX5_root_152 : decode cX5_root 152 = .ok (.iconst 2, 1) := by decide +kernel
theorem dX5_root_153 : decode cX5_root 153 = .ok (.lshl, 1) := by decide +kernel
theorem dX5_root_154 : decode cX5_root 154 = .ok (.lload 14, 2) := by decide +kernel
theorem dX5_root_156 : decode cX5_root 156 = .ok (.lor, 1) := by decide +kernel
theorem dX5_root_157 : decode cX5_root 157 = .ok (.lstore 10, 2) := by decide +kernel
theorem dX5_root_159 : decode cX5_root 159 = .ok (.lload 8, 2) := by decide +kernel
theorem dX5_root_161 : decode cX5_root 161 = .ok (.iconst 2, 1) := by decide +kernel
theorem dX5_root_162 : decode cX5_root 162 = .ok (.lshl, 1) := by decide +kernel
theorem dX5_root_163 : decode cX5_root 163 = .ok (.lconst 1, 1) := by decide +kernel
theorem dX5_root_164 : decode cX5_root 164 = .ok (.lor, 1) := by decide +kernel
theorem dX5_root_165 : decode cX5_root 165 = .ok (.lstore 16, 2) := by decide +kernel
theorem dX5_root_167 : decode cX5_root 167 = .ok (.lload 8, 2) := by decide +kernel
theorem dX5_root_169 : decode cX5_root 169 = .ok (.iconst 1, 1) := by decide +kernel
theorem dX5_root_170 : decode cX5_root 170 = .ok (.lshl, 1) := by decide +kernel
theorem dX5_root_171 : decode cX5_root 171 = .ok (.lstore 8, 2) := by decide +kernel
theorem dX5_root_173 : decode cX5_root 173 = .ok (.lload 10, 2) := by decide +kernel
theorem dX5_root_175 : decode cX5_root 175 = .ok (.lload 16, 2) := by decide +kernel
theorem dX5_root_177 : decode cX5_root 177 = .ok (.lcmp, 1) := by decide +kernel
theorem dX5_root_178 : decode cX5_root 178 = .ok (.ifCond .lt 16, 3) := by decide +kernel
theorem dX5_root_181 : decode cX5_root 181 = .ok (.lload 10, 2) := by decide +kernel
theorem dX5_root_183 : decode cX5_root 183 = .ok (.lload 16, 2) := by decide +kernel
theorem dX5_root_185 : decode cX5_root 185 = .ok (.lsub, 1) := by decide +kernel
theorem dX5_root_186 : decode cX5_root 186 = .ok (.lstore 10, 2) := by decide +kernel
theorem dX5_root_188 : decode cX5_root 188 = .ok (.lload 8, 2) := by decide +kernel
theorem dX5_root_190 : decode cX5_root 190 = .ok (.lconst 1, 1) := by decide +kernel
theorem dX5_root_191 : decode cX5_root 191 = .ok (.ladd, 1) := by decide +kernel
theorem dX5_root_192 : decode cX5_root 192 = .ok (.lstore 8, 2) := by decide +kernel
theorem dX5_root_194 : decode cX5_root 194 = .ok (.iinc 12 1, 3) := by decide +kernel
theorem dX5_root_197 : decode cX5_root 197 = .ok (.goto (-83), 3) := by decide +kernel
theorem dX5_root_200 : decode cX5_root 200 = .ok (.iconst 0, 1) := by decide +kernel
theorem dX5_root_201 : decode cX5_root 201 = .ok (.lload 8, 2) := by decide +kernel
theorem dX5_root_203 : decode cX5_root 203 = .ok (.iload 6, 2) := by decide +kernel
theorem dX5_root_205 : decode cX5_root 205 = .ok (.bipush 58, 2) := by decide +kernel
theorem dX5_root_207 : decode cX5_root 207 = .ok (.isub, 1) := by decide +kernel
theorem dX5_root_208 : decode cX5_root 208 = .ok (.iconst 2, 1) := by decide +kernel
theorem dX5_root_209 : decode cX5_root 209 = .ok (.idiv, 1) := by decide +kernel
theorem dX5_root_210 : decode cX5_root 210 = .ok (.lload 10, 2) := by decide +kernel
theorem dX5_root_212 : decode cX5_root 212 = .ok (.lconst 0, 1) := by decide +kernel
theorem dX5_root_213 : decode cX5_root 213 = .ok (.lcmp, 1) := by decide +kernel
theorem dX5_root_214 : decode cX5_root 214 = .ok (.ifCond .eq 7, 3) := by decide +kernel
theorem dX5_root_217 : decode cX5_root 217 = .ok (.iconst 1, 1) := by decide +kernel
theorem dX5_root_218 : decode cX5_root 218 = .ok (.goto 4, 3) := by decide +kernel
theorem dX5_root_221 : decode cX5_root 221 = .ok (.iconst 0, 1) := by decide +kernel
theorem dX5_root_222 : decode cX5_root 222 = .ok (.iload_n 3, 1) := by decide +kernel
theorem dX5_root_223 : decode cX5_root 223 = .ok (.invokestatic 98, 3) := by decide +kernel
theorem dX5_root_226 : decode cX5_root 226 = .ok (.lreturn, 1) := by decide +kernel
theorem dX5_whole_0 : decode cX5_whole 0 = .ok (.lload_n 1, 1) := by decide +kernel
theorem dX5_whole_1 : decode cX5_whole 1 = .ok (.iload 4, 2) := by decide +kernel
theorem dX5_whole_3 : decode cX5_whole 3 = .ok (.invokestatic 102, 3) := by decide +kernel
theorem dX5_whole_6 : decode cX5_whole 6 = .ok (.ifCond .eq 9, 3) := by decide +kernel
theorem dX5_whole_9 : decode cX5_whole 9 = .ok (.iload 4, 2) := by decide +kernel
theorem dX5_whole_11 : decode cX5_whole 11 = .ok (.invokestatic 106, 3) := by decide +kernel
theorem dX5_whole_14 : decode cX5_whole 14 = .ok (.lreturn, 1) := by decide +kernel
theorem dX5_whole_15 : decode cX5_whole 15 = .ok (.lload_n 1, 1) := by decide +kernel
theorem dX5_whole_16 : decode cX5_whole 16 = .ok (.iload 4, 2) := by decide +kernel
theorem dX5_whole_18 : decode cX5_whole 18 = .ok (.invokestatic 112, 3) := by decide +kernel
theorem dX5_whole_21 : decode cX5_whole 21 = .ok (.ifCond .eq 7, 3) := by decide +kernel
theorem dX5_whole_24 : decode cX5_whole 24 = .ok (.iconst 0, 1) := by decide +kernel
theorem dX5_whole_25 : decode cX5_whole 25 = .ok (.goto 9, 3) := by decide +kernel
theorem dX5_whole_28 : decode cX5_whole 28 = .ok (.lload_n 1, 1) := by decide +kernel
theorem dX5_whole_29 : decode cX5_whole 29 = .ok (.iload 4, 2) := by decide +kernel
theorem dX5_whole_31 : decode cX5_whole 31 = .ok (.invokestatic 121, 3) := by decide +kernel
theorem dX5_whole_34 : decode cX5_whole 34 = .ok (.istore 5, 2) := by decide +kernel
theorem dX5_whole_36 : decode cX5_whole 36 = .ok (.iload 5, 2) := by decide +kernel
theorem dX5_whole_38 : decode cX5_whole 38 = .ok (.ifCond .ge 12, 3) := by decide +kernel
theorem dX5_whole_41 : decode cX5_whole 41 = .ok (.lload_n 1, 1) := by decide +kernel
theorem dX5_whole_42 : decode cX5_whole 42 = .ok (.iload 4, 2) := by decide +kernel
theorem dX5_whole_44 : decode cX5_whole 44 = .ok (.invokestatic 127, 3) := by decide +kernel
theorem dX5_whole_47 : decode cX5_whole 47 = .ok (.ifCond .eq 5, 3) := by decide +kernel
theorem dX5_whole_50 : decode cX5_whole 50 = .ok (.lload_n 1, 1) := by decide +kernel
theorem dX5_whole_51 : decode cX5_whole 51 = .ok (.lreturn, 1) := by decide +kernel
theorem dX5_whole_52 : decode cX5_whole 52 = .ok (.lload_n 1, 1) := by decide +kernel
theorem dX5_whole_53 : decode cX5_whole 53 = .ok (.iload 4, 2) := by decide +kernel
theorem dX5_whole_55 : decode cX5_whole 55 = .ok (.invokestatic 118, 3) := by decide +kernel
theorem dX5_whole_58 : decode cX5_whole 58 = .ok (.lstore 6, 2) := by decide +kernel
theorem dX5_whole_60 : decode cX5_whole 60 = .ok (.iload 5, 2) := by decide +kernel
theorem dX5_whole_62 : decode cX5_whole 62 = .ok (.ineg, 1) := by decide +kernel
theorem dX5_whole_63 : decode cX5_whole 63 = .ok (.istore 8, 2) := by decide +kernel
theorem dX5_whole_65 : decode cX5_whole 65 = .ok (.iload 8, 2) := by decide +kernel
theorem dX5_whole_67 : decode cX5_whole 67 = .ok (.bipush 62, 2) := by decide +kernel
theorem dX5_whole_69 : decode cX5_whole 69 = .ok (.if_icmp .le 7, 3) := by decide +kernel
theorem dX5_whole_72 : decode cX5_whole 72 = .ok (.lconst 0, 1) := by decide +kernel
theorem dX5_whole_73 : decode cX5_whole 73 = .ok (.goto 8, 3) := by decide +kernel
theorem dX5_whole_76 : decode cX5_whole 76 = .ok (.lload 6, 2) := by decide +kernel
theorem dX5_whole_78 : decode cX5_whole 78 = .ok (.iload 8, 2) := by decide +kernel
theorem dX5_whole_80 : decode cX5_whole 80 = .ok (.lushr, 1) := by decide +kernel
theorem dX5_whole_81 : decode cX5_whole 81 = .ok (.lstore 9, 2) := by decide +kernel
theorem dX5_whole_83 : decode cX5_whole 83 = .ok (.iload 8, 2) := by decide +kernel
theorem dX5_whole_85 : decode cX5_whole 85 = .ok (.bipush 62, 2) := by decide +kernel
theorem dX5_whole_87 : decode cX5_whole 87 = .ok (.if_icmp .le 8, 3) := by decide +kernel
theorem dX5_whole_90 : decode cX5_whole 90 = .ok (.lload 6, 2) := by decide +kernel
theorem dX5_whole_92 : decode cX5_whole 92 = .ok (.goto 12, 3) := by decide +kernel
theorem dX5_whole_95 : decode cX5_whole 95 = .ok (.lload 6, 2) := by decide +kernel
theorem dX5_whole_97 : decode cX5_whole 97 = .ok (.lconst 1, 1) := by decide +kernel
theorem dX5_whole_98 : decode cX5_whole 98 = .ok (.iload 8, 2) := by decide +kernel
theorem dX5_whole_100 : decode cX5_whole 100 = .ok (.lshl, 1) := by decide +kernel
theorem dX5_whole_101 : decode cX5_whole 101 = .ok (.lconst 1, 1) := by decide +kernel
theorem dX5_whole_102 : decode cX5_whole 102 = .ok (.lsub, 1) := by decide +kernel
theorem dX5_whole_103 : decode cX5_whole 103 = .ok (.land, 1) := by decide +kernel
theorem dX5_whole_104 : decode cX5_whole 104 = .ok (.lstore 11, 2) := by decide +kernel
theorem dX5_whole_106 : decode cX5_whole 106 = .ok (.iload 8, 2) := by decide +kernel
theorem dX5_whole_108 : decode cX5_whole 108 = .ok (.bipush 62, 2) := by decide +kernel
theorem dX5_whole_110 : decode cX5_whole 110 = .ok (.if_icmp .le 9, 3) := by decide +kernel
theorem dX5_whole_113 : decode cX5_whole 113 = .ok (.ldc2_w 140, 3) := by decide +kernel
theorem dX5_whole_116 : decode cX5_whole 116 = .ok (.goto 9, 3) := by decide +kernel
theorem dX5_whole_119 : decode cX5_whole 119 = .ok (.lconst 1, 1) := by decide +kernel
theorem dX5_whole_120 : decode cX5_whole 120 = .ok (.iload 8, 2) := by decide +kernel
theorem dX5_whole_122 : decode cX5_whole 122 = .ok (.iconst 1, 1) := by decide +kernel
theorem dX5_whole_123 : decode cX5_whole 123 = .ok (.isub, 1) := by decide +kernel
theorem dX5_whole_124 : decode cX5_whole 124 = .ok (.lshl, 1) := by decide +kernel
theorem dX5_whole_125 : decode cX5_whole 125 = .ok (.lstore 13, 2) := by decide +kernel
theorem dX5_whole_127 : decode cX5_whole 127 = .ok (.iload_n 3, 1) := by decide +kernel
theorem dX5_whole_128 : decode cX5_whole 128 = .ok (.ifCond .ne 20, 3) := by decide +kernel
theorem dX5_whole_131 : decode cX5_whole 131 = .ok (.lload_n 1, 1) := by decide +kernel
theorem dX5_whole_132 : decode cX5_whole 132 = .ok (.iload 4, 2) := by decide +kernel
theorem dX5_whole_134 : decode cX5_whole 134 = .ok (.invokestatic 109, 3) := by decide +kernel
theorem dX5_whole_137 : decode cX5_whole 137 = .ok (.ifCond .ne 7, 3) := by decide +kernel
theorem dX5_whole_140 : decode cX5_whole 140 = .ok (.iconst 1, 1) := by decide +kernel
theorem dX5_whole_141 : decode cX5_whole 141 = .ok (.goto 56, 3) := by decide +kernel
theorem dX5_whole_144 : decode cX5_whole 144 = .ok (.iconst 0, 1) := by decide +kernel
theorem dX5_whole_145 : decode cX5_whole 145 = .ok (.goto 52, 3) := by decide +kernel
theorem dX5_whole_148 : decode cX5_whole 148 = .ok (.iload_n 3, 1) := by decide +kernel
theorem dX5_whole_149 : decode cX5_whole 149 = .ok (.iconst 1, 1) := by decide +kernel
theorem dX5_whole_150 : decode cX5_whole 150 = .ok (.if_icmp .ne 12, 3) := by decide +kernel
theorem dX5_whole_153 : decode cX5_whole 153 = .ok (.lload_n 1, 1) := by decide +kernel
theorem dX5_whole_154 : decode cX5_whole 154 = .ok (.iload 4, 2) := by decide +kernel
theorem dX5_whole_156 : decode cX5_whole 156 = .ok (.invokestatic 109, 3) := by decide +kernel
theorem dX5_whole_159 : decode cX5_whole 159 = .ok (.goto 38, 3) := by decide +kernel
theorem dX5_whole_162 : decode cX5_whole 162 = .ok (.iload_n 3, 1) := by decide +kernel
theorem dX5_whole_163 : decode cX5_whole 163 = .ok (.iconst 2, 1) := by decide +kernel
theorem dX5_whole_164 : decode cX5_whole 164 = .ok (.if_icmp .ne 32, 3) := by decide +kernel
theorem dX5_whole_167 : decode cX5_whole 167 = .ok (.lload 11, 2) := by decide +kernel
theorem dX5_whole_169 : decode cX5_whole 169 = .ok (.lload 13, 2) := by decide +kernel
theorem dX5_whole_171 : decode cX5_whole 171 = .ok (.lcmp, 1) := by decide +kernel
theorem dX5_whole_172 : decode cX5_whole 172 = .ok (.ifCond .gt 20, 3) := by decide +kernel
theorem dX5_whole_175 : decode cX5_whole 175 = .ok (.lload 11, 2) := by decide +kernel
theorem dX5_whole_177 : decode cX5_whole 177 = .ok (.lload 13, 2) := by decide +kernel
theorem dX5_whole_179 : decode cX5_whole 179 = .ok (.lcmp, 1) := by decide +kernel
theorem dX5_whole_180 : decode cX5_whole 180 = .ok (.ifCond .ne 16, 3) := by decide +kernel
theorem dX5_whole_183 : decode cX5_whole 183 = .ok (.lload 9, 2) := by decide +kernel
theorem dX5_whole_185 : decode cX5_whole 185 = .ok (.lconst 1, 1) := by decide +kernel
theorem dX5_whole_186 : decode cX5_whole 186 = .ok (.land, 1) := by decide +kernel
theorem dX5_whole_187 : decode cX5_whole 187 = .ok (.lconst 1, 1) := by decide +kernel
theorem dX5_whole_188 : decode cX5_whole 188 = .ok (.lcmp, 1) := by decide +kernel
theorem dX5_whole_189 : decode cX5_whole 189 = .ok (.ifCond .ne 7, 3) := by decide +kernel
theorem dX5_whole_192 : decode cX5_whole 192 = .ok (.iconst 1, 1) := by decide +kernel
theorem dX5_whole_193 : decode cX5_whole 193 = .ok (.goto 4, 3) := by decide +kernel
theorem dX5_whole_196 : decode cX5_whole 196 = .ok (.iconst 0, 1) := by decide +kernel
theorem dX5_whole_197 : decode cX5_whole 197 = .ok (.istore 15, 2) := by decide +kernel
theorem dX5_whole_199 : decode cX5_whole 199 = .ok (.lload 9, 2) := by decide +kernel
theorem dX5_whole_201 : decode cX5_whole 201 = .ok (.iload 15, 2) := by decide +kernel
theorem dX5_whole_203 : decode cX5_whole 203 = .ok (.ifCond .eq 14, 3) := by decide +kernel
theorem dX5_whole_206 : decode cX5_whole 206 = .ok (.lload 11, 2) := by decide +kernel
theorem dX5_whole_208 : decode cX5_whole 208 = .ok (.lconst 0, 1) := by decide +kernel
theorem dX5_whole_209 : decode cX5_whole 209 = .ok (.lcmp, 1) := by decide +kernel
theorem dX5_whole_210 : decode cX5_whole 210 = .ok (.ifCond .eq 7, 3) := by decide +kernel
theorem dX5_whole_213 : decode cX5_whole 213 = .ok (.lconst 1, 1) := by decide +kernel
theorem dX5_whole_214 : decode cX5_whole 214 = .ok (.goto 4, 3) := by decide +kernel
theorem dX5_whole_217 : decode cX5_whole 217 = .ok (.lconst 0, 1) := by decide +kernel
theorem dX5_whole_218 : decode cX5_whole 218 = .ok (.ladd, 1) := by decide +kernel
theorem dX5_whole_219 : decode cX5_whole 219 = .ok (.lstore 9, 2) := by decide +kernel
theorem dX5_whole_221 : decode cX5_whole 221 = .ok (.lload_n 1, 1) := by decide +kernel
theorem dX5_whole_222 : decode cX5_whole 222 = .ok (.iload 4, 2) := by decide +kernel
theorem dX5_whole_224 : decode cX5_whole 224 = .ok (.invokestatic 109, 3) := by decide +kernel
theorem dX5_whole_227 : decode cX5_whole 227 = .ok (.lload 9, 2) := by decide +kernel
theorem dX5_whole_229 : decode cX5_whole 229 = .ok (.iconst 0, 1) := by decide +kernel
theorem dX5_whole_230 : decode cX5_whole 230 = .ok (.iconst 0, 1) := by decide +kernel
theorem dX5_whole_231 : decode cX5_whole 231 = .ok (.iload 4, 2) := by decide +kernel
theorem dX5_whole_233 : decode cX5_whole 233 = .ok (.invokestatic 98, 3) := by decide +kernel
theorem dX5_whole_236 : decode cX5_whole 236 = .ok (.lreturn, 1) := by decide +kernel
theorem dX5_toWhole_0 : decode cX5_toWhole 0 = .ok (.lload_n 1, 1) := by decide +kernel
theorem dX5_toWhole_1 : decode cX5_toWhole 1 = .ok (.iload 4, 2) := by decide +kernel
theorem dX5_toWhole_3 : decode cX5_toWhole 3 = .ok (.invokestatic 109, 3) := by decide +kernel
theorem dX5_toWhole_6 : decode cX5_toWhole 6 = .ok (.istore 5, 2) := by decide +kernel
theorem dX5_toWhole_8 : decode cX5_toWhole 8 = .ok (.iload 5, 2) := by decide +kernel
theorem dX5_toWhole_10 : decode cX5_toWhole 10 = .ok (.ifCond .eq 8, 3) := by decide +kernel
theorem dX5_toWhole_13 : decode cX5_toWhole 13 = .ok (.ldc 142, 2) := by decide +kernel
theorem dX5_toWhole_15 : decode cX5_toWhole 15 = .ok (.goto 5, 3) := by decide +kernel
theorem dX5_toWhole_18 : decode cX5_toWhole 18 = .ok (.ldc 143, 2) := by decide +kernel
theorem dX5_toWhole_20 : decode cX5_toWhole 20 = .ok (.istore 6, 2) := by decide +kernel
theorem dX5_toWhole_22 : decode cX5_toWhole 22 = .ok (.lload_n 1, 1) := by decide +kernel
theorem dX5_toWhole_23 : decode cX5_toWhole 23 = .ok (.iload 4, 2) := by decide +kernel
theorem dX5_toWhole_25 : decode cX5_toWhole 25 = .ok (.invokestatic 102, 3) := by decide +kernel
theorem dX5_toWhole_28 : decode cX5_toWhole 28 = .ok (.ifCond .ne 12, 3) := by decide +kernel
theorem dX5_toWhole_31 : decode cX5_toWhole 31 = .ok (.lload_n 1, 1) := by decide +kernel
theorem dX5_toWhole_32 : decode cX5_toWhole 32 = .ok (.iload 4, 2) := by decide +kernel
theorem dX5_toWhole_34 : decode cX5_toWhole 34 = .ok (.invokestatic 112, 3) := by decide +kernel
theorem dX5_toWhole_37 : decode cX5_toWhole 37 = .ok (.ifCond .eq 6, 3) := by decide +kernel
theorem dX5_toWhole_40 : decode cX5_toWhole 40 = .ok (.iload 6, 2) := by decide +kernel
theorem dX5_toWhole_42 : decode cX5_toWhole 42 = .ok (.ireturn, 1) := by decide +kernel
theorem dX5_toWhole_43 : decode cX5_toWhole 43 = .ok (.aload_n 0, 1) := by decide +kernel
theorem dX5_toWhole_44 : decode cX5_toWhole 44 = .ok (.lload_n 1, 1) := by decide +kernel
theorem dX5_toWhole_45 : decode cX5_toWhole 45 = .ok (.iload_n 3, 1) := by decide +kernel
theorem dX5_toWhole_46 : decode cX5_toWhole 46 = .ok (.iload 4, 2) := by decide +kernel
theorem dX5_toWhole_48 : decode cX5_toWhole 48 = .ok (.invokevirtual 144, 3) := by decide +kernel
theorem dX5_toWhole_51 : decode cX5_toWhole 51 = .ok (.lstore 7, 2) := by decide +kernel
theorem dX5_toWhole_53 : decode cX5_toWhole 53 = .ok (.lload 7, 2) := by decide +kernel
theorem dX5_toWhole_55 : decode cX5_toWhole 55 = .ok (.iload 4, 2) := by decide +kernel
theorem dX5_toWhole_57 : decode cX5_toWhole 57 = .ok (.invokestatic 118, 3) := by decide +kernel
theorem dX5_toWhole_60 : decode cX5_toWhole 60 = .ok (.lstore 9, 2) := by decide +kernel
theorem dX5_toWhole_62 : decode cX5_toWhole 62 = .ok (.lload 7, 2) := by decide +kernel
theorem dX5_toWhole_64 : decode cX5_toWhole 64 = .ok (.iload 4, 2) := by decide +kernel
theorem dX5_toWhole_66 : decode cX5_toWhole 66 = .ok (.invokestatic 121, 3) := by decide +kernel
theorem dX5_toWhole_69 : decode cX5_toWhole 69 = .ok (.istore 11, 2) := by decide +kernel
theorem dX5_toWhole_71 : decode cX5_toWhole 71 = .ok (.lload 9, 2) := by decide +kernel
theorem dX5_toWhole_73 : decode cX5_toWhole 73 = .ok (.lconst 0, 1) := by decide +kernel
theorem dX5_toWhole_74 : decode cX5_toWhole 74 = .ok (.lcmp, 1) := by decide +kernel
theorem dX5_toWhole_75 : decode cX5_toWhole 75 = .ok (.ifCond .ne 5, 3) := by decide +kernel
theorem dX5_toWhole_78 : decode cX5_toWhole 78 = .ok (.iconst 0, 1) := by decide +kernel
theorem dX5_toWhole_79 : decode cX5_toWhole 79 = .ok (.ireturn, 1) := by decide +kernel
theorem dX5_toWhole_80 : decode cX5_toWhole 80 = .ok (.lload 9, 2) := by decide +kernel
theorem dX5_toWhole_82 : decode cX5_toWhole 82 = .ok (.invokestatic 82, 3) := by decide +kernel
theorem dX5_toWhole_85 : decode cX5_toWhole 85 = .ok (.iload 11, 2) := by decide +kernel
theorem dX5_toWhole_87 : decode cX5_toWhole 87 = .ok (.iadd, 1) := by decide +kernel
theorem dX5_toWhole_88 : decode cX5_toWhole 88 = .ok (.bipush 32, 2) := by decide +kernel
theorem dX5_toWhole_90 : decode cX5_toWhole 90 = .ok (.if_icmp .le 6, 3) := by decide +kernel
theorem dX5_toWhole_93 : decode cX5_toWhole 93 = .ok (.iload 6, 2) := by decide +kernel
theorem dX5_toWhole_95 : decode cX5_toWhole 95 = .ok (.ireturn, 1) := by decide +kernel
theorem dX5_toWhole_96 : decode cX5_toWhole 96 = .ok (.iload 11, 2) := by decide +kernel
theorem dX5_toWhole_98 : decode cX5_toWhole 98 = .ok (.ifCond .lt 11, 3) := by decide +kernel
theorem dX5_toWhole_101 : decode cX5_toWhole 101 = .ok (.lload 9, 2) := by decide +kernel
theorem dX5_toWhole_103 : decode cX5_toWhole 103 = .ok (.iload 11, 2) := by decide +kernel
theorem dX5_toWhole_105 : decode cX5_toWhole 105 = .ok (.lshl, 1) := by decide +kernel
theorem dX5_toWhole_106 : decode cX5_toWhole 106 = .ok (.goto 9, 3) := by decide +kernel
theorem dX5_toWhole_109 : decode cX5_toWhole 109 = .ok (.lload 9, 2) := by decide +kernel
theorem dX5_toWhole_111 : decode cX5_toWhole 111 = .ok (.iload 11, 2) := by decide +kernel
theorem dX5_toWhole_113 : decode cX5_toWhole 113 = .ok (.ineg, 1) := by decide +kernel
theorem dX5_toWhole_114 : decode cX5_toWhole 114 = .ok (.lushr, 1) := by decide +kernel
theorem dX5_toWhole_115 : decode cX5_toWhole 115 = .ok (.lstore 12, 2) := by decide +kernel
theorem dX5_toWhole_117 : decode cX5_toWhole 117 = .ok (.lload 12, 2) := by decide +kernel
theorem dX5_toWhole_119 : decode cX5_toWhole 119 = .ok (.ldc2_w 148, 3) := by decide +kernel
theorem dX5_toWhole_122 : decode cX5_toWhole 122 = .ok (.lcmp, 1) := by decide +kernel
theorem dX5_toWhole_123 : decode cX5_toWhole 123 = .ok (.ifCond .le 6, 3) := by decide +kernel
theorem dX5_toWhole_126 : decode cX5_toWhole 126 = .ok (.iload 6, 2) := by decide +kernel
theorem dX5_toWhole_128 : decode cX5_toWhole 128 = .ok (.ireturn, 1) := by decide +kernel
theorem dX5_toWhole_129 : decode cX5_toWhole 129 = .ok (.iload 5, 2) := by decide +kernel
theorem dX5_toWhole_131 : decode cX5_toWhole 131 = .ok (.ifCond .eq 10, 3) := by decide +kernel
theorem dX5_toWhole_134 : decode cX5_toWhole 134 = .ok (.lload 12, 2) := by decide +kernel
theorem dX5_toWhole_136 : decode cX5_toWhole 136 = .ok (.lneg, 1) := by decide +kernel
theorem dX5_toWhole_137 : decode cX5_toWhole 137 = .ok (.l2i, 1) := by decide +kernel
theorem dX5_toWhole_138 : decode cX5_toWhole 138 = .ok (.goto 6, 3) := by decide +kernel
theorem dX5_toWhole_141 : decode cX5_toWhole 141 = .ok (.lload 12, 2) := by decide +kernel
theorem dX5_toWhole_143 : decode cX5_toWhole 143 = .ok (.l2i, 1) := by decide +kernel
theorem dX5_toWhole_144 : decode cX5_toWhole 144 = .ok (.ireturn, 1) := by decide +kernel
theorem dX5_order_0 : decode cX5_order 0 = .ok (.lload_n 1, 1) := by decide +kernel
theorem dX5_order_1 : decode cX5_order 1 = .ok (.iload 5, 2) := by decide +kernel
theorem dX5_order_3 : decode cX5_order 3 = .ok (.invokestatic 109, 3) := by decide +kernel
theorem dX5_order_6 : decode cX5_order 6 = .ok (.ifCond .eq 13, 3) := by decide +kernel
theorem dX5_order_9 : decode cX5_order 9 = .ok (.lload_n 1, 1) := by decide +kernel
theorem dX5_order_10 : decode cX5_order 10 = .ok (.iload 5, 2) := by decide +kernel
theorem dX5_order_12 : decode cX5_order 12 = .ok (.invokestatic 67, 3) := by decide +kernel
theorem dX5_order_15 : decode cX5_order 15 = .ok (.lneg, 1) := by decide +kernel
theorem dX5_order_16 : decode cX5_order 16 = .ok (.goto 9, 3) := by decide +kernel
theorem dX5_order_19 : decode cX5_order 19 = .ok (.lload_n 1, 1) := by decide +kernel
theorem dX5_order_20 : decode cX5_order 20 = .ok (.iload 5, 2) := by decide +kernel
theorem dX5_order_22 : decode cX5_order 22 = .ok (.invokestatic 67, 3) := by decide +kernel
theorem dX5_order_25 : decode cX5_order 25 = .ok (.lstore 6, 2) := by decide +kernel
theorem dX5_order_27 : decode cX5_order 27 = .ok (.lload_n 3, 1) := by decide +kernel
theorem dX5_order_28 : decode cX5_order 28 = .ok (.iload 5, 2) := by decide +kernel
theorem dX5_order_30 : decode cX5_order 30 = .ok (.invokestatic 109, 3) := by decide +kernel
theorem dX5_order_33 : decode cX5_order 33 = .ok (.ifCond .eq 13, 3) := by decide +kernel
theorem dX5_order_36 : decode cX5_order 36 = .ok (.lload_n 3, 1) := by decide +kernel
theorem dX5_order_37 : decode cX5_order 37 = .ok (.iload 5, 2) := by decide +kernel
theorem dX5_order_39 : decode cX5_order 39 = .ok (.invokestatic 67, 3) := by decide +kernel
theorem dX5_order_42 : decode cX5_order 42 = .ok (.lneg, 1) := by decide +kernel
theorem dX5_order_43 : decode cX5_order 43 = .ok (.goto 9, 3) := by decide +kernel
theorem dX5_order_46 : decode cX5_order 46 = .ok (.lload_n 3, 1) := by decide +kernel
theorem dX5_order_47 : decode cX5_order 47 = .ok (.iload 5, 2) := by decide +kernel
theorem dX5_order_49 : decode cX5_order 49 = .ok (.invokestatic 67, 3) := by decide +kernel
theorem dX5_order_52 : decode cX5_order 52 = .ok (.lstore 8, 2) := by decide +kernel
theorem dX5_order_54 : decode cX5_order 54 = .ok (.lload 6, 2) := by decide +kernel
theorem dX5_order_56 : decode cX5_order 56 = .ok (.lload 8, 2) := by decide +kernel
theorem dX5_order_58 : decode cX5_order 58 = .ok (.lcmp, 1) := by decide +kernel
theorem dX5_order_59 : decode cX5_order 59 = .ok (.ifCond .ge 7, 3) := by decide +kernel
theorem dX5_order_62 : decode cX5_order 62 = .ok (.iconst (-1), 1) := by decide +kernel
theorem dX5_order_63 : decode cX5_order 63 = .ok (.goto 16, 3) := by decide +kernel
theorem dX5_order_66 : decode cX5_order 66 = .ok (.lload 6, 2) := by decide +kernel
theorem dX5_order_68 : decode cX5_order 68 = .ok (.lload 8, 2) := by decide +kernel
theorem dX5_order_70 : decode cX5_order 70 = .ok (.lcmp, 1) := by decide +kernel
theorem dX5_order_71 : decode cX5_order 71 = .ok (.ifCond .ne 7, 3) := by decide +kernel
theorem dX5_order_74 : decode cX5_order 74 = .ok (.iconst 0, 1) := by decide +kernel
theorem dX5_order_75 : decode cX5_order 75 = .ok (.goto 4, 3) := by decide +kernel
theorem dX5_order_78 : decode cX5_order 78 = .ok (.iconst 1, 1) := by decide +kernel
theorem dX5_order_79 : decode cX5_order 79 = .ok (.ireturn, 1) := by decide +kernel
theorem dX5_lesser_0 : decode cX5_lesser 0 = .ok (.lload_n 1, 1) := by decide +kernel
theorem dX5_lesser_1 : decode cX5_lesser 1 = .ok (.iload 6, 2) := by decide +kernel
theorem dX5_lesser_3 : decode cX5_lesser 3 = .ok (.invokestatic 102, 3) := by decide +kernel
theorem dX5_lesser_6 : decode cX5_lesser 6 = .ok (.ifCond .ne 12, 3) := by decide +kernel
theorem dX5_lesser_9 : decode cX5_lesser 9 = .ok (.lload_n 3, 1) := by decide +kernel
theorem dX5_lesser_10 : decode cX5_lesser 10 = .ok (.iload 6, 2) := by decide +kernel
theorem dX5_lesser_12 : decode cX5_lesser 12 = .ok (.invokestatic 102, 3) := by decide +kernel
theorem dX5_lesser_15 : decode cX5_lesser 15 = .ok (.ifCond .eq 9, 3) := by decide +kernel
theorem dX5_lesser_18 : decode cX5_lesser 18 = .ok (.iload 6, 2) := by decide +kernel
theorem dX5_lesser_20 : decode cX5_lesser 20 = .ok (.invokestatic 106, 3) := by decide +kernel
theorem dX5_lesser_23 : decode cX5_lesser 23 = .ok (.lreturn, 1) := by decide +kernel
theorem dX5_lesser_24 : decode cX5_lesser 24 = .ok (.aload_n 0, 1) := by decide +kernel
theorem dX5_lesser_25 : decode cX5_lesser 25 = .ok (.lload_n 1, 1) := by decide +kernel
theorem dX5_lesser_26 : decode cX5_lesser 26 = .ok (.lload_n 3, 1) := by decide +kernel
theorem dX5_lesser_27 : decode cX5_lesser 27 = .ok (.iload 6, 2) := by decide +kernel
theorem dX5_lesser_29 : decode cX5_lesser 29 = .ok (.invokevirtual 150, 3) := by decide +kernel
theorem dX5_lesser_32 : decode cX5_lesser 32 = .ok (.istore 7, 2) := by decide +kernel
theorem dX5_lesser_34 : decode cX5_lesser 34 = .ok (.iload 7, 2) := by decide +kernel
theorem dX5_lesser_36 : decode cX5_lesser 36 = .ok (.ifCond .ne 12, 3) := by decide +kernel
theorem dX5_lesser_39 : decode cX5_lesser 39 = .ok (.lload_n 1, 1) := by decide +kernel
theorem dX5_lesser_40 : decode cX5_lesser 40 = .ok (.iload 6, 2) := by decide +kernel
theorem dX5_lesser_42 : decode cX5_lesser 42 = .ok (.invokestatic 109, 3) := by decide +kernel
theorem dX5_lesser_45 : decode cX5_lesser 45 = .ok (.goto 13, 3) := by decide +kernel
theorem dX5_lesser_48 : decode cX5_lesser 48 = .ok (.iload 7, 2) := by decide +kernel
theorem dX5_lesser_50 : decode cX5_lesser 50 = .ok (.ifCond .ge 7, 3) := by decide +kernel
theorem dX5_lesser_53 : decode cX5_lesser 53 = .ok (.iconst 1, 1) := by decide +kernel
theorem dX5_lesser_54 : decode cX5_lesser 54 = .ok (.goto 4, 3) := by decide +kernel
theorem dX5_lesser_57 : decode cX5_lesser 57 = .ok (.iconst 0, 1) := by decide +kernel
theorem dX5_lesser_58 : decode cX5_lesser 58 = .ok (.istore 8, 2) := by decide +kernel
theorem dX5_lesser_60 : decode cX5_lesser 60 = .ok (.iload 8, 2) := by decide +kernel
theorem dX5_lesser_62 : decode cX5_lesser 62 = .ok (.iload 5, 2) := by decide +kernel
theorem dX5_lesser_64 : decode cX5_lesser 64 = .ok (.if_icmp .eq 7, 3) := by decide +kernel
theorem dX5_lesser_67 : decode cX5_lesser 67 = .ok (.lload_n 1, 1) := by decide +kernel
theorem dX5_lesser_68 : decode cX5_lesser 68 = .ok (.goto 4, 3) := by decide +kernel
theorem dX5_lesser_71 : decode cX5_lesser 71 = .ok (.lload_n 3, 1) := by decide +kernel
theorem dX5_lesser_72 : decode cX5_lesser 72 = .ok (.lreturn, 1) := by decide +kernel
theorem dX5_power_0 : decode cX5_power 0 = .ok (.lload_n 3, 1) := by decide +kernel
theorem dX5_power_1 : decode cX5_power 1 = .ok (.ldc2_w 154, 3) := by decide +kernel
theorem dX5_power_4 : decode cX5_power 4 = .ok (.land, 1) := by decide +kernel
theorem dX5_power_5 : decode cX5_power 5 = .ok (.l2i, 1) := by decide +kernel
theorem dX5_power_6 : decode cX5_power 6 = .ok (.istore 6, 2) := by decide +kernel
theorem dX5_power_8 : decode cX5_power 8 = .ok (.iload 6, 2) := by decide +kernel
theorem dX5_power_10 : decode cX5_power 10 = .ok (.bipush 31, 2) := by decide +kernel
theorem dX5_power_12 : decode cX5_power 12 = .ok (.if_icmp .le 11, 3) := by decide +kernel
theorem dX5_power_15 : decode cX5_power 15 = .ok (.iload 6, 2) := by decide +kernel
theorem dX5_power_17 : decode cX5_power 17 = .ok (.bipush 64, 2) := by decide +kernel
theorem dX5_power_19 : decode cX5_power 19 = .ok (.isub, 1) := by decide +kernel
theorem dX5_power_20 : decode cX5_power 20 = .ok (.goto 5, 3) := by decide +kernel
theorem dX5_power_23 : decode cX5_power 23 = .ok (.iload 6, 2) := by decide +kernel
theorem dX5_power_25 : decode cX5_power 25 = .ok (.istore 6, 2) := by decide +kernel
theorem dX5_power_27 : decode cX5_power 27 = .ok (.iload 5, 2) := by decide +kernel
theorem dX5_power_29 : decode cX5_power 29 = .ok (.invokestatic 79, 3) := by decide +kernel
theorem dX5_power_32 : decode cX5_power 32 = .ok (.i2l, 1) := by decide +kernel
theorem dX5_power_33 : decode cX5_power 33 = .ok (.iload 5, 2) := by decide +kernel
theorem dX5_power_35 : decode cX5_power 35 = .ok (.invokestatic 58, 3) := by decide +kernel
theorem dX5_power_38 : decode cX5_power 38 = .ok (.lshl, 1) := by decide +kernel
theorem dX5_power_39 : decode cX5_power 39 = .ok (.lstore 7, 2) := by decide +kernel
theorem dX5_power_41 : decode cX5_power 41 = .ok (.lload 7, 2) := by decide +kernel
theorem dX5_power_43 : decode cX5_power 43 = .ok (.lstore 9, 2) := by decide +kernel
theorem dX5_power_45 : decode cX5_power 45 = .ok (.iload 6, 2) := by decide +kernel
theorem dX5_power_47 : decode cX5_power 47 = .ok (.ifCond .ge 9, 3) := by decide +kernel
theorem dX5_power_50 : decode cX5_power 50 = .ok (.iload 6, 2) := by decide +kernel
theorem dX5_power_52 : decode cX5_power 52 = .ok (.ineg, 1) := by decide +kernel
theorem dX5_power_53 : decode cX5_power 53 = .ok (.goto 5, 3) := by decide +kernel
theorem dX5_power_56 : decode cX5_power 56 = .ok (.iload 6, 2) := by decide +kernel
theorem dX5_power_58 : decode cX5_power 58 = .ok (.istore 11, 2) := by decide +kernel
theorem dX5_power_60 : decode cX5_power 60 = .ok (.iconst 0, 1) := by decide +kernel
theorem dX5_power_61 : decode cX5_power 61 = .ok (.istore 12, 2) := by decide +kernel
theorem dX5_power_63 : decode cX5_power 63 = .ok (.iload 12, 2) := by decide +kernel
theorem dX5_power_65 : decode cX5_power 65 = .ok (.iload 11, 2) := by decide +kernel
theorem dX5_power_67 : decode cX5_power 67 = .ok (.if_icmp .ge 20, 3) := by decide +kernel
theorem dX5_power_70 : decode cX5_power 70 = .ok (.aload_n 0, 1) := by decide +kernel
theorem dX5_power_71 : decode cX5_power 71 = .ok (.lload 9, 2) := by decide +kernel
theorem dX5_power_73 : decode cX5_power 73 = .ok (.lload_n 1, 1) := by decide +kernel
theorem dX5_power_74 : decode cX5_power 74 = .ok (.iload 5, 2) := by decide +kernel
theorem dX5_power_76 : decode cX5_power 76 = .ok (.invokevirtual 156, 3) := by decide +kernel
theorem dX5_power_79 : decode cX5_power 79 = .ok (.lstore 9, 2) := by decide +kernel
theorem dX5_power_81 : decode cX5_power 81 = .ok (.iinc 12 1, 3) := by decide +kernel
theorem dX5_power_84 : decode cX5_power 84 = .ok (.goto (-21), 3) := by decide +kernel
theorem dX5_power_87 : decode cX5_power 87 = .ok (.iload 6, 2) := by decide +kernel
theorem dX5_power_89 : decode cX5_power 89 = .ok (.ifCond .ge 16, 3) := by decide +kernel
theorem dX5_power_92 : decode cX5_power 92 = .ok (.aload_n 0, 1) := by decide +kernel
theorem dX5_power_93 : decode cX5_power 93 = .ok (.lload 7, 2) := by decide +kernel
theorem dX5_power_95 : decode cX5_power 95 = .ok (.lload 9, 2) := by decide +kernel
theorem dX5_power_97 : decode cX5_power 97 = .ok (.iload 5, 2) := by decide +kernel
theorem dX5_power_99 : decode cX5_power 99 = .ok (.invokevirtual 160, 3) := by decide +kernel
theorem dX5_power_102 : decode cX5_power 102 = .ok (.goto 23, 3) := by decide +kernel
theorem dX5_power_105 : decode cX5_power 105 = .ok (.lload 9, 2) := by decide +kernel
theorem dX5_power_107 : decode cX5_power 107 = .ok (.iload 5, 2) := by decide +kernel
theorem dX5_power_109 : decode cX5_power 109 = .ok (.invokestatic 102, 3) := by decide +kernel
theorem dX5_power_112 : decode cX5_power 112 = .ok (.ifCond .eq 11, 3) := by decide +kernel
theorem dX5_power_115 : decode cX5_power 115 = .ok (.iload 5, 2) := by decide +kernel
theorem dX5_power_117 : decode cX5_power 117 = .ok (.invokestatic 106, 3) := by decide +kernel
theorem dX5_power_120 : decode cX5_power 120 = .ok (.goto 5, 3) := by decide +kernel
theorem dX5_power_123 : decode cX5_power 123 = .ok (.lload 9, 2) := by decide +kernel
theorem dX5_power_125 : decode cX5_power 125 = .ok (.lreturn, 1) := by decide +kernel
theorem dX5_scaled_0 : decode cX5_scaled 0 = .ok (.lload_n 1, 1) := by decide +kernel
theorem dX5_scaled_1 : decode cX5_scaled 1 = .ok (.iload 5, 2) := by decide +kernel
theorem dX5_scaled_3 : decode cX5_scaled 3 = .ok (.invokestatic 102, 3) := by decide +kernel
theorem dX5_scaled_6 : decode cX5_scaled 6 = .ok (.ifCond .eq 9, 3) := by decide +kernel
theorem dX5_scaled_9 : decode cX5_scaled 9 = .ok (.iload 5, 2) := by decide +kernel
theorem dX5_scaled_11 : decode cX5_scaled 11 = .ok (.invokestatic 106, 3) := by decide +kernel
theorem dX5_scaled_14 : decode cX5_scaled 14 = .ok (.lreturn, 1) := by decide +kernel
theorem dX5_scaled_15 : decode cX5_scaled 15 = .ok (.lload_n 1, 1) := by decide +kernel
theorem dX5_scaled_16 : decode cX5_scaled 16 = .ok (.iload 5, 2) := by decide +kernel
theorem dX5_scaled_18 : decode cX5_scaled 18 = .ok (.invokestatic 112, 3) := by decide +kernel
theorem dX5_scaled_21 : decode cX5_scaled 21 = .ok (.ifCond .ne 12, 3) := by decide +kernel
theorem dX5_scaled_24 : decode cX5_scaled 24 = .ok (.lload_n 1, 1) := by decide +kernel
theorem dX5_scaled_25 : decode cX5_scaled 25 = .ok (.iload 5, 2) := by decide +kernel
theorem dX5_scaled_27 : decode cX5_scaled 27 = .ok (.invokestatic 127, 3) := by decide +kernel
theorem dX5_scaled_30 : decode cX5_scaled 30 = .ok (.ifCond .eq 5, 3) := by decide +kernel
theorem dX5_scaled_33 : decode cX5_scaled 33 = .ok (.lload_n 1, 1) := by decide +kernel
theorem dX5_scaled_34 : decode cX5_scaled 34 = .ok (.lreturn, 1) := by decide +kernel
theorem dX5_scaled_35 : decode cX5_scaled 35 = .ok (.lload_n 3, 1) := by decide +kernel
theorem dX5_scaled_36 : decode cX5_scaled 36 = .ok (.ldc2_w 163, 3) := by decide +kernel
theorem dX5_scaled_39 : decode cX5_scaled 39 = .ok (.lcmp, 1) := by decide +kernel
theorem dX5_scaled_40 : decode cX5_scaled 40 = .ok (.ifCond .le 9, 3) := by decide +kernel
theorem dX5_scaled_43 : decode cX5_scaled 43 = .ok (.ldc2_w 163, 3) := by decide +kernel
theorem dX5_scaled_46 : decode cX5_scaled 46 = .ok (.goto 18, 3) := by decide +kernel
theorem dX5_scaled_49 : decode cX5_scaled 49 = .ok (.lload_n 3, 1) := by decide +kernel
theorem dX5_scaled_50 : decode cX5_scaled 50 = .ok (.ldc2_w 165, 3) := by decide +kernel
theorem dX5_scaled_53 : decode cX5_scaled 53 = .ok (.lcmp, 1) := by decide +kernel
theorem dX5_scaled_54 : decode cX5_scaled 54 = .ok (.ifCond .ge 9, 3) := by decide +kernel
theorem dX5_scaled_57 : decode cX5_scaled 57 = .ok (.ldc2_w 165, 3) := by decide +kernel
theorem dX5_scaled_60 : decode cX5_scaled 60 = .ok (.goto 4, 3) := by decide +kernel
theorem dX5_scaled_63 : decode cX5_scaled 63 = .ok (.lload_n 3, 1) := by decide +kernel
theorem dX5_scaled_64 : decode cX5_scaled 64 = .ok (.lstore 6, 2) := by decide +kernel
theorem dX5_scaled_66 : decode cX5_scaled 66 = .ok (.lload_n 1, 1) := by decide +kernel
theorem dX5_scaled_67 : decode cX5_scaled 67 = .ok (.iload 5, 2) := by decide +kernel
theorem dX5_scaled_69 : decode cX5_scaled 69 = .ok (.invokestatic 109, 3) := by decide +kernel
theorem dX5_scaled_72 : decode cX5_scaled 72 = .ok (.lload_n 1, 1) := by decide +kernel
theorem dX5_scaled_73 : decode cX5_scaled 73 = .ok (.iload 5, 2) := by decide +kernel
theorem dX5_scaled_75 : decode cX5_scaled 75 = .ok (.invokestatic 118, 3) := by decide +kernel
theorem dX5_scaled_78 : decode cX5_scaled 78 = .ok (.lload_n 1, 1) := by decide +kernel
theorem dX5_scaled_79 : decode cX5_scaled 79 = .ok (.iload 5, 2) := by decide +kernel
theorem dX5_scaled_81 : decode cX5_scaled 81 = .ok (.invokestatic 121, 3) := by decide +kernel
theorem dX5_scaled_84 : decode cX5_scaled 84 = .ok (.lload 6, 2) := by decide +kernel
theorem dX5_scaled_86 : decode cX5_scaled 86 = .ok (.l2i, 1) := by decide +kernel
theorem dX5_scaled_87 : decode cX5_scaled 87 = .ok (.iadd, 1) := by decide +kernel
theorem dX5_scaled_88 : decode cX5_scaled 88 = .ok (.iconst 0, 1) := by decide +kernel
theorem dX5_scaled_89 : decode cX5_scaled 89 = .ok (.iload 5, 2) := by decide +kernel
theorem dX5_scaled_91 : decode cX5_scaled 91 = .ok (.invokestatic 98, 3) := by decide +kernel
theorem dX5_scaled_94 : decode cX5_scaled 94 = .ok (.lreturn, 1) := by decide +kernel
theorem dX5_nextUp_0 : decode cX5_nextUp 0 = .ok (.lload_n 1, 1) := by decide +kernel
theorem dX5_nextUp_1 : decode cX5_nextUp 1 = .ok (.iload_n 3, 1) := by decide +kernel
theorem dX5_nextUp_2 : decode cX5_nextUp 2 = .ok (.invokestatic 102, 3) := by decide +kernel
theorem dX5_nextUp_5 : decode cX5_nextUp 5 = .ok (.ifCond .eq 8, 3) := by decide +kernel
theorem dX5_nextUp_8 : decode cX5_nextUp 8 = .ok (.iload_n 3, 1) := by decide +kernel
theorem dX5_nextUp_9 : decode cX5_nextUp 9 = .ok (.invokestatic 106, 3) := by decide +kernel
theorem dX5_nextUp_12 : decode cX5_nextUp 12 = .ok (.lreturn, 1) := by decide +kernel
theorem dX5_nextUp_13 : decode cX5_nextUp 13 = .ok (.lload_n 1, 1) := by decide +kernel
theorem dX5_nextUp_14 : decode cX5_nextUp 14 = .ok (.iload_n 3, 1) := by decide +kernel
theorem dX5_nextUp_15 : decode cX5_nextUp 15 = .ok (.invokestatic 127, 3) := by decide +kernel
