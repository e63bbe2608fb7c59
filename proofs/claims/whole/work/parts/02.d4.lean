theorem dX5_nextUp_18 : decode cX5_nextUp 18 = .ok (.ifCond .eq 5, 3) := by decide +kernel
theorem dX5_nextUp_21 : decode cX5_nextUp 21 = .ok (.lconst 1, 1) := by decide +kernel
theorem dX5_nextUp_22 : decode cX5_nextUp 22 = .ok (.lreturn, 1) := by decide +kernel
theorem dX5_nextUp_23 : decode cX5_nextUp 23 = .ok (.lload_n 1, 1) := by decide +kernel
theorem dX5_nextUp_24 : decode cX5_nextUp 24 = .ok (.iload_n 3, 1) := by decide +kernel
theorem dX5_nextUp_25 : decode cX5_nextUp 25 = .ok (.invokestatic 109, 3) := by decide +kernel
theorem dX5_nextUp_28 : decode cX5_nextUp 28 = .ok (.istore 4, 2) := by decide +kernel
theorem dX5_nextUp_30 : decode cX5_nextUp 30 = .ok (.iload 4, 2) := by decide +kernel
theorem dX5_nextUp_32 : decode cX5_nextUp 32 = .ok (.ifCond .eq 9, 3) := by decide +kernel
theorem dX5_nextUp_35 : decode cX5_nextUp 35 = .ok (.lload_n 1, 1) := by decide +kernel
theorem dX5_nextUp_36 : decode cX5_nextUp 36 = .ok (.lconst 1, 1) := by decide +kernel
theorem dX5_nextUp_37 : decode cX5_nextUp 37 = .ok (.lsub, 1) := by decide +kernel
theorem dX5_nextUp_38 : decode cX5_nextUp 38 = .ok (.goto 18, 3) := by decide +kernel
theorem dX5_nextUp_41 : decode cX5_nextUp 41 = .ok (.lload_n 1, 1) := by decide +kernel
theorem dX5_nextUp_42 : decode cX5_nextUp 42 = .ok (.iload_n 3, 1) := by decide +kernel
theorem dX5_nextUp_43 : decode cX5_nextUp 43 = .ok (.invokestatic 112, 3) := by decide +kernel
theorem dX5_nextUp_46 : decode cX5_nextUp 46 = .ok (.ifCond .eq 7, 3) := by decide +kernel
theorem dX5_nextUp_49 : decode cX5_nextUp 49 = .ok (.lload_n 1, 1) := by decide +kernel
theorem dX5_nextUp_50 : decode cX5_nextUp 50 = .ok (.goto 6, 3) := by decide +kernel
theorem dX5_nextUp_53 : decode cX5_nextUp 53 = .ok (.lload_n 1, 1) := by decide +kernel
theorem dX5_nextUp_54 : decode cX5_nextUp 54 = .ok (.lconst 1, 1) := by decide +kernel
theorem dX5_nextUp_55 : decode cX5_nextUp 55 = .ok (.ladd, 1) := by decide +kernel
theorem dX5_nextUp_56 : decode cX5_nextUp 56 = .ok (.lreturn, 1) := by decide +kernel
theorem dX5_stepOf_0 : decode cX5_stepOf 0 = .ok (.lload_n 1, 1) := by decide +kernel
theorem dX5_stepOf_1 : decode cX5_stepOf 1 = .ok (.iload_n 3, 1) := by decide +kernel
theorem dX5_stepOf_2 : decode cX5_stepOf 2 = .ok (.invokestatic 102, 3) := by decide +kernel
theorem dX5_stepOf_5 : decode cX5_stepOf 5 = .ok (.ifCond .eq 8, 3) := by decide +kernel
theorem dX5_stepOf_8 : decode cX5_stepOf 8 = .ok (.iload_n 3, 1) := by decide +kernel
theorem dX5_stepOf_9 : decode cX5_stepOf 9 = .ok (.invokestatic 106, 3) := by decide +kernel
theorem dX5_stepOf_12 : decode cX5_stepOf 12 = .ok (.lreturn, 1) := by decide +kernel
theorem dX5_stepOf_13 : decode cX5_stepOf 13 = .ok (.lload_n 1, 1) := by decide +kernel
theorem dX5_stepOf_14 : decode cX5_stepOf 14 = .ok (.iload_n 3, 1) := by decide +kernel
theorem dX5_stepOf_15 : decode cX5_stepOf 15 = .ok (.invokestatic 112, 3) := by decide +kernel
theorem dX5_stepOf_18 : decode cX5_stepOf 18 = .ok (.ifCond .eq 9, 3) := by decide +kernel
theorem dX5_stepOf_21 : decode cX5_stepOf 21 = .ok (.iconst 0, 1) := by decide +kernel
theorem dX5_stepOf_22 : decode cX5_stepOf 22 = .ok (.iload_n 3, 1) := by decide +kernel
theorem dX5_stepOf_23 : decode cX5_stepOf 23 = .ok (.invokestatic 71, 3) := by decide +kernel
theorem dX5_stepOf_26 : decode cX5_stepOf 26 = .ok (.lreturn, 1) := by decide +kernel
theorem dX5_stepOf_27 : decode cX5_stepOf 27 = .ok (.iconst 0, 1) := by decide +kernel
theorem dX5_stepOf_28 : decode cX5_stepOf 28 = .ok (.lconst 1, 1) := by decide +kernel
theorem dX5_stepOf_29 : decode cX5_stepOf 29 = .ok (.lload_n 1, 1) := by decide +kernel
theorem dX5_stepOf_30 : decode cX5_stepOf 30 = .ok (.iload_n 3, 1) := by decide +kernel
theorem dX5_stepOf_31 : decode cX5_stepOf 31 = .ok (.invokestatic 121, 3) := by decide +kernel
theorem dX5_stepOf_34 : decode cX5_stepOf 34 = .ok (.iconst 0, 1) := by decide +kernel
theorem dX5_stepOf_35 : decode cX5_stepOf 35 = .ok (.iload_n 3, 1) := by decide +kernel
theorem dX5_stepOf_36 : decode cX5_stepOf 36 = .ok (.invokestatic 98, 3) := by decide +kernel
theorem dX5_stepOf_39 : decode cX5_stepOf 39 = .ok (.lreturn, 1) := by decide +kernel
theorem dX5_exponent_0 : decode cX5_exponent 0 = .ok (.lload_n 1, 1) := by decide +kernel
theorem dX5_exponent_1 : decode cX5_exponent 1 = .ok (.iload_n 3, 1) := by decide +kernel
theorem dX5_exponent_2 : decode cX5_exponent 2 = .ok (.invokestatic 75, 3) := by decide +kernel
theorem dX5_exponent_5 : decode cX5_exponent 5 = .ok (.iload_n 3, 1) := by decide +kernel
theorem dX5_exponent_6 : decode cX5_exponent 6 = .ok (.invokestatic 79, 3) := by decide +kernel
theorem dX5_exponent_9 : decode cX5_exponent 9 = .ok (.isub, 1) := by decide +kernel
theorem dX5_exponent_10 : decode cX5_exponent 10 = .ok (.i2l, 1) := by decide +kernel
theorem dX5_exponent_11 : decode cX5_exponent 11 = .ok (.lreturn, 1) := by decide +kernel
theorem dX5_acted_0 : decode cX5_acted 0 = .ok (.iload_n 1, 1) := by decide +kernel
theorem dX5_acted_1 : decode cX5_acted 1 = .ok (.tableswitch 325 0 21 #[103, 113, 147, 157, 167, 177, 187, 195, 195, 195, 207, 207, 228, 235, 243, 253, 263, 271, 287, 295, 303, 316], 103) := by decide +kernel
theorem dX5_acted_104 : decode cX5_acted 104 = .ok (.aload_n 0, 1) := by decide +kernel
theorem dX5_acted_105 : decode cX5_acted 105 = .ok (.lload_n 2, 1) := by decide +kernel
theorem dX5_acted_106 : decode cX5_acted 106 = .ok (.lload 4, 2) := by decide +kernel
theorem dX5_acted_108 : decode cX5_acted 108 = .ok (.iload 8, 2) := by decide +kernel
theorem dX5_acted_110 : decode cX5_acted 110 = .ok (.invokevirtual 167, 3) := by decide +kernel
theorem dX5_acted_113 : decode cX5_acted 113 = .ok (.lreturn, 1) := by decide +kernel
theorem dX5_acted_114 : decode cX5_acted 114 = .ok (.lload 4, 2) := by decide +kernel
theorem dX5_acted_116 : decode cX5_acted 116 = .ok (.iload 8, 2) := by decide +kernel
theorem dX5_acted_118 : decode cX5_acted 118 = .ok (.invokestatic 102, 3) := by decide +kernel
theorem dX5_acted_121 : decode cX5_acted 121 = .ok (.ifCond .eq 11, 3) := by decide +kernel
theorem dX5_acted_124 : decode cX5_acted 124 = .ok (.iload 8, 2) := by decide +kernel
theorem dX5_acted_126 : decode cX5_acted 126 = .ok (.invokestatic 106, 3) := by decide +kernel
theorem dX5_acted_129 : decode cX5_acted 129 = .ok (.goto 18, 3) := by decide +kernel
theorem dX5_acted_132 : decode cX5_acted 132 = .ok (.aload_n 0, 1) := by decide +kernel
theorem dX5_acted_133 : decode cX5_acted 133 = .ok (.lload_n 2, 1) := by decide +kernel
theorem dX5_acted_134 : decode cX5_acted 134 = .ok (.aload_n 0, 1) := by decide +kernel
theorem dX5_acted_135 : decode cX5_acted 135 = .ok (.lload 4, 2) := by decide +kernel
theorem dX5_acted_137 : decode cX5_acted 137 = .ok (.iload 8, 2) := by decide +kernel
theorem dX5_acted_139 : decode cX5_acted 139 = .ok (.invokevirtual 170, 3) := by decide +kernel
theorem dX5_acted_142 : decode cX5_acted 142 = .ok (.iload 8, 2) := by decide +kernel
theorem dX5_acted_144 : decode cX5_acted 144 = .ok (.invokevirtual 167, 3) := by decide +kernel
theorem dX5_acted_147 : decode cX5_acted 147 = .ok (.lreturn, 1) := by decide +kernel
theorem dX5_acted_148 : decode cX5_acted 148 = .ok (.aload_n 0, 1) := by decide +kernel
theorem dX5_acted_149 : decode cX5_acted 149 = .ok (.lload_n 2, 1) := by decide +kernel
theorem dX5_acted_150 : decode cX5_acted 150 = .ok (.lload 4, 2) := by decide +kernel
theorem dX5_acted_152 : decode cX5_acted 152 = .ok (.iload 8, 2) := by decide +kernel
theorem dX5_acted_154 : decode cX5_acted 154 = .ok (.invokevirtual 156, 3) := by decide +kernel
theorem dX5_acted_157 : decode cX5_acted 157 = .ok (.lreturn, 1) := by decide +kernel
theorem dX5_acted_158 : decode cX5_acted 158 = .ok (.aload_n 0, 1) := by decide +kernel
theorem dX5_acted_159 : decode cX5_acted 159 = .ok (.lload_n 2, 1) := by decide +kernel
theorem dX5_acted_160 : decode cX5_acted 160 = .ok (.lload 4, 2) := by decide +kernel
theorem dX5_acted_162 : decode cX5_acted 162 = .ok (.iload 8, 2) := by decide +kernel
theorem dX5_acted_164 : decode cX5_acted 164 = .ok (.invokevirtual 160, 3) := by decide +kernel
theorem dX5_acted_167 : decode cX5_acted 167 = .ok (.lreturn, 1) := by decide +kernel
theorem dX5_acted_168 : decode cX5_acted 168 = .ok (.aload_n 0, 1) := by decide +kernel
theorem dX5_acted_169 : decode cX5_acted 169 = .ok (.lload_n 2, 1) := by decide +kernel
theorem dX5_acted_170 : decode cX5_acted 170 = .ok (.lload 4, 2) := by decide +kernel
theorem dX5_acted_172 : decode cX5_acted 172 = .ok (.iload 8, 2) := by decide +kernel
theorem dX5_acted_174 : decode cX5_acted 174 = .ok (.invokevirtual 173, 3) := by decide +kernel
theorem dX5_acted_177 : decode cX5_acted 177 = .ok (.lreturn, 1) := by decide +kernel
theorem dX5_acted_178 : decode cX5_acted 178 = .ok (.aload_n 0, 1) := by decide +kernel
theorem dX5_acted_179 : decode cX5_acted 179 = .ok (.lload_n 2, 1) := by decide +kernel
theorem dX5_acted_180 : decode cX5_acted 180 = .ok (.lload 4, 2) := by decide +kernel
theorem dX5_acted_182 : decode cX5_acted 182 = .ok (.iload 8, 2) := by decide +kernel
theorem dX5_acted_184 : decode cX5_acted 184 = .ok (.invokevirtual 176, 3) := by decide +kernel
theorem dX5_acted_187 : decode cX5_acted 187 = .ok (.lreturn, 1) := by decide +kernel
theorem dX5_acted_188 : decode cX5_acted 188 = .ok (.aload_n 0, 1) := by decide +kernel
theorem dX5_acted_189 : decode cX5_acted 189 = .ok (.lload_n 2, 1) := by decide +kernel
theorem dX5_acted_190 : decode cX5_acted 190 = .ok (.iload 8, 2) := by decide +kernel
theorem dX5_acted_192 : decode cX5_acted 192 = .ok (.invokevirtual 179, 3) := by decide +kernel
theorem dX5_acted_195 : decode cX5_acted 195 = .ok (.lreturn, 1) := by decide +kernel
theorem dX5_acted_196 : decode cX5_acted 196 = .ok (.aload_n 0, 1) := by decide +kernel
theorem dX5_acted_197 : decode cX5_acted 197 = .ok (.lload_n 2, 1) := by decide +kernel
theorem dX5_acted_198 : decode cX5_acted 198 = .ok (.iload_n 1, 1) := by decide +kernel
theorem dX5_acted_199 : decode cX5_acted 199 = .ok (.bipush 7, 2) := by decide +kernel
theorem dX5_acted_201 : decode cX5_acted 201 = .ok (.isub, 1) := by decide +kernel
theorem dX5_acted_202 : decode cX5_acted 202 = .ok (.iload 8, 2) := by decide +kernel
theorem dX5_acted_204 : decode cX5_acted 204 = .ok (.invokevirtual 144, 3) := by decide +kernel
theorem dX5_acted_207 : decode cX5_acted 207 = .ok (.lreturn, 1) := by decide +kernel
theorem dX5_acted_208 : decode cX5_acted 208 = .ok (.aload_n 0, 1) := by decide +kernel
theorem dX5_acted_209 : decode cX5_acted 209 = .ok (.lload_n 2, 1) := by decide +kernel
theorem dX5_acted_210 : decode cX5_acted 210 = .ok (.lload 4, 2) := by decide +kernel
theorem dX5_acted_212 : decode cX5_acted 212 = .ok (.iload_n 1, 1) := by decide +kernel
theorem dX5_acted_213 : decode cX5_acted 213 = .ok (.bipush 11, 2) := by decide +kernel
theorem dX5_acted_215 : decode cX5_acted 215 = .ok (.if_icmp .ne 7, 3) := by decide +kernel
theorem dX5_acted_218 : decode cX5_acted 218 = .ok (.iconst 1, 1) := by decide +kernel
theorem dX5_acted_219 : decode cX5_acted 219 = .ok (.goto 4, 3) := by decide +kernel
theorem dX5_acted_222 : decode cX5_acted 222 = .ok (.iconst 0, 1) := by decide +kernel
theorem dX5_acted_223 : decode cX5_acted 223 = .ok (.iload 8, 2) := by decide +kernel
theorem dX5_acted_225 : decode cX5_acted 225 = .ok (.invokevirtual 182, 3) := by decide +kernel
theorem dX5_acted_228 : decode cX5_acted 228 = .ok (.lreturn, 1) := by decide +kernel
theorem dX5_acted_229 : decode cX5_acted 229 = .ok (.lload_n 2, 1) := by decide +kernel
theorem dX5_acted_230 : decode cX5_acted 230 = .ok (.iload 8, 2) := by decide +kernel
theorem dX5_acted_232 : decode cX5_acted 232 = .ok (.invokestatic 67, 3) := by decide +kernel
theorem dX5_acted_235 : decode cX5_acted 235 = .ok (.lreturn, 1) := by decide +kernel
theorem dX5_acted_236 : decode cX5_acted 236 = .ok (.aload_n 0, 1) := by decide +kernel
theorem dX5_acted_237 : decode cX5_acted 237 = .ok (.lload_n 2, 1) := by decide +kernel
theorem dX5_acted_238 : decode cX5_acted 238 = .ok (.iload 8, 2) := by decide +kernel
theorem dX5_acted_240 : decode cX5_acted 240 = .ok (.invokevirtual 170, 3) := by decide +kernel
theorem dX5_acted_243 : decode cX5_acted 243 = .ok (.lreturn, 1) := by decide +kernel
theorem dX5_acted_244 : decode cX5_acted 244 = .ok (.aload_n 0, 1) := by decide +kernel
theorem dX5_acted_245 : decode cX5_acted 245 = .ok (.lload_n 2, 1) := by decide +kernel
theorem dX5_acted_246 : decode cX5_acted 246 = .ok (.lload 4, 2) := by decide +kernel
theorem dX5_acted_248 : decode cX5_acted 248 = .ok (.iload 8, 2) := by decide +kernel
theorem dX5_acted_250 : decode cX5_acted 250 = .ok (.invokevirtual 186, 3) := by decide +kernel
theorem dX5_acted_253 : decode cX5_acted 253 = .ok (.lreturn, 1) := by decide +kernel
theorem dX5_acted_254 : decode cX5_acted 254 = .ok (.aload_n 0, 1) := by decide +kernel
theorem dX5_acted_255 : decode cX5_acted 255 = .ok (.lload_n 2, 1) := by decide +kernel
theorem dX5_acted_256 : decode cX5_acted 256 = .ok (.lload 4, 2) := by decide +kernel
theorem dX5_acted_258 : decode cX5_acted 258 = .ok (.iload 8, 2) := by decide +kernel
theorem dX5_acted_260 : decode cX5_acted 260 = .ok (.invokevirtual 189, 3) := by decide +kernel
theorem dX5_acted_263 : decode cX5_acted 263 = .ok (.lreturn, 1) := by decide +kernel
theorem dX5_acted_264 : decode cX5_acted 264 = .ok (.aload_n 0, 1) := by decide +kernel
theorem dX5_acted_265 : decode cX5_acted 265 = .ok (.lload_n 2, 1) := by decide +kernel
theorem dX5_acted_266 : decode cX5_acted 266 = .ok (.iload 8, 2) := by decide +kernel
theorem dX5_acted_268 : decode cX5_acted 268 = .ok (.invokevirtual 192, 3) := by decide +kernel
theorem dX5_acted_271 : decode cX5_acted 271 = .ok (.lreturn, 1) := by decide +kernel
theorem dX5_acted_272 : decode cX5_acted 272 = .ok (.lload_n 2, 1) := by decide +kernel
theorem dX5_acted_273 : decode cX5_acted 273 = .ok (.iload 8, 2) := by decide +kernel
theorem dX5_acted_275 : decode cX5_acted 275 = .ok (.invokestatic 67, 3) := by decide +kernel
theorem dX5_acted_278 : decode cX5_acted 278 = .ok (.lload 4, 2) := by decide +kernel
theorem dX5_acted_280 : decode cX5_acted 280 = .ok (.iload 8, 2) := by decide +kernel
theorem dX5_acted_282 : decode cX5_acted 282 = .ok (.invokestatic 61, 3) := by decide +kernel
theorem dX5_acted_285 : decode cX5_acted 285 = .ok (.land, 1) := by decide +kernel
theorem dX5_acted_286 : decode cX5_acted 286 = .ok (.lor, 1) := by decide +kernel
theorem dX5_acted_287 : decode cX5_acted 287 = .ok (.lreturn, 1) := by decide +kernel
theorem dX5_acted_288 : decode cX5_acted 288 = .ok (.aload_n 0, 1) := by decide +kernel
theorem dX5_acted_289 : decode cX5_acted 289 = .ok (.lload_n 2, 1) := by decide +kernel
theorem dX5_acted_290 : decode cX5_acted 290 = .ok (.iload 8, 2) := by decide +kernel
theorem dX5_acted_292 : decode cX5_acted 292 = .ok (.invokevirtual 195, 3) := by decide +kernel
theorem dX5_acted_295 : decode cX5_acted 295 = .ok (.lreturn, 1) := by decide +kernel
theorem dX5_acted_296 : decode cX5_acted 296 = .ok (.aload_n 0, 1) := by decide +kernel
theorem dX5_acted_297 : decode cX5_acted 297 = .ok (.lload_n 2, 1) := by decide +kernel
theorem dX5_acted_298 : decode cX5_acted 298 = .ok (.iload 8, 2) := by decide +kernel
theorem dX5_acted_300 : decode cX5_acted 300 = .ok (.invokevirtual 198, 3) := by decide +kernel
theorem dX5_acted_303 : decode cX5_acted 303 = .ok (.lreturn, 1) := by decide +kernel
theorem dX5_acted_304 : decode cX5_acted 304 = .ok (.aload_n 0, 1) := by decide +kernel
theorem dX5_acted_305 : decode cX5_acted 305 = .ok (.lload_n 2, 1) := by decide +kernel
theorem dX5_acted_306 : decode cX5_acted 306 = .ok (.lload 4, 2) := by decide +kernel
theorem dX5_acted_308 : decode cX5_acted 308 = .ok (.lload 6, 2) := by decide +kernel
theorem dX5_acted_310 : decode cX5_acted 310 = .ok (.iconst 1, 1) := by decide +kernel
theorem dX5_acted_311 : decode cX5_acted 311 = .ok (.iload 8, 2) := by decide +kernel
theorem dX5_acted_313 : decode cX5_acted 313 = .ok (.invokevirtual 134, 3) := by decide +kernel
theorem dX5_acted_316 : decode cX5_acted 316 = .ok (.lreturn, 1) := by decide +kernel
theorem dX5_acted_317 : decode cX5_acted 317 = .ok (.aload_n 0, 1) := by decide +kernel
theorem dX5_acted_318 : decode cX5_acted 318 = .ok (.lload_n 2, 1) := by decide +kernel
theorem dX5_acted_319 : decode cX5_acted 319 = .ok (.l2i, 1) := by decide +kernel
theorem dX5_acted_320 : decode cX5_acted 320 = .ok (.iload 8, 2) := by decide +kernel
theorem dX5_acted_322 : decode cX5_acted 322 = .ok (.invokevirtual 201, 3) := by decide +kernel
theorem dX5_acted_325 : decode cX5_acted 325 = .ok (.lreturn, 1) := by decide +kernel
theorem dX5_acted_326 : decode cX5_acted 326 = .ok (.aload_n 0, 1) := by decide +kernel
theorem dX5_acted_327 : decode cX5_acted 327 = .ok (.lload_n 2, 1) := by decide +kernel
theorem dX5_acted_328 : decode cX5_acted 328 = .ok (.iload_n 1, 1) := by decide +kernel
theorem dX5_acted_329 : decode cX5_acted 329 = .ok (.bipush 22, 2) := by decide +kernel
theorem dX5_acted_331 : decode cX5_acted 331 = .ok (.if_icmp .ne 7, 3) := by decide +kernel
theorem dX5_acted_334 : decode cX5_acted 334 = .ok (.iconst 3, 1) := by decide +kernel
theorem dX5_acted_335 : decode cX5_acted 335 = .ok (.goto 4, 3) := by decide +kernel
theorem dX5_acted_338 : decode cX5_acted 338 = .ok (.iconst 2, 1) := by decide +kernel
theorem dX5_acted_339 : decode cX5_acted 339 = .ok (.iload 8, 2) := by decide +kernel
theorem dX5_acted_341 : decode cX5_acted 341 = .ok (.invokevirtual 205, 3) := by decide +kernel
theorem dX5_acted_344 : decode cX5_acted 344 = .ok (.i2l, 1) := by decide +kernel
theorem dX5_acted_345 : decode cX5_acted 345 = .ok (.lreturn, 1) := by decide +kernel
theorem dX5_restOrNan_0 : decode cX5_restOrNan 0 = .ok (.aload_n 0, 1) := by decide +kernel
theorem dX5_restOrNan_1 : decode cX5_restOrNan 1 = .ok (.lload_n 1, 1) := by decide +kernel
theorem dX5_restOrNan_2 : decode cX5_restOrNan 2 = .ok (.lload_n 3, 1) := by decide +kernel
theorem dX5_restOrNan_3 : decode cX5_restOrNan 3 = .ok (.iload 5, 2) := by decide +kernel
theorem dX5_restOrNan_5 : decode cX5_restOrNan 5 = .ok (.invokevirtual 209, 3) := by decide +kernel
theorem dX5_restOrNan_8 : decode cX5_restOrNan 8 = .ok (.lreturn, 1) := by decide +kernel
theorem dX5_quotient_0 : decode cX5_quotient 0 = .ok (.aload_n 0, 1) := by decide +kernel
theorem dX5_quotient_1 : decode cX5_quotient 1 = .ok (.lload_n 1, 1) := by decide +kernel
theorem dX5_quotient_2 : decode cX5_quotient 2 = .ok (.lload_n 3, 1) := by decide +kernel
theorem dX5_quotient_3 : decode cX5_quotient 3 = .ok (.iload 5, 2) := by decide +kernel
theorem dX5_quotient_5 : decode cX5_quotient 5 = .ok (.invokevirtual 209, 3) := by decide +kernel
theorem dX5_quotient_8 : decode cX5_quotient 8 = .ok (.lstore 6, 2) := by decide +kernel
theorem dX5_quotient_10 : decode cX5_quotient 10 = .ok (.lload 6, 2) := by decide +kernel
theorem dX5_quotient_12 : decode cX5_quotient 12 = .ok (.iload 5, 2) := by decide +kernel
theorem dX5_quotient_14 : decode cX5_quotient 14 = .ok (.invokestatic 102, 3) := by decide +kernel
theorem dX5_quotient_17 : decode cX5_quotient 17 = .ok (.ifCond .eq 9, 3) := by decide +kernel
theorem dX5_quotient_20 : decode cX5_quotient 20 = .ok (.iload 5, 2) := by decide +kernel
theorem dX5_quotient_22 : decode cX5_quotient 22 = .ok (.invokestatic 106, 3) := by decide +kernel
theorem dX5_quotient_25 : decode cX5_quotient 25 = .ok (.lreturn, 1) := by decide +kernel
theorem dX5_quotient_26 : decode cX5_quotient 26 = .ok (.aload_n 0, 1) := by decide +kernel
theorem dX5_quotient_27 : decode cX5_quotient 27 = .ok (.aload_n 0, 1) := by decide +kernel
theorem dX5_quotient_28 : decode cX5_quotient 28 = .ok (.lload_n 1, 1) := by decide +kernel
theorem dX5_quotient_29 : decode cX5_quotient 29 = .ok (.aload_n 0, 1) := by decide +kernel
theorem dX5_quotient_30 : decode cX5_quotient 30 = .ok (.lload 6, 2) := by decide +kernel
theorem dX5_quotient_32 : decode cX5_quotient 32 = .ok (.iload 5, 2) := by decide +kernel
theorem dX5_quotient_34 : decode cX5_quotient 34 = .ok (.invokevirtual 170, 3) := by decide +kernel
theorem dX5_quotient_37 : decode cX5_quotient 37 = .ok (.iload 5, 2) := by decide +kernel
theorem dX5_quotient_39 : decode cX5_quotient 39 = .ok (.invokevirtual 167, 3) := by decide +kernel
theorem dX5_quotient_42 : decode cX5_quotient 42 = .ok (.lload_n 3, 1) := by decide +kernel
theorem dX5_quotient_43 : decode cX5_quotient 43 = .ok (.iload 5, 2) := by decide +kernel
theorem dX5_quotient_45 : decode cX5_quotient 45 = .ok (.invokevirtual 160, 3) := by decide +kernel
theorem dX5_quotient_48 : decode cX5_quotient 48 = .ok (.lreturn, 1) := by decide +kernel
theorem dX5_ofWhole_0 : decode cX5_ofWhole 0 = .ok (.iload_n 1, 1) := by decide +kernel
theorem dX5_ofWhole_1 : decode cX5_ofWhole 1 = .ok (.ifCond .ge 7, 3) := by decide +kernel
theorem dX5_ofWhole_4 : decode cX5_ofWhole 4 = .ok (.iconst 1, 1) := by decide +kernel
theorem dX5_ofWhole_5 : decode cX5_ofWhole 5 = .ok (.goto 4, 3) := by decide +kernel
theorem dX5_ofWhole_8 : decode cX5_ofWhole 8 = .ok (.iconst 0, 1) := by decide +kernel
theorem dX5_ofWhole_9 : decode cX5_ofWhole 9 = .ok (.iload_n 1, 1) := by decide +kernel
theorem dX5_ofWhole_10 : decode cX5_ofWhole 10 = .ok (.ifCond .ge 9, 3) := by decide +kernel
theorem dX5_ofWhole_13 : decode cX5_ofWhole 13 = .ok (.iload_n 1, 1) := by decide +kernel
theorem dX5_ofWhole_14 : decode cX5_ofWhole 14 = .ok (.i2l, 1) := by decide +kernel
theorem dX5_ofWhole_15 : decode cX5_ofWhole 15 = .ok (.lneg, 1) := by decide +kernel
theorem dX5_ofWhole_16 : decode cX5_ofWhole 16 = .ok (.goto 5, 3) := by decide +kernel
theorem dX5_ofWhole_19 : decode cX5_ofWhole 19 = .ok (.iload_n 1, 1) := by decide +kernel
theorem dX5_ofWhole_20 : decode cX5_ofWhole 20 = .ok (.i2l, 1) := by decide +kernel
theorem dX5_ofWhole_21 : decode cX5_ofWhole 21 = .ok (.iconst 0, 1) := by decide +kernel
theorem dX5_ofWhole_22 : decode cX5_ofWhole 22 = .ok (.iconst 0, 1) := by decide +kernel
theorem dX5_ofWhole_23 : decode cX5_ofWhole 23 = .ok (.iload_n 2, 1) := by decide +kernel
theorem dX5_ofWhole_24 : decode cX5_ofWhole 24 = .ok (.invokestatic 98, 3) := by decide +kernel
theorem dX5_ofWhole_27 : decode cX5_ofWhole 27 = .ok (.lreturn, 1) := by decide +kernel
theorem dX5_thrown0_0 : decode cX5_thrown0 0 = .ok (.aload_n 0, 1) := by decide +kernel
theorem dX5_thrown0_1 : decode cX5_thrown0 1 = .ok (.iload_n 1, 1) := by decide +kernel
theorem dX5_thrown0_2 : decode cX5_thrown0 2 = .ok (.ifCond .eq 7, 3) := by decide +kernel
theorem dX5_thrown0_5 : decode cX5_thrown0 5 = .ok (.iconst 1, 1) := by decide +kernel
theorem dX5_thrown0_6 : decode cX5_thrown0 6 = .ok (.goto 4, 3) := by decide +kernel
theorem dX5_thrown0_9 : decode cX5_thrown0 9 = .ok (.iconst 0, 1) := by decide +kernel
theorem dX5_thrown0_10 : decode cX5_thrown0 10 = .ok (.putfield 212, 3) := by decide +kernel
theorem dX5_thrown0_13 : decode cX5_thrown0 13 = .ok (.aload_n 0, 1) := by decide +kernel
theorem dX5_thrown0_14 : decode cX5_thrown0 14 = .ok (.getfield 212, 3) := by decide +kernel
theorem dX5_thrown0_17 : decode cX5_thrown0 17 = .ok (.ireturn, 1) := by decide +kernel
theorem dX5_thrown_0 : decode cX5_thrown 0 = .ok (.aload_n 0, 1) := by decide +kernel
theorem dX5_thrown_1 : decode cX5_thrown 1 = .ok (.getfield 212, 3) := by decide +kernel
theorem dX5_thrown_4 : decode cX5_thrown 4 = .ok (.ireturn, 1) := by decide +kernel
theorem dX5_bits_0 : decode cX5_bits 0 = .ok (.iload_n 0, 1) := by decide +kernel
theorem dX5_bits_1 : decode cX5_bits 1 = .ok (.i2l, 1) := by decide +kernel
theorem dX5_bits_2 : decode cX5_bits 2 = .ok (.ldc2_w 215, 3) := by decide +kernel
theorem dX5_bits_5 : decode cX5_bits 5 = .ok (.land, 1) := by decide +kernel
theorem dX5_bits_6 : decode cX5_bits 6 = .ok (.lreturn, 1) := by decide +kernel
theorem dX5_single_0 : decode cX5_single 0 = .ok (.iload_n 1, 1) := by decide +kernel
theorem dX5_single_1 : decode cX5_single 1 = .ok (.bipush 14, 2) := by decide +kernel
theorem dX5_single_3 : decode cX5_single 3 = .ok (.if_icmp .eq 9, 3) := by decide +kernel
theorem dX5_single_6 : decode cX5_single 6 = .ok (.iload_n 1, 1) := by decide +kernel
theorem dX5_single_7 : decode cX5_single 7 = .ok (.bipush 15, 2) := by decide +kernel
theorem dX5_single_9 : decode cX5_single 9 = .ok (.if_icmp .ne 8, 3) := by decide +kernel
theorem dX5_single_12 : decode cX5_single 12 = .ok (.iload_n 3, 1) := by decide +kernel
theorem dX5_single_13 : decode cX5_single 13 = .ok (.i2l, 1) := by decide +kernel
theorem dX5_single_14 : decode cX5_single 14 = .ok (.goto 7, 3) := by decide +kernel
theorem dX5_single_17 : decode cX5_single 17 = .ok (.iload_n 3, 1) := by decide +kernel
theorem dX5_single_18 : decode cX5_single 18 = .ok (.invokestatic 217, 3) := by decide +kernel
theorem dX5_single_21 : decode cX5_single 21 = .ok (.lstore 5, 2) := by decide +kernel
theorem dX5_single_23 : decode cX5_single 23 = .ok (.aload_n 0, 1) := by decide +kernel
theorem dX5_single_24 : decode cX5_single 24 = .ok (.iload_n 1, 1) := by decide +kernel
theorem dX5_single_25 : decode cX5_single 25 = .ok (.iload_n 1, 1) := by decide +kernel
theorem dX5_single_26 : decode cX5_single 26 = .ok (.bipush 21, 2) := by decide +kernel
theorem dX5_single_28 : decode cX5_single 28 = .ok (.if_icmp .ne 8, 3) := by decide +kernel
theorem dX5_single_31 : decode cX5_single 31 = .ok (.iload_n 2, 1) := by decide +kernel
theorem dX5_single_32 : decode cX5_single 32 = .ok (.i2l, 1) := by decide +kernel
theorem dX5_single_33 : decode cX5_single 33 = .ok (.goto 7, 3) := by decide +kernel
theorem dX5_single_36 : decode cX5_single 36 = .ok (.iload_n 2, 1) := by decide +kernel
theorem dX5_single_37 : decode cX5_single 37 = .ok (.invokestatic 217, 3) := by decide +kernel
theorem dX5_single_40 : decode cX5_single 40 = .ok (.lload 5, 2) := by decide +kernel
theorem dX5_single_42 : decode cX5_single 42 = .ok (.iload 4, 2) := by decide +kernel
theorem dX5_single_44 : decode cX5_single 44 = .ok (.invokestatic 217, 3) := by decide +kernel
theorem dX5_single_47 : decode cX5_single 47 = .ok (.iconst 0, 1) := by decide +kernel
theorem dX5_single_48 : decode cX5_single 48 = .ok (.invokevirtual 221, 3) := by decide +kernel
theorem dX5_single_51 : decode cX5_single 51 = .ok (.l2i, 1) := by decide +kernel
theorem dX5_single_52 : decode cX5_single 52 = .ok (.ireturn, 1) := by decide +kernel
theorem dX5_act_0 : decode cX5_act 0 = .ok (.aload_n 0, 1) := by decide +kernel
theorem dX5_act_1 : decode cX5_act 1 = .ok (.iload_n 1, 1) := by decide +kernel
theorem dX5_act_2 : decode cX5_act 2 = .ok (.iconst 0, 1) := by decide +kernel
theorem dX5_act_3 : decode cX5_act 3 = .ok (.bipush 23, 2) := by decide +kernel
theorem dX5_act_5 : decode cX5_act 5 = .ok (.invokestatic 225, 3) := by decide +kernel
theorem dX5_act_8 : decode cX5_act 8 = .ok (.ifCond .ne 7, 3) := by decide +kernel
theorem dX5_act_11 : decode cX5_act 11 = .ok (.iconst 1, 1) := by decide +kernel
theorem dX5_act_12 : decode cX5_act 12 = .ok (.goto 4, 3) := by decide +kernel
theorem dX5_act_15 : decode cX5_act 15 = .ok (.iconst 0, 1) := by decide +kernel
theorem dX5_act_16 : decode cX5_act 16 = .ok (.invokevirtual 229, 3) := by decide +kernel
theorem dX5_act_19 : decode cX5_act 19 = .ok (.ifCond .le 7, 3) := by decide +kernel
theorem dX5_act_22 : decode cX5_act 22 = .ok (.iconst 0, 1) := by decide +kernel
theorem dX5_act_23 : decode cX5_act 23 = .ok (.goto 12, 3) := by decide +kernel
theorem dX5_act_26 : decode cX5_act 26 = .ok (.aload_n 0, 1) := by decide +kernel
theorem dX5_act_27 : decode cX5_act 27 = .ok (.iload_n 1, 1) := by decide +kernel
theorem dX5_act_28 : decode cX5_act 28 = .ok (.iload_n 2, 1) := by decide +kernel
theorem dX5_act_29 : decode cX5_act 29 = .ok (.iload_n 3, 1) := by decide +kernel
theorem dX5_act_30 : decode cX5_act 30 = .ok (.iload 4, 2) := by decide +kernel
theorem dX5_act_32 : decode cX5_act 32 = .ok (.invokevirtual 232, 3) := by decide +kernel
theorem dX5_act_35 : decode cX5_act 35 = .ok (.ireturn, 1) := by decide +kernel
theorem dX5_wide_0 : decode cX5_wide 0 = .ok (.aload_n 0, 1) := by decide +kernel
theorem dX5_wide_1 : decode cX5_wide 1 = .ok (.iload_n 1, 1) := by decide +kernel
theorem dX5_wide_2 : decode cX5_wide 2 = .ok (.iconst 0, 1) := by decide +kernel
theorem dX5_wide_3 : decode cX5_wide 3 = .ok (.bipush 23, 2) := by decide +kernel
theorem dX5_wide_5 : decode cX5_wide 5 = .ok (.invokestatic 225, 3) := by decide +kernel
theorem dX5_wide_8 : decode cX5_wide 8 = .ok (.ifCond .ne 7, 3) := by decide +kernel
theorem dX5_wide_11 : decode cX5_wide 11 = .ok (.iconst 1, 1) := by decide +kernel
theorem dX5_wide_12 : decode cX5_wide 12 = .ok (.goto 4, 3) := by decide +kernel
theorem dX5_wide_15 : decode cX5_wide 15 = .ok (.iconst 0, 1) := by decide +kernel
theorem dX5_wide_16 : decode cX5_wide 16 = .ok (.invokevirtual 229, 3) := by decide +kernel
theorem dX5_wide_19 : decode cX5_wide 19 = .ok (.ifCond .le 7, 3) := by decide +kernel
theorem dX5_wide_22 : decode cX5_wide 22 = .ok (.lconst 0, 1) := by decide +kernel
theorem dX5_wide_23 : decode cX5_wide 23 = .ok (.goto 14, 3) := by decide +kernel
theorem dX5_wide_26 : decode cX5_wide 26 = .ok (.aload_n 0, 1) := by decide +kernel
theorem dX5_wide_27 : decode cX5_wide 27 = .ok (.iload_n 1, 1) := by decide +kernel
theorem dX5_wide_28 : decode cX5_wide 28 = .ok (.lload_n 2, 1) := by decide +kernel
theorem dX5_wide_29 : decode cX5_wide 29 = .ok (.lload 4, 2) := by decide +kernel
theorem dX5_wide_31 : decode cX5_wide 31 = .ok (.lload 6, 2) := by decide +kernel
theorem dX5_wide_33 : decode cX5_wide 33 = .ok (.iconst 1, 1) := by decide +kernel
theorem dX5_wide_34 : decode cX5_wide 34 = .ok (.invokevirtual 221, 3) := by decide +kernel
theorem dX5_wide_37 : decode cX5_wide 37 = .ok (.lreturn, 1) := by decide +kernel
theorem dX5_near_0 : decode cX5_near 0 = .ok (.lload_n 1, 1) := by decide +kernel
theorem dX5_near_1 : decode cX5_near 1 = .ok (.iload 7, 2) := by decide +kernel
theorem dX5_near_3 : decode cX5_near 3 = .ok (.invokestatic 102, 3) := by decide +kernel
theorem dX5_near_6 : decode cX5_near 6 = .ok (.ifCond .ne 22, 3) := by decide +kernel
theorem dX5_near_9 : decode cX5_near 9 = .ok (.lload_n 3, 1) := by decide +kernel
theorem dX5_near_10 : decode cX5_near 10 = .ok (.iload 7, 2) := by decide +kernel
theorem dX5_near_12 : decode cX5_near 12 = .ok (.invokestatic 102, 3) := by decide +kernel
theorem dX5_near_15 : decode cX5_near 15 = .ok (.ifCond .ne 13, 3) := by decide +kernel
theorem dX5_near_18 : decode cX5_near 18 = .ok (.lload 5, 2) := by decide +kernel
theorem dX5_near_20 : decode cX5_near 20 = .ok (.iload 7, 2) := by decide +kernel
theorem dX5_near_22 : decode cX5_near 22 = .ok (.invokestatic 102, 3) := by decide +kernel
theorem dX5_near_25 : decode cX5_near 25 = .ok (.ifCond .eq 5, 3) := by decide +kernel
theorem dX5_near_28 : decode cX5_near 28 = .ok (.iconst 0, 1) := by decide +kernel
theorem dX5_near_29 : decode cX5_near 29 = .ok (.ireturn, 1) := by decide +kernel
theorem dX5_near_30 : decode cX5_near 30 = .ok (.lload_n 1, 1) := by decide +kernel
theorem dX5_near_31 : decode cX5_near 31 = .ok (.iload 7, 2) := by decide +kernel
theorem dX5_near_33 : decode cX5_near 33 = .ok (.invokestatic 112, 3) := by decide +kernel
theorem dX5_near_36 : decode cX5_near 36 = .ok (.ifCond .eq 24, 3) := by decide +kernel
theorem dX5_near_39 : decode cX5_near 39 = .ok (.lload_n 3, 1) := by decide +kernel
theorem dX5_near_40 : decode cX5_near 40 = .ok (.iload 7, 2) := by decide +kernel
theorem dX5_near_42 : decode cX5_near 42 = .ok (.invokestatic 112, 3) := by decide +kernel
theorem dX5_near_45 : decode cX5_near 45 = .ok (.ifCond .eq 15, 3) := by decide +kernel
theorem dX5_near_48 : decode cX5_near 48 = .ok (.lload_n 1, 1) := by decide +kernel
theorem dX5_near_49 : decode cX5_near 49 = .ok (.lload_n 3, 1) := by decide +kernel
theorem dX5_near_50 : decode cX5_near 50 = .ok (.lcmp, 1) := by decide +kernel
theorem dX5_near_51 : decode cX5_near 51 = .ok (.ifCond .ne 7, 3) := by decide +kernel
theorem dX5_near_54 : decode cX5_near 54 = .ok (.iconst 1, 1) := by decide +kernel
theorem dX5_near_55 : decode cX5_near 55 = .ok (.goto 4, 3) := by decide +kernel
theorem dX5_near_58 : decode cX5_near 58 = .ok (.iconst 0, 1) := by decide +kernel
theorem dX5_near_59 : decode cX5_near 59 = .ok (.ireturn, 1) := by decide +kernel
theorem dX5_near_60 : decode cX5_near 60 = .ok (.lload 5, 2) := by decide +kernel
theorem dX5_near_62 : decode cX5_near 62 = .ok (.iload 7, 2) := by decide +kernel
theorem dX5_near_64 : decode cX5_near 64 = .ok (.invokestatic 112, 3) := by decide +kernel
theorem dX5_near_67 : decode cX5_near 67 = .ok (.ifCond .ne 14, 3) := by decide +kernel
theorem dX5_near_70 : decode cX5_near 70 = .ok (.aload_n 0, 1) := by decide +kernel
theorem dX5_near_71 : decode cX5_near 71 = .ok (.lload_n 1, 1) := by decide +kernel
theorem dX5_near_72 : decode cX5_near 72 = .ok (.lload_n 3, 1) := by decide +kernel
theorem dX5_near_73 : decode cX5_near 73 = .ok (.iload 7, 2) := by decide +kernel
theorem dX5_near_75 : decode cX5_near 75 = .ok (.invokevirtual 150, 3) := by decide +kernel
theorem dX5_near_78 : decode cX5_near 78 = .ok (.ifCond .ne 5, 3) := by decide +kernel
theorem dX5_near_81 : decode cX5_near 81 = .ok (.iconst 1, 1) := by decide +kernel
theorem dX5_near_82 : decode cX5_near 82 = .ok (.ireturn, 1) := by decide +kernel
theorem dX5_near_83 : decode cX5_near 83 = .ok (.aload_n 0, 1) := by decide +kernel
theorem dX5_near_84 : decode cX5_near 84 = .ok (.lload_n 1, 1) := by decide +kernel
theorem dX5_near_85 : decode cX5_near 85 = .ok (.aload_n 0, 1) := by decide +kernel
theorem dX5_near_86 : decode cX5_near 86 = .ok (.lload_n 3, 1) := by decide +kernel
theorem dX5_near_87 : decode cX5_near 87 = .ok (.iload 7, 2) := by decide +kernel
theorem dX5_near_89 : decode cX5_near 89 = .ok (.invokevirtual 170, 3) := by decide +kernel
theorem dX5_near_92 : decode cX5_near 92 = .ok (.iload 7, 2) := by decide +kernel
theorem dX5_near_94 : decode cX5_near 94 = .ok (.invokevirtual 167, 3) := by decide +kernel
theorem dX5_near_97 : decode cX5_near 97 = .ok (.iload 7, 2) := by decide +kernel
theorem dX5_near_99 : decode cX5_near 99 = .ok (.invokestatic 67, 3) := by decide +kernel
theorem dX5_near_102 : decode cX5_near 102 = .ok (.lstore 8, 2) := by decide +kernel
theorem dX5_near_104 : decode cX5_near 104 = .ok (.lload 8, 2) := by decide +kernel
theorem dX5_near_106 : decode cX5_near 106 = .ok (.lload 5, 2) := by decide +kernel
theorem dX5_near_108 : decode cX5_near 108 = .ok (.iload 7, 2) := by decide +kernel
theorem dX5_near_110 : decode cX5_near 110 = .ok (.invokestatic 67, 3) := by decide +kernel
theorem dX5_near_113 : decode cX5_near 113 = .ok (.lcmp, 1) := by decide +kernel
theorem dX5_near_114 : decode cX5_near 114 = .ok (.ifCond .gt 7, 3) := by decide +kernel
theorem dX5_near_117 : decode cX5_near 117 = .ok (.iconst 1, 1) := by decide +kernel
theorem dX5_near_118 : decode cX5_near 118 = .ok (.goto 4, 3) := by decide +kernel
theorem dX5_near_121 : decode cX5_near 121 = .ok (.iconst 0, 1) := by decide +kernel
theorem dX5_near_122 : decode cX5_near 122 = .ok (.ireturn, 1) := by decide +kernel
theorem dX5_holds_0 : decode cX5_holds 0 = .ok (.iload_n 1, 1) := by decide +kernel
theorem dX5_holds_1 : decode cX5_holds 1 = .ok (.iconst 2, 1) := by decide +kernel
theorem dX5_holds_2 : decode cX5_holds 2 = .ok (.if_icmp .ge 32, 3) := by decide +kernel
theorem dX5_holds_5 : decode cX5_holds 5 = .ok (.aload_n 0, 1) := by decide +kernel
theorem dX5_holds_6 : decode cX5_holds 6 = .ok (.lload_n 2, 1) := by decide +kernel
theorem dX5_holds_7 : decode cX5_holds 7 = .ok (.lload 4, 2) := by decide +kernel
theorem dX5_holds_9 : decode cX5_holds 9 = .ok (.lload 6, 2) := by decide +kernel
theorem dX5_holds_11 : decode cX5_holds 11 = .ok (.iload 8, 2) := by decide +kernel
theorem dX5_holds_13 : decode cX5_holds 13 = .ok (.invokevirtual 236, 3) := by decide +kernel
theorem dX5_holds_16 : decode cX5_holds 16 = .ok (.iload_n 1, 1) := by decide +kernel
theorem dX5_holds_17 : decode cX5_holds 17 = .ok (.ifCond .ne 7, 3) := by decide +kernel
theorem dX5_holds_20 : decode cX5_holds 20 = .ok (.iconst 1, 1) := by decide +kernel
theorem dX5_holds_21 : decode cX5_holds 21 = .ok (.goto 4, 3) := by decide +kernel
theorem dX5_holds_24 : decode cX5_holds 24 = .ok (.iconst 0, 1) := by decide +kernel
theorem dX5_holds_25 : decode cX5_holds 25 = .ok (.if_icmp .ne 7, 3) := by decide +kernel
theorem dX5_holds_28 : decode cX5_holds 28 = .ok (.iconst 1, 1) := by decide +kernel
theorem dX5_holds_29 : decode cX5_holds 29 = .ok (.goto 4, 3) := by decide +kernel
theorem dX5_holds_32 : decode cX5_holds 32 = .ok (.iconst 0, 1) := by decide +kernel
theorem dX5_holds_33 : decode cX5_holds 33 = .ok (.ireturn, 1) := by decide +kernel
theorem dX5_holds_34 : decode cX5_holds 34 = .ok (.iload_n 1, 1) := by decide +kernel
theorem dX5_holds_35 : decode cX5_holds 35 = .ok (.bipush 6, 2) := by decide +kernel
theorem dX5_holds_37 : decode cX5_holds 37 = .ok (.if_icmp .ne 10, 3) := by decide +kernel
theorem dX5_holds_40 : decode cX5_holds 40 = .ok (.lload_n 2, 1) := by decide +kernel
theorem dX5_holds_41 : decode cX5_holds 41 = .ok (.iload 8, 2) := by decide +kernel
theorem dX5_holds_43 : decode cX5_holds 43 = .ok (.invokestatic 102, 3) := by decide +kernel
theorem dX5_holds_46 : decode cX5_holds 46 = .ok (.ireturn, 1) := by decide +kernel
theorem dX5_holds_47 : decode cX5_holds 47 = .ok (.iload_n 1, 1) := by decide +kernel
theorem dX5_holds_48 : decode cX5_holds 48 = .ok (.bipush 7, 2) := by decide +kernel
theorem dX5_holds_50 : decode cX5_holds 50 = .ok (.if_icmp .ne 10, 3) := by decide +kernel
theorem dX5_holds_53 : decode cX5_holds 53 = .ok (.lload_n 2, 1) := by decide +kernel
theorem dX5_holds_54 : decode cX5_holds 54 = .ok (.iload 8, 2) := by decide +kernel
theorem dX5_holds_56 : decode cX5_holds 56 = .ok (.invokestatic 112, 3) := by decide +kernel
theorem dX5_holds_59 : decode cX5_holds 59 = .ok (.ireturn, 1) := by decide +kernel
theorem dX5_holds_60 : decode cX5_holds 60 = .ok (.lload_n 2, 1) := by decide +kernel
theorem dX5_holds_61 : decode cX5_holds 61 = .ok (.iload 8, 2) := by decide +kernel
theorem dX5_holds_63 : decode cX5_holds 63 = .ok (.invokestatic 102, 3) := by decide +kernel
theorem dX5_holds_66 : decode cX5_holds 66 = .ok (.ifCond .ne 13, 3) := by decide +kernel
theorem dX5_holds_69 : decode cX5_holds 69 = .ok (.lload 4, 2) := by decide +kernel
theorem dX5_holds_71 : decode cX5_holds 71 = .ok (.iload 8, 2) := by decide +kernel
theorem dX5_holds_73 : decode cX5_holds 73 = .ok (.invokestatic 102, 3) := by decide +kernel
theorem dX5_holds_76 : decode cX5_holds 76 = .ok (.ifCond .eq 5, 3) := by decide +kernel
theorem dX5_holds_79 : decode cX5_holds 79 = .ok (.iconst 0, 1) := by decide +kernel
theorem dX5_holds_80 : decode cX5_holds 80 = .ok (.ireturn, 1) := by decide +kernel
theorem dX5_holds_81 : decode cX5_holds 81 = .ok (.aload_n 0, 1) := by decide +kernel
theorem dX5_holds_82 : decode cX5_holds 82 = .ok (.lload_n 2, 1) := by decide +kernel
theorem dX5_holds_83 : decode cX5_holds 83 = .ok (.lload 4, 2) := by decide +kernel
theorem dX5_holds_85 : decode cX5_holds 85 = .ok (.iload 8, 2) := by decide +kernel
theorem dX5_holds_87 : decode cX5_holds 87 = .ok (.invokevirtual 150, 3) := by decide +kernel
theorem dX5_holds_90 : decode cX5_holds 90 = .ok (.istore 9, 2) := by decide +kernel
theorem dX5_holds_92 : decode cX5_holds 92 = .ok (.iload_n 1, 1) := by decide +kernel
theorem dX5_holds_93 : decode cX5_holds 93 = .ok (.iconst 2, 1) := by decide +kernel
theorem dX5_holds_94 : decode cX5_holds 94 = .ok (.if_icmp .ne 16, 3) := by decide +kernel
theorem dX5_holds_97 : decode cX5_holds 97 = .ok (.iload 9, 2) := by decide +kernel
theorem dX5_holds_99 : decode cX5_holds 99 = .ok (.ifCond .ge 7, 3) := by decide +kernel
theorem dX5_holds_102 : decode cX5_holds 102 = .ok (.iconst 1, 1) := by decide +kernel
theorem dX5_holds_103 : decode cX5_holds 103 = .ok (.goto 53, 3) := by decide +kernel
theorem dX5_holds_106 : decode cX5_holds 106 = .ok (.iconst 0, 1) := by decide +kernel
theorem dX5_holds_107 : decode cX5_holds 107 = .ok (.goto 49, 3) := by decide +kernel
theorem dX5_holds_110 : decode cX5_holds 110 = .ok (.iload_n 1, 1) := by decide +kernel
theorem dX5_holds_111 : decode cX5_holds 111 = .ok (.iconst 3, 1) := by decide +kernel
theorem dX5_holds_112 : decode cX5_holds 112 = .ok (.if_icmp .ne 16, 3) := by decide +kernel
theorem dX5_holds_115 : decode cX5_holds 115 = .ok (.iload 9, 2) := by decide +kernel
theorem dX5_holds_117 : decode cX5_holds 117 = .ok (.ifCond .gt 7, 3) := by decide +kernel
theorem dX5_holds_120 : decode cX5_holds 120 = .ok (.iconst 1, 1) := by decide +kernel
theorem dX5_holds_121 : decode cX5_holds 121 = .ok (.goto 35, 3) := by decide +kernel
theorem dX5_holds_124 : decode cX5_holds 124 = .ok (.iconst 0, 1) := by decide +kernel
theorem dX5_holds_125 : decode cX5_holds 125 = .ok (.goto 31, 3) := by decide +kernel
theorem dX5_holds_128 : decode cX5_holds 128 = .ok (.iload_n 1, 1) := by decide +kernel
theorem dX5_holds_129 : decode cX5_holds 129 = .ok (.iconst 4, 1) := by decide +kernel
theorem dX5_holds_130 : decode cX5_holds 130 = .ok (.if_icmp .ne 16, 3) := by decide +kernel
theorem dX5_holds_133 : decode cX5_holds 133 = .ok (.iload 9, 2) := by decide +kernel
theorem dX5_holds_135 : decode cX5_holds 135 = .ok (.ifCond .le 7, 3) := by decide +kernel
theorem dX5_holds_138 : decode cX5_holds 138 = .ok (.iconst 1, 1) := by decide +kernel
theorem dX5_holds_139 : decode cX5_holds 139 = .ok (.goto 17, 3) := by decide +kernel
theorem dX5_holds_142 : decode cX5_holds 142 = .ok (.iconst 0, 1) := by decide +kernel
theorem dX5_holds_143 : decode cX5_holds 143 = .ok (.goto 13, 3) := by decide +kernel
theorem dX5_holds_146 : decode cX5_holds 146 = .ok (.iload 9, 2) := by decide +kernel
theorem dX5_holds_148 : decode cX5_holds 148 = .ok (.ifCond .lt 7, 3) := by decide +kernel
theorem dX5_holds_151 : decode cX5_holds 151 = .ok (.iconst 1, 1) := by decide +kernel
theorem dX5_holds_152 : decode cX5_holds 152 = .ok (.goto 4, 3) := by decide +kernel
theorem dX5_holds_155 : decode cX5_holds 155 = .ok (.iconst 0, 1) := by decide +kernel
theorem dX5_holds_156 : decode cX5_holds 156 = .ok (.ireturn, 1) := by decide +kernel
theorem dX5_test_0 : decode cX5_test 0 = .ok (.aload_n 0, 1) := by decide +kernel
theorem dX5_test_1 : decode cX5_test 1 = .ok (.iload_n 1, 1) := by decide +kernel
theorem dX5_test_2 : decode cX5_test 2 = .ok (.iconst 0, 1) := by decide +kernel
theorem dX5_test_3 : decode cX5_test 3 = .ok (.bipush 7, 2) := by decide +kernel
theorem dX5_test_5 : decode cX5_test 5 = .ok (.invokestatic 225, 3) := by decide +kernel
theorem dX5_test_8 : decode cX5_test 8 = .ok (.ifCond .ne 7, 3) := by decide +kernel
theorem dX5_test_11 : decode cX5_test 11 = .ok (.iconst 1, 1) := by decide +kernel
theorem dX5_test_12 : decode cX5_test 12 = .ok (.goto 4, 3) := by decide +kernel
theorem dX5_test_15 : decode cX5_test 15 = .ok (.iconst 0, 1) := by decide +kernel
theorem dX5_test_16 : decode cX5_test 16 = .ok (.invokevirtual 229, 3) := by decide +kernel
theorem dX5_test_19 : decode cX5_test 19 = .ok (.ifCond .le 5, 3) := by decide +kernel
theorem dX5_test_22 : decode cX5_test 22 = .ok (.iconst 0, 1) := by decide +kernel
theorem dX5_test_23 : decode cX5_test 23 = .ok (.ireturn, 1) := by decide +kernel
theorem dX5_test_24 : decode cX5_test 24 = .ok (.aload_n 0, 1) := by decide +kernel
theorem dX5_test_25 : decode cX5_test 25 = .ok (.iload_n 1, 1) := by decide +kernel
theorem dX5_test_26 : decode cX5_test 26 = .ok (.iload_n 2, 1) := by decide +kernel
theorem dX5_test_27 : decode cX5_test 27 = .ok (.invokestatic 217, 3) := by decide +kernel
theorem dX5_test_30 : decode cX5_test 30 = .ok (.iload_n 3, 1) := by decide +kernel
theorem dX5_test_31 : decode cX5_test 31 = .ok (.invokestatic 217, 3) := by decide +kernel
theorem dX5_test_34 : decode cX5_test 34 = .ok (.iload 4, 2) := by decide +kernel
theorem dX5_test_36 : decode cX5_test 36 = .ok (.invokestatic 217, 3) := by decide +kernel
theorem dX5_test_39 : decode cX5_test 39 = .ok (.iconst 0, 1) := by decide +kernel
theorem dX5_test_40 : decode cX5_test 40 = .ok (.invokevirtual 240, 3) := by decide +kernel
theorem dX5_test_43 : decode cX5_test 43 = .ok (.ifCond .eq 7, 3) := by decide +kernel
theorem dX5_test_46 : decode cX5_test 46 = .ok (.iconst 1, 1) := by decide +kernel
theorem dX5_test_47 : decode cX5_test 47 = .ok (.goto 4, 3) := by decide +kernel
theorem dX5_test_50 : decode cX5_test 50 = .ok (.iconst 0, 1) := by decide +kernel
theorem dX5_test_51 : decode cX5_test 51 = .ok (.ireturn, 1) := by decide +kernel
theorem dX5_wideTest_0 : decode cX5_wideTest 0 = .ok (.aload_n 0, 1) := by decide +kernel
theorem dX5_wideTest_1 : decode cX5_wideTest 1 = .ok (.iload_n 1, 1) := by decide +kernel
theorem dX5_wideTest_2 : decode cX5_wideTest 2 = .ok (.iconst 0, 1) := by decide +kernel
theorem dX5_wideTest_3 : decode cX5_wideTest 3 = .ok (.bipush 7, 2) := by decide +kernel
theorem dX5_wideTest_5 : decode cX5_wideTest 5 = .ok (.invokestatic 225, 3) := by decide +kernel
theorem dX5_wideTest_8 : decode cX5_wideTest 8 = .ok (.ifCond .ne 7, 3) := by decide +kernel
theorem dX5_wideTest_11 : decode cX5_wideTest 11 = .ok (.iconst 1, 1) := by decide +kernel
theorem dX5_wideTest_12 : decode cX5_wideTest 12 = .ok (.goto 4, 3) := by decide +kernel
theorem dX5_wideTest_15 : decode cX5_wideTest 15 = .ok (.iconst 0, 1) := by decide +kernel
theorem dX5_wideTest_16 : decode cX5_wideTest 16 = .ok (.invokevirtual 229, 3) := by decide +kernel
theorem dX5_wideTest_19 : decode cX5_wideTest 19 = .ok (.ifCond .le 5, 3) := by decide +kernel
theorem dX5_wideTest_22 : decode cX5_wideTest 22 = .ok (.iconst 0, 1) := by decide +kernel
theorem dX5_wideTest_23 : decode cX5_wideTest 23 = .ok (.ireturn, 1) := by decide +kernel
theorem dX5_wideTest_24 : decode cX5_wideTest 24 = .ok (.aload_n 0, 1) := by decide +kernel
theorem dX5_wideTest_25 : decode cX5_wideTest 25 = .ok (.iload_n 1, 1) := by decide +kernel
theorem dX5_wideTest_26 : decode cX5_wideTest 26 = .ok (.lload_n 2, 1) := by decide +kernel
theorem dX5_wideTest_27 : decode cX5_wideTest 27 = .ok (.lload 4, 2) := by decide +kernel
theorem dX5_wideTest_29 : decode cX5_wideTest 29 = .ok (.lload 6, 2) := by decide +kernel
theorem dX5_wideTest_31 : decode cX5_wideTest 31 = .ok (.iconst 1, 1) := by decide +kernel
theorem dX5_wideTest_32 : decode cX5_wideTest 32 = .ok (.invokevirtual 240, 3) := by decide +kernel
theorem dX5_wideTest_35 : decode cX5_wideTest 35 = .ok (.ifCond .eq 7, 3) := by decide +kernel
theorem dX5_wideTest_38 : decode cX5_wideTest 38 = .ok (.iconst 1, 1) := by decide +kernel
theorem dX5_wideTest_39 : decode cX5_wideTest 39 = .ok (.goto 4, 3) := by decide +kernel
theorem dX5_wideTest_42 : decode cX5_wideTest 42 = .ok (.iconst 0, 1) := by decide +kernel
theorem dX5_wideTest_43 : decode cX5_wideTest 43 = .ok (.ireturn, 1) := by decide +kernel
theorem dX5_widen_0 : decode cX5_widen 0 = .ok (.iload_n 1, 1) := by decide +kernel
theorem dX5_widen_1 : decode cX5_widen 1 = .ok (.invokestatic 217, 3) := by decide +kernel
theorem dX5_widen_4 : decode cX5_widen 4 = .ok (.lstore_n 2, 1) := by decide +kernel
theorem dX5_widen_5 : decode cX5_widen 5 = .ok (.lload_n 2, 1) := by decide +kernel
theorem dX5_widen_6 : decode cX5_widen 6 = .ok (.iconst 0, 1) := by decide +kernel
theorem dX5_widen_7 : decode cX5_widen 7 = .ok (.invokestatic 102, 3) := by decide +kernel
theorem dX5_widen_10 : decode cX5_widen 10 = .ok (.ifCond .eq 7, 3) := by decide +kernel
theorem dX5_widen_13 : decode cX5_widen 13 = .ok (.ldc2_w 50, 3) := by decide +kernel
theorem dX5_widen_16 : decode cX5_widen 16 = .ok (.lreturn, 1) := by decide +kernel
theorem dX5_widen_17 : decode cX5_widen 17 = .ok (.lload_n 2, 1) := by decide +kernel
theorem dX5_widen_18 : decode cX5_widen 18 = .ok (.iconst 0, 1) := by decide +kernel
theorem dX5_widen_19 : decode cX5_widen 19 = .ok (.invokestatic 112, 3) := by decide +kernel
theorem dX5_widen_22 : decode cX5_widen 22 = .ok (.ifCond .eq 13, 3) := by decide +kernel
theorem dX5_widen_25 : decode cX5_widen 25 = .ok (.lload_n 2, 1) := by decide +kernel
theorem dX5_widen_26 : decode cX5_widen 26 = .ok (.iconst 0, 1) := by decide +kernel
theorem dX5_widen_27 : decode cX5_widen 27 = .ok (.invokestatic 109, 3) := by decide +kernel
theorem dX5_widen_30 : decode cX5_widen 30 = .ok (.iconst 1, 1) := by decide +kernel
theorem dX5_widen_31 : decode cX5_widen 31 = .ok (.invokestatic 71, 3) := by decide +kernel
theorem dX5_widen_34 : decode cX5_widen 34 = .ok (.lreturn, 1) := by decide +kernel
theorem dX5_widen_35 : decode cX5_widen 35 = .ok (.lload_n 2, 1) := by decide +kernel
theorem dX5_widen_36 : decode cX5_widen 36 = .ok (.iconst 0, 1) := by decide +kernel
theorem dX5_widen_37 : decode cX5_widen 37 = .ok (.invokestatic 109, 3) := by decide +kernel
theorem dX5_widen_40 : decode cX5_widen 40 = .ok (.lload_n 2, 1) := by decide +kernel
theorem dX5_widen_41 : decode cX5_widen 41 = .ok (.iconst 0, 1) := by decide +kernel
theorem dX5_widen_42 : decode cX5_widen 42 = .ok (.invokestatic 118, 3) := by decide +kernel
theorem dX5_widen_45 : decode cX5_widen 45 = .ok (.lload_n 2, 1) := by decide +kernel
theorem dX5_widen_46 : decode cX5_widen 46 = .ok (.iconst 0, 1) := by decide +kernel
theorem dX5_widen_47 : decode cX5_widen 47 = .ok (.invokestatic 121, 3) := by decide +kernel
theorem dX5_widen_50 : decode cX5_widen 50 = .ok (.iconst 0, 1) := by decide +kernel
theorem dX5_widen_51 : decode cX5_widen 51 = .ok (.iconst 1, 1) := by decide +kernel
theorem dX5_widen_52 : decode cX5_widen 52 = .ok (.invokestatic 98, 3) := by decide +kernel
theorem dX5_widen_55 : decode cX5_widen 55 = .ok (.lreturn, 1) := by decide +kernel
theorem dX5_narrow_0 : decode cX5_narrow 0 = .ok (.lload_n 1, 1) := by decide +kernel
theorem dX5_narrow_1 : decode cX5_narrow 1 = .ok (.iconst 1, 1) := by decide +kernel
theorem dX5_narrow_2 : decode cX5_narrow 2 = .ok (.invokestatic 102, 3) := by decide +kernel
theorem dX5_narrow_5 : decode cX5_narrow 5 = .ok (.ifCond .eq 6, 3) := by decide +kernel
theorem dX5_narrow_8 : decode cX5_narrow 8 = .ok (.ldc 244, 2) := by decide +kernel
theorem dX5_narrow_10 : decode cX5_narrow 10 = .ok (.ireturn, 1) := by decide +kernel
theorem dX5_narrow_11 : decode cX5_narrow 11 = .ok (.lload_n 1, 1) := by decide +kernel
theorem dX5_narrow_12 : decode cX5_narrow 12 = .ok (.iconst 1, 1) := by decide +kernel
theorem dX5_narrow_13 : decode cX5_narrow 13 = .ok (.invokestatic 112, 3) := by decide +kernel
theorem dX5_narrow_16 : decode cX5_narrow 16 = .ok (.ifCond .eq 14, 3) := by decide +kernel
theorem dX5_narrow_19 : decode cX5_narrow 19 = .ok (.lload_n 1, 1) := by decide +kernel
theorem dX5_narrow_20 : decode cX5_narrow 20 = .ok (.iconst 1, 1) := by decide +kernel
theorem dX5_narrow_21 : decode cX5_narrow 21 = .ok (.invokestatic 109, 3) := by decide +kernel
theorem dX5_narrow_24 : decode cX5_narrow 24 = .ok (.iconst 0, 1) := by decide +kernel
theorem dX5_narrow_25 : decode cX5_narrow 25 = .ok (.invokestatic 71, 3) := by decide +kernel
theorem dX5_narrow_28 : decode cX5_narrow 28 = .ok (.l2i, 1) := by decide +kernel
theorem dX5_narrow_29 : decode cX5_narrow 29 = .ok (.ireturn, 1) := by decide +kernel
theorem dX5_narrow_30 : decode cX5_narrow 30 = .ok (.lload_n 1, 1) := by decide +kernel
theorem dX5_narrow_31 : decode cX5_narrow 31 = .ok (.iconst 1, 1) := by decide +kernel
theorem dX5_narrow_32 : decode cX5_narrow 32 = .ok (.invokestatic 109, 3) := by decide +kernel
theorem dX5_narrow_35 : decode cX5_narrow 35 = .ok (.lload_n 1, 1) := by decide +kernel
theorem dX5_narrow_36 : decode cX5_narrow 36 = .ok (.iconst 1, 1) := by decide +kernel
theorem dX5_narrow_37 : decode cX5_narrow 37 = .ok (.invokestatic 118, 3) := by decide +kernel
theorem dX5_narrow_40 : decode cX5_narrow 40 = .ok (.lload_n 1, 1) := by decide +kernel
theorem dX5_narrow_41 : decode cX5_narrow 41 = .ok (.iconst 1, 1) := by decide +kernel
theorem dX5_narrow_42 : decode cX5_narrow 42 = .ok (.invokestatic 121, 3) := by decide +kernel
theorem dX5_narrow_45 : decode cX5_narrow 45 = .ok (.iconst 0, 1) := by decide +kernel
theorem dX5_narrow_46 : decode cX5_narrow 46 = .ok (.iconst 0, 1) := by decide +kernel
theorem dX5_narrow_47 : decode cX5_narrow 47 = .ok (.invokestatic 98, 3) := by decide +kernel
theorem dX5_narrow_50 : decode cX5_narrow 50 = .ok (.l2i, 1) := by decide +kernel
theorem dX5_narrow_51 : decode cX5_narrow 51 = .ok (.ireturn, 1) := by decide +kernel
theorem dX5_half_0 : decode cX5_half 0 = .ok (.iload_n 3, 1) := by decide +kernel
theorem dX5_half_1 : decode cX5_half 1 = .ok (.ifCond .eq 10, 3) := by decide +kernel
theorem dX5_half_4 : decode cX5_half 4 = .ok (.lload_n 1, 1) := by decide +kernel
theorem dX5_half_5 : decode cX5_half 5 = .ok (.bipush 32, 2) := by decide +kernel
theorem dX5_half_7 : decode cX5_half 7 = .ok (.lshr, 1) := by decide +kernel
theorem dX5_half_8 : decode cX5_half 8 = .ok (.goto 4, 3) := by decide +kernel
theorem dX5_half_11 : decode cX5_half 11 = .ok (.lload_n 1, 1) := by decide +kernel
theorem dX5_half_12 : decode cX5_half 12 = .ok (.l2i, 1) := by decide +kernel
theorem dX5_half_13 : decode cX5_half 13 = .ok (.ireturn, 1) := by decide +kernel
theorem dX5_join_0 : decode cX5_join 0 = .ok (.iload_n 1, 1) := by decide +kernel
theorem dX5_join_1 : decode cX5_join 1 = .ok (.i2l, 1) := by decide +kernel
theorem dX5_join_2 : decode cX5_join 2 = .ok (.bipush 32, 2) := by decide +kernel
theorem dX5_join_4 : decode cX5_join 4 = .ok (.lshl, 1) := by decide +kernel
theorem dX5_join_5 : decode cX5_join 5 = .ok (.iload_n 2, 1) := by decide +kernel
theorem dX5_join_6 : decode cX5_join 6 = .ok (.i2l, 1) := by decide +kernel
theorem dX5_join_7 : decode cX5_join 7 = .ok (.ldc2_w 215, 3) := by decide +kernel
theorem dX5_join_10 : decode cX5_join 10 = .ok (.land, 1) := by decide +kernel
theorem dX5_join_11 : decode cX5_join 11 = .ok (.lor, 1) := by decide +kernel
theorem dX5_join_12 : decode cX5_join 12 = .ok (.lreturn, 1) := by decide +kernel
theorem dX5_put_0 : decode cX5_put 0 = .ok (.aload_n 0, 1) := by decide +kernel
theorem dX5_put_1 : decode cX5_put 1 = .ok (.getfield 36, 3) := by decide +kernel
theorem dX5_put_4 : decode cX5_put 4 = .ok (.aload_n 0, 1) := by decide +kernel
theorem dX5_put_5 : decode cX5_put 5 = .ok (.getfield 245, 3) := by decide +kernel
theorem dX5_put_8 : decode cX5_put 8 = .ok (.iload_n 1, 1) := by decide +kernel
theorem dX5_put_9 : decode cX5_put 9 = .ok (.i2b, 1) := by decide +kernel
theorem dX5_put_10 : decode cX5_put 10 = .ok (.bastore, 1) := by decide +kernel
theorem dX5_put_11 : decode cX5_put 11 = .ok (.aload_n 0, 1) := by decide +kernel
theorem dX5_put_12 : decode cX5_put 12 = .ok (.dup, 1) := by decide +kernel
theorem dX5_put_13 : decode cX5_put 13 = .ok (.getfield 245, 3) := by decide +kernel
theorem dX5_put_16 : decode cX5_put 16 = .ok (.iconst 1, 1) := by decide +kernel
theorem dX5_put_17 : decode cX5_put 17 = .ok (.iadd, 1) := by decide +kernel
theorem dX5_put_18 : decode cX5_put 18 = .ok (.putfield 245, 3) := by decide +kernel
theorem dX5_put_21 : decode cX5_put 21 = .ok (.return_, 1) := by decide +kernel
theorem dX5_twice_0 : decode cX5_twice 0 = .ok (.iload_n 1, 1) := by decide +kernel
theorem dX5_twice_1 : decode cX5_twice 1 = .ok (.istore_n 2, 1) := by decide +kernel
theorem dX5_twice_2 : decode cX5_twice 2 = .ok (.iconst 0, 1) := by decide +kernel
theorem dX5_twice_3 : decode cX5_twice 3 = .ok (.istore_n 3, 1) := by decide +kernel
theorem dX5_twice_4 : decode cX5_twice 4 = .ok (.iload_n 3, 1) := by decide +kernel
theorem dX5_twice_5 : decode cX5_twice 5 = .ok (.aload_n 0, 1) := by decide +kernel
theorem dX5_twice_6 : decode cX5_twice 6 = .ok (.getfield 248, 3) := by decide +kernel
theorem dX5_twice_9 : decode cX5_twice 9 = .ok (.if_icmp .ge 35, 3) := by decide +kernel
theorem dX5_twice_12 : decode cX5_twice 12 = .ok (.iload_n 2, 1) := by decide +kernel
theorem dX5_twice_13 : decode cX5_twice 13 = .ok (.iconst 2, 1) := by decide +kernel
theorem dX5_twice_14 : decode cX5_twice 14 = .ok (.aload_n 0, 1) := by decide +kernel
theorem dX5_twice_15 : decode cX5_twice 15 = .ok (.getfield 40, 3) := by decide +kernel
theorem dX5_twice_18 : decode cX5_twice 18 = .ok (.iload_n 3, 1) := by decide +kernel
theorem dX5_twice_19 : decode cX5_twice 19 = .ok (.iaload, 1) := by decide +kernel
theorem dX5_twice_20 : decode cX5_twice 20 = .ok (.imul, 1) := by decide +kernel
theorem dX5_twice_21 : decode cX5_twice 21 = .ok (.iadd, 1) := by decide +kernel
theorem dX5_twice_22 : decode cX5_twice 22 = .ok (.istore_n 2, 1) := by decide +kernel
theorem dX5_twice_23 : decode cX5_twice 23 = .ok (.aload_n 0, 1) := by decide +kernel
theorem dX5_twice_24 : decode cX5_twice 24 = .ok (.getfield 40, 3) := by decide +kernel
theorem dX5_twice_27 : decode cX5_twice 27 = .ok (.iload_n 3, 1) := by decide +kernel
theorem dX5_twice_28 : decode cX5_twice 28 = .ok (.iload_n 2, 1) := by decide +kernel
theorem dX5_twice_29 : decode cX5_twice 29 = .ok (.bipush 10, 2) := by decide +kernel
theorem dX5_twice_31 : decode cX5_twice 31 = .ok (.irem, 1) := by decide +kernel
theorem dX5_twice_32 : decode cX5_twice 32 = .ok (.iastore, 1) := by decide +kernel
theorem dX5_twice_33 : decode cX5_twice 33 = .ok (.iload_n 2, 1) := by decide +kernel
theorem dX5_twice_34 : decode cX5_twice 34 = .ok (.bipush 10, 2) := by decide +kernel
theorem dX5_twice_36 : decode cX5_twice 36 = .ok (.idiv, 1) := by decide +kernel
theorem dX5_twice_37 : decode cX5_twice 37 = .ok (.istore_n 2, 1) := by decide +kernel
theorem dX5_twice_38 : decode cX5_twice 38 = .ok (.iinc 3 1, 3) := by decide +kernel
theorem dX5_twice_41 : decode cX5_twice 41 = .ok (.goto (-37), 3) := by decide +kernel
theorem dX5_twice_44 : decode cX5_twice 44 = .ok (.iload_n 2, 1) := by decide +kernel
theorem dX5_twice_45 : decode cX5_twice 45 = .ok (.ifCond .le 23, 3) := by decide +kernel
theorem dX5_twice_48 : decode cX5_twice 48 = .ok (.aload_n 0, 1) := by decide +kernel
theorem dX5_twice_49 : decode cX5_twice 49 = .ok (.getfield 40, 3) := by decide +kernel
theorem dX5_twice_52 : decode cX5_twice 52 = .ok (.aload_n 0, 1) := by decide +kernel
theorem dX5_twice_53 : decode cX5_twice 53 = .ok (.getfield 248, 3) := by decide +kernel
theorem dX5_twice_56 : decode cX5_twice 56 = .ok (.iload_n 2, 1) := by decide +kernel
theorem dX5_twice_57 : decode cX5_twice 57 = .ok (.iastore, 1) := by decide +kernel
theorem dX5_twice_58 : decode cX5_twice 58 = .ok (.aload_n 0, 1) := by decide +kernel
theorem dX5_twice_59 : decode cX5_twice 59 = .ok (.dup, 1) := by decide +kernel
theorem dX5_twice_60 : decode cX5_twice 60 = .ok (.getfield 248, 3) := by decide +kernel
theorem dX5_twice_63 : decode cX5_twice 63 = .ok (.iconst 1, 1) := by decide +kernel
theorem dX5_twice_64 : decode cX5_twice 64 = .ok (.iadd, 1) := by decide +kernel
theorem dX5_twice_65 : decode cX5_twice 65 = .ok (.putfield 248, 3) := by decide +kernel
theorem dX5_twice_68 : decode cX5_twice 68 = .ok (.return_, 1) := by decide +kernel
theorem dX5_putWhole_0 : decode cX5_putWhole 0 = .ok (.aload_n 0, 1) := by decide +kernel
theorem dX5_putWhole_1 : decode cX5_putWhole 1 = .ok (.iconst 0, 1) := by decide +kernel
theorem dX5_putWhole_2 : decode cX5_putWhole 2 = .ok (.putfield 248, 3) := by decide +kernel
theorem dX5_putWhole_5 : decode cX5_putWhole 5 = .ok (.lload_n 1, 1) := by decide +kernel
theorem dX5_putWhole_6 : decode cX5_putWhole 6 = .ok (.invokestatic 82, 3) := by decide +kernel
theorem dX5_putWhole_9 : decode cX5_putWhole 9 = .ok (.istore 4, 2) := by decide +kernel
theorem dX5_putWhole_11 : decode cX5_putWhole 11 = .ok (.iload 4, 2) := by decide +kernel
theorem dX5_putWhole_13 : decode cX5_putWhole 13 = .ok (.iconst 1, 1) := by decide +kernel
theorem dX5_putWhole_14 : decode cX5_putWhole 14 = .ok (.isub, 1) := by decide +kernel
theorem dX5_putWhole_15 : decode cX5_putWhole 15 = .ok (.istore 5, 2) := by decide +kernel
theorem dX5_putWhole_17 : decode cX5_putWhole 17 = .ok (.iload 5, 2) := by decide +kernel
theorem dX5_putWhole_19 : decode cX5_putWhole 19 = .ok (.ifCond .lt 27, 3) := by decide +kernel
theorem dX5_putWhole_22 : decode cX5_putWhole 22 = .ok (.iload 5, 2) := by decide +kernel
theorem dX5_putWhole_24 : decode cX5_putWhole 24 = .ok (.iload_n 3, 1) := by decide +kernel
theorem dX5_putWhole_25 : decode cX5_putWhole 25 = .ok (.ineg, 1) := by decide +kernel
theorem dX5_putWhole_26 : decode cX5_putWhole 26 = .ok (.if_icmp .lt 20, 3) := by decide +kernel
theorem dX5_putWhole_29 : decode cX5_putWhole 29 = .ok (.aload_n 0, 1) := by decide +kernel
theorem dX5_putWhole_30 : decode cX5_putWhole 30 = .ok (.lload_n 1, 1) := by decide +kernel
theorem dX5_putWhole_31 : decode cX5_putWhole 31 = .ok (.iload 5, 2) := by decide +kernel
theorem dX5_putWhole_33 : decode cX5_putWhole 33 = .ok (.lushr, 1) := by decide +kernel
theorem dX5_putWhole_34 : decode cX5_putWhole 34 = .ok (.lconst 1, 1) := by decide +kernel
theorem dX5_putWhole_35 : decode cX5_putWhole 35 = .ok (.land, 1) := by decide +kernel
theorem dX5_putWhole_36 : decode cX5_putWhole 36 = .ok (.l2i, 1) := by decide +kernel
theorem dX5_putWhole_37 : decode cX5_putWhole 37 = .ok (.invokevirtual 251, 3) := by decide +kernel
theorem dX5_putWhole_40 : decode cX5_putWhole 40 = .ok (.iinc 5 (-1), 3) := by decide +kernel
theorem dX5_putWhole_43 : decode cX5_putWhole 43 = .ok (.goto (-26), 3) := by decide +kernel
theorem dX5_putWhole_46 : decode cX5_putWhole 46 = .ok (.iconst 0, 1) := by decide +kernel
theorem dX5_putWhole_47 : decode cX5_putWhole 47 = .ok (.istore 5, 2) := by decide +kernel
theorem dX5_putWhole_49 : decode cX5_putWhole 49 = .ok (.iload 5, 2) := by decide +kernel
theorem dX5_putWhole_51 : decode cX5_putWhole 51 = .ok (.iload_n 3, 1) := by decide +kernel
theorem dX5_putWhole_52 : decode cX5_putWhole 52 = .ok (.if_icmp .ge 14, 3) := by decide +kernel
theorem dX5_putWhole_55 : decode cX5_putWhole 55 = .ok (.aload_n 0, 1) := by decide +kernel
theorem dX5_putWhole_56 : decode cX5_putWhole 56 = .ok (.iconst 0, 1) := by decide +kernel
theorem dX5_putWhole_57 : decode cX5_putWhole 57 = .ok (.invokevirtual 251, 3) := by decide +kernel
theorem dX5_putWhole_60 : decode cX5_putWhole 60 = .ok (.iinc 5 1, 3) := by decide +kernel
theorem dX5_putWhole_63 : decode cX5_putWhole 63 = .ok (.goto (-14), 3) := by decide +kernel
theorem dX5_putWhole_66 : decode cX5_putWhole 66 = .ok (.aload_n 0, 1) := by decide +kernel
theorem dX5_putWhole_67 : decode cX5_putWhole 67 = .ok (.getfield 248, 3) := by decide +kernel
theorem dX5_putWhole_70 : decode cX5_putWhole 70 = .ok (.ifCond .ne 9, 3) := by decide +kernel
theorem dX5_putWhole_73 : decode cX5_putWhole 73 = .ok (.aload_n 0, 1) := by decide +kernel
theorem dX5_putWhole_74 : decode cX5_putWhole 74 = .ok (.bipush 48, 2) := by decide +kernel
theorem dX5_putWhole_76 : decode cX5_putWhole 76 = .ok (.invokevirtual 255, 3) := by decide +kernel
theorem dX5_putWhole_79 : decode cX5_putWhole 79 = .ok (.aload_n 0, 1) := by decide +kernel
theorem dX5_putWhole_80 : decode cX5_putWhole 80 = .ok (.getfield 248, 3) := by decide +kernel
theorem dX5_putWhole_83 : decode cX5_putWhole 83 = .ok (.iconst 1, 1) := by decide +kernel
theorem dX5_putWhole_84 : decode cX5_putWhole 84 = .ok (.isub, 1) := by decide +kernel
theorem dX5_putWhole_85 : decode cX5_putWhole 85 = .ok (.istore 5, 2) := by decide +kernel
theorem dX5_putWhole_87 : decode cX5_putWhole 87 = .ok (.iload 5, 2) := by decide +kernel
theorem dX5_putWhole_89 : decode cX5_putWhole 89 = .ok (.ifCond .lt 23, 3) := by decide +kernel
theorem dX5_putWhole_92 : decode cX5_putWhole 92 = .ok (.aload_n 0, 1) := by decide +kernel
theorem dX5_putWhole_93 : decode cX5_putWhole 93 = .ok (.bipush 48, 2) := by decide +kernel
theorem dX5_putWhole_95 : decode cX5_putWhole 95 = .ok (.aload_n 0, 1) := by decide +kernel
theorem dX5_putWhole_96 : decode cX5_putWhole 96 = .ok (.getfield 40, 3) := by decide +kernel
theorem dX5_putWhole_99 : decode cX5_putWhole 99 = .ok (.iload 5, 2) := by decide +kernel
theorem dX5_putWhole_101 : decode cX5_putWhole 101 = .ok (.iaload, 1) := by decide +kernel
theorem dX5_putWhole_102 : decode cX5_putWhole 102 = .ok (.iadd, 1) := by decide +kernel
theorem dX5_putWhole_103 : decode cX5_putWhole 103 = .ok (.invokevirtual 255, 3) := by decide +kernel
theorem dX5_putWhole_106 : decode cX5_putWhole 106 = .ok (.iinc 5 (-1), 3) := by decide +kernel
theorem dX5_putWhole_109 : decode cX5_putWhole 109 = .ok (.goto (-22), 3) := by decide +kernel
theorem dX5_putWhole_112 : decode cX5_putWhole 112 = .ok (.return_, 1) := by decide +kernel
theorem dX5_layBehind_0 : decode cX5_layBehind 0 = .ok (.iconst 0, 1) := by decide +kernel
theorem dX5_layBehind_1 : decode cX5_layBehind 1 = .ok (.istore 4, 2) := by decide +kernel
theorem dX5_layBehind_3 : decode cX5_layBehind 3 = .ok (.iload 4, 2) := by decide +kernel
theorem dX5_layBehind_5 : decode cX5_layBehind 5 = .ok (.bipush 12, 2) := by decide +kernel
theorem dX5_layBehind_7 : decode cX5_layBehind 7 = .ok (.if_icmp .ge 17, 3) := by decide +kernel
theorem dX5_layBehind_10 : decode cX5_layBehind 10 = .ok (.aload_n 0, 1) := by decide +kernel
theorem dX5_layBehind_11 : decode cX5_layBehind 11 = .ok (.getfield 43, 3) := by decide +kernel
theorem dX5_layBehind_14 : decode cX5_layBehind 14 = .ok (.iload 4, 2) := by decide +kernel
theorem dX5_layBehind_16 : decode cX5_layBehind 16 = .ok (.iconst 0, 1) := by decide +kernel
theorem dX5_layBehind_17 : decode cX5_layBehind 17 = .ok (.iastore, 1) := by decide +kernel
theorem dX5_layBehind_18 : decode cX5_layBehind 18 = .ok (.iinc 4 1, 3) := by decide +kernel
theorem dX5_layBehind_21 : decode cX5_layBehind 21 = .ok (.goto (-18), 3) := by decide +kernel
theorem dX5_layBehind_24 : decode cX5_layBehind 24 = .ok (.iconst 0, 1) := by decide +kernel
theorem dX5_layBehind_25 : decode cX5_layBehind 25 = .ok (.istore 4, 2) := by decide +kernel
theorem dX5_layBehind_27 : decode cX5_layBehind 27 = .ok (.iload 4, 2) := by decide +kernel
theorem dX5_layBehind_29 : decode cX5_layBehind 29 = .ok (.bipush 24, 2) := by decide +kernel
theorem dX5_layBehind_31 : decode cX5_layBehind 31 = .ok (.if_icmp .ge 57, 3) := by decide +kernel
theorem dX5_layBehind_34 : decode cX5_layBehind 34 = .ok (.iload_n 3, 1) := by decide +kernel
theorem dX5_layBehind_35 : decode cX5_layBehind 35 = .ok (.iload 4, 2) := by decide +kernel
theorem dX5_layBehind_37 : decode cX5_layBehind 37 = .ok (.iadd, 1) := by decide +kernel
theorem dX5_layBehind_38 : decode cX5_layBehind 38 = .ok (.ineg, 1) := by decide +kernel
theorem dX5_layBehind_39 : decode cX5_layBehind 39 = .ok (.iconst 1, 1) := by decide +kernel
theorem dX5_layBehind_40 : decode cX5_layBehind 40 = .ok (.isub, 1) := by decide +kernel
theorem dX5_layBehind_41 : decode cX5_layBehind 41 = .ok (.istore 5, 2) := by decide +kernel
theorem dX5_layBehind_43 : decode cX5_layBehind 43 = .ok (.iload 5, 2) := by decide +kernel
theorem dX5_layBehind_45 : decode cX5_layBehind 45 = .ok (.ifCond .lt 37, 3) := by decide +kernel
theorem dX5_layBehind_48 : decode cX5_layBehind 48 = .ok (.lload_n 1, 1) := by decide +kernel
theorem dX5_layBehind_49 : decode cX5_layBehind 49 = .ok (.iload 4, 2) := by decide +kernel
theorem dX5_layBehind_51 : decode cX5_layBehind 51 = .ok (.lushr, 1) := by decide +kernel
theorem dX5_layBehind_52 : decode cX5_layBehind 52 = .ok (.lconst 1, 1) := by decide +kernel
theorem dX5_layBehind_53 : decode cX5_layBehind 53 = .ok (.land, 1) := by decide +kernel
theorem dX5_layBehind_54 : decode cX5_layBehind 54 = .ok (.lconst 1, 1) := by decide +kernel
theorem dX5_layBehind_55 : decode cX5_layBehind 55 = .ok (.lcmp, 1) := by decide +kernel
theorem dX5_layBehind_56 : decode cX5_layBehind 56 = .ok (.ifCond .ne 26, 3) := by decide +kernel
theorem dX5_layBehind_59 : decode cX5_layBehind 59 = .ok (.aload_n 0, 1) := by decide +kernel
theorem dX5_layBehind_60 : decode cX5_layBehind 60 = .ok (.getfield 43, 3) := by decide +kernel
theorem dX5_layBehind_63 : decode cX5_layBehind 63 = .ok (.iload 5, 2) := by decide +kernel
theorem dX5_layBehind_65 : decode cX5_layBehind 65 = .ok (.bipush 16, 2) := by decide +kernel
theorem dX5_layBehind_67 : decode cX5_layBehind 67 = .ok (.idiv, 1) := by decide +kernel
theorem dX5_layBehind_68 : decode cX5_layBehind 68 = .ok (.dup2, 1) := by decide +kernel
theorem dX5_layBehind_69 : decode cX5_layBehind 69 = .ok (.iaload, 1) := by decide +kernel
theorem dX5_layBehind_70 : decode cX5_layBehind 70 = .ok (.iconst 1, 1) := by decide +kernel
theorem dX5_layBehind_71 : decode cX5_layBehind 71 = .ok (.bipush 15, 2) := by decide +kernel
theorem dX5_layBehind_73 : decode cX5_layBehind 73 = .ok (.iload 5, 2) := by decide +kernel
theorem dX5_layBehind_75 : decode cX5_layBehind 75 = .ok (.bipush 16, 2) := by decide +kernel
theorem dX5_layBehind_77 : decode cX5_layBehind 77 = .ok (.irem, 1) := by decide +kernel
theorem dX5_layBehind_78 : decode cX5_layBehind 78 = .ok (.isub, 1) := by decide +kernel
theorem dX5_layBehind_79 : decode cX5_layBehind 79 = .ok (.ishl, 1) := by decide +kernel
theorem dX5_layBehind_80 : decode cX5_layBehind 80 = .ok (.ior, 1) := by decide +kernel
theorem dX5_layBehind_81 : decode cX5_layBehind 81 = .ok (.iastore, 1) := by decide +kernel
theorem dX5_layBehind_82 : decode cX5_layBehind 82 = .ok (.iinc 4 1, 3) := by decide +kernel
theorem dX5_layBehind_85 : decode cX5_layBehind 85 = .ok (.goto (-58), 3) := by decide +kernel
theorem dX5_layBehind_88 : decode cX5_layBehind 88 = .ok (.return_, 1) := by decide +kernel
theorem dX5_nextDigit_0 : decode cX5_nextDigit 0 = .ok (.iconst 0, 1) := by decide +kernel
theorem dX5_nextDigit_1 : decode cX5_nextDigit 1 = .ok (.istore_n 1, 1) := by decide +kernel
theorem dX5_nextDigit_2 : decode cX5_nextDigit 2 = .ok (.bipush 11, 2) := by decide +kernel
theorem dX5_nextDigit_4 : decode cX5_nextDigit 4 = .ok (.istore_n 2, 1) := by decide +kernel
theorem dX5_nextDigit_5 : decode cX5_nextDigit 5 = .ok (.iload_n 2, 1) := by decide +kernel
theorem dX5_nextDigit_6 : decode cX5_nextDigit 6 = .ok (.ifCond .lt 37, 3) := by decide +kernel
theorem dX5_nextDigit_9 : decode cX5_nextDigit 9 = .ok (.iload_n 1, 1) := by decide +kernel
theorem dX5_nextDigit_10 : decode cX5_nextDigit 10 = .ok (.bipush 10, 2) := by decide +kernel
theorem dX5_nextDigit_12 : decode cX5_nextDigit 12 = .ok (.aload_n 0, 1) := by decide +kernel
theorem dX5_nextDigit_13 : decode cX5_nextDigit 13 = .ok (.getfield 43, 3) := by decide +kernel
theorem dX5_nextDigit_16 : decode cX5_nextDigit 16 = .ok (.iload_n 2, 1) := by decide +kernel
theorem dX5_nextDigit_17 : decode cX5_nextDigit 17 = .ok (.iaload, 1) := by decide +kernel
theorem dX5_nextDigit_18 : decode cX5_nextDigit 18 = .ok (.imul, 1) := by decide +kernel
theorem dX5_nextDigit_19 : decode cX5_nextDigit 19 = .ok (.iadd, 1) := by decide +kernel
theorem dX5_nextDigit_20 : decode cX5_nextDigit 20 = .ok (.istore_n 1, 1) := by decide +kernel
theorem dX5_nextDigit_21 : decode cX5_nextDigit 21 = .ok (.aload_n 0, 1) := by decide +kernel
theorem dX5_nextDigit_22 : decode cX5_nextDigit 22 = .ok (.getfield 43, 3) := by decide +kernel
theorem dX5_nextDigit_25 : decode cX5_nextDigit 25 = .ok (.iload_n 2, 1) := by decide +kernel
theorem dX5_nextDigit_26 : decode cX5_nextDigit 26 = .ok (.iload_n 1, 1) := by decide +kernel
theorem dX5_nextDigit_27 : decode cX5_nextDigit 27 = .ok (.ldc_w 258, 3) := by decide +kernel
theorem dX5_nextDigit_30 : decode cX5_nextDigit 30 = .ok (.iand, 1) := by decide +kernel
theorem dX5_nextDigit_31 : decode cX5_nextDigit 31 = .ok (.iastore, 1) := by decide +kernel
theorem dX5_nextDigit_32 : decode cX5_nextDigit 32 = .ok (.iload_n 1, 1) := by decide +kernel
theorem dX5_nextDigit_33 : decode cX5_nextDigit 33 = .ok (.bipush 16, 2) := by decide +kernel
theorem dX5_nextDigit_35 : decode cX5_nextDigit 35 = .ok (.ishr, 1) := by decide +kernel
theorem dX5_nextDigit_36 : decode cX5_nextDigit 36 = .ok (.istore_n 1, 1) := by decide +kernel
theorem dX5_nextDigit_37 : decode cX5_nextDigit 37 = .ok (.iinc 2 (-1), 3) := by decide +kernel
theorem dX5_nextDigit_40 : decode cX5_nextDigit 40 = .ok (.goto (-35), 3) := by decide +kernel
theorem dX5_nextDigit_43 : decode cX5_nextDigit 43 = .ok (.iload_n 1, 1) := by decide +kernel
theorem dX5_nextDigit_44 : decode cX5_nextDigit 44 = .ok (.ireturn, 1) := by decide +kernel
theorem dX5_putName_0 : decode cX5_putName 0 = .ok (.aload_n 0, 1) := by decide +kernel
theorem dX5_putName_1 : decode cX5_putName 1 = .ok (.iload_n 1, 1) := by decide +kernel
theorem dX5_putName_2 : decode cX5_putName 2 = .ok (.invokevirtual 255, 3) := by decide +kernel
theorem dX5_putName_5 : decode cX5_putName 5 = .ok (.aload_n 0, 1) := by decide +kernel
theorem dX5_putName_6 : decode cX5_putName 6 = .ok (.iload_n 2, 1) := by decide +kernel
theorem dX5_putName_7 : decode cX5_putName 7 = .ok (.invokevirtual 255, 3) := by decide +kernel
theorem dX5_putName_10 : decode cX5_putName 10 = .ok (.aload_n 0, 1) := by decide +kernel
theorem dX5_putName_11 : decode cX5_putName 11 = .ok (.iload_n 3, 1) := by decide +kernel
theorem dX5_putName_12 : decode cX5_putName 12 = .ok (.invokevirtual 255, 3) := by decide +kernel
theorem dX5_putName_15 : decode cX5_putName 15 = .ok (.return_, 1) := by decide +kernel
theorem dX5_print_0 : decode cX5_print 0 = .ok (.iload_n 2, 1) := by decide +kernel
theorem dX5_print_1 : decode cX5_print 1 = .ok (.iconst 0, 1) := by decide +kernel
theorem dX5_print_2 : decode cX5_print 2 = .ok (.bipush 40, 2) := by decide +kernel
theorem dX5_print_4 : decode cX5_print 4 = .ok (.invokestatic 225, 3) := by decide +kernel
theorem dX5_print_7 : decode cX5_print 7 = .ok (.ifCond .ne 6, 3) := by decide +kernel
theorem dX5_print_10 : decode cX5_print 10 = .ok (.bipush (-102), 2) := by decide +kernel
theorem dX5_print_12 : decode cX5_print 12 = .ok (.ireturn, 1) := by decide +kernel
theorem dX5_print_13 : decode cX5_print 13 = .ok (.iload_n 1, 1) := by decide +kernel
theorem dX5_print_14 : decode cX5_print 14 = .ok (.invokestatic 217, 3) := by decide +kernel
theorem dX5_print_17 : decode cX5_print 17 = .ok (.lstore_n 3, 1) := by decide +kernel
theorem dX5_print_18 : decode cX5_print 18 = .ok (.aload_n 0, 1) := by decide +kernel
theorem dX5_print_19 : decode cX5_print 19 = .ok (.iconst 0, 1) := by decide +kernel
theorem dX5_print_20 : decode cX5_print 20 = .ok (.putfield 245, 3) := by decide +kernel
theorem dX5_print_23 : decode cX5_print 23 = .ok (.lload_n 3, 1) := by decide +kernel
theorem dX5_print_24 : decode cX5_print 24 = .ok (.iconst 0, 1) := by decide +kernel
theorem dX5_print_25 : decode cX5_print 25 = .ok (.invokestatic 102, 3) := by decide +kernel
theorem dX5_print_28 : decode cX5_print 28 = .ok (.ifCond .eq 18, 3) := by decide +kernel
theorem dX5_print_31 : decode cX5_print 31 = .ok (.aload_n 0, 1) := by decide +kernel
theorem dX5_print_32 : decode cX5_print 32 = .ok (.bipush 110, 2) := by decide +kernel
theorem dX5_print_34 : decode cX5_print 34 = .ok (.bipush 97, 2) := by decide +kernel
theorem dX5_print_36 : decode cX5_print 36 = .ok (.bipush 110, 2) := by decide +kernel
theorem dX5_print_38 : decode cX5_print 38 = .ok (.invokevirtual 259, 3) := by decide +kernel
theorem dX5_print_41 : decode cX5_print 41 = .ok (.aload_n 0, 1) := by decide +kernel
theorem dX5_print_42 : decode cX5_print 42 = .ok (.getfield 245, 3) := by decide +kernel
theorem dX5_print_45 : decode cX5_print 45 = .ok (.ireturn, 1) := by decide +kernel
theorem dX5_print_46 : decode cX5_print 46 = .ok (.lload_n 3, 1) := by decide +kernel
theorem dX5_print_47 : decode cX5_print 47 = .ok (.iconst 0, 1) := by decide +kernel
theorem dX5_print_48 : decode cX5_print 48 = .ok (.invokestatic 109, 3) := by decide +kernel
theorem dX5_print_51 : decode cX5_print 51 = .ok (.ifCond .eq 9, 3) := by decide +kernel
theorem dX5_print_54 : decode cX5_print 54 = .ok (.aload_n 0, 1) := by decide +kernel
theorem dX5_print_55 : decode cX5_print 55 = .ok (.bipush 45, 2) := by decide +kernel
theorem dX5_print_57 : decode cX5_print 57 = .ok (.invokevirtual 255, 3) := by decide +kernel
theorem dX5_print_60 : decode cX5_print 60 = .ok (.lload_n 3, 1) := by decide +kernel
theorem dX5_print_61 : decode cX5_print 61 = .ok (.iconst 0, 1) := by decide +kernel
theorem dX5_print_62 : decode cX5_print 62 = .ok (.invokestatic 112, 3) := by decide +kernel
theorem dX5_print_65 : decode cX5_print 65 = .ok (.ifCond .eq 18, 3) := by decide +kernel
theorem dX5_print_68 : decode cX5_print 68 = .ok (.aload_n 0, 1) := by decide +kernel
theorem dX5_print_69 : decode cX5_print 69 = .ok (.bipush 105, 2) := by decide +kernel
theorem dX5_print_71 : decode cX5_print 71 = .ok (.bipush 110, 2) := by decide +kernel
theorem dX5_print_73 : decode cX5_print 73 = .ok (.bipush 102, 2) := by decide +kernel
theorem dX5_print_75 : decode cX5_print 75 = .ok (.invokevirtual 259, 3) := by decide +kernel
theorem dX5_print_78 : decode cX5_print 78 = .ok (.aload_n 0, 1) := by decide +kernel
theorem dX5_print_79 : decode cX5_print 79 = .ok (.getfield 245, 3) := by decide +kernel
theorem dX5_print_82 : decode cX5_print 82 = .ok (.ireturn, 1) := by decide +kernel
theorem dX5_print_83 : decode cX5_print 83 = .ok (.aload_n 0, 1) := by decide +kernel
theorem dX5_print_84 : decode cX5_print 84 = .ok (.lload_n 3, 1) := by decide +kernel
theorem dX5_print_85 : decode cX5_print 85 = .ok (.iconst 0, 1) := by decide +kernel
theorem dX5_print_86 : decode cX5_print 86 = .ok (.invokestatic 118, 3) := by decide +kernel
theorem dX5_print_89 : decode cX5_print 89 = .ok (.lload_n 3, 1) := by decide +kernel
theorem dX5_print_90 : decode cX5_print 90 = .ok (.iconst 0, 1) := by decide +kernel
theorem dX5_print_91 : decode cX5_print 91 = .ok (.invokestatic 121, 3) := by decide +kernel
theorem dX5_print_94 : decode cX5_print 94 = .ok (.invokevirtual 263, 3) := by decide +kernel
theorem dX5_print_97 : decode cX5_print 97 = .ok (.iload_n 2, 1) := by decide +kernel
theorem dX5_print_98 : decode cX5_print 98 = .ok (.ifCond .le 9, 3) := by decide +kernel
theorem dX5_print_101 : decode cX5_print 101 = .ok (.aload_n 0, 1) := by decide +kernel
theorem dX5_print_102 : decode cX5_print 102 = .ok (.bipush 46, 2) := by decide +kernel
theorem dX5_print_104 : decode cX5_print 104 = .ok (.invokevirtual 255, 3) := by decide +kernel
theorem dX5_print_107 : decode cX5_print 107 = .ok (.aload_n 0, 1) := by decide +kernel
theorem dX5_print_108 : decode cX5_print 108 = .ok (.lload_n 3, 1) := by decide +kernel
theorem dX5_print_109 : decode cX5_print 109 = .ok (.iconst 0, 1) := by decide +kernel
theorem dX5_print_110 : decode cX5_print 110 = .ok (.invokestatic 118, 3) := by decide +kernel
theorem dX5_print_113 : decode cX5_print 113 = .ok (.lload_n 3, 1) := by decide +kernel
theorem dX5_print_114 : decode cX5_print 114 = .ok (.iconst 0, 1) := by decide +kernel
theorem dX5_print_115 : decode cX5_print 115 = .ok (.invokestatic 121, 3) := by decide +kernel
theorem dX5_print_118 : decode cX5_print 118 = .ok (.invokevirtual 267, 3) := by decide +kernel
theorem dX5_print_121 : decode cX5_print 121 = .ok (.iconst 0, 1) := by decide +kernel
theorem dX5_print_122 : decode cX5_print 122 = .ok (.istore 5, 2) := by decide +kernel
theorem dX5_print_124 : decode cX5_print 124 = .ok (.iload 5, 2) := by decide +kernel
theorem dX5_print_126 : decode cX5_print 126 = .ok (.iload_n 2, 1) := by decide +kernel
theorem dX5_print_127 : decode cX5_print 127 = .ok (.if_icmp .ge 20, 3) := by decide +kernel
theorem dX5_print_130 : decode cX5_print 130 = .ok (.aload_n 0, 1) := by decide +kernel
theorem dX5_print_131 : decode cX5_print 131 = .ok (.bipush 48, 2) := by decide +kernel
theorem dX5_print_133 : decode cX5_print 133 = .ok (.aload_n 0, 1) := by decide +kernel
theorem dX5_print_134 : decode cX5_print 134 = .ok (.invokevirtual 270, 3) := by decide +kernel
theorem dX5_print_137 : decode cX5_print 137 = .ok (.iadd, 1) := by decide +kernel
theorem dX5_print_138 : decode cX5_print 138 = .ok (.invokevirtual 255, 3) := by decide +kernel
theorem dX5_print_141 : decode cX5_print 141 = .ok (.iinc 5 1, 3) := by decide +kernel
theorem dX5_print_144 : decode cX5_print 144 = .ok (.goto (-20), 3) := by decide +kernel
theorem dX5_print_147 : decode cX5_print 147 = .ok (.aload_n 0, 1) := by decide +kernel
theorem dX5_print_148 : decode cX5_print 148 = .ok (.getfield 245, 3) := by decide +kernel
theorem dX5_print_151 : decode cX5_print 151 = .ok (.ireturn, 1) := by decide +kernel
theorem dX5_at_0 : decode cX5_at 0 = .ok (.iload_n 1, 1) := by decide +kernel
theorem dX5_at_1 : decode cX5_at 1 = .ok (.iconst 0, 1) := by decide +kernel
theorem dX5_at_2 : decode cX5_at 2 = .ok (.aload_n 0, 1) := by decide +kernel
theorem dX5_at_3 : decode cX5_at 3 = .ok (.getfield 245, 3) := by decide +kernel
theorem dX5_at_6 : decode cX5_at 6 = .ok (.iconst 1, 1) := by decide +kernel
theorem dX5_at_7 : decode cX5_at 7 = .ok (.isub, 1) := by decide +kernel
theorem dX5_at_8 : decode cX5_at 8 = .ok (.invokestatic 225, 3) := by decide +kernel
theorem dX5_at_11 : decode cX5_at 11 = .ok (.ifCond .eq 12, 3) := by decide +kernel
theorem dX5_at_14 : decode cX5_at 14 = .ok (.aload_n 0, 1) := by decide +kernel
theorem dX5_at_15 : decode cX5_at 15 = .ok (.getfield 36, 3) := by decide +kernel
theorem dX5_at_18 : decode cX5_at 18 = .ok (.iload_n 1, 1) := by decide +kernel
theorem dX5_at_19 : decode cX5_at 19 = .ok (.baload, 1) := by decide +kernel
theorem dX5_at_20 : decode cX5_at 20 = .ok (.goto 5, 3) := by decide +kernel
theorem dX5_at_23 : decode cX5_at 23 = .ok (.bipush (-109), 2) := by decide +kernel
theorem dX5_at_25 : decode cX5_at 25 = .ok (.ireturn, 1) := by decide +kernel
theorem dX5_set_0 : decode cX5_set 0 = .ok (.aload_n 0, 1) := by decide +kernel
theorem dX5_set_1 : decode cX5_set 1 = .ok (.iload_n 1, 1) := by decide +kernel
theorem dX5_set_2 : decode cX5_set 2 = .ok (.iconst 0, 1) := by decide +kernel
theorem dX5_set_3 : decode cX5_set 3 = .ok (.bipush 15, 2) := by decide +kernel
theorem dX5_set_5 : decode cX5_set 5 = .ok (.invokestatic 225, 3) := by decide +kernel
theorem dX5_set_8 : decode cX5_set 8 = .ok (.ifCond .ne 7, 3) := by decide +kernel
theorem dX5_set_11 : decode cX5_set 11 = .ok (.iconst 1, 1) := by decide +kernel
theorem dX5_set_12 : decode cX5_set 12 = .ok (.goto 4, 3) := by decide +kernel
theorem dX5_set_15 : decode cX5_set 15 = .ok (.iconst 0, 1) := by decide +kernel
theorem dX5_set_16 : decode cX5_set 16 = .ok (.invokevirtual 229, 3) := by decide +kernel
theorem dX5_set_19 : decode cX5_set 19 = .ok (.ifCond .le 5, 3) := by decide +kernel
theorem dX5_set_22 : decode cX5_set 22 = .ok (.iconst 0, 1) := by decide +kernel
theorem dX5_set_23 : decode cX5_set 23 = .ok (.ireturn, 1) := by decide +kernel
theorem dX5_set_24 : decode cX5_set 24 = .ok (.aload_n 0, 1) := by decide +kernel
theorem dX5_set_25 : decode cX5_set 25 = .ok (.getfield 7, 3) := by decide +kernel
theorem dX5_set_28 : decode cX5_set 28 = .ok (.iload_n 1, 1) := by decide +kernel
theorem dX5_set_29 : decode cX5_set 29 = .ok (.iaload, 1) := by decide +kernel
theorem dX5_set_30 : decode cX5_set 30 = .ok (.istore_n 3, 1) := by decide +kernel
theorem dX5_set_31 : decode cX5_set 31 = .ok (.aload_n 0, 1) := by decide +kernel
theorem dX5_set_32 : decode cX5_set 32 = .ok (.getfield 7, 3) := by decide +kernel
theorem dX5_set_35 : decode cX5_set 35 = .ok (.iload_n 1, 1) := by decide +kernel
theorem dX5_set_36 : decode cX5_set 36 = .ok (.iload_n 2, 1) := by decide +kernel
theorem dX5_set_37 : decode cX5_set 37 = .ok (.iastore, 1) := by decide +kernel
theorem dX5_set_38 : decode cX5_set 38 = .ok (.iload_n 3, 1) := by decide +kernel
theorem dX5_set_39 : decode cX5_set 39 = .ok (.ireturn, 1) := by decide +kernel
theorem dX5_word_0 : decode cX5_word 0 = .ok (.aload_n 0, 1) := by decide +kernel
theorem dX5_word_1 : decode cX5_word 1 = .ok (.iload_n 1, 1) := by decide +kernel
theorem dX5_word_2 : decode cX5_word 2 = .ok (.iconst 0, 1) := by decide +kernel
theorem dX5_word_3 : decode cX5_word 3 = .ok (.bipush 15, 2) := by decide +kernel
theorem dX5_word_5 : decode cX5_word 5 = .ok (.invokestatic 225, 3) := by decide +kernel
theorem dX5_word_8 : decode cX5_word 8 = .ok (.ifCond .ne 7, 3) := by decide +kernel
theorem dX5_word_11 : decode cX5_word 11 = .ok (.iconst 1, 1) := by decide +kernel
theorem dX5_word_12 : decode cX5_word 12 = .ok (.goto 4, 3) := by decide +kernel
theorem dX5_word_15 : decode cX5_word 15 = .ok (.iconst 0, 1) := by decide +kernel
theorem dX5_word_16 : decode cX5_word 16 = .ok (.invokevirtual 229, 3) := by decide +kernel
theorem dX5_word_19 : decode cX5_word 19 = .ok (.ifCond .le 7, 3) := by decide +kernel
theorem dX5_word_22 : decode cX5_word 22 = .ok (.iconst 0, 1) := by decide +kernel
theorem dX5_word_23 : decode cX5_word 23 = .ok (.goto 9, 3) := by decide +kernel
theorem dX5_word_26 : decode cX5_word 26 = .ok (.aload_n 0, 1) := by decide +kernel
theorem dX5_word_27 : decode cX5_word 27 = .ok (.getfield 7, 3) := by decide +kernel
theorem dX5_word_30 : decode cX5_word 30 = .ok (.iload_n 1, 1) := by decide +kernel
theorem dX5_word_31 : decode cX5_word 31 = .ok (.iaload, 1) := by decide +kernel
theorem dX5_word_32 : decode cX5_word 32 = .ok (.ireturn, 1) := by decide +kernel
theorem dX5_step_0 : decode cX5_step 0 = .ok (.iload_n 1, 1) := by decide +kernel
theorem dX5_step_1 : decode cX5_step 1 = .ok (.iconst 0, 1) := by decide +kernel
theorem dX5_step_2 : decode cX5_step 2 = .ok (.bipush 23, 2) := by decide +kernel
theorem dX5_step_4 : decode cX5_step 4 = .ok (.invokestatic 225, 3) := by decide +kernel
theorem dX5_step_7 : decode cX5_step 7 = .ok (.istore 6, 2) := by decide +kernel
theorem dX5_step_9 : decode cX5_step 9 = .ok (.iload_n 1, 1) := by decide +kernel
theorem dX5_step_10 : decode cX5_step 10 = .ok (.bipush 30, 2) := by decide +kernel
theorem dX5_step_12 : decode cX5_step 12 = .ok (.bipush 37, 2) := by decide +kernel
theorem dX5_step_14 : decode cX5_step 14 = .ok (.invokestatic 225, 3) := by decide +kernel
theorem dX5_step_17 : decode cX5_step 17 = .ok (.istore 7, 2) := by decide +kernel
theorem dX5_step_19 : decode cX5_step 19 = .ok (.iload 6, 2) := by decide +kernel
theorem dX5_step_21 : decode cX5_step 21 = .ok (.ifCond .ne 19, 3) := by decide +kernel
theorem dX5_step_24 : decode cX5_step 24 = .ok (.iload 7, 2) := by decide +kernel
theorem dX5_step_26 : decode cX5_step 26 = .ok (.ifCond .ne 14, 3) := by decide +kernel
theorem dX5_step_29 : decode cX5_step 29 = .ok (.iload_n 1, 1) := by decide +kernel
theorem dX5_step_30 : decode cX5_step 30 = .ok (.bipush 40, 2) := by decide +kernel
theorem dX5_step_32 : decode cX5_step 32 = .ok (.bipush 43, 2) := by decide +kernel
theorem dX5_step_34 : decode cX5_step 34 = .ok (.invokestatic 225, 3) := by decide +kernel
theorem dX5_step_37 : decode cX5_step 37 = .ok (.ifCond .eq 7, 3) := by decide +kernel
theorem dX5_step_40 : decode cX5_step 40 = .ok (.iconst 1, 1) := by decide +kernel
theorem dX5_step_41 : decode cX5_step 41 = .ok (.goto 4, 3) := by decide +kernel
theorem dX5_step_44 : decode cX5_step 44 = .ok (.iconst 0, 1) := by decide +kernel
theorem dX5_step_45 : decode cX5_step 45 = .ok (.istore 8, 2) := by decide +kernel
theorem dX5_step_47 : decode cX5_step 47 = .ok (.iload 8, 2) := by decide +kernel
theorem dX5_step_49 : decode cX5_step 49 = .ok (.ifCond .eq 39, 3) := by decide +kernel
theorem dX5_step_52 : decode cX5_step 52 = .ok (.iload_n 1, 1) := by decide +kernel
theorem dX5_step_53 : decode cX5_step 53 = .ok (.bipush 40, 2) := by decide +kernel
theorem dX5_step_55 : decode cX5_step 55 = .ok (.if_icmp .eq 29, 3) := by decide +kernel
theorem dX5_step_58 : decode cX5_step 58 = .ok (.iload_n 2, 1) := by decide +kernel
theorem dX5_step_59 : decode cX5_step 59 = .ok (.iconst 0, 1) := by decide +kernel
theorem dX5_step_60 : decode cX5_step 60 = .ok (.iload 7, 2) := by decide +kernel
theorem dX5_step_62 : decode cX5_step 62 = .ok (.ifCond .ne 9, 3) := by decide +kernel
theorem dX5_step_65 : decode cX5_step 65 = .ok (.iload_n 1, 1) := by decide +kernel
theorem dX5_step_66 : decode cX5_step 66 = .ok (.bipush 43, 2) := by decide +kernel
theorem dX5_step_68 : decode cX5_step 68 = .ok (.if_icmp .ne 8, 3) := by decide +kernel
theorem dX5_step_71 : decode cX5_step 71 = .ok (.bipush 39, 2) := by decide +kernel
theorem dX5_step_73 : decode cX5_step 73 = .ok (.goto 5, 3) := by decide +kernel
theorem dX5_step_76 : decode cX5_step 76 = .ok (.bipush 15, 2) := by decide +kernel
theorem dX5_step_78 : decode cX5_step 78 = .ok (.invokestatic 225, 3) := by decide +kernel
theorem dX5_step_81 : decode cX5_step 81 = .ok (.ifCond .eq 7, 3) := by decide +kernel
theorem dX5_step_84 : decode cX5_step 84 = .ok (.iconst 1, 1) := by decide +kernel
theorem dX5_step_85 : decode cX5_step 85 = .ok (.goto 4, 3) := by decide +kernel
theorem dX5_step_88 : decode cX5_step 88 = .ok (.iconst 0, 1) := by decide +kernel
theorem dX5_step_89 : decode cX5_step 89 = .ok (.istore 8, 2) := by decide +kernel
theorem dX5_step_91 : decode cX5_step 91 = .ok (.iload 8, 2) := by decide +kernel
theorem dX5_step_93 : decode cX5_step 93 = .ok (.ifCond .eq 35, 3) := by decide +kernel
theorem dX5_step_96 : decode cX5_step 96 = .ok (.iload_n 1, 1) := by decide +kernel
theorem dX5_step_97 : decode cX5_step 97 = .ok (.bipush 40, 2) := by decide +kernel
theorem dX5_step_99 : decode cX5_step 99 = .ok (.if_icmp .eq 25, 3) := by decide +kernel
theorem dX5_step_102 : decode cX5_step 102 = .ok (.iload_n 1, 1) := by decide +kernel
theorem dX5_step_103 : decode cX5_step 103 = .ok (.bipush 41, 2) := by decide +kernel
theorem dX5_step_105 : decode cX5_step 105 = .ok (.if_icmp .eq 19, 3) := by decide +kernel
theorem dX5_step_108 : decode cX5_step 108 = .ok (.iload_n 1, 1) := by decide +kernel
theorem dX5_step_109 : decode cX5_step 109 = .ok (.bipush 43, 2) := by decide +kernel
theorem dX5_step_111 : decode cX5_step 111 = .ok (.if_icmp .eq 13, 3) := by decide +kernel
theorem dX5_step_114 : decode cX5_step 114 = .ok (.iload_n 3, 1) := by decide +kernel
theorem dX5_step_115 : decode cX5_step 115 = .ok (.iconst 0, 1) := by decide +kernel
theorem dX5_step_116 : decode cX5_step 116 = .ok (.bipush 15, 2) := by decide +kernel
theorem dX5_step_118 : decode cX5_step 118 = .ok (.invokestatic 225, 3) := by decide +kernel
theorem dX5_step_121 : decode cX5_step 121 = .ok (.ifCond .eq 7, 3) := by decide +kernel
theorem dX5_step_124 : decode cX5_step 124 = .ok (.iconst 1, 1) := by decide +kernel
theorem dX5_step_125 : decode cX5_step 125 = .ok (.goto 4, 3) := by decide +kernel
theorem dX5_step_128 : decode cX5_step 128 = .ok (.iconst 0, 1) := by decide +kernel
theorem dX5_step_129 : decode cX5_step 129 = .ok (.istore 8, 2) := by decide +kernel
theorem dX5_step_131 : decode cX5_step 131 = .ok (.iload 8, 2) := by decide +kernel
theorem dX5_step_133 : decode cX5_step 133 = .ok (.ifCond .eq 36, 3) := by decide +kernel
theorem dX5_step_136 : decode cX5_step 136 = .ok (.iload_n 1, 1) := by decide +kernel
theorem dX5_step_137 : decode cX5_step 137 = .ok (.bipush 40, 2) := by decide +kernel
theorem dX5_step_139 : decode cX5_step 139 = .ok (.if_icmp .eq 26, 3) := by decide +kernel
theorem dX5_step_142 : decode cX5_step 142 = .ok (.iload_n 1, 1) := by decide +kernel
theorem dX5_step_143 : decode cX5_step 143 = .ok (.bipush 41, 2) := by decide +kernel
theorem dX5_step_145 : decode cX5_step 145 = .ok (.if_icmp .eq 20, 3) := by decide +kernel
theorem dX5_step_148 : decode cX5_step 148 = .ok (.iload_n 1, 1) := by decide +kernel
theorem dX5_step_149 : decode cX5_step 149 = .ok (.bipush 43, 2) := by decide +kernel
theorem dX5_step_151 : decode cX5_step 151 = .ok (.if_icmp .eq 14, 3) := by decide +kernel
theorem dX5_step_154 : decode cX5_step 154 = .ok (.iload 4, 2) := by decide +kernel
theorem dX5_step_156 : decode cX5_step 156 = .ok (.iconst 0, 1) := by decide +kernel
theorem dX5_step_157 : decode cX5_step 157 = .ok (.bipush 15, 2) := by decide +kernel
theorem dX5_step_159 : decode cX5_step 159 = .ok (.invokestatic 225, 3) := by decide +kernel
theorem dX5_step_162 : decode cX5_step 162 = .ok (.ifCond .eq 7, 3) := by decide +kernel
theorem dX5_step_165 : decode cX5_step 165 = .ok (.iconst 1, 1) := by decide +kernel
theorem dX5_step_166 : decode cX5_step 166 = .ok (.goto 4, 3) := by decide +kernel
theorem dX5_step_169 : decode cX5_step 169 = .ok (.iconst 0, 1) := by decide +kernel
theorem dX5_step_170 : decode cX5_step 170 = .ok (.istore 8, 2) := by decide +kernel
theorem dX5_step_172 : decode cX5_step 172 = .ok (.iload 8, 2) := by decide +kernel
theorem dX5_step_174 : decode cX5_step 174 = .ok (.ifCond .eq 29, 3) := by decide +kernel
theorem dX5_step_177 : decode cX5_step 177 = .ok (.iload_n 1, 1) := by decide +kernel
theorem dX5_step_178 : decode cX5_step 178 = .ok (.bipush 40, 2) := by decide +kernel
theorem dX5_step_180 : decode cX5_step 180 = .ok (.bipush 43, 2) := by decide +kernel
theorem dX5_step_182 : decode cX5_step 182 = .ok (.invokestatic 225, 3) := by decide +kernel
theorem dX5_step_185 : decode cX5_step 185 = .ok (.ifCond .ne 14, 3) := by decide +kernel
theorem dX5_step_188 : decode cX5_step 188 = .ok (.iload 5, 2) := by decide +kernel
theorem dX5_step_190 : decode cX5_step 190 = .ok (.iconst 0, 1) := by decide +kernel
theorem dX5_step_191 : decode cX5_step 191 = .ok (.bipush 15, 2) := by decide +kernel
theorem dX5_step_193 : decode cX5_step 193 = .ok (.invokestatic 225, 3) := by decide +kernel
theorem dX5_step_196 : decode cX5_step 196 = .ok (.ifCond .eq 7, 3) := by decide +kernel
theorem dX5_step_199 : decode cX5_step 199 = .ok (.iconst 1, 1) := by decide +kernel
theorem dX5_step_200 : decode cX5_step 200 = .ok (.goto 4, 3) := by decide +kernel
theorem dX5_step_203 : decode cX5_step 203 = .ok (.iconst 0, 1) := by decide +kernel
theorem dX5_step_204 : decode cX5_step 204 = .ok (.istore 8, 2) := by decide +kernel
theorem dX5_step_206 : decode cX5_step 206 = .ok (.iload 8, 2) := by decide +kernel
theorem dX5_step_208 : decode cX5_step 208 = .ok (.ifCond .ne 6, 3) := by decide +kernel
theorem dX5_step_211 : decode cX5_step 211 = .ok (.bipush (-102), 2) := by decide +kernel
theorem dX5_step_213 : decode cX5_step 213 = .ok (.ireturn, 1) := by decide +kernel
theorem dX5_step_214 : decode cX5_step 214 = .ok (.aload_n 0, 1) := by decide +kernel
theorem dX5_step_215 : decode cX5_step 215 = .ok (.getfield 274, 3) := by decide +kernel
theorem dX5_step_218 : decode cX5_step 218 = .ok (.bipush 40, 2) := by decide +kernel
theorem dX5_step_220 : decode cX5_step 220 = .ok (.if_icmp .ne 6, 3) := by decide +kernel
theorem dX5_step_223 : decode cX5_step 223 = .ok (.bipush (-104), 2) := by decide +kernel
theorem dX5_step_225 : decode cX5_step 225 = .ok (.ireturn, 1) := by decide +kernel
theorem dX5_step_226 : decode cX5_step 226 = .ok (.aload_n 0, 1) := by decide +kernel
theorem dX5_step_227 : decode cX5_step 227 = .ok (.getfield 13, 3) := by decide +kernel
theorem dX5_step_230 : decode cX5_step 230 = .ok (.aload_n 0, 1) := by decide +kernel
theorem dX5_step_231 : decode cX5_step 231 = .ok (.getfield 274, 3) := by decide +kernel
theorem dX5_step_234 : decode cX5_step 234 = .ok (.iload_n 1, 1) := by decide +kernel
theorem dX5_step_235 : decode cX5_step 235 = .ok (.iastore, 1) := by decide +kernel
theorem dX5_step_236 : decode cX5_step 236 = .ok (.aload_n 0, 1) := by decide +kernel
theorem dX5_step_237 : decode cX5_step 237 = .ok (.getfield 16, 3) := by decide +kernel
theorem dX5_step_240 : decode cX5_step 240 = .ok (.aload_n 0, 1) := by decide +kernel
theorem dX5_step_241 : decode cX5_step 241 = .ok (.getfield 274, 3) := by decide +kernel
theorem dX5_step_244 : decode cX5_step 244 = .ok (.iload_n 2, 1) := by decide +kernel
theorem dX5_step_245 : decode cX5_step 245 = .ok (.iastore, 1) := by decide +kernel
theorem dX5_step_246 : decode cX5_step 246 = .ok (.aload_n 0, 1) := by decide +kernel
theorem dX5_step_247 : decode cX5_step 247 = .ok (.getfield 19, 3) := by decide +kernel
theorem dX5_step_250 : decode cX5_step 250 = .ok (.aload_n 0, 1) := by decide +kernel
theorem dX5_step_251 : decode cX5_step 251 = .ok (.getfield 274, 3) := by decide +kernel
theorem dX5_step_254 : decode cX5_step 254 = .ok (.iload_n 3, 1) := by decide +kernel
theorem dX5_step_255 : decode cX5_step 255 = .ok (.iastore, 1) := by decide +kernel
theorem dX5_step_256 : decode cX5_step 256 = .ok (.aload_n 0, 1) := by decide +kernel
theorem dX5_step_257 : decode cX5_step 257 = .ok (.getfield 22, 3) := by decide +kernel
theorem dX5_step_260 : decode cX5_step 260 = .ok (.aload_n 0, 1) := by decide +kernel
theorem dX5_step_261 : decode cX5_step 261 = .ok (.getfield 274, 3) := by decide +kernel
theorem dX5_step_264 : decode cX5_step 264 = .ok (.iload 4, 2) := by decide +kernel
theorem dX5_step_266 : decode cX5_step 266 = .ok (.iastore, 1) := by decide +kernel
theorem dX5_step_267 : decode cX5_step 267 = .ok (.aload_n 0, 1) := by decide +kernel
theorem dX5_step_268 : decode cX5_step 268 = .ok (.getfield 25, 3) := by decide +kernel
theorem dX5_step_271 : decode cX5_step 271 = .ok (.aload_n 0, 1) := by decide +kernel
theorem dX5_step_272 : decode cX5_step 272 = .ok (.getfield 274, 3) := by decide +kernel
theorem dX5_step_275 : decode cX5_step 275 = .ok (.iload 5, 2) := by decide +kernel
theorem dX5_step_277 : decode cX5_step 277 = .ok (.iastore, 1) := by decide +kernel
theorem dX5_step_278 : decode cX5_step 278 = .ok (.aload_n 0, 1) := by decide +kernel
theorem dX5_step_279 : decode cX5_step 279 = .ok (.dup, 1) := by decide +kernel
theorem dX5_step_280 : decode cX5_step 280 = .ok (.getfield 274, 3) := by decide +kernel
theorem dX5_step_283 : decode cX5_step 283 = .ok (.iconst 1, 1) := by decide +kernel
theorem dX5_step_284 : decode cX5_step 284 = .ok (.iadd, 1) := by decide +kernel
theorem dX5_step_285 : decode cX5_step 285 = .ok (.putfield 274, 3) := by decide +kernel
theorem dX5_step_288 : decode cX5_step 288 = .ok (.aload_n 0, 1) := by decide +kernel
theorem dX5_step_289 : decode cX5_step 289 = .ok (.getfield 274, 3) := by decide +kernel
theorem dX5_step_292 : decode cX5_step 292 = .ok (.ireturn, 1) := by decide +kernel
theorem dX5_drop_0 : decode cX5_drop 0 = .ok (.aload_n 0, 1) := by decide +kernel
theorem dX5_drop_1 : decode cX5_drop 1 = .ok (.getfield 274, 3) := by decide +kernel
theorem dX5_drop_4 : decode cX5_drop 4 = .ok (.istore_n 1, 1) := by decide +kernel
theorem dX5_drop_5 : decode cX5_drop 5 = .ok (.aload_n 0, 1) := by decide +kernel
theorem dX5_drop_6 : decode cX5_drop 6 = .ok (.iconst 0, 1) := by decide +kernel
theorem dX5_drop_7 : decode cX5_drop 7 = .ok (.putfield 274, 3) := by decide +kernel
theorem dX5_drop_10 : decode cX5_drop 10 = .ok (.iload_n 1, 1) := by decide +kernel
theorem dX5_drop_11 : decode cX5_drop 11 = .ok (.ireturn, 1) := by decide +kernel
theorem dX5_done_0 : decode cX5_done 0 = .ok (.aload_n 0, 1) := by decide +kernel
theorem dX5_done_1 : decode cX5_done 1 = .ok (.getfield 13, 3) := by decide +kernel
theorem dX5_done_4 : decode cX5_done 4 = .ok (.iload_n 1, 1) := by decide +kernel
theorem dX5_done_5 : decode cX5_done 5 = .ok (.iaload, 1) := by decide +kernel
theorem dX5_done_6 : decode cX5_done 6 = .ok (.istore_n 2, 1) := by decide +kernel
theorem dX5_done_7 : decode cX5_done 7 = .ok (.iload_n 2, 1) := by decide +kernel
theorem dX5_done_8 : decode cX5_done 8 = .ok (.bipush 40, 2) := by decide +kernel
theorem dX5_done_10 : decode cX5_done 10 = .ok (.if_icmp .ne 6, 3) := by decide +kernel
theorem dX5_done_13 : decode cX5_done 13 = .ok (.bipush (-109), 2) := by decide +kernel
theorem dX5_done_15 : decode cX5_done 15 = .ok (.ireturn, 1) := by decide +kernel
theorem dX5_done_16 : decode cX5_done 16 = .ok (.iload_n 2, 1) := by decide +kernel
theorem dX5_done_17 : decode cX5_done 17 = .ok (.bipush 43, 2) := by decide +kernel
theorem dX5_done_19 : decode cX5_done 19 = .ok (.if_icmp .ne 10, 3) := by decide +kernel
theorem dX5_done_22 : decode cX5_done 22 = .ok (.aload_n 0, 1) := by decide +kernel
theorem dX5_done_23 : decode cX5_done 23 = .ok (.getfield 16, 3) := by decide +kernel
theorem dX5_done_26 : decode cX5_done 26 = .ok (.iload_n 1, 1) := by decide +kernel
theorem dX5_done_27 : decode cX5_done 27 = .ok (.iaload, 1) := by decide +kernel
theorem dX5_done_28 : decode cX5_done 28 = .ok (.ireturn, 1) := by decide +kernel
theorem dX5_done_29 : decode cX5_done 29 = .ok (.iload_n 2, 1) := by decide +kernel
theorem dX5_done_30 : decode cX5_done 30 = .ok (.bipush 41, 2) := by decide +kernel
theorem dX5_done_32 : decode cX5_done 32 = .ok (.if_icmp .ne 23, 3) := by decide +kernel
theorem dX5_done_35 : decode cX5_done 35 = .ok (.aload_n 0, 1) := by decide +kernel
theorem dX5_done_36 : decode cX5_done 36 = .ok (.getfield 7, 3) := by decide +kernel
theorem dX5_done_39 : decode cX5_done 39 = .ok (.aload_n 0, 1) := by decide +kernel
theorem dX5_done_40 : decode cX5_done 40 = .ok (.getfield 16, 3) := by decide +kernel
theorem dX5_done_43 : decode cX5_done 43 = .ok (.iload_n 1, 1) := by decide +kernel
theorem dX5_done_44 : decode cX5_done 44 = .ok (.iaload, 1) := by decide +kernel
theorem dX5_done_45 : decode cX5_done 45 = .ok (.aload_n 0, 1) := by decide +kernel
theorem dX5_done_46 : decode cX5_done 46 = .ok (.getfield 19, 3) := by decide +kernel
theorem dX5_done_49 : decode cX5_done 49 = .ok (.iload_n 1, 1) := by decide +kernel
theorem dX5_done_50 : decode cX5_done 50 = .ok (.iaload, 1) := by decide +kernel
theorem dX5_done_51 : decode cX5_done 51 = .ok (.iastore, 1) := by decide +kernel
theorem dX5_done_52 : decode cX5_done 52 = .ok (.goto 165, 3) := by decide +kernel
theorem dX5_done_55 : decode cX5_done 55 = .ok (.iload_n 2, 1) := by decide +kernel
theorem dX5_done_56 : decode cX5_done 56 = .ok (.bipush 42, 2) := by decide +kernel
theorem dX5_done_58 : decode cX5_done 58 = .ok (.if_icmp .ne 40, 3) := by decide +kernel
theorem dX5_done_61 : decode cX5_done 61 = .ok (.aload_n 0, 1) := by decide +kernel
theorem dX5_done_62 : decode cX5_done 62 = .ok (.getfield 7, 3) := by decide +kernel
theorem dX5_done_65 : decode cX5_done 65 = .ok (.aload_n 0, 1) := by decide +kernel
theorem dX5_done_66 : decode cX5_done 66 = .ok (.getfield 16, 3) := by decide +kernel
theorem dX5_done_69 : decode cX5_done 69 = .ok (.iload_n 1, 1) := by decide +kernel
theorem dX5_done_70 : decode cX5_done 70 = .ok (.iaload, 1) := by decide +kernel
theorem dX5_done_71 : decode cX5_done 71 = .ok (.aload_n 0, 1) := by decide +kernel
theorem dX5_done_72 : decode cX5_done 72 = .ok (.getfield 7, 3) := by decide +kernel
theorem dX5_done_75 : decode cX5_done 75 = .ok (.aload_n 0, 1) := by decide +kernel
theorem dX5_done_76 : decode cX5_done 76 = .ok (.getfield 19, 3) := by decide +kernel
theorem dX5_done_79 : decode cX5_done 79 = .ok (.iload_n 1, 1) := by decide +kernel
theorem dX5_done_80 : decode cX5_done 80 = .ok (.iaload, 1) := by decide +kernel
theorem dX5_done_81 : decode cX5_done 81 = .ok (.iaload, 1) := by decide +kernel
theorem dX5_done_82 : decode cX5_done 82 = .ok (.aload_n 0, 1) := by decide +kernel
theorem dX5_done_83 : decode cX5_done 83 = .ok (.getfield 7, 3) := by decide +kernel
theorem dX5_done_86 : decode cX5_done 86 = .ok (.aload_n 0, 1) := by decide +kernel
theorem dX5_done_87 : decode cX5_done 87 = .ok (.getfield 22, 3) := by decide +kernel
theorem dX5_done_90 : decode cX5_done 90 = .ok (.iload_n 1, 1) := by decide +kernel
theorem dX5_done_91 : decode cX5_done 91 = .ok (.iaload, 1) := by decide +kernel
theorem dX5_done_92 : decode cX5_done 92 = .ok (.iaload, 1) := by decide +kernel
theorem dX5_done_93 : decode cX5_done 93 = .ok (.iadd, 1) := by decide +kernel
theorem dX5_done_94 : decode cX5_done 94 = .ok (.iastore, 1) := by decide +kernel
theorem dX5_done_95 : decode cX5_done 95 = .ok (.goto 122, 3) := by decide +kernel
theorem dX5_done_98 : decode cX5_done 98 = .ok (.iload_n 2, 1) := by decide +kernel
theorem dX5_done_99 : decode cX5_done 99 = .ok (.bipush 24, 2) := by decide +kernel
theorem dX5_done_101 : decode cX5_done 101 = .ok (.if_icmp .ge 55, 3) := by decide +kernel
theorem dX5_done_104 : decode cX5_done 104 = .ok (.aload_n 0, 1) := by decide +kernel
theorem dX5_done_105 : decode cX5_done 105 = .ok (.getfield 7, 3) := by decide +kernel
theorem dX5_done_108 : decode cX5_done 108 = .ok (.aload_n 0, 1) := by decide +kernel
theorem dX5_done_109 : decode cX5_done 109 = .ok (.getfield 16, 3) := by decide +kernel
theorem dX5_done_112 : decode cX5_done 112 = .ok (.iload_n 1, 1) := by decide +kernel
theorem dX5_done_113 : decode cX5_done 113 = .ok (.iaload, 1) := by decide +kernel
theorem dX5_done_114 : decode cX5_done 114 = .ok (.aload_n 0, 1) := by decide +kernel
theorem dX5_done_115 : decode cX5_done 115 = .ok (.iload_n 2, 1) := by decide +kernel
theorem dX5_done_116 : decode cX5_done 116 = .ok (.aload_n 0, 1) := by decide +kernel
theorem dX5_done_117 : decode cX5_done 117 = .ok (.getfield 7, 3) := by decide +kernel
theorem dX5_done_120 : decode cX5_done 120 = .ok (.aload_n 0, 1) := by decide +kernel
theorem dX5_done_121 : decode cX5_done 121 = .ok (.getfield 19, 3) := by decide +kernel
theorem dX5_done_124 : decode cX5_done 124 = .ok (.iload_n 1, 1) := by decide +kernel
