theorem dX2_product_78 : decode cX2_product 78 = .ok (.aload_n 0, 1) := by decide +kernel
theorem dX2_product_79 : decode cX2_product 79 = .ok (.lload_n 1, 1) := by decide +kernel
theorem dX2_product_80 : decode cX2_product 80 = .ok (.invokevirtual 139, 3) := by decide +kernel
theorem dX2_product_83 : decode cX2_product 83 = .ok (.ifCond .ne 11, 3) := by decide +kernel
theorem dX2_product_86 : decode cX2_product 86 = .ok (.aload_n 0, 1) := by decide +kernel
theorem dX2_product_87 : decode cX2_product 87 = .ok (.lload_n 3, 1) := by decide +kernel
theorem dX2_product_88 : decode cX2_product 88 = .ok (.invokevirtual 139, 3) := by decide +kernel
theorem dX2_product_91 : decode cX2_product 91 = .ok (.ifCond .eq 6, 3) := by decide +kernel
theorem dX2_product_94 : decode cX2_product 94 = .ok (.lload 5, 2) := by decide +kernel
theorem dX2_product_96 : decode cX2_product 96 = .ok (.lreturn, 1) := by decide +kernel
theorem dX2_product_97 : decode cX2_product 97 = .ok (.aload_n 0, 1) := by decide +kernel
theorem dX2_product_98 : decode cX2_product 98 = .ok (.lload_n 1, 1) := by decide +kernel
theorem dX2_product_99 : decode cX2_product 99 = .ok (.invokevirtual 145, 3) := by decide +kernel
theorem dX2_product_102 : decode cX2_product 102 = .ok (.lstore 7, 2) := by decide +kernel
theorem dX2_product_104 : decode cX2_product 104 = .ok (.aload_n 0, 1) := by decide +kernel
theorem dX2_product_105 : decode cX2_product 105 = .ok (.lload_n 3, 1) := by decide +kernel
theorem dX2_product_106 : decode cX2_product 106 = .ok (.invokevirtual 145, 3) := by decide +kernel
theorem dX2_product_109 : decode cX2_product 109 = .ok (.lstore 9, 2) := by decide +kernel
theorem dX2_product_111 : decode cX2_product 111 = .ok (.lload 7, 2) := by decide +kernel
theorem dX2_product_113 : decode cX2_product 113 = .ok (.invokestatic 160, 3) := by decide +kernel
theorem dX2_product_116 : decode cX2_product 116 = .ok (.istore 11, 2) := by decide +kernel
theorem dX2_product_118 : decode cX2_product 118 = .ok (.lload 9, 2) := by decide +kernel
theorem dX2_product_120 : decode cX2_product 120 = .ok (.invokestatic 160, 3) := by decide +kernel
theorem dX2_product_123 : decode cX2_product 123 = .ok (.istore 12, 2) := by decide +kernel
theorem dX2_product_125 : decode cX2_product 125 = .ok (.lload 7, 2) := by decide +kernel
theorem dX2_product_127 : decode cX2_product 127 = .ok (.iload 11, 2) := by decide +kernel
theorem dX2_product_129 : decode cX2_product 129 = .ok (.lshl, 1) := by decide +kernel
theorem dX2_product_130 : decode cX2_product 130 = .ok (.lstore 7, 2) := by decide +kernel
theorem dX2_product_132 : decode cX2_product 132 = .ok (.lload 9, 2) := by decide +kernel
theorem dX2_product_134 : decode cX2_product 134 = .ok (.iload 12, 2) := by decide +kernel
theorem dX2_product_136 : decode cX2_product 136 = .ok (.lshl, 1) := by decide +kernel
theorem dX2_product_137 : decode cX2_product 137 = .ok (.lstore 9, 2) := by decide +kernel
theorem dX2_product_139 : decode cX2_product 139 = .ok (.lload 7, 2) := by decide +kernel
theorem dX2_product_141 : decode cX2_product 141 = .ok (.lload 9, 2) := by decide +kernel
theorem dX2_product_143 : decode cX2_product 143 = .ok (.invokestatic 163, 3) := by decide +kernel
theorem dX2_product_146 : decode cX2_product 146 = .ok (.lload 7, 2) := by decide +kernel
theorem dX2_product_148 : decode cX2_product 148 = .ok (.lload 9, 2) := by decide +kernel
theorem dX2_product_150 : decode cX2_product 150 = .ok (.lmul, 1) := by decide +kernel
theorem dX2_product_151 : decode cX2_product 151 = .ok (.lconst 0, 1) := by decide +kernel
theorem dX2_product_152 : decode cX2_product 152 = .ok (.lcmp, 1) := by decide +kernel
theorem dX2_product_153 : decode cX2_product 153 = .ok (.ifCond .eq 7, 3) := by decide +kernel
theorem dX2_product_156 : decode cX2_product 156 = .ok (.iconst 1, 1) := by decide +kernel
theorem dX2_product_157 : decode cX2_product 157 = .ok (.goto 4, 3) := by decide +kernel
theorem dX2_product_160 : decode cX2_product 160 = .ok (.iconst 0, 1) := by decide +kernel
theorem dX2_product_161 : decode cX2_product 161 = .ok (.i2l, 1) := by decide +kernel
theorem dX2_product_162 : decode cX2_product 162 = .ok (.lor, 1) := by decide +kernel
theorem dX2_product_163 : decode cX2_product 163 = .ok (.lstore 13, 2) := by decide +kernel
theorem dX2_product_165 : decode cX2_product 165 = .ok (.aload_n 0, 1) := by decide +kernel
theorem dX2_product_166 : decode cX2_product 166 = .ok (.lload 5, 2) := by decide +kernel
theorem dX2_product_168 : decode cX2_product 168 = .ok (.lconst 0, 1) := by decide +kernel
theorem dX2_product_169 : decode cX2_product 169 = .ok (.lcmp, 1) := by decide +kernel
theorem dX2_product_170 : decode cX2_product 170 = .ok (.ifCond .eq 7, 3) := by decide +kernel
theorem dX2_product_173 : decode cX2_product 173 = .ok (.iconst 1, 1) := by decide +kernel
theorem dX2_product_174 : decode cX2_product 174 = .ok (.goto 4, 3) := by decide +kernel
theorem dX2_product_177 : decode cX2_product 177 = .ok (.iconst 0, 1) := by decide +kernel
theorem dX2_product_178 : decode cX2_product 178 = .ok (.aload_n 0, 1) := by decide +kernel
theorem dX2_product_179 : decode cX2_product 179 = .ok (.lload_n 1, 1) := by decide +kernel
theorem dX2_product_180 : decode cX2_product 180 = .ok (.invokevirtual 142, 3) := by decide +kernel
theorem dX2_product_183 : decode cX2_product 183 = .ok (.iload 11, 2) := by decide +kernel
theorem dX2_product_185 : decode cX2_product 185 = .ok (.isub, 1) := by decide +kernel
theorem dX2_product_186 : decode cX2_product 186 = .ok (.aload_n 0, 1) := by decide +kernel
theorem dX2_product_187 : decode cX2_product 187 = .ok (.lload_n 3, 1) := by decide +kernel
theorem dX2_product_188 : decode cX2_product 188 = .ok (.invokevirtual 142, 3) := by decide +kernel
theorem dX2_product_191 : decode cX2_product 191 = .ok (.iadd, 1) := by decide +kernel
theorem dX2_product_192 : decode cX2_product 192 = .ok (.iload 12, 2) := by decide +kernel
theorem dX2_product_194 : decode cX2_product 194 = .ok (.isub, 1) := by decide +kernel
theorem dX2_product_195 : decode cX2_product 195 = .ok (.bipush 64, 2) := by decide +kernel
theorem dX2_product_197 : decode cX2_product 197 = .ok (.iadd, 1) := by decide +kernel
theorem dX2_product_198 : decode cX2_product 198 = .ok (.lload 13, 2) := by decide +kernel
theorem dX2_product_200 : decode cX2_product 200 = .ok (.invokevirtual 148, 3) := by decide +kernel
theorem dX2_product_203 : decode cX2_product 203 = .ok (.lreturn, 1) := by decide +kernel
theorem dX2_quotient_0 : decode cX2_quotient 0 = .ok (.aload_n 0, 1) := by decide +kernel
theorem dX2_quotient_1 : decode cX2_quotient 1 = .ok (.lload_n 1, 1) := by decide +kernel
theorem dX2_quotient_2 : decode cX2_quotient 2 = .ok (.invokevirtual 116, 3) := by decide +kernel
theorem dX2_quotient_5 : decode cX2_quotient 5 = .ok (.ifCond .ne 43, 3) := by decide +kernel
theorem dX2_quotient_8 : decode cX2_quotient 8 = .ok (.aload_n 0, 1) := by decide +kernel
theorem dX2_quotient_9 : decode cX2_quotient 9 = .ok (.lload_n 3, 1) := by decide +kernel
theorem dX2_quotient_10 : decode cX2_quotient 10 = .ok (.invokevirtual 116, 3) := by decide +kernel
theorem dX2_quotient_13 : decode cX2_quotient 13 = .ok (.ifCond .ne 35, 3) := by decide +kernel
theorem dX2_quotient_16 : decode cX2_quotient 16 = .ok (.aload_n 0, 1) := by decide +kernel
theorem dX2_quotient_17 : decode cX2_quotient 17 = .ok (.lload_n 1, 1) := by decide +kernel
theorem dX2_quotient_18 : decode cX2_quotient 18 = .ok (.invokevirtual 127, 3) := by decide +kernel
theorem dX2_quotient_21 : decode cX2_quotient 21 = .ok (.ifCond .eq 11, 3) := by decide +kernel
theorem dX2_quotient_24 : decode cX2_quotient 24 = .ok (.aload_n 0, 1) := by decide +kernel
theorem dX2_quotient_25 : decode cX2_quotient 25 = .ok (.lload_n 3, 1) := by decide +kernel
theorem dX2_quotient_26 : decode cX2_quotient 26 = .ok (.invokevirtual 127, 3) := by decide +kernel
theorem dX2_quotient_29 : decode cX2_quotient 29 = .ok (.ifCond .ne 19, 3) := by decide +kernel
theorem dX2_quotient_32 : decode cX2_quotient 32 = .ok (.aload_n 0, 1) := by decide +kernel
theorem dX2_quotient_33 : decode cX2_quotient 33 = .ok (.lload_n 1, 1) := by decide +kernel
theorem dX2_quotient_34 : decode cX2_quotient 34 = .ok (.invokevirtual 139, 3) := by decide +kernel
theorem dX2_quotient_37 : decode cX2_quotient 37 = .ok (.ifCond .eq 16, 3) := by decide +kernel
theorem dX2_quotient_40 : decode cX2_quotient 40 = .ok (.aload_n 0, 1) := by decide +kernel
theorem dX2_quotient_41 : decode cX2_quotient 41 = .ok (.lload_n 3, 1) := by decide +kernel
theorem dX2_quotient_42 : decode cX2_quotient 42 = .ok (.invokevirtual 139, 3) := by decide +kernel
theorem dX2_quotient_45 : decode cX2_quotient 45 = .ok (.ifCond .eq 8, 3) := by decide +kernel
theorem dX2_quotient_48 : decode cX2_quotient 48 = .ok (.aload_n 0, 1) := by decide +kernel
theorem dX2_quotient_49 : decode cX2_quotient 49 = .ok (.getfield 52, 3) := by decide +kernel
theorem dX2_quotient_52 : decode cX2_quotient 52 = .ok (.lreturn, 1) := by decide +kernel
theorem dX2_quotient_53 : decode cX2_quotient 53 = .ok (.lload_n 1, 1) := by decide +kernel
theorem dX2_quotient_54 : decode cX2_quotient 54 = .ok (.lload_n 3, 1) := by decide +kernel
theorem dX2_quotient_55 : decode cX2_quotient 55 = .ok (.lxor, 1) := by decide +kernel
theorem dX2_quotient_56 : decode cX2_quotient 56 = .ok (.aload_n 0, 1) := by decide +kernel
theorem dX2_quotient_57 : decode cX2_quotient 57 = .ok (.getfield 42, 3) := by decide +kernel
theorem dX2_quotient_60 : decode cX2_quotient 60 = .ok (.land, 1) := by decide +kernel
theorem dX2_quotient_61 : decode cX2_quotient 61 = .ok (.lstore 5, 2) := by decide +kernel
theorem dX2_quotient_63 : decode cX2_quotient 63 = .ok (.aload_n 0, 1) := by decide +kernel
theorem dX2_quotient_64 : decode cX2_quotient 64 = .ok (.lload_n 1, 1) := by decide +kernel
theorem dX2_quotient_65 : decode cX2_quotient 65 = .ok (.invokevirtual 127, 3) := by decide +kernel
theorem dX2_quotient_68 : decode cX2_quotient 68 = .ok (.ifCond .ne 11, 3) := by decide +kernel
theorem dX2_quotient_71 : decode cX2_quotient 71 = .ok (.aload_n 0, 1) := by decide +kernel
theorem dX2_quotient_72 : decode cX2_quotient 72 = .ok (.lload_n 3, 1) := by decide +kernel
theorem dX2_quotient_73 : decode cX2_quotient 73 = .ok (.invokevirtual 139, 3) := by decide +kernel
theorem dX2_quotient_76 : decode cX2_quotient 76 = .ok (.ifCond .eq 11, 3) := by decide +kernel
theorem dX2_quotient_79 : decode cX2_quotient 79 = .ok (.lload 5, 2) := by decide +kernel
theorem dX2_quotient_81 : decode cX2_quotient 81 = .ok (.aload_n 0, 1) := by decide +kernel
theorem dX2_quotient_82 : decode cX2_quotient 82 = .ok (.getfield 49, 3) := by decide +kernel
theorem dX2_quotient_85 : decode cX2_quotient 85 = .ok (.lor, 1) := by decide +kernel
theorem dX2_quotient_86 : decode cX2_quotient 86 = .ok (.lreturn, 1) := by decide +kernel
theorem dX2_quotient_87 : decode cX2_quotient 87 = .ok (.aload_n 0, 1) := by decide +kernel
theorem dX2_quotient_88 : decode cX2_quotient 88 = .ok (.lload_n 3, 1) := by decide +kernel
theorem dX2_quotient_89 : decode cX2_quotient 89 = .ok (.invokevirtual 127, 3) := by decide +kernel
theorem dX2_quotient_92 : decode cX2_quotient 92 = .ok (.ifCond .ne 11, 3) := by decide +kernel
theorem dX2_quotient_95 : decode cX2_quotient 95 = .ok (.aload_n 0, 1) := by decide +kernel
theorem dX2_quotient_96 : decode cX2_quotient 96 = .ok (.lload_n 1, 1) := by decide +kernel
theorem dX2_quotient_97 : decode cX2_quotient 97 = .ok (.invokevirtual 139, 3) := by decide +kernel
theorem dX2_quotient_100 : decode cX2_quotient 100 = .ok (.ifCond .eq 6, 3) := by decide +kernel
theorem dX2_quotient_103 : decode cX2_quotient 103 = .ok (.lload 5, 2) := by decide +kernel
theorem dX2_quotient_105 : decode cX2_quotient 105 = .ok (.lreturn, 1) := by decide +kernel
theorem dX2_quotient_106 : decode cX2_quotient 106 = .ok (.aload_n 0, 1) := by decide +kernel
theorem dX2_quotient_107 : decode cX2_quotient 107 = .ok (.lload 5, 2) := by decide +kernel
theorem dX2_quotient_109 : decode cX2_quotient 109 = .ok (.lconst 0, 1) := by decide +kernel
theorem dX2_quotient_110 : decode cX2_quotient 110 = .ok (.lcmp, 1) := by decide +kernel
theorem dX2_quotient_111 : decode cX2_quotient 111 = .ok (.ifCond .eq 7, 3) := by decide +kernel
theorem dX2_quotient_114 : decode cX2_quotient 114 = .ok (.iconst 1, 1) := by decide +kernel
theorem dX2_quotient_115 : decode cX2_quotient 115 = .ok (.goto 4, 3) := by decide +kernel
theorem dX2_quotient_118 : decode cX2_quotient 118 = .ok (.iconst 0, 1) := by decide +kernel
theorem dX2_quotient_119 : decode cX2_quotient 119 = .ok (.lload_n 1, 1) := by decide +kernel
theorem dX2_quotient_120 : decode cX2_quotient 120 = .ok (.lload_n 3, 1) := by decide +kernel
theorem dX2_quotient_121 : decode cX2_quotient 121 = .ok (.invokevirtual 166, 3) := by decide +kernel
theorem dX2_quotient_124 : decode cX2_quotient 124 = .ok (.lreturn, 1) := by decide +kernel
theorem dX2_divided_0 : decode cX2_divided 0 = .ok (.aload_n 0, 1) := by decide +kernel
theorem dX2_divided_1 : decode cX2_divided 1 = .ok (.lload_n 2, 1) := by decide +kernel
theorem dX2_divided_2 : decode cX2_divided 2 = .ok (.invokevirtual 145, 3) := by decide +kernel
theorem dX2_divided_5 : decode cX2_divided 5 = .ok (.lstore 6, 2) := by decide +kernel
theorem dX2_divided_7 : decode cX2_divided 7 = .ok (.aload_n 0, 1) := by decide +kernel
theorem dX2_divided_8 : decode cX2_divided 8 = .ok (.lload 4, 2) := by decide +kernel
theorem dX2_divided_10 : decode cX2_divided 10 = .ok (.invokevirtual 145, 3) := by decide +kernel
theorem dX2_divided_13 : decode cX2_divided 13 = .ok (.lstore 8, 2) := by decide +kernel
theorem dX2_divided_15 : decode cX2_divided 15 = .ok (.lload 6, 2) := by decide +kernel
theorem dX2_divided_17 : decode cX2_divided 17 = .ok (.invokestatic 160, 3) := by decide +kernel
theorem dX2_divided_20 : decode cX2_divided 20 = .ok (.bipush 63, 2) := by decide +kernel
theorem dX2_divided_22 : decode cX2_divided 22 = .ok (.aload_n 0, 1) := by decide +kernel
theorem dX2_divided_23 : decode cX2_divided 23 = .ok (.getfield 29, 3) := by decide +kernel
theorem dX2_divided_26 : decode cX2_divided 26 = .ok (.isub, 1) := by decide +kernel
theorem dX2_divided_27 : decode cX2_divided 27 = .ok (.isub, 1) := by decide +kernel
theorem dX2_divided_28 : decode cX2_divided 28 = .ok (.istore 10, 2) := by decide +kernel
theorem dX2_divided_30 : decode cX2_divided 30 = .ok (.lload 8, 2) := by decide +kernel
theorem dX2_divided_32 : decode cX2_divided 32 = .ok (.invokestatic 160, 3) := by decide +kernel
theorem dX2_divided_35 : decode cX2_divided 35 = .ok (.bipush 63, 2) := by decide +kernel
theorem dX2_divided_37 : decode cX2_divided 37 = .ok (.aload_n 0, 1) := by decide +kernel
theorem dX2_divided_38 : decode cX2_divided 38 = .ok (.getfield 29, 3) := by decide +kernel
theorem dX2_divided_41 : decode cX2_divided 41 = .ok (.isub, 1) := by decide +kernel
theorem dX2_divided_42 : decode cX2_divided 42 = .ok (.isub, 1) := by decide +kernel
theorem dX2_divided_43 : decode cX2_divided 43 = .ok (.istore 11, 2) := by decide +kernel
theorem dX2_divided_45 : decode cX2_divided 45 = .ok (.lload 6, 2) := by decide +kernel
theorem dX2_divided_47 : decode cX2_divided 47 = .ok (.iload 10, 2) := by decide +kernel
theorem dX2_divided_49 : decode cX2_divided 49 = .ok (.lshl, 1) := by decide +kernel
theorem dX2_divided_50 : decode cX2_divided 50 = .ok (.lstore 6, 2) := by decide +kernel
theorem dX2_divided_52 : decode cX2_divided 52 = .ok (.lload 8, 2) := by decide +kernel
theorem dX2_divided_54 : decode cX2_divided 54 = .ok (.iload 11, 2) := by decide +kernel
theorem dX2_divided_56 : decode cX2_divided 56 = .ok (.lshl, 1) := by decide +kernel
theorem dX2_divided_57 : decode cX2_divided 57 = .ok (.lstore 8, 2) := by decide +kernel
theorem dX2_divided_59 : decode cX2_divided 59 = .ok (.lload 8, 2) := by decide +kernel
theorem dX2_divided_61 : decode cX2_divided 61 = .ok (.lconst 0, 1) := by decide +kernel
theorem dX2_divided_62 : decode cX2_divided 62 = .ok (.lcmp, 1) := by decide +kernel
theorem dX2_divided_63 : decode cX2_divided 63 = .ok (.ifCond .ne 8, 3) := by decide +kernel
theorem dX2_divided_66 : decode cX2_divided 66 = .ok (.aload_n 0, 1) := by decide +kernel
theorem dX2_divided_67 : decode cX2_divided 67 = .ok (.getfield 52, 3) := by decide +kernel
theorem dX2_divided_70 : decode cX2_divided 70 = .ok (.lreturn, 1) := by decide +kernel
theorem dX2_divided_71 : decode cX2_divided 71 = .ok (.lload 6, 2) := by decide +kernel
theorem dX2_divided_73 : decode cX2_divided 73 = .ok (.lload 8, 2) := by decide +kernel
theorem dX2_divided_75 : decode cX2_divided 75 = .ok (.ldiv, 1) := by decide +kernel
theorem dX2_divided_76 : decode cX2_divided 76 = .ok (.lstore 12, 2) := by decide +kernel
theorem dX2_divided_78 : decode cX2_divided 78 = .ok (.lload 6, 2) := by decide +kernel
theorem dX2_divided_80 : decode cX2_divided 80 = .ok (.lload 8, 2) := by decide +kernel
theorem dX2_divided_82 : decode cX2_divided 82 = .ok (.lrem, 1) := by decide +kernel
theorem dX2_divided_83 : decode cX2_divided 83 = .ok (.lstore 6, 2) := by decide +kernel
theorem dX2_divided_85 : decode cX2_divided 85 = .ok (.aload_n 0, 1) := by decide +kernel
theorem dX2_divided_86 : decode cX2_divided 86 = .ok (.lload_n 2, 1) := by decide +kernel
theorem dX2_divided_87 : decode cX2_divided 87 = .ok (.invokevirtual 142, 3) := by decide +kernel
theorem dX2_divided_90 : decode cX2_divided 90 = .ok (.iload 10, 2) := by decide +kernel
theorem dX2_divided_92 : decode cX2_divided 92 = .ok (.isub, 1) := by decide +kernel
theorem dX2_divided_93 : decode cX2_divided 93 = .ok (.aload_n 0, 1) := by decide +kernel
theorem dX2_divided_94 : decode cX2_divided 94 = .ok (.lload 4, 2) := by decide +kernel
theorem dX2_divided_96 : decode cX2_divided 96 = .ok (.invokevirtual 142, 3) := by decide +kernel
theorem dX2_divided_99 : decode cX2_divided 99 = .ok (.isub, 1) := by decide +kernel
theorem dX2_divided_100 : decode cX2_divided 100 = .ok (.iload 11, 2) := by decide +kernel
theorem dX2_divided_102 : decode cX2_divided 102 = .ok (.iadd, 1) := by decide +kernel
theorem dX2_divided_103 : decode cX2_divided 103 = .ok (.istore 14, 2) := by decide +kernel
theorem dX2_divided_105 : decode cX2_divided 105 = .ok (.bipush 62, 2) := by decide +kernel
theorem dX2_divided_107 : decode cX2_divided 107 = .ok (.aload_n 0, 1) := by decide +kernel
theorem dX2_divided_108 : decode cX2_divided 108 = .ok (.getfield 29, 3) := by decide +kernel
theorem dX2_divided_111 : decode cX2_divided 111 = .ok (.isub, 1) := by decide +kernel
theorem dX2_divided_112 : decode cX2_divided 112 = .ok (.istore 15, 2) := by decide +kernel
theorem dX2_divided_114 : decode cX2_divided 114 = .ok (.iconst 0, 1) := by decide +kernel
theorem dX2_divided_115 : decode cX2_divided 115 = .ok (.istore 16, 2) := by decide +kernel
theorem dX2_divided_117 : decode cX2_divided 117 = .ok (.iload 16, 2) := by decide +kernel
theorem dX2_divided_119 : decode cX2_divided 119 = .ok (.aload_n 0, 1) := by decide +kernel
theorem dX2_divided_120 : decode cX2_divided 120 = .ok (.getfield 29, 3) := by decide +kernel
theorem dX2_divided_123 : decode cX2_divided 123 = .ok (.iconst 3, 1) := by decide +kernel
theorem dX2_divided_124 : decode cX2_divided 124 = .ok (.iadd, 1) := by decide +kernel
theorem dX2_divided_125 : decode cX2_divided 125 = .ok (.if_icmp .ge 47, 3) := by decide +kernel
theorem dX2_divided_128 : decode cX2_divided 128 = .ok (.lload 6, 2) := by decide +kernel
theorem dX2_divided_130 : decode cX2_divided 130 = .ok (.iload 15, 2) := by decide +kernel
theorem dX2_divided_132 : decode cX2_divided 132 = .ok (.lshl, 1) := by decide +kernel
theorem dX2_divided_133 : decode cX2_divided 133 = .ok (.lstore 6, 2) := by decide +kernel
theorem dX2_divided_135 : decode cX2_divided 135 = .ok (.lload 12, 2) := by decide +kernel
theorem dX2_divided_137 : decode cX2_divided 137 = .ok (.iload 15, 2) := by decide +kernel
theorem dX2_divided_139 : decode cX2_divided 139 = .ok (.lshl, 1) := by decide +kernel
theorem dX2_divided_140 : decode cX2_divided 140 = .ok (.lload 6, 2) := by decide +kernel
theorem dX2_divided_142 : decode cX2_divided 142 = .ok (.lload 8, 2) := by decide +kernel
theorem dX2_divided_144 : decode cX2_divided 144 = .ok (.ldiv, 1) := by decide +kernel
theorem dX2_divided_145 : decode cX2_divided 145 = .ok (.lor, 1) := by decide +kernel
theorem dX2_divided_146 : decode cX2_divided 146 = .ok (.lstore 12, 2) := by decide +kernel
theorem dX2_divided_148 : decode cX2_divided 148 = .ok (.lload 6, 2) := by decide +kernel
theorem dX2_divided_150 : decode cX2_divided 150 = .ok (.lload 8, 2) := by decide +kernel
theorem dX2_divided_152 : decode cX2_divided 152 = .ok (.lrem, 1) := by decide +kernel
theorem dX2_divided_153 : decode cX2_divided 153 = .ok (.lstore 6, 2) := by decide +kernel
theorem dX2_divided_155 : decode cX2_divided 155 = .ok (.iload 14, 2) := by decide +kernel
theorem dX2_divided_157 : decode cX2_divided 157 = .ok (.iload 15, 2) := by decide +kernel
theorem dX2_divided_159 : decode cX2_divided 159 = .ok (.isub, 1) := by decide +kernel
theorem dX2_divided_160 : decode cX2_divided 160 = .ok (.istore 14, 2) := by decide +kernel
theorem dX2_divided_162 : decode cX2_divided 162 = .ok (.iload 16, 2) := by decide +kernel
theorem dX2_divided_164 : decode cX2_divided 164 = .ok (.iload 15, 2) := by decide +kernel
theorem dX2_divided_166 : decode cX2_divided 166 = .ok (.iadd, 1) := by decide +kernel
theorem dX2_divided_167 : decode cX2_divided 167 = .ok (.istore 16, 2) := by decide +kernel
theorem dX2_divided_169 : decode cX2_divided 169 = .ok (.goto (-52), 3) := by decide +kernel
theorem dX2_divided_172 : decode cX2_divided 172 = .ok (.aload_n 0, 1) := by decide +kernel
theorem dX2_divided_173 : decode cX2_divided 173 = .ok (.iload_n 1, 1) := by decide +kernel
theorem dX2_divided_174 : decode cX2_divided 174 = .ok (.iload 14, 2) := by decide +kernel
theorem dX2_divided_176 : decode cX2_divided 176 = .ok (.iconst 1, 1) := by decide +kernel
theorem dX2_divided_177 : decode cX2_divided 177 = .ok (.isub, 1) := by decide +kernel
theorem dX2_divided_178 : decode cX2_divided 178 = .ok (.lload 12, 2) := by decide +kernel
theorem dX2_divided_180 : decode cX2_divided 180 = .ok (.iconst 1, 1) := by decide +kernel
theorem dX2_divided_181 : decode cX2_divided 181 = .ok (.lshl, 1) := by decide +kernel
theorem dX2_divided_182 : decode cX2_divided 182 = .ok (.lload 6, 2) := by decide +kernel
theorem dX2_divided_184 : decode cX2_divided 184 = .ok (.lconst 0, 1) := by decide +kernel
theorem dX2_divided_185 : decode cX2_divided 185 = .ok (.lcmp, 1) := by decide +kernel
theorem dX2_divided_186 : decode cX2_divided 186 = .ok (.ifCond .eq 7, 3) := by decide +kernel
theorem dX2_divided_189 : decode cX2_divided 189 = .ok (.iconst 1, 1) := by decide +kernel
theorem dX2_divided_190 : decode cX2_divided 190 = .ok (.goto 4, 3) := by decide +kernel
theorem dX2_divided_193 : decode cX2_divided 193 = .ok (.iconst 0, 1) := by decide +kernel
theorem dX2_divided_194 : decode cX2_divided 194 = .ok (.i2l, 1) := by decide +kernel
theorem dX2_divided_195 : decode cX2_divided 195 = .ok (.lor, 1) := by decide +kernel
theorem dX2_divided_196 : decode cX2_divided 196 = .ok (.invokevirtual 148, 3) := by decide +kernel
theorem dX2_divided_199 : decode cX2_divided 199 = .ok (.lreturn, 1) := by decide +kernel
theorem dX2_rest_0 : decode cX2_rest 0 = .ok (.aload_n 0, 1) := by decide +kernel
theorem dX2_rest_1 : decode cX2_rest 1 = .ok (.lload_n 1, 1) := by decide +kernel
theorem dX2_rest_2 : decode cX2_rest 2 = .ok (.invokevirtual 116, 3) := by decide +kernel
theorem dX2_rest_5 : decode cX2_rest 5 = .ok (.ifCond .ne 27, 3) := by decide +kernel
theorem dX2_rest_8 : decode cX2_rest 8 = .ok (.aload_n 0, 1) := by decide +kernel
theorem dX2_rest_9 : decode cX2_rest 9 = .ok (.lload_n 3, 1) := by decide +kernel
theorem dX2_rest_10 : decode cX2_rest 10 = .ok (.invokevirtual 116, 3) := by decide +kernel
theorem dX2_rest_13 : decode cX2_rest 13 = .ok (.ifCond .ne 19, 3) := by decide +kernel
theorem dX2_rest_16 : decode cX2_rest 16 = .ok (.aload_n 0, 1) := by decide +kernel
theorem dX2_rest_17 : decode cX2_rest 17 = .ok (.lload_n 1, 1) := by decide +kernel
theorem dX2_rest_18 : decode cX2_rest 18 = .ok (.invokevirtual 127, 3) := by decide +kernel
theorem dX2_rest_21 : decode cX2_rest 21 = .ok (.ifCond .ne 11, 3) := by decide +kernel
theorem dX2_rest_24 : decode cX2_rest 24 = .ok (.aload_n 0, 1) := by decide +kernel
theorem dX2_rest_25 : decode cX2_rest 25 = .ok (.lload_n 3, 1) := by decide +kernel
theorem dX2_rest_26 : decode cX2_rest 26 = .ok (.invokevirtual 139, 3) := by decide +kernel
theorem dX2_rest_29 : decode cX2_rest 29 = .ok (.ifCond .eq 8, 3) := by decide +kernel
theorem dX2_rest_32 : decode cX2_rest 32 = .ok (.aload_n 0, 1) := by decide +kernel
theorem dX2_rest_33 : decode cX2_rest 33 = .ok (.getfield 52, 3) := by decide +kernel
theorem dX2_rest_36 : decode cX2_rest 36 = .ok (.lreturn, 1) := by decide +kernel
theorem dX2_rest_37 : decode cX2_rest 37 = .ok (.aload_n 0, 1) := by decide +kernel
theorem dX2_rest_38 : decode cX2_rest 38 = .ok (.lload_n 3, 1) := by decide +kernel
theorem dX2_rest_39 : decode cX2_rest 39 = .ok (.invokevirtual 127, 3) := by decide +kernel
theorem dX2_rest_42 : decode cX2_rest 42 = .ok (.ifCond .ne 17, 3) := by decide +kernel
theorem dX2_rest_45 : decode cX2_rest 45 = .ok (.aload_n 0, 1) := by decide +kernel
theorem dX2_rest_46 : decode cX2_rest 46 = .ok (.lload_n 1, 1) := by decide +kernel
theorem dX2_rest_47 : decode cX2_rest 47 = .ok (.invokevirtual 82, 3) := by decide +kernel
theorem dX2_rest_50 : decode cX2_rest 50 = .ok (.aload_n 0, 1) := by decide +kernel
theorem dX2_rest_51 : decode cX2_rest 51 = .ok (.lload_n 3, 1) := by decide +kernel
theorem dX2_rest_52 : decode cX2_rest 52 = .ok (.invokevirtual 82, 3) := by decide +kernel
theorem dX2_rest_55 : decode cX2_rest 55 = .ok (.lcmp, 1) := by decide +kernel
theorem dX2_rest_56 : decode cX2_rest 56 = .ok (.ifCond .ge 5, 3) := by decide +kernel
theorem dX2_rest_59 : decode cX2_rest 59 = .ok (.lload_n 1, 1) := by decide +kernel
theorem dX2_rest_60 : decode cX2_rest 60 = .ok (.lreturn, 1) := by decide +kernel
theorem dX2_rest_61 : decode cX2_rest 61 = .ok (.aload_n 0, 1) := by decide +kernel
theorem dX2_rest_62 : decode cX2_rest 62 = .ok (.lload_n 3, 1) := by decide +kernel
theorem dX2_rest_63 : decode cX2_rest 63 = .ok (.invokevirtual 145, 3) := by decide +kernel
theorem dX2_rest_66 : decode cX2_rest 66 = .ok (.lstore 5, 2) := by decide +kernel
theorem dX2_rest_68 : decode cX2_rest 68 = .ok (.lload 5, 2) := by decide +kernel
theorem dX2_rest_70 : decode cX2_rest 70 = .ok (.lconst 0, 1) := by decide +kernel
theorem dX2_rest_71 : decode cX2_rest 71 = .ok (.lcmp, 1) := by decide +kernel
theorem dX2_rest_72 : decode cX2_rest 72 = .ok (.ifCond .ne 8, 3) := by decide +kernel
theorem dX2_rest_75 : decode cX2_rest 75 = .ok (.aload_n 0, 1) := by decide +kernel
theorem dX2_rest_76 : decode cX2_rest 76 = .ok (.getfield 52, 3) := by decide +kernel
theorem dX2_rest_79 : decode cX2_rest 79 = .ok (.lreturn, 1) := by decide +kernel
theorem dX2_rest_80 : decode cX2_rest 80 = .ok (.aload_n 0, 1) := by decide +kernel
theorem dX2_rest_81 : decode cX2_rest 81 = .ok (.lload_n 1, 1) := by decide +kernel
theorem dX2_rest_82 : decode cX2_rest 82 = .ok (.invokevirtual 145, 3) := by decide +kernel
theorem dX2_rest_85 : decode cX2_rest 85 = .ok (.lload 5, 2) := by decide +kernel
theorem dX2_rest_87 : decode cX2_rest 87 = .ok (.lrem, 1) := by decide +kernel
theorem dX2_rest_88 : decode cX2_rest 88 = .ok (.lstore 7, 2) := by decide +kernel
theorem dX2_rest_90 : decode cX2_rest 90 = .ok (.bipush 62, 2) := by decide +kernel
theorem dX2_rest_92 : decode cX2_rest 92 = .ok (.aload_n 0, 1) := by decide +kernel
theorem dX2_rest_93 : decode cX2_rest 93 = .ok (.getfield 29, 3) := by decide +kernel
theorem dX2_rest_96 : decode cX2_rest 96 = .ok (.isub, 1) := by decide +kernel
theorem dX2_rest_97 : decode cX2_rest 97 = .ok (.istore 9, 2) := by decide +kernel
theorem dX2_rest_99 : decode cX2_rest 99 = .ok (.aload_n 0, 1) := by decide +kernel
theorem dX2_rest_100 : decode cX2_rest 100 = .ok (.lload_n 1, 1) := by decide +kernel
theorem dX2_rest_101 : decode cX2_rest 101 = .ok (.invokevirtual 142, 3) := by decide +kernel
theorem dX2_rest_104 : decode cX2_rest 104 = .ok (.aload_n 0, 1) := by decide +kernel
theorem dX2_rest_105 : decode cX2_rest 105 = .ok (.lload_n 3, 1) := by decide +kernel
theorem dX2_rest_106 : decode cX2_rest 106 = .ok (.invokevirtual 142, 3) := by decide +kernel
theorem dX2_rest_109 : decode cX2_rest 109 = .ok (.isub, 1) := by decide +kernel
theorem dX2_rest_110 : decode cX2_rest 110 = .ok (.istore 10, 2) := by decide +kernel
theorem dX2_rest_112 : decode cX2_rest 112 = .ok (.iload 10, 2) := by decide +kernel
theorem dX2_rest_114 : decode cX2_rest 114 = .ok (.ifCond .le 28, 3) := by decide +kernel
theorem dX2_rest_117 : decode cX2_rest 117 = .ok (.lload 7, 2) := by decide +kernel
theorem dX2_rest_119 : decode cX2_rest 119 = .ok (.iload 10, 2) := by decide +kernel
theorem dX2_rest_121 : decode cX2_rest 121 = .ok (.iload 9, 2) := by decide +kernel
theorem dX2_rest_123 : decode cX2_rest 123 = .ok (.invokestatic 170, 3) := by decide +kernel
theorem dX2_rest_126 : decode cX2_rest 126 = .ok (.lshl, 1) := by decide +kernel
theorem dX2_rest_127 : decode cX2_rest 127 = .ok (.lload 5, 2) := by decide +kernel
theorem dX2_rest_129 : decode cX2_rest 129 = .ok (.lrem, 1) := by decide +kernel
theorem dX2_rest_130 : decode cX2_rest 130 = .ok (.lstore 7, 2) := by decide +kernel
theorem dX2_rest_132 : decode cX2_rest 132 = .ok (.iload 10, 2) := by decide +kernel
theorem dX2_rest_134 : decode cX2_rest 134 = .ok (.iload 9, 2) := by decide +kernel
theorem dX2_rest_136 : decode cX2_rest 136 = .ok (.isub, 1) := by decide +kernel
theorem dX2_rest_137 : decode cX2_rest 137 = .ok (.istore 10, 2) := by decide +kernel
theorem dX2_rest_139 : decode cX2_rest 139 = .ok (.goto (-27), 3) := by decide +kernel
theorem dX2_rest_142 : decode cX2_rest 142 = .ok (.lload 7, 2) := by decide +kernel
theorem dX2_rest_144 : decode cX2_rest 144 = .ok (.lconst 0, 1) := by decide +kernel
theorem dX2_rest_145 : decode cX2_rest 145 = .ok (.lcmp, 1) := by decide +kernel
theorem dX2_rest_146 : decode cX2_rest 146 = .ok (.ifCond .ne 12, 3) := by decide +kernel
theorem dX2_rest_149 : decode cX2_rest 149 = .ok (.lload_n 1, 1) := by decide +kernel
theorem dX2_rest_150 : decode cX2_rest 150 = .ok (.aload_n 0, 1) := by decide +kernel
theorem dX2_rest_151 : decode cX2_rest 151 = .ok (.getfield 42, 3) := by decide +kernel
theorem dX2_rest_154 : decode cX2_rest 154 = .ok (.land, 1) := by decide +kernel
theorem dX2_rest_155 : decode cX2_rest 155 = .ok (.goto 19, 3) := by decide +kernel
theorem dX2_rest_158 : decode cX2_rest 158 = .ok (.aload_n 0, 1) := by decide +kernel
theorem dX2_rest_159 : decode cX2_rest 159 = .ok (.aload_n 0, 1) := by decide +kernel
theorem dX2_rest_160 : decode cX2_rest 160 = .ok (.lload_n 1, 1) := by decide +kernel
theorem dX2_rest_161 : decode cX2_rest 161 = .ok (.invokevirtual 136, 3) := by decide +kernel
theorem dX2_rest_164 : decode cX2_rest 164 = .ok (.aload_n 0, 1) := by decide +kernel
theorem dX2_rest_165 : decode cX2_rest 165 = .ok (.lload_n 3, 1) := by decide +kernel
theorem dX2_rest_166 : decode cX2_rest 166 = .ok (.invokevirtual 142, 3) := by decide +kernel
theorem dX2_rest_169 : decode cX2_rest 169 = .ok (.lload 7, 2) := by decide +kernel
theorem dX2_rest_171 : decode cX2_rest 171 = .ok (.invokevirtual 148, 3) := by decide +kernel
theorem dX2_rest_174 : decode cX2_rest 174 = .ok (.lreturn, 1) := by decide +kernel
theorem dX2_root_0 : decode cX2_root 0 = .ok (.aload_n 0, 1) := by decide +kernel
theorem dX2_root_1 : decode cX2_root 1 = .ok (.lload_n 1, 1) := by decide +kernel
theorem dX2_root_2 : decode cX2_root 2 = .ok (.invokevirtual 139, 3) := by decide +kernel
theorem dX2_root_5 : decode cX2_root 5 = .ok (.ifCond .eq 5, 3) := by decide +kernel
theorem dX2_root_8 : decode cX2_root 8 = .ok (.lload_n 1, 1) := by decide +kernel
theorem dX2_root_9 : decode cX2_root 9 = .ok (.lreturn, 1) := by decide +kernel
theorem dX2_root_10 : decode cX2_root 10 = .ok (.aload_n 0, 1) := by decide +kernel
theorem dX2_root_11 : decode cX2_root 11 = .ok (.lload_n 1, 1) := by decide +kernel
theorem dX2_root_12 : decode cX2_root 12 = .ok (.invokevirtual 116, 3) := by decide +kernel
theorem dX2_root_15 : decode cX2_root 15 = .ok (.ifCond .ne 11, 3) := by decide +kernel
theorem dX2_root_18 : decode cX2_root 18 = .ok (.aload_n 0, 1) := by decide +kernel
theorem dX2_root_19 : decode cX2_root 19 = .ok (.lload_n 1, 1) := by decide +kernel
theorem dX2_root_20 : decode cX2_root 20 = .ok (.invokevirtual 136, 3) := by decide +kernel
theorem dX2_root_23 : decode cX2_root 23 = .ok (.ifCond .eq 8, 3) := by decide +kernel
theorem dX2_root_26 : decode cX2_root 26 = .ok (.aload_n 0, 1) := by decide +kernel
theorem dX2_root_27 : decode cX2_root 27 = .ok (.getfield 52, 3) := by decide +kernel
theorem dX2_root_30 : decode cX2_root 30 = .ok (.lreturn, 1) := by decide +kernel
theorem dX2_root_31 : decode cX2_root 31 = .ok (.aload_n 0, 1) := by decide +kernel
theorem dX2_root_32 : decode cX2_root 32 = .ok (.lload_n 1, 1) := by decide +kernel
theorem dX2_root_33 : decode cX2_root 33 = .ok (.invokevirtual 127, 3) := by decide +kernel
theorem dX2_root_36 : decode cX2_root 36 = .ok (.ifCond .eq 5, 3) := by decide +kernel
theorem dX2_root_39 : decode cX2_root 39 = .ok (.lload_n 1, 1) := by decide +kernel
theorem dX2_root_40 : decode cX2_root 40 = .ok (.lreturn, 1) := by decide +kernel
theorem dX2_root_41 : decode cX2_root 41 = .ok (.aload_n 0, 1) := by decide +kernel
theorem dX2_root_42 : decode cX2_root 42 = .ok (.lload_n 1, 1) := by decide +kernel
theorem dX2_root_43 : decode cX2_root 43 = .ok (.invokevirtual 145, 3) := by decide +kernel
theorem dX2_root_46 : decode cX2_root 46 = .ok (.invokestatic 160, 3) := by decide +kernel
theorem dX2_root_49 : decode cX2_root 49 = .ok (.istore_n 3, 1) := by decide +kernel
theorem dX2_root_50 : decode cX2_root 50 = .ok (.aload_n 0, 1) := by decide +kernel
theorem dX2_root_51 : decode cX2_root 51 = .ok (.lload_n 1, 1) := by decide +kernel
theorem dX2_root_52 : decode cX2_root 52 = .ok (.invokevirtual 142, 3) := by decide +kernel
theorem dX2_root_55 : decode cX2_root 55 = .ok (.iload_n 3, 1) := by decide +kernel
theorem dX2_root_56 : decode cX2_root 56 = .ok (.isub, 1) := by decide +kernel
theorem dX2_root_57 : decode cX2_root 57 = .ok (.iconst 1, 1) := by decide +kernel
theorem dX2_root_58 : decode cX2_root 58 = .ok (.iand, 1) := by decide +kernel
theorem dX2_root_59 : decode cX2_root 59 = .ok (.ifCond .eq 6, 3) := by decide +kernel
theorem dX2_root_62 : decode cX2_root 62 = .ok (.iinc 3 (-1), 3) := by decide +kernel
theorem dX2_root_65 : decode cX2_root 65 = .ok (.aload_n 0, 1) := by decide +kernel
theorem dX2_root_66 : decode cX2_root 66 = .ok (.lload_n 1, 1) := by decide +kernel
theorem dX2_root_67 : decode cX2_root 67 = .ok (.invokevirtual 145, 3) := by decide +kernel
theorem dX2_root_70 : decode cX2_root 70 = .ok (.iload_n 3, 1) := by decide +kernel
theorem dX2_root_71 : decode cX2_root 71 = .ok (.lshl, 1) := by decide +kernel
theorem dX2_root_72 : decode cX2_root 72 = .ok (.lstore 4, 2) := by decide +kernel
theorem dX2_root_74 : decode cX2_root 74 = .ok (.aload_n 0, 1) := by decide +kernel
theorem dX2_root_75 : decode cX2_root 75 = .ok (.getfield 29, 3) := by decide +kernel
theorem dX2_root_78 : decode cX2_root 78 = .ok (.iconst 3, 1) := by decide +kernel
theorem dX2_root_79 : decode cX2_root 79 = .ok (.iadd, 1) := by decide +kernel
theorem dX2_root_80 : decode cX2_root 80 = .ok (.istore 6, 2) := by decide +kernel
theorem dX2_root_82 : decode cX2_root 82 = .ok (.lconst 0, 1) := by decide +kernel
theorem dX2_root_83 : decode cX2_root 83 = .ok (.lstore 7, 2) := by decide +kernel
theorem dX2_root_85 : decode cX2_root 85 = .ok (.lconst 0, 1) := by decide +kernel
theorem dX2_root_86 : decode cX2_root 86 = .ok (.lstore 9, 2) := by decide +kernel
theorem dX2_root_88 : decode cX2_root 88 = .ok (.iconst 0, 1) := by decide +kernel
theorem dX2_root_89 : decode cX2_root 89 = .ok (.istore 11, 2) := by decide +kernel
theorem dX2_root_91 : decode cX2_root 91 = .ok (.iload 11, 2) := by decide +kernel
theorem dX2_root_93 : decode cX2_root 93 = .ok (.iload 6, 2) := by decide +kernel
theorem dX2_root_95 : decode cX2_root 95 = .ok (.if_icmp .ge 62, 3) := by decide +kernel
theorem dX2_root_98 : decode cX2_root 98 = .ok (.lload 9, 2) := by decide +kernel
theorem dX2_root_100 : decode cX2_root 100 = .ok (.iconst 2, 1) := by decide +kernel
theorem dX2_root_101 : decode cX2_root 101 = .ok (.lshl, 1) := by decide +kernel
theorem dX2_root_102 : decode cX2_root 102 = .ok (.lload 4, 2) := by decide +kernel
theorem dX2_root_104 : decode cX2_root 104 = .ok (.bipush 62, 2) := by decide +kernel
theorem dX2_root_106 : decode cX2_root 106 = .ok (.lushr, 1) := by decide +kernel
theorem dX2_root_107 : decode cX2_root 107 = .ok (.lor, 1) := by decide +kernel
theorem dX2_root_108 : decode cX2_root 108 = .ok (.lstore 9, 2) := by decide +kernel
theorem dX2_root_110 : decode cX2_root 110 = .ok (.lload 4, 2) := by decide +kernel
theorem dX2_root_112 : decode cX2_root 112 = .ok (.iconst 2, 1) := by decide +kernel
theorem dX2_root_113 : decode cX2_root 113 = .ok (.lshl, 1) := by decide +kernel
theorem dX2_root_114 : decode cX2_root 114 = .ok (.lstore 4, 2) := by decide +kernel
theorem dX2_root_116 : decode cX2_root 116 = .ok (.lload 7, 2) := by decide +kernel
theorem dX2_root_118 : decode cX2_root 118 = .ok (.iconst 2, 1) := by decide +kernel
theorem dX2_root_119 : decode cX2_root 119 = .ok (.lshl, 1) := by decide +kernel
theorem dX2_root_120 : decode cX2_root 120 = .ok (.lconst 1, 1) := by decide +kernel
theorem dX2_root_121 : decode cX2_root 121 = .ok (.lor, 1) := by decide +kernel
theorem dX2_root_122 : decode cX2_root 122 = .ok (.lstore 12, 2) := by decide +kernel
theorem dX2_root_124 : decode cX2_root 124 = .ok (.lload 7, 2) := by decide +kernel
theorem dX2_root_126 : decode cX2_root 126 = .ok (.iconst 1, 1) := by decide +kernel
theorem dX2_root_127 : decode cX2_root 127 = .ok (.lshl, 1) := by decide +kernel
theorem dX2_root_128 : decode cX2_root 128 = .ok (.lstore 7, 2) := by decide +kernel
theorem dX2_root_130 : decode cX2_root 130 = .ok (.lload 9, 2) := by decide +kernel
theorem dX2_root_132 : decode cX2_root 132 = .ok (.lload 12, 2) := by decide +kernel
theorem dX2_root_134 : decode cX2_root 134 = .ok (.lcmp, 1) := by decide +kernel
theorem dX2_root_135 : decode cX2_root 135 = .ok (.ifCond .lt 16, 3) := by decide +kernel
theorem dX2_root_138 : decode cX2_root 138 = .ok (.lload 9, 2) := by decide +kernel
theorem dX2_root_140 : decode cX2_root 140 = .ok (.lload 12, 2) := by decide +kernel
theorem dX2_root_142 : decode cX2_root 142 = .ok (.lsub, 1) := by decide +kernel
theorem dX2_root_143 : decode cX2_root 143 = .ok (.lstore 9, 2) := by decide +kernel
theorem dX2_root_145 : decode cX2_root 145 = .ok (.lload 7, 2) := by decide +kernel
theorem dX2_root_147 : decode cX2_root 147 = .ok (.lconst 1, 1) := by decide +kernel
theorem dX2_root_148 : decode cX2_root 148 = .ok (.lor, 1) := by decide +kernel
theorem dX2_root_149 : decode cX2_root 149 = .ok (.lstore 7, 2) := by decide +kernel
theorem dX2_root_151 : decode cX2_root 151 = .ok (.iinc 11 1, 3) := by decide +kernel
theorem dX2_root_154 : decode cX2_root 154 = .ok (.goto (-63), 3) := by decide +kernel
theorem dX2_root_157 : decode cX2_root 157 = .ok (.aload_n 0, 1) := by decide +kernel
theorem dX2_root_158 : decode cX2_root 158 = .ok (.lload_n 1, 1) := by decide +kernel
theorem dX2_root_159 : decode cX2_root 159 = .ok (.invokevirtual 142, 3) := by decide +kernel
theorem dX2_root_162 : decode cX2_root 162 = .ok (.iload_n 3, 1) := by decide +kernel
theorem dX2_root_163 : decode cX2_root 163 = .ok (.isub, 1) := by decide +kernel
theorem dX2_root_164 : decode cX2_root 164 = .ok (.iconst 2, 1) := by decide +kernel
theorem dX2_root_165 : decode cX2_root 165 = .ok (.idiv, 1) := by decide +kernel
theorem dX2_root_166 : decode cX2_root 166 = .ok (.bipush 32, 2) := by decide +kernel
theorem dX2_root_168 : decode cX2_root 168 = .ok (.iadd, 1) := by decide +kernel
theorem dX2_root_169 : decode cX2_root 169 = .ok (.iload 6, 2) := by decide +kernel
theorem dX2_root_171 : decode cX2_root 171 = .ok (.isub, 1) := by decide +kernel
theorem dX2_root_172 : decode cX2_root 172 = .ok (.istore 11, 2) := by decide +kernel
theorem dX2_root_174 : decode cX2_root 174 = .ok (.aload_n 0, 1) := by decide +kernel
theorem dX2_root_175 : decode cX2_root 175 = .ok (.iconst 0, 1) := by decide +kernel
theorem dX2_root_176 : decode cX2_root 176 = .ok (.iload 11, 2) := by decide +kernel
theorem dX2_root_178 : decode cX2_root 178 = .ok (.iconst 1, 1) := by decide +kernel
theorem dX2_root_179 : decode cX2_root 179 = .ok (.isub, 1) := by decide +kernel
theorem dX2_root_180 : decode cX2_root 180 = .ok (.lload 7, 2) := by decide +kernel
theorem dX2_root_182 : decode cX2_root 182 = .ok (.iconst 1, 1) := by decide +kernel
theorem dX2_root_183 : decode cX2_root 183 = .ok (.lshl, 1) := by decide +kernel
theorem dX2_root_184 : decode cX2_root 184 = .ok (.lload 9, 2) := by decide +kernel
theorem dX2_root_186 : decode cX2_root 186 = .ok (.lload 4, 2) := by decide +kernel
theorem dX2_root_188 : decode cX2_root 188 = .ok (.lor, 1) := by decide +kernel
theorem dX2_root_189 : decode cX2_root 189 = .ok (.lconst 0, 1) := by decide +kernel
theorem dX2_root_190 : decode cX2_root 190 = .ok (.lcmp, 1) := by decide +kernel
theorem dX2_root_191 : decode cX2_root 191 = .ok (.ifCond .eq 7, 3) := by decide +kernel
theorem dX2_root_194 : decode cX2_root 194 = .ok (.iconst 1, 1) := by decide +kernel
theorem dX2_root_195 : decode cX2_root 195 = .ok (.goto 4, 3) := by decide +kernel
theorem dX2_root_198 : decode cX2_root 198 = .ok (.iconst 0, 1) := by decide +kernel
theorem dX2_root_199 : decode cX2_root 199 = .ok (.i2l, 1) := by decide +kernel
theorem dX2_root_200 : decode cX2_root 200 = .ok (.lor, 1) := by decide +kernel
theorem dX2_root_201 : decode cX2_root 201 = .ok (.invokevirtual 148, 3) := by decide +kernel
theorem dX2_root_204 : decode cX2_root 204 = .ok (.lreturn, 1) := by decide +kernel
theorem dX2_whole_0 : decode cX2_whole 0 = .ok (.aload_n 0, 1) := by decide +kernel
theorem dX2_whole_1 : decode cX2_whole 1 = .ok (.lload_n 1, 1) := by decide +kernel
theorem dX2_whole_2 : decode cX2_whole 2 = .ok (.invokevirtual 116, 3) := by decide +kernel
theorem dX2_whole_5 : decode cX2_whole 5 = .ok (.ifCond .eq 8, 3) := by decide +kernel
theorem dX2_whole_8 : decode cX2_whole 8 = .ok (.aload_n 0, 1) := by decide +kernel
theorem dX2_whole_9 : decode cX2_whole 9 = .ok (.getfield 52, 3) := by decide +kernel
theorem dX2_whole_12 : decode cX2_whole 12 = .ok (.lreturn, 1) := by decide +kernel
theorem dX2_whole_13 : decode cX2_whole 13 = .ok (.aload_n 0, 1) := by decide +kernel
theorem dX2_whole_14 : decode cX2_whole 14 = .ok (.lload_n 1, 1) := by decide +kernel
theorem dX2_whole_15 : decode cX2_whole 15 = .ok (.invokevirtual 101, 3) := by decide +kernel
theorem dX2_whole_18 : decode cX2_whole 18 = .ok (.aload_n 0, 1) := by decide +kernel
theorem dX2_whole_19 : decode cX2_whole 19 = .ok (.getfield 33, 3) := by decide +kernel
theorem dX2_whole_22 : decode cX2_whole 22 = .ok (.isub, 1) := by decide +kernel
theorem dX2_whole_23 : decode cX2_whole 23 = .ok (.istore 4, 2) := by decide +kernel
theorem dX2_whole_25 : decode cX2_whole 25 = .ok (.iload 4, 2) := by decide +kernel
theorem dX2_whole_27 : decode cX2_whole 27 = .ok (.aload_n 0, 1) := by decide +kernel
theorem dX2_whole_28 : decode cX2_whole 28 = .ok (.getfield 29, 3) := by decide +kernel
theorem dX2_whole_31 : decode cX2_whole 31 = .ok (.if_icmp .ge 11, 3) := by decide +kernel
theorem dX2_whole_34 : decode cX2_whole 34 = .ok (.aload_n 0, 1) := by decide +kernel
theorem dX2_whole_35 : decode cX2_whole 35 = .ok (.lload_n 1, 1) := by decide +kernel
theorem dX2_whole_36 : decode cX2_whole 36 = .ok (.invokevirtual 139, 3) := by decide +kernel
theorem dX2_whole_39 : decode cX2_whole 39 = .ok (.ifCond .eq 5, 3) := by decide +kernel
theorem dX2_whole_42 : decode cX2_whole 42 = .ok (.lload_n 1, 1) := by decide +kernel
theorem dX2_whole_43 : decode cX2_whole 43 = .ok (.lreturn, 1) := by decide +kernel
theorem dX2_whole_44 : decode cX2_whole 44 = .ok (.lload_n 1, 1) := by decide +kernel
theorem dX2_whole_45 : decode cX2_whole 45 = .ok (.aload_n 0, 1) := by decide +kernel
theorem dX2_whole_46 : decode cX2_whole 46 = .ok (.getfield 42, 3) := by decide +kernel
theorem dX2_whole_49 : decode cX2_whole 49 = .ok (.land, 1) := by decide +kernel
theorem dX2_whole_50 : decode cX2_whole 50 = .ok (.lstore 5, 2) := by decide +kernel
theorem dX2_whole_52 : decode cX2_whole 52 = .ok (.iload 4, 2) := by decide +kernel
theorem dX2_whole_54 : decode cX2_whole 54 = .ok (.ifCond .ge 89, 3) := by decide +kernel
theorem dX2_whole_57 : decode cX2_whole 57 = .ok (.aload_n 0, 1) := by decide +kernel
theorem dX2_whole_58 : decode cX2_whole 58 = .ok (.getfield 46, 3) := by decide +kernel
theorem dX2_whole_61 : decode cX2_whole 61 = .ok (.lconst 1, 1) := by decide +kernel
theorem dX2_whole_62 : decode cX2_whole 62 = .ok (.aload_n 0, 1) := by decide +kernel
theorem dX2_whole_63 : decode cX2_whole 63 = .ok (.getfield 29, 3) := by decide +kernel
theorem dX2_whole_66 : decode cX2_whole 66 = .ok (.lshl, 1) := by decide +kernel
theorem dX2_whole_67 : decode cX2_whole 67 = .ok (.lsub, 1) := by decide +kernel
theorem dX2_whole_68 : decode cX2_whole 68 = .ok (.lstore 7, 2) := by decide +kernel
theorem dX2_whole_70 : decode cX2_whole 70 = .ok (.iload_n 3, 1) := by decide +kernel
theorem dX2_whole_71 : decode cX2_whole 71 = .ok (.iconst 2, 1) := by decide +kernel
theorem dX2_whole_72 : decode cX2_whole 72 = .ok (.if_icmp .ne 22, 3) := by decide +kernel
theorem dX2_whole_75 : decode cX2_whole 75 = .ok (.aload_n 0, 1) := by decide +kernel
theorem dX2_whole_76 : decode cX2_whole 76 = .ok (.lload_n 1, 1) := by decide +kernel
theorem dX2_whole_77 : decode cX2_whole 77 = .ok (.invokevirtual 82, 3) := by decide +kernel
theorem dX2_whole_80 : decode cX2_whole 80 = .ok (.lload 7, 2) := by decide +kernel
theorem dX2_whole_82 : decode cX2_whole 82 = .ok (.lcmp, 1) := by decide +kernel
theorem dX2_whole_83 : decode cX2_whole 83 = .ok (.ifCond .le 7, 3) := by decide +kernel
theorem dX2_whole_86 : decode cX2_whole 86 = .ok (.iconst 1, 1) := by decide +kernel
theorem dX2_whole_87 : decode cX2_whole 87 = .ok (.goto 36, 3) := by decide +kernel
theorem dX2_whole_90 : decode cX2_whole 90 = .ok (.iconst 0, 1) := by decide +kernel
theorem dX2_whole_91 : decode cX2_whole 91 = .ok (.goto 32, 3) := by decide +kernel
theorem dX2_whole_94 : decode cX2_whole 94 = .ok (.iload_n 3, 1) := by decide +kernel
theorem dX2_whole_95 : decode cX2_whole 95 = .ok (.ifCond .ne 7, 3) := by decide +kernel
theorem dX2_whole_98 : decode cX2_whole 98 = .ok (.iconst 1, 1) := by decide +kernel
theorem dX2_whole_99 : decode cX2_whole 99 = .ok (.goto 4, 3) := by decide +kernel
theorem dX2_whole_102 : decode cX2_whole 102 = .ok (.iconst 0, 1) := by decide +kernel
theorem dX2_whole_103 : decode cX2_whole 103 = .ok (.lload 5, 2) := by decide +kernel
theorem dX2_whole_105 : decode cX2_whole 105 = .ok (.lconst 0, 1) := by decide +kernel
theorem dX2_whole_106 : decode cX2_whole 106 = .ok (.lcmp, 1) := by decide +kernel
theorem dX2_whole_107 : decode cX2_whole 107 = .ok (.ifCond .ne 7, 3) := by decide +kernel
theorem dX2_whole_110 : decode cX2_whole 110 = .ok (.iconst 1, 1) := by decide +kernel
theorem dX2_whole_111 : decode cX2_whole 111 = .ok (.goto 4, 3) := by decide +kernel
theorem dX2_whole_114 : decode cX2_whole 114 = .ok (.iconst 0, 1) := by decide +kernel
theorem dX2_whole_115 : decode cX2_whole 115 = .ok (.if_icmp .ne 7, 3) := by decide +kernel
theorem dX2_whole_118 : decode cX2_whole 118 = .ok (.iconst 1, 1) := by decide +kernel
theorem dX2_whole_119 : decode cX2_whole 119 = .ok (.goto 4, 3) := by decide +kernel
theorem dX2_whole_122 : decode cX2_whole 122 = .ok (.iconst 0, 1) := by decide +kernel
theorem dX2_whole_123 : decode cX2_whole 123 = .ok (.istore 9, 2) := by decide +kernel
theorem dX2_whole_125 : decode cX2_whole 125 = .ok (.iload 9, 2) := by decide +kernel
theorem dX2_whole_127 : decode cX2_whole 127 = .ok (.ifCond .eq 13, 3) := by decide +kernel
theorem dX2_whole_130 : decode cX2_whole 130 = .ok (.lload 5, 2) := by decide +kernel
theorem dX2_whole_132 : decode cX2_whole 132 = .ok (.aload_n 0, 1) := by decide +kernel
theorem dX2_whole_133 : decode cX2_whole 133 = .ok (.getfield 46, 3) := by decide +kernel
theorem dX2_whole_136 : decode cX2_whole 136 = .ok (.lor, 1) := by decide +kernel
theorem dX2_whole_137 : decode cX2_whole 137 = .ok (.goto 5, 3) := by decide +kernel
theorem dX2_whole_140 : decode cX2_whole 140 = .ok (.lload 5, 2) := by decide +kernel
theorem dX2_whole_142 : decode cX2_whole 142 = .ok (.lreturn, 1) := by decide +kernel
theorem dX2_whole_143 : decode cX2_whole 143 = .ok (.lconst 1, 1) := by decide +kernel
theorem dX2_whole_144 : decode cX2_whole 144 = .ok (.aload_n 0, 1) := by decide +kernel
theorem dX2_whole_145 : decode cX2_whole 145 = .ok (.getfield 29, 3) := by decide +kernel
theorem dX2_whole_148 : decode cX2_whole 148 = .ok (.iload 4, 2) := by decide +kernel
theorem dX2_whole_150 : decode cX2_whole 150 = .ok (.isub, 1) := by decide +kernel
theorem dX2_whole_151 : decode cX2_whole 151 = .ok (.lshl, 1) := by decide +kernel
theorem dX2_whole_152 : decode cX2_whole 152 = .ok (.lstore 7, 2) := by decide +kernel
theorem dX2_whole_154 : decode cX2_whole 154 = .ok (.lload_n 1, 1) := by decide +kernel
theorem dX2_whole_155 : decode cX2_whole 155 = .ok (.lload 7, 2) := by decide +kernel
theorem dX2_whole_157 : decode cX2_whole 157 = .ok (.lneg, 1) := by decide +kernel
theorem dX2_whole_158 : decode cX2_whole 158 = .ok (.land, 1) := by decide +kernel
theorem dX2_whole_159 : decode cX2_whole 159 = .ok (.lstore 9, 2) := by decide +kernel
theorem dX2_whole_161 : decode cX2_whole 161 = .ok (.lload_n 1, 1) := by decide +kernel
theorem dX2_whole_162 : decode cX2_whole 162 = .ok (.lload 9, 2) := by decide +kernel
theorem dX2_whole_164 : decode cX2_whole 164 = .ok (.lsub, 1) := by decide +kernel
theorem dX2_whole_165 : decode cX2_whole 165 = .ok (.lstore 11, 2) := by decide +kernel
theorem dX2_whole_167 : decode cX2_whole 167 = .ok (.lload 11, 2) := by decide +kernel
theorem dX2_whole_169 : decode cX2_whole 169 = .ok (.lconst 0, 1) := by decide +kernel
theorem dX2_whole_170 : decode cX2_whole 170 = .ok (.lcmp, 1) := by decide +kernel
theorem dX2_whole_171 : decode cX2_whole 171 = .ok (.ifCond .ne 5, 3) := by decide +kernel
theorem dX2_whole_174 : decode cX2_whole 174 = .ok (.lload_n 1, 1) := by decide +kernel
theorem dX2_whole_175 : decode cX2_whole 175 = .ok (.lreturn, 1) := by decide +kernel
theorem dX2_whole_176 : decode cX2_whole 176 = .ok (.lload 9, 2) := by decide +kernel
theorem dX2_whole_178 : decode cX2_whole 178 = .ok (.lload 7, 2) := by decide +kernel
theorem dX2_whole_180 : decode cX2_whole 180 = .ok (.land, 1) := by decide +kernel
theorem dX2_whole_181 : decode cX2_whole 181 = .ok (.lconst 0, 1) := by decide +kernel
theorem dX2_whole_182 : decode cX2_whole 182 = .ok (.lcmp, 1) := by decide +kernel
theorem dX2_whole_183 : decode cX2_whole 183 = .ok (.ifCond .eq 7, 3) := by decide +kernel
theorem dX2_whole_186 : decode cX2_whole 186 = .ok (.iconst 1, 1) := by decide +kernel
theorem dX2_whole_187 : decode cX2_whole 187 = .ok (.goto 4, 3) := by decide +kernel
theorem dX2_whole_190 : decode cX2_whole 190 = .ok (.iconst 0, 1) := by decide +kernel
theorem dX2_whole_191 : decode cX2_whole 191 = .ok (.istore 13, 2) := by decide +kernel
theorem dX2_whole_193 : decode cX2_whole 193 = .ok (.iload_n 3, 1) := by decide +kernel
theorem dX2_whole_194 : decode cX2_whole 194 = .ok (.iconst 2, 1) := by decide +kernel
theorem dX2_whole_195 : decode cX2_whole 195 = .ok (.if_icmp .ne 36, 3) := by decide +kernel
theorem dX2_whole_198 : decode cX2_whole 198 = .ok (.lload 11, 2) := by decide +kernel
theorem dX2_whole_200 : decode cX2_whole 200 = .ok (.lload 7, 2) := by decide +kernel
theorem dX2_whole_202 : decode cX2_whole 202 = .ok (.iconst 1, 1) := by decide +kernel
theorem dX2_whole_203 : decode cX2_whole 203 = .ok (.lshr, 1) := by decide +kernel
theorem dX2_whole_204 : decode cX2_whole 204 = .ok (.lcmp, 1) := by decide +kernel
theorem dX2_whole_205 : decode cX2_whole 205 = .ok (.ifCond .gt 18, 3) := by decide +kernel
theorem dX2_whole_208 : decode cX2_whole 208 = .ok (.lload 11, 2) := by decide +kernel
theorem dX2_whole_210 : decode cX2_whole 210 = .ok (.lload 7, 2) := by decide +kernel
theorem dX2_whole_212 : decode cX2_whole 212 = .ok (.iconst 1, 1) := by decide +kernel
theorem dX2_whole_213 : decode cX2_whole 213 = .ok (.lshr, 1) := by decide +kernel
theorem dX2_whole_214 : decode cX2_whole 214 = .ok (.lcmp, 1) := by decide +kernel
theorem dX2_whole_215 : decode cX2_whole 215 = .ok (.ifCond .ne 12, 3) := by decide +kernel
theorem dX2_whole_218 : decode cX2_whole 218 = .ok (.iload 13, 2) := by decide +kernel
theorem dX2_whole_220 : decode cX2_whole 220 = .ok (.ifCond .eq 7, 3) := by decide +kernel
theorem dX2_whole_223 : decode cX2_whole 223 = .ok (.iconst 1, 1) := by decide +kernel
theorem dX2_whole_224 : decode cX2_whole 224 = .ok (.goto 36, 3) := by decide +kernel
theorem dX2_whole_227 : decode cX2_whole 227 = .ok (.iconst 0, 1) := by decide +kernel
theorem dX2_whole_228 : decode cX2_whole 228 = .ok (.goto 32, 3) := by decide +kernel
theorem dX2_whole_231 : decode cX2_whole 231 = .ok (.iload_n 3, 1) := by decide +kernel
theorem dX2_whole_232 : decode cX2_whole 232 = .ok (.ifCond .ne 7, 3) := by decide +kernel
theorem dX2_whole_235 : decode cX2_whole 235 = .ok (.iconst 1, 1) := by decide +kernel
theorem dX2_whole_236 : decode cX2_whole 236 = .ok (.goto 4, 3) := by decide +kernel
theorem dX2_whole_239 : decode cX2_whole 239 = .ok (.iconst 0, 1) := by decide +kernel
theorem dX2_whole_240 : decode cX2_whole 240 = .ok (.lload 5, 2) := by decide +kernel
theorem dX2_whole_242 : decode cX2_whole 242 = .ok (.lconst 0, 1) := by decide +kernel
theorem dX2_whole_243 : decode cX2_whole 243 = .ok (.lcmp, 1) := by decide +kernel
theorem dX2_whole_244 : decode cX2_whole 244 = .ok (.ifCond .ne 7, 3) := by decide +kernel
theorem dX2_whole_247 : decode cX2_whole 247 = .ok (.iconst 1, 1) := by decide +kernel
theorem dX2_whole_248 : decode cX2_whole 248 = .ok (.goto 4, 3) := by decide +kernel
theorem dX2_whole_251 : decode cX2_whole 251 = .ok (.iconst 0, 1) := by decide +kernel
theorem dX2_whole_252 : decode cX2_whole 252 = .ok (.if_icmp .ne 7, 3) := by decide +kernel
theorem dX2_whole_255 : decode cX2_whole 255 = .ok (.iconst 1, 1) := by decide +kernel
theorem dX2_whole_256 : decode cX2_whole 256 = .ok (.goto 4, 3) := by decide +kernel
theorem dX2_whole_259 : decode cX2_whole 259 = .ok (.iconst 0, 1) := by decide +kernel
theorem dX2_whole_260 : decode cX2_whole 260 = .ok (.istore 14, 2) := by decide +kernel
theorem dX2_whole_262 : decode cX2_whole 262 = .ok (.iload 14, 2) := by decide +kernel
theorem dX2_whole_264 : decode cX2_whole 264 = .ok (.ifCond .eq 11, 3) := by decide +kernel
theorem dX2_whole_267 : decode cX2_whole 267 = .ok (.lload 9, 2) := by decide +kernel
theorem dX2_whole_269 : decode cX2_whole 269 = .ok (.lload 7, 2) := by decide +kernel
theorem dX2_whole_271 : decode cX2_whole 271 = .ok (.ladd, 1) := by decide +kernel
theorem dX2_whole_272 : decode cX2_whole 272 = .ok (.goto 5, 3) := by decide +kernel
theorem dX2_whole_275 : decode cX2_whole 275 = .ok (.lload 9, 2) := by decide +kernel
theorem dX2_whole_277 : decode cX2_whole 277 = .ok (.lreturn, 1) := by decide +kernel
theorem dX2_lesser_0 : decode cX2_lesser 0 = .ok (.aload_n 0, 1) := by decide +kernel
theorem dX2_lesser_1 : decode cX2_lesser 1 = .ok (.lload_n 1, 1) := by decide +kernel
theorem dX2_lesser_2 : decode cX2_lesser 2 = .ok (.invokevirtual 116, 3) := by decide +kernel
theorem dX2_lesser_5 : decode cX2_lesser 5 = .ok (.ifCond .ne 11, 3) := by decide +kernel
theorem dX2_lesser_8 : decode cX2_lesser 8 = .ok (.aload_n 0, 1) := by decide +kernel
theorem dX2_lesser_9 : decode cX2_lesser 9 = .ok (.lload_n 3, 1) := by decide +kernel
theorem dX2_lesser_10 : decode cX2_lesser 10 = .ok (.invokevirtual 116, 3) := by decide +kernel
theorem dX2_lesser_13 : decode cX2_lesser 13 = .ok (.ifCond .eq 8, 3) := by decide +kernel
theorem dX2_lesser_16 : decode cX2_lesser 16 = .ok (.aload_n 0, 1) := by decide +kernel
theorem dX2_lesser_17 : decode cX2_lesser 17 = .ok (.getfield 52, 3) := by decide +kernel
theorem dX2_lesser_20 : decode cX2_lesser 20 = .ok (.lreturn, 1) := by decide +kernel
theorem dX2_lesser_21 : decode cX2_lesser 21 = .ok (.aload_n 0, 1) := by decide +kernel
theorem dX2_lesser_22 : decode cX2_lesser 22 = .ok (.lload_n 1, 1) := by decide +kernel
theorem dX2_lesser_23 : decode cX2_lesser 23 = .ok (.invokevirtual 124, 3) := by decide +kernel
theorem dX2_lesser_26 : decode cX2_lesser 26 = .ok (.aload_n 0, 1) := by decide +kernel
theorem dX2_lesser_27 : decode cX2_lesser 27 = .ok (.lload_n 3, 1) := by decide +kernel
theorem dX2_lesser_28 : decode cX2_lesser 28 = .ok (.invokevirtual 124, 3) := by decide +kernel
theorem dX2_lesser_31 : decode cX2_lesser 31 = .ok (.lcmp, 1) := by decide +kernel
theorem dX2_lesser_32 : decode cX2_lesser 32 = .ok (.ifCond .lt 25, 3) := by decide +kernel
theorem dX2_lesser_35 : decode cX2_lesser 35 = .ok (.aload_n 0, 1) := by decide +kernel
theorem dX2_lesser_36 : decode cX2_lesser 36 = .ok (.lload_n 1, 1) := by decide +kernel
theorem dX2_lesser_37 : decode cX2_lesser 37 = .ok (.invokevirtual 124, 3) := by decide +kernel
theorem dX2_lesser_40 : decode cX2_lesser 40 = .ok (.aload_n 0, 1) := by decide +kernel
theorem dX2_lesser_41 : decode cX2_lesser 41 = .ok (.lload_n 3, 1) := by decide +kernel
theorem dX2_lesser_42 : decode cX2_lesser 42 = .ok (.invokevirtual 124, 3) := by decide +kernel
theorem dX2_lesser_45 : decode cX2_lesser 45 = .ok (.lcmp, 1) := by decide +kernel
theorem dX2_lesser_46 : decode cX2_lesser 46 = .ok (.ifCond .ne 15, 3) := by decide +kernel
theorem dX2_lesser_49 : decode cX2_lesser 49 = .ok (.aload_n 0, 1) := by decide +kernel
theorem dX2_lesser_50 : decode cX2_lesser 50 = .ok (.lload_n 1, 1) := by decide +kernel
theorem dX2_lesser_51 : decode cX2_lesser 51 = .ok (.invokevirtual 136, 3) := by decide +kernel
theorem dX2_lesser_54 : decode cX2_lesser 54 = .ok (.ifCond .eq 7, 3) := by decide +kernel
theorem dX2_lesser_57 : decode cX2_lesser 57 = .ok (.lload_n 1, 1) := by decide +kernel
theorem dX2_lesser_58 : decode cX2_lesser 58 = .ok (.goto 4, 3) := by decide +kernel
theorem dX2_lesser_61 : decode cX2_lesser 61 = .ok (.lload_n 3, 1) := by decide +kernel
theorem dX2_lesser_62 : decode cX2_lesser 62 = .ok (.lreturn, 1) := by decide +kernel
theorem dX2_greater_0 : decode cX2_greater 0 = .ok (.aload_n 0, 1) := by decide +kernel
theorem dX2_greater_1 : decode cX2_greater 1 = .ok (.lload_n 1, 1) := by decide +kernel
theorem dX2_greater_2 : decode cX2_greater 2 = .ok (.invokevirtual 116, 3) := by decide +kernel
theorem dX2_greater_5 : decode cX2_greater 5 = .ok (.ifCond .ne 11, 3) := by decide +kernel
theorem dX2_greater_8 : decode cX2_greater 8 = .ok (.aload_n 0, 1) := by decide +kernel
theorem dX2_greater_9 : decode cX2_greater 9 = .ok (.lload_n 3, 1) := by decide +kernel
theorem dX2_greater_10 : decode cX2_greater 10 = .ok (.invokevirtual 116, 3) := by decide +kernel
theorem dX2_greater_13 : decode cX2_greater 13 = .ok (.ifCond .eq 8, 3) := by decide +kernel
theorem dX2_greater_16 : decode cX2_greater 16 = .ok (.aload_n 0, 1) := by decide +kernel
theorem dX2_greater_17 : decode cX2_greater 17 = .ok (.getfield 52, 3) := by decide +kernel
theorem dX2_greater_20 : decode cX2_greater 20 = .ok (.lreturn, 1) := by decide +kernel
theorem dX2_greater_21 : decode cX2_greater 21 = .ok (.aload_n 0, 1) := by decide +kernel
theorem dX2_greater_22 : decode cX2_greater 22 = .ok (.lload_n 1, 1) := by decide +kernel
theorem dX2_greater_23 : decode cX2_greater 23 = .ok (.invokevirtual 124, 3) := by decide +kernel
theorem dX2_greater_26 : decode cX2_greater 26 = .ok (.aload_n 0, 1) := by decide +kernel
theorem dX2_greater_27 : decode cX2_greater 27 = .ok (.lload_n 3, 1) := by decide +kernel
theorem dX2_greater_28 : decode cX2_greater 28 = .ok (.invokevirtual 124, 3) := by decide +kernel
theorem dX2_greater_31 : decode cX2_greater 31 = .ok (.lcmp, 1) := by decide +kernel
theorem dX2_greater_32 : decode cX2_greater 32 = .ok (.ifCond .gt 25, 3) := by decide +kernel
theorem dX2_greater_35 : decode cX2_greater 35 = .ok (.aload_n 0, 1) := by decide +kernel
theorem dX2_greater_36 : decode cX2_greater 36 = .ok (.lload_n 1, 1) := by decide +kernel
theorem dX2_greater_37 : decode cX2_greater 37 = .ok (.invokevirtual 124, 3) := by decide +kernel
theorem dX2_greater_40 : decode cX2_greater 40 = .ok (.aload_n 0, 1) := by decide +kernel
theorem dX2_greater_41 : decode cX2_greater 41 = .ok (.lload_n 3, 1) := by decide +kernel
theorem dX2_greater_42 : decode cX2_greater 42 = .ok (.invokevirtual 124, 3) := by decide +kernel
theorem dX2_greater_45 : decode cX2_greater 45 = .ok (.lcmp, 1) := by decide +kernel
theorem dX2_greater_46 : decode cX2_greater 46 = .ok (.ifCond .ne 15, 3) := by decide +kernel
theorem dX2_greater_49 : decode cX2_greater 49 = .ok (.aload_n 0, 1) := by decide +kernel
theorem dX2_greater_50 : decode cX2_greater 50 = .ok (.lload_n 1, 1) := by decide +kernel
theorem dX2_greater_51 : decode cX2_greater 51 = .ok (.invokevirtual 136, 3) := by decide +kernel
theorem dX2_greater_54 : decode cX2_greater 54 = .ok (.ifCond .ne 7, 3) := by decide +kernel
theorem dX2_greater_57 : decode cX2_greater 57 = .ok (.lload_n 1, 1) := by decide +kernel
theorem dX2_greater_58 : decode cX2_greater 58 = .ok (.goto 4, 3) := by decide +kernel
theorem dX2_greater_61 : decode cX2_greater 61 = .ok (.lload_n 3, 1) := by decide +kernel
theorem dX2_greater_62 : decode cX2_greater 62 = .ok (.lreturn, 1) := by decide +kernel
theorem dX2_power_0 : decode cX2_power 0 = .ok (.aload_n 0, 1) := by decide +kernel
theorem dX2_power_1 : decode cX2_power 1 = .ok (.getfield 46, 3) := by decide +kernel
theorem dX2_power_4 : decode cX2_power 4 = .ok (.lstore 5, 2) := by decide +kernel
theorem dX2_power_6 : decode cX2_power 6 = .ok (.iconst 0, 1) := by decide +kernel
theorem dX2_power_7 : decode cX2_power 7 = .ok (.istore 7, 2) := by decide +kernel
theorem dX2_power_9 : decode cX2_power 9 = .ok (.iload 7, 2) := by decide +kernel
theorem dX2_power_11 : decode cX2_power 11 = .ok (.i2l, 1) := by decide +kernel
theorem dX2_power_12 : decode cX2_power 12 = .ok (.lload_n 3, 1) := by decide +kernel
theorem dX2_power_13 : decode cX2_power 13 = .ok (.lcmp, 1) := by decide +kernel
theorem dX2_power_14 : decode cX2_power 14 = .ok (.ifCond .ge 18, 3) := by decide +kernel
theorem dX2_power_17 : decode cX2_power 17 = .ok (.aload_n 0, 1) := by decide +kernel
theorem dX2_power_18 : decode cX2_power 18 = .ok (.lload 5, 2) := by decide +kernel
theorem dX2_power_20 : decode cX2_power 20 = .ok (.lload_n 1, 1) := by decide +kernel
theorem dX2_power_21 : decode cX2_power 21 = .ok (.invokevirtual 59, 3) := by decide +kernel
theorem dX2_power_24 : decode cX2_power 24 = .ok (.lstore 5, 2) := by decide +kernel
theorem dX2_power_26 : decode cX2_power 26 = .ok (.iinc 7 1, 3) := by decide +kernel
theorem dX2_power_29 : decode cX2_power 29 = .ok (.goto (-20), 3) := by decide +kernel
theorem dX2_power_32 : decode cX2_power 32 = .ok (.lload 5, 2) := by decide +kernel
theorem dX2_power_34 : decode cX2_power 34 = .ok (.lreturn, 1) := by decide +kernel
theorem dX2_scaled_0 : decode cX2_scaled 0 = .ok (.aload_n 0, 1) := by decide +kernel
theorem dX2_scaled_1 : decode cX2_scaled 1 = .ok (.lload_n 1, 1) := by decide +kernel
theorem dX2_scaled_2 : decode cX2_scaled 2 = .ok (.invokevirtual 116, 3) := by decide +kernel
theorem dX2_scaled_5 : decode cX2_scaled 5 = .ok (.ifCond .eq 8, 3) := by decide +kernel
theorem dX2_scaled_8 : decode cX2_scaled 8 = .ok (.aload_n 0, 1) := by decide +kernel
theorem dX2_scaled_9 : decode cX2_scaled 9 = .ok (.getfield 52, 3) := by decide +kernel
theorem dX2_scaled_12 : decode cX2_scaled 12 = .ok (.lreturn, 1) := by decide +kernel
theorem dX2_scaled_13 : decode cX2_scaled 13 = .ok (.aload_n 0, 1) := by decide +kernel
theorem dX2_scaled_14 : decode cX2_scaled 14 = .ok (.lload_n 1, 1) := by decide +kernel
theorem dX2_scaled_15 : decode cX2_scaled 15 = .ok (.invokevirtual 127, 3) := by decide +kernel
theorem dX2_scaled_18 : decode cX2_scaled 18 = .ok (.ifCond .ne 11, 3) := by decide +kernel
theorem dX2_scaled_21 : decode cX2_scaled 21 = .ok (.aload_n 0, 1) := by decide +kernel
theorem dX2_scaled_22 : decode cX2_scaled 22 = .ok (.lload_n 1, 1) := by decide +kernel
theorem dX2_scaled_23 : decode cX2_scaled 23 = .ok (.invokevirtual 139, 3) := by decide +kernel
theorem dX2_scaled_26 : decode cX2_scaled 26 = .ok (.ifCond .eq 5, 3) := by decide +kernel
theorem dX2_scaled_29 : decode cX2_scaled 29 = .ok (.lload_n 1, 1) := by decide +kernel
theorem dX2_scaled_30 : decode cX2_scaled 30 = .ok (.lreturn, 1) := by decide +kernel
theorem dX2_scaled_31 : decode cX2_scaled 31 = .ok (.ldc2_w 173, 3) := by decide +kernel
theorem dX2_scaled_34 : decode cX2_scaled 34 = .ok (.ldc2_w 175, 3) := by decide +kernel
theorem dX2_scaled_37 : decode cX2_scaled 37 = .ok (.lload_n 3, 1) := by decide +kernel
theorem dX2_scaled_38 : decode cX2_scaled 38 = .ok (.invokestatic 177, 3) := by decide +kernel
theorem dX2_scaled_41 : decode cX2_scaled 41 = .ok (.invokestatic 179, 3) := by decide +kernel
theorem dX2_scaled_44 : decode cX2_scaled 44 = .ok (.l2i, 1) := by decide +kernel
theorem dX2_scaled_45 : decode cX2_scaled 45 = .ok (.istore 5, 2) := by decide +kernel
theorem dX2_scaled_47 : decode cX2_scaled 47 = .ok (.aload_n 0, 1) := by decide +kernel
theorem dX2_scaled_48 : decode cX2_scaled 48 = .ok (.aload_n 0, 1) := by decide +kernel
theorem dX2_scaled_49 : decode cX2_scaled 49 = .ok (.lload_n 1, 1) := by decide +kernel
theorem dX2_scaled_50 : decode cX2_scaled 50 = .ok (.invokevirtual 136, 3) := by decide +kernel
theorem dX2_scaled_53 : decode cX2_scaled 53 = .ok (.aload_n 0, 1) := by decide +kernel
theorem dX2_scaled_54 : decode cX2_scaled 54 = .ok (.lload_n 1, 1) := by decide +kernel
theorem dX2_scaled_55 : decode cX2_scaled 55 = .ok (.invokevirtual 142, 3) := by decide +kernel
theorem dX2_scaled_58 : decode cX2_scaled 58 = .ok (.iload 5, 2) := by decide +kernel
theorem dX2_scaled_60 : decode cX2_scaled 60 = .ok (.iadd, 1) := by decide +kernel
theorem dX2_scaled_61 : decode cX2_scaled 61 = .ok (.aload_n 0, 1) := by decide +kernel
theorem dX2_scaled_62 : decode cX2_scaled 62 = .ok (.lload_n 1, 1) := by decide +kernel
theorem dX2_scaled_63 : decode cX2_scaled 63 = .ok (.invokevirtual 145, 3) := by decide +kernel
theorem dX2_scaled_66 : decode cX2_scaled 66 = .ok (.invokevirtual 148, 3) := by decide +kernel
theorem dX2_scaled_69 : decode cX2_scaled 69 = .ok (.lreturn, 1) := by decide +kernel
theorem dX2_above_0 : decode cX2_above 0 = .ok (.aload_n 0, 1) := by decide +kernel
theorem dX2_above_1 : decode cX2_above 1 = .ok (.lload_n 1, 1) := by decide +kernel
theorem dX2_above_2 : decode cX2_above 2 = .ok (.invokevirtual 116, 3) := by decide +kernel
theorem dX2_above_5 : decode cX2_above 5 = .ok (.ifCond .eq 8, 3) := by decide +kernel
theorem dX2_above_8 : decode cX2_above 8 = .ok (.aload_n 0, 1) := by decide +kernel
theorem dX2_above_9 : decode cX2_above 9 = .ok (.getfield 52, 3) := by decide +kernel
theorem dX2_above_12 : decode cX2_above 12 = .ok (.lreturn, 1) := by decide +kernel
theorem dX2_above_13 : decode cX2_above 13 = .ok (.aload_n 0, 1) := by decide +kernel
theorem dX2_above_14 : decode cX2_above 14 = .ok (.lload_n 1, 1) := by decide +kernel
theorem dX2_above_15 : decode cX2_above 15 = .ok (.invokevirtual 139, 3) := by decide +kernel
theorem dX2_above_18 : decode cX2_above 18 = .ok (.ifCond .eq 5, 3) := by decide +kernel
theorem dX2_above_21 : decode cX2_above 21 = .ok (.lconst 1, 1) := by decide +kernel
theorem dX2_above_22 : decode cX2_above 22 = .ok (.lreturn, 1) := by decide +kernel
theorem dX2_above_23 : decode cX2_above 23 = .ok (.lload_n 1, 1) := by decide +kernel
theorem dX2_above_24 : decode cX2_above 24 = .ok (.aload_n 0, 1) := by decide +kernel
theorem dX2_above_25 : decode cX2_above 25 = .ok (.getfield 49, 3) := by decide +kernel
theorem dX2_above_28 : decode cX2_above 28 = .ok (.lcmp, 1) := by decide +kernel
theorem dX2_above_29 : decode cX2_above 29 = .ok (.ifCond .ne 5, 3) := by decide +kernel
theorem dX2_above_32 : decode cX2_above 32 = .ok (.lload_n 1, 1) := by decide +kernel
theorem dX2_above_33 : decode cX2_above 33 = .ok (.lreturn, 1) := by decide +kernel
theorem dX2_above_34 : decode cX2_above 34 = .ok (.aload_n 0, 1) := by decide +kernel
theorem dX2_above_35 : decode cX2_above 35 = .ok (.lload_n 1, 1) := by decide +kernel
theorem dX2_above_36 : decode cX2_above 36 = .ok (.invokevirtual 136, 3) := by decide +kernel
theorem dX2_above_39 : decode cX2_above 39 = .ok (.ifCond .eq 9, 3) := by decide +kernel
theorem dX2_above_42 : decode cX2_above 42 = .ok (.lload_n 1, 1) := by decide +kernel
theorem dX2_above_43 : decode cX2_above 43 = .ok (.lconst 1, 1) := by decide +kernel
theorem dX2_above_44 : decode cX2_above 44 = .ok (.lsub, 1) := by decide +kernel
theorem dX2_above_45 : decode cX2_above 45 = .ok (.goto 6, 3) := by decide +kernel
theorem dX2_above_48 : decode cX2_above 48 = .ok (.lload_n 1, 1) := by decide +kernel
theorem dX2_above_49 : decode cX2_above 49 = .ok (.lconst 1, 1) := by decide +kernel
theorem dX2_above_50 : decode cX2_above 50 = .ok (.ladd, 1) := by decide +kernel
theorem dX2_above_51 : decode cX2_above 51 = .ok (.lreturn, 1) := by decide +kernel
theorem dX2_gap_0 : decode cX2_gap 0 = .ok (.aload_n 0, 1) := by decide +kernel
theorem dX2_gap_1 : decode cX2_gap 1 = .ok (.lload_n 1, 1) := by decide +kernel
theorem dX2_gap_2 : decode cX2_gap 2 = .ok (.invokevirtual 116, 3) := by decide +kernel
theorem dX2_gap_5 : decode cX2_gap 5 = .ok (.ifCond .eq 8, 3) := by decide +kernel
theorem dX2_gap_8 : decode cX2_gap 8 = .ok (.aload_n 0, 1) := by decide +kernel
theorem dX2_gap_9 : decode cX2_gap 9 = .ok (.getfield 52, 3) := by decide +kernel
theorem dX2_gap_12 : decode cX2_gap 12 = .ok (.lreturn, 1) := by decide +kernel
theorem dX2_gap_13 : decode cX2_gap 13 = .ok (.aload_n 0, 1) := by decide +kernel
theorem dX2_gap_14 : decode cX2_gap 14 = .ok (.lload_n 1, 1) := by decide +kernel
theorem dX2_gap_15 : decode cX2_gap 15 = .ok (.invokevirtual 127, 3) := by decide +kernel
theorem dX2_gap_18 : decode cX2_gap 18 = .ok (.ifCond .eq 10, 3) := by decide +kernel
theorem dX2_gap_21 : decode cX2_gap 21 = .ok (.aload_n 0, 1) := by decide +kernel
theorem dX2_gap_22 : decode cX2_gap 22 = .ok (.getfield 49, 3) := by decide +kernel
theorem dX2_gap_25 : decode cX2_gap 25 = .ok (.goto 14, 3) := by decide +kernel
theorem dX2_gap_28 : decode cX2_gap 28 = .ok (.aload_n 0, 1) := by decide +kernel
theorem dX2_gap_29 : decode cX2_gap 29 = .ok (.iconst 0, 1) := by decide +kernel
theorem dX2_gap_30 : decode cX2_gap 30 = .ok (.aload_n 0, 1) := by decide +kernel
theorem dX2_gap_31 : decode cX2_gap 31 = .ok (.lload_n 1, 1) := by decide +kernel
theorem dX2_gap_32 : decode cX2_gap 32 = .ok (.invokevirtual 142, 3) := by decide +kernel
theorem dX2_gap_35 : decode cX2_gap 35 = .ok (.lconst 1, 1) := by decide +kernel
theorem dX2_gap_36 : decode cX2_gap 36 = .ok (.invokevirtual 148, 3) := by decide +kernel
theorem dX2_gap_39 : decode cX2_gap 39 = .ok (.lreturn, 1) := by decide +kernel
theorem dX2_fused_0 : decode cX2_fused 0 = .ok (.aload_n 0, 1) := by decide +kernel
theorem dX2_fused_1 : decode cX2_fused 1 = .ok (.lload_n 1, 1) := by decide +kernel
theorem dX2_fused_2 : decode cX2_fused 2 = .ok (.invokevirtual 116, 3) := by decide +kernel
theorem dX2_fused_5 : decode cX2_fused 5 = .ok (.ifCond .ne 20, 3) := by decide +kernel
theorem dX2_fused_8 : decode cX2_fused 8 = .ok (.aload_n 0, 1) := by decide +kernel
theorem dX2_fused_9 : decode cX2_fused 9 = .ok (.lload_n 3, 1) := by decide +kernel
theorem dX2_fused_10 : decode cX2_fused 10 = .ok (.invokevirtual 116, 3) := by decide +kernel
theorem dX2_fused_13 : decode cX2_fused 13 = .ok (.ifCond .ne 12, 3) := by decide +kernel
theorem dX2_fused_16 : decode cX2_fused 16 = .ok (.aload_n 0, 1) := by decide +kernel
theorem dX2_fused_17 : decode cX2_fused 17 = .ok (.lload 5, 2) := by decide +kernel
theorem dX2_fused_19 : decode cX2_fused 19 = .ok (.invokevirtual 116, 3) := by decide +kernel
theorem dX2_fused_22 : decode cX2_fused 22 = .ok (.ifCond .eq 8, 3) := by decide +kernel
theorem dX2_fused_25 : decode cX2_fused 25 = .ok (.aload_n 0, 1) := by decide +kernel
theorem dX2_fused_26 : decode cX2_fused 26 = .ok (.getfield 52, 3) := by decide +kernel
theorem dX2_fused_29 : decode cX2_fused 29 = .ok (.lreturn, 1) := by decide +kernel
theorem dX2_fused_30 : decode cX2_fused 30 = .ok (.aload_n 0, 1) := by decide +kernel
theorem dX2_fused_31 : decode cX2_fused 31 = .ok (.lload_n 1, 1) := by decide +kernel
theorem dX2_fused_32 : decode cX2_fused 32 = .ok (.invokevirtual 127, 3) := by decide +kernel
theorem dX2_fused_35 : decode cX2_fused 35 = .ok (.ifCond .ne 27, 3) := by decide +kernel
theorem dX2_fused_38 : decode cX2_fused 38 = .ok (.aload_n 0, 1) := by decide +kernel
theorem dX2_fused_39 : decode cX2_fused 39 = .ok (.lload_n 3, 1) := by decide +kernel
theorem dX2_fused_40 : decode cX2_fused 40 = .ok (.invokevirtual 127, 3) := by decide +kernel
theorem dX2_fused_43 : decode cX2_fused 43 = .ok (.ifCond .ne 19, 3) := by decide +kernel
theorem dX2_fused_46 : decode cX2_fused 46 = .ok (.aload_n 0, 1) := by decide +kernel
theorem dX2_fused_47 : decode cX2_fused 47 = .ok (.lload_n 1, 1) := by decide +kernel
theorem dX2_fused_48 : decode cX2_fused 48 = .ok (.invokevirtual 139, 3) := by decide +kernel
theorem dX2_fused_51 : decode cX2_fused 51 = .ok (.ifCond .ne 11, 3) := by decide +kernel
theorem dX2_fused_54 : decode cX2_fused 54 = .ok (.aload_n 0, 1) := by decide +kernel
theorem dX2_fused_55 : decode cX2_fused 55 = .ok (.lload_n 3, 1) := by decide +kernel
theorem dX2_fused_56 : decode cX2_fused 56 = .ok (.invokevirtual 139, 3) := by decide +kernel
theorem dX2_fused_59 : decode cX2_fused 59 = .ok (.ifCond .eq 16, 3) := by decide +kernel
theorem dX2_fused_62 : decode cX2_fused 62 = .ok (.aload_n 0, 1) := by decide +kernel
theorem dX2_fused_63 : decode cX2_fused 63 = .ok (.aload_n 0, 1) := by decide +kernel
theorem dX2_fused_64 : decode cX2_fused 64 = .ok (.lload_n 1, 1) := by decide +kernel
theorem dX2_fused_65 : decode cX2_fused 65 = .ok (.lload_n 3, 1) := by decide +kernel
theorem dX2_fused_66 : decode cX2_fused 66 = .ok (.invokevirtual 59, 3) := by decide +kernel
theorem dX2_fused_69 : decode cX2_fused 69 = .ok (.lload 5, 2) := by decide +kernel
theorem dX2_fused_71 : decode cX2_fused 71 = .ok (.invokevirtual 55, 3) := by decide +kernel
theorem dX2_fused_74 : decode cX2_fused 74 = .ok (.lreturn, 1) := by decide +kernel
theorem dX2_fused_75 : decode cX2_fused 75 = .ok (.aload_n 0, 1) := by decide +kernel
theorem dX2_fused_76 : decode cX2_fused 76 = .ok (.lload 5, 2) := by decide +kernel
theorem dX2_fused_78 : decode cX2_fused 78 = .ok (.invokevirtual 127, 3) := by decide +kernel
theorem dX2_fused_81 : decode cX2_fused 81 = .ok (.ifCond .eq 6, 3) := by decide +kernel
theorem dX2_fused_84 : decode cX2_fused 84 = .ok (.lload 5, 2) := by decide +kernel
theorem dX2_fused_86 : decode cX2_fused 86 = .ok (.lreturn, 1) := by decide +kernel
theorem dX2_fused_87 : decode cX2_fused 87 = .ok (.aload_n 0, 1) := by decide +kernel
theorem dX2_fused_88 : decode cX2_fused 88 = .ok (.lload 5, 2) := by decide +kernel
theorem dX2_fused_90 : decode cX2_fused 90 = .ok (.invokevirtual 139, 3) := by decide +kernel
theorem dX2_fused_93 : decode cX2_fused 93 = .ok (.ifCond .eq 12, 3) := by decide +kernel
theorem dX2_fused_96 : decode cX2_fused 96 = .ok (.aload_n 0, 1) := by decide +kernel
theorem dX2_fused_97 : decode cX2_fused 97 = .ok (.lload_n 1, 1) := by decide +kernel
theorem dX2_fused_98 : decode cX2_fused 98 = .ok (.lload_n 3, 1) := by decide +kernel
theorem dX2_fused_99 : decode cX2_fused 99 = .ok (.invokevirtual 59, 3) := by decide +kernel
theorem dX2_fused_102 : decode cX2_fused 102 = .ok (.goto 11, 3) := by decide +kernel
theorem dX2_fused_105 : decode cX2_fused 105 = .ok (.aload_n 0, 1) := by decide +kernel
theorem dX2_fused_106 : decode cX2_fused 106 = .ok (.lload_n 1, 1) := by decide +kernel
theorem dX2_fused_107 : decode cX2_fused 107 = .ok (.lload_n 3, 1) := by decide +kernel
theorem dX2_fused_108 : decode cX2_fused 108 = .ok (.lload 5, 2) := by decide +kernel
theorem dX2_fused_110 : decode cX2_fused 110 = .ok (.invokevirtual 181, 3) := by decide +kernel
theorem dX2_fused_113 : decode cX2_fused 113 = .ok (.lreturn, 1) := by decide +kernel
theorem dX2_fusedFinite_0 : decode cX2_fusedFinite 0 = .ok (.aload_n 0, 1) := by decide +kernel
theorem dX2_fusedFinite_1 : decode cX2_fusedFinite 1 = .ok (.lload_n 1, 1) := by decide +kernel
theorem dX2_fusedFinite_2 : decode cX2_fusedFinite 2 = .ok (.invokevirtual 145, 3) := by decide +kernel
theorem dX2_fusedFinite_5 : decode cX2_fusedFinite 5 = .ok (.lstore 7, 2) := by decide +kernel
theorem dX2_fusedFinite_7 : decode cX2_fusedFinite 7 = .ok (.aload_n 0, 1) := by decide +kernel
theorem dX2_fusedFinite_8 : decode cX2_fusedFinite 8 = .ok (.lload_n 3, 1) := by decide +kernel
theorem dX2_fusedFinite_9 : decode cX2_fusedFinite 9 = .ok (.invokevirtual 145, 3) := by decide +kernel
theorem dX2_fusedFinite_12 : decode cX2_fusedFinite 12 = .ok (.lstore 9, 2) := by decide +kernel
theorem dX2_fusedFinite_14 : decode cX2_fusedFinite 14 = .ok (.lload 7, 2) := by decide +kernel
theorem dX2_fusedFinite_16 : decode cX2_fusedFinite 16 = .ok (.invokestatic 160, 3) := by decide +kernel
theorem dX2_fusedFinite_19 : decode cX2_fusedFinite 19 = .ok (.istore 11, 2) := by decide +kernel
theorem dX2_fusedFinite_21 : decode cX2_fusedFinite 21 = .ok (.lload 9, 2) := by decide +kernel
theorem dX2_fusedFinite_23 : decode cX2_fusedFinite 23 = .ok (.invokestatic 160, 3) := by decide +kernel
theorem dX2_fusedFinite_26 : decode cX2_fusedFinite 26 = .ok (.istore 12, 2) := by decide +kernel
theorem dX2_fusedFinite_28 : decode cX2_fusedFinite 28 = .ok (.aload_n 0, 1) := by decide +kernel
theorem dX2_fusedFinite_29 : decode cX2_fusedFinite 29 = .ok (.lload 5, 2) := by decide +kernel
theorem dX2_fusedFinite_31 : decode cX2_fusedFinite 31 = .ok (.invokevirtual 145, 3) := by decide +kernel
theorem dX2_fusedFinite_34 : decode cX2_fusedFinite 34 = .ok (.invokestatic 160, 3) := by decide +kernel
theorem dX2_fusedFinite_37 : decode cX2_fusedFinite 37 = .ok (.istore 13, 2) := by decide +kernel
theorem dX2_fusedFinite_39 : decode cX2_fusedFinite 39 = .ok (.lload 7, 2) := by decide +kernel
theorem dX2_fusedFinite_41 : decode cX2_fusedFinite 41 = .ok (.iload 11, 2) := by decide +kernel
theorem dX2_fusedFinite_43 : decode cX2_fusedFinite 43 = .ok (.lshl, 1) := by decide +kernel
theorem dX2_fusedFinite_44 : decode cX2_fusedFinite 44 = .ok (.lstore 7, 2) := by decide +kernel
theorem dX2_fusedFinite_46 : decode cX2_fusedFinite 46 = .ok (.lload 9, 2) := by decide +kernel
theorem dX2_fusedFinite_48 : decode cX2_fusedFinite 48 = .ok (.iload 12, 2) := by decide +kernel
theorem dX2_fusedFinite_50 : decode cX2_fusedFinite 50 = .ok (.lshl, 1) := by decide +kernel
theorem dX2_fusedFinite_51 : decode cX2_fusedFinite 51 = .ok (.lstore 9, 2) := by decide +kernel
theorem dX2_fusedFinite_53 : decode cX2_fusedFinite 53 = .ok (.lload 7, 2) := by decide +kernel
theorem dX2_fusedFinite_55 : decode cX2_fusedFinite 55 = .ok (.lload 9, 2) := by decide +kernel
theorem dX2_fusedFinite_57 : decode cX2_fusedFinite 57 = .ok (.invokestatic 163, 3) := by decide +kernel
theorem dX2_fusedFinite_60 : decode cX2_fusedFinite 60 = .ok (.lstore 14, 2) := by decide +kernel
theorem dX2_fusedFinite_62 : decode cX2_fusedFinite 62 = .ok (.lload 14, 2) := by decide +kernel
theorem dX2_fusedFinite_64 : decode cX2_fusedFinite 64 = .ok (.lload 7, 2) := by decide +kernel
theorem dX2_fusedFinite_66 : decode cX2_fusedFinite 66 = .ok (.lload 9, 2) := by decide +kernel
theorem dX2_fusedFinite_68 : decode cX2_fusedFinite 68 = .ok (.lmul, 1) := by decide +kernel
theorem dX2_fusedFinite_69 : decode cX2_fusedFinite 69 = .ok (.iconst 2, 1) := by decide +kernel
theorem dX2_fusedFinite_70 : decode cX2_fusedFinite 70 = .ok (.invokestatic 184, 3) := by decide +kernel
theorem dX2_fusedFinite_73 : decode cX2_fusedFinite 73 = .ok (.lstore 16, 2) := by decide +kernel
theorem dX2_fusedFinite_75 : decode cX2_fusedFinite 75 = .ok (.lload 14, 2) := by decide +kernel
theorem dX2_fusedFinite_77 : decode cX2_fusedFinite 77 = .ok (.iconst 2, 1) := by decide +kernel
theorem dX2_fusedFinite_78 : decode cX2_fusedFinite 78 = .ok (.lushr, 1) := by decide +kernel
theorem dX2_fusedFinite_79 : decode cX2_fusedFinite 79 = .ok (.lstore 14, 2) := by decide +kernel
theorem dX2_fusedFinite_81 : decode cX2_fusedFinite 81 = .ok (.aload_n 0, 1) := by decide +kernel
theorem dX2_fusedFinite_82 : decode cX2_fusedFinite 82 = .ok (.lload_n 1, 1) := by decide +kernel
theorem dX2_fusedFinite_83 : decode cX2_fusedFinite 83 = .ok (.invokevirtual 142, 3) := by decide +kernel
theorem dX2_fusedFinite_86 : decode cX2_fusedFinite 86 = .ok (.iload 11, 2) := by decide +kernel
theorem dX2_fusedFinite_88 : decode cX2_fusedFinite 88 = .ok (.isub, 1) := by decide +kernel
theorem dX2_fusedFinite_89 : decode cX2_fusedFinite 89 = .ok (.aload_n 0, 1) := by decide +kernel
theorem dX2_fusedFinite_90 : decode cX2_fusedFinite 90 = .ok (.lload_n 3, 1) := by decide +kernel
theorem dX2_fusedFinite_91 : decode cX2_fusedFinite 91 = .ok (.invokevirtual 142, 3) := by decide +kernel
theorem dX2_fusedFinite_94 : decode cX2_fusedFinite 94 = .ok (.iadd, 1) := by decide +kernel
theorem dX2_fusedFinite_95 : decode cX2_fusedFinite 95 = .ok (.iload 12, 2) := by decide +kernel
theorem dX2_fusedFinite_97 : decode cX2_fusedFinite 97 = .ok (.isub, 1) := by decide +kernel
theorem dX2_fusedFinite_98 : decode cX2_fusedFinite 98 = .ok (.iconst 2, 1) := by decide +kernel
theorem dX2_fusedFinite_99 : decode cX2_fusedFinite 99 = .ok (.iadd, 1) := by decide +kernel
theorem dX2_fusedFinite_100 : decode cX2_fusedFinite 100 = .ok (.istore 18, 2) := by decide +kernel
theorem dX2_fusedFinite_102 : decode cX2_fusedFinite 102 = .ok (.aload_n 0, 1) := by decide +kernel
theorem dX2_fusedFinite_103 : decode cX2_fusedFinite 103 = .ok (.lload 5, 2) := by decide +kernel
theorem dX2_fusedFinite_105 : decode cX2_fusedFinite 105 = .ok (.invokevirtual 145, 3) := by decide +kernel
theorem dX2_fusedFinite_108 : decode cX2_fusedFinite 108 = .ok (.iload 13, 2) := by decide +kernel
theorem dX2_fusedFinite_110 : decode cX2_fusedFinite 110 = .ok (.lshl, 1) := by decide +kernel
theorem dX2_fusedFinite_111 : decode cX2_fusedFinite 111 = .ok (.iconst 2, 1) := by decide +kernel
theorem dX2_fusedFinite_112 : decode cX2_fusedFinite 112 = .ok (.lushr, 1) := by decide +kernel
theorem dX2_fusedFinite_113 : decode cX2_fusedFinite 113 = .ok (.lstore 19, 2) := by decide +kernel
theorem dX2_fusedFinite_115 : decode cX2_fusedFinite 115 = .ok (.aload_n 0, 1) := by decide +kernel
theorem dX2_fusedFinite_116 : decode cX2_fusedFinite 116 = .ok (.lload 5, 2) := by decide +kernel
theorem dX2_fusedFinite_118 : decode cX2_fusedFinite 118 = .ok (.invokevirtual 142, 3) := by decide +kernel
theorem dX2_fusedFinite_121 : decode cX2_fusedFinite 121 = .ok (.iload 13, 2) := by decide +kernel
theorem dX2_fusedFinite_123 : decode cX2_fusedFinite 123 = .ok (.isub, 1) := by decide +kernel
theorem dX2_fusedFinite_124 : decode cX2_fusedFinite 124 = .ok (.bipush 64, 2) := by decide +kernel
theorem dX2_fusedFinite_126 : decode cX2_fusedFinite 126 = .ok (.isub, 1) := by decide +kernel
theorem dX2_fusedFinite_127 : decode cX2_fusedFinite 127 = .ok (.iconst 2, 1) := by decide +kernel
theorem dX2_fusedFinite_128 : decode cX2_fusedFinite 128 = .ok (.iadd, 1) := by decide +kernel
theorem dX2_fusedFinite_129 : decode cX2_fusedFinite 129 = .ok (.istore 21, 2) := by decide +kernel
theorem dX2_fusedFinite_131 : decode cX2_fusedFinite 131 = .ok (.iload 18, 2) := by decide +kernel
theorem dX2_fusedFinite_133 : decode cX2_fusedFinite 133 = .ok (.iload 21, 2) := by decide +kernel
theorem dX2_fusedFinite_135 : decode cX2_fusedFinite 135 = .ok (.invokestatic 130, 3) := by decide +kernel
theorem dX2_fusedFinite_138 : decode cX2_fusedFinite 138 = .ok (.istore 22, 2) := by decide +kernel
theorem dX2_fusedFinite_140 : decode cX2_fusedFinite 140 = .ok (.lload 14, 2) := by decide +kernel
theorem dX2_fusedFinite_142 : decode cX2_fusedFinite 142 = .ok (.lload 16, 2) := by decide +kernel
theorem dX2_fusedFinite_144 : decode cX2_fusedFinite 144 = .ok (.iload 22, 2) := by decide +kernel
theorem dX2_fusedFinite_146 : decode cX2_fusedFinite 146 = .ok (.iload 18, 2) := by decide +kernel
theorem dX2_fusedFinite_148 : decode cX2_fusedFinite 148 = .ok (.isub, 1) := by decide +kernel
theorem dX2_fusedFinite_149 : decode cX2_fusedFinite 149 = .ok (.invokestatic 184, 3) := by decide +kernel
theorem dX2_fusedFinite_152 : decode cX2_fusedFinite 152 = .ok (.lstore 16, 2) := by decide +kernel
theorem dX2_fusedFinite_154 : decode cX2_fusedFinite 154 = .ok (.lload 14, 2) := by decide +kernel
theorem dX2_fusedFinite_156 : decode cX2_fusedFinite 156 = .ok (.iload 22, 2) := by decide +kernel
theorem dX2_fusedFinite_158 : decode cX2_fusedFinite 158 = .ok (.iload 18, 2) := by decide +kernel
theorem dX2_fusedFinite_160 : decode cX2_fusedFinite 160 = .ok (.isub, 1) := by decide +kernel
theorem dX2_fusedFinite_161 : decode cX2_fusedFinite 161 = .ok (.invokestatic 188, 3) := by decide +kernel
theorem dX2_fusedFinite_164 : decode cX2_fusedFinite 164 = .ok (.lstore 14, 2) := by decide +kernel
theorem dX2_fusedFinite_166 : decode cX2_fusedFinite 166 = .ok (.lload 19, 2) := by decide +kernel
theorem dX2_fusedFinite_168 : decode cX2_fusedFinite 168 = .ok (.lconst 0, 1) := by decide +kernel
theorem dX2_fusedFinite_169 : decode cX2_fusedFinite 169 = .ok (.iload 22, 2) := by decide +kernel
theorem dX2_fusedFinite_171 : decode cX2_fusedFinite 171 = .ok (.iload 21, 2) := by decide +kernel
theorem dX2_fusedFinite_173 : decode cX2_fusedFinite 173 = .ok (.isub, 1) := by decide +kernel
theorem dX2_fusedFinite_174 : decode cX2_fusedFinite 174 = .ok (.invokestatic 184, 3) := by decide +kernel
theorem dX2_fusedFinite_177 : decode cX2_fusedFinite 177 = .ok (.lstore 23, 2) := by decide +kernel
theorem dX2_fusedFinite_179 : decode cX2_fusedFinite 179 = .ok (.lload 19, 2) := by decide +kernel
theorem dX2_fusedFinite_181 : decode cX2_fusedFinite 181 = .ok (.iload 22, 2) := by decide +kernel
theorem dX2_fusedFinite_183 : decode cX2_fusedFinite 183 = .ok (.iload 21, 2) := by decide +kernel
theorem dX2_fusedFinite_185 : decode cX2_fusedFinite 185 = .ok (.isub, 1) := by decide +kernel
theorem dX2_fusedFinite_186 : decode cX2_fusedFinite 186 = .ok (.invokestatic 188, 3) := by decide +kernel
theorem dX2_fusedFinite_189 : decode cX2_fusedFinite 189 = .ok (.lstore 19, 2) := by decide +kernel
theorem dX2_fusedFinite_191 : decode cX2_fusedFinite 191 = .ok (.aload_n 0, 1) := by decide +kernel
theorem dX2_fusedFinite_192 : decode cX2_fusedFinite 192 = .ok (.lload_n 1, 1) := by decide +kernel
theorem dX2_fusedFinite_193 : decode cX2_fusedFinite 193 = .ok (.invokevirtual 136, 3) := by decide +kernel
theorem dX2_fusedFinite_196 : decode cX2_fusedFinite 196 = .ok (.aload_n 0, 1) := by decide +kernel
theorem dX2_fusedFinite_197 : decode cX2_fusedFinite 197 = .ok (.lload_n 3, 1) := by decide +kernel
theorem dX2_fusedFinite_198 : decode cX2_fusedFinite 198 = .ok (.invokevirtual 136, 3) := by decide +kernel
theorem dX2_fusedFinite_201 : decode cX2_fusedFinite 201 = .ok (.if_icmp .eq 7, 3) := by decide +kernel
theorem dX2_fusedFinite_204 : decode cX2_fusedFinite 204 = .ok (.iconst 1, 1) := by decide +kernel
theorem dX2_fusedFinite_205 : decode cX2_fusedFinite 205 = .ok (.goto 4, 3) := by decide +kernel
theorem dX2_fusedFinite_208 : decode cX2_fusedFinite 208 = .ok (.iconst 0, 1) := by decide +kernel
theorem dX2_fusedFinite_209 : decode cX2_fusedFinite 209 = .ok (.istore 25, 2) := by decide +kernel
theorem dX2_fusedFinite_211 : decode cX2_fusedFinite 211 = .ok (.aload_n 0, 1) := by decide +kernel
theorem dX2_fusedFinite_212 : decode cX2_fusedFinite 212 = .ok (.lload 5, 2) := by decide +kernel
theorem dX2_fusedFinite_214 : decode cX2_fusedFinite 214 = .ok (.invokevirtual 136, 3) := by decide +kernel
theorem dX2_fusedFinite_217 : decode cX2_fusedFinite 217 = .ok (.iload 25, 2) := by decide +kernel
theorem dX2_fusedFinite_219 : decode cX2_fusedFinite 219 = .ok (.if_icmp .eq 17, 3) := by decide +kernel
theorem dX2_fusedFinite_222 : decode cX2_fusedFinite 222 = .ok (.lload 19, 2) := by decide +kernel
theorem dX2_fusedFinite_224 : decode cX2_fusedFinite 224 = .ok (.lload 23, 2) := by decide +kernel
theorem dX2_fusedFinite_226 : decode cX2_fusedFinite 226 = .ok (.invokestatic 191, 3) := by decide +kernel
theorem dX2_fusedFinite_229 : decode cX2_fusedFinite 229 = .ok (.lstore 19, 2) := by decide +kernel
theorem dX2_fusedFinite_231 : decode cX2_fusedFinite 231 = .ok (.lload 23, 2) := by decide +kernel
theorem dX2_fusedFinite_233 : decode cX2_fusedFinite 233 = .ok (.lneg, 1) := by decide +kernel
theorem dX2_fusedFinite_234 : decode cX2_fusedFinite 234 = .ok (.lstore 23, 2) := by decide +kernel
theorem dX2_fusedFinite_236 : decode cX2_fusedFinite 236 = .ok (.lload 16, 2) := by decide +kernel
theorem dX2_fusedFinite_238 : decode cX2_fusedFinite 238 = .ok (.lload 23, 2) := by decide +kernel
theorem dX2_fusedFinite_240 : decode cX2_fusedFinite 240 = .ok (.ladd, 1) := by decide +kernel
theorem dX2_fusedFinite_241 : decode cX2_fusedFinite 241 = .ok (.lstore 26, 2) := by decide +kernel
theorem dX2_fusedFinite_243 : decode cX2_fusedFinite 243 = .ok (.lload 14, 2) := by decide +kernel
theorem dX2_fusedFinite_245 : decode cX2_fusedFinite 245 = .ok (.lload 19, 2) := by decide +kernel
theorem dX2_fusedFinite_247 : decode cX2_fusedFinite 247 = .ok (.ladd, 1) := by decide +kernel
theorem dX2_fusedFinite_248 : decode cX2_fusedFinite 248 = .ok (.lload 26, 2) := by decide +kernel
theorem dX2_fusedFinite_250 : decode cX2_fusedFinite 250 = .ok (.lload 16, 2) := by decide +kernel
theorem dX2_fusedFinite_252 : decode cX2_fusedFinite 252 = .ok (.invokestatic 194, 3) := by decide +kernel
theorem dX2_fusedFinite_255 : decode cX2_fusedFinite 255 = .ok (.ifCond .eq 7, 3) := by decide +kernel
theorem dX2_fusedFinite_258 : decode cX2_fusedFinite 258 = .ok (.iconst 1, 1) := by decide +kernel
theorem dX2_fusedFinite_259 : decode cX2_fusedFinite 259 = .ok (.goto 4, 3) := by decide +kernel
theorem dX2_fusedFinite_262 : decode cX2_fusedFinite 262 = .ok (.iconst 0, 1) := by decide +kernel
theorem dX2_fusedFinite_263 : decode cX2_fusedFinite 263 = .ok (.i2l, 1) := by decide +kernel
theorem dX2_fusedFinite_264 : decode cX2_fusedFinite 264 = .ok (.ladd, 1) := by decide +kernel
theorem dX2_fusedFinite_265 : decode cX2_fusedFinite 265 = .ok (.lstore 28, 2) := by decide +kernel
theorem dX2_fusedFinite_267 : decode cX2_fusedFinite 267 = .ok (.lload 28, 2) := by decide +kernel
theorem dX2_fusedFinite_269 : decode cX2_fusedFinite 269 = .ok (.lconst 0, 1) := by decide +kernel
theorem dX2_fusedFinite_270 : decode cX2_fusedFinite 270 = .ok (.lcmp, 1) := by decide +kernel
theorem dX2_fusedFinite_271 : decode cX2_fusedFinite 271 = .ok (.ifCond .ge 29, 3) := by decide +kernel
theorem dX2_fusedFinite_274 : decode cX2_fusedFinite 274 = .ok (.iload 25, 2) := by decide +kernel
theorem dX2_fusedFinite_276 : decode cX2_fusedFinite 276 = .ok (.ifCond .ne 7, 3) := by decide +kernel
theorem dX2_fusedFinite_279 : decode cX2_fusedFinite 279 = .ok (.iconst 1, 1) := by decide +kernel
theorem dX2_fusedFinite_280 : decode cX2_fusedFinite 280 = .ok (.goto 4, 3) := by decide +kernel
theorem dX2_fusedFinite_283 : decode cX2_fusedFinite 283 = .ok (.iconst 0, 1) := by decide +kernel
theorem dX2_fusedFinite_284 : decode cX2_fusedFinite 284 = .ok (.istore 25, 2) := by decide +kernel
theorem dX2_fusedFinite_286 : decode cX2_fusedFinite 286 = .ok (.lload 28, 2) := by decide +kernel
theorem dX2_fusedFinite_288 : decode cX2_fusedFinite 288 = .ok (.lload 26, 2) := by decide +kernel
theorem dX2_fusedFinite_290 : decode cX2_fusedFinite 290 = .ok (.invokestatic 191, 3) := by decide +kernel
theorem dX2_fusedFinite_293 : decode cX2_fusedFinite 293 = .ok (.lstore 28, 2) := by decide +kernel
theorem dX2_fusedFinite_295 : decode cX2_fusedFinite 295 = .ok (.lload 26, 2) := by decide +kernel
theorem dX2_fusedFinite_297 : decode cX2_fusedFinite 297 = .ok (.lneg, 1) := by decide +kernel
theorem dX2_fusedFinite_298 : decode cX2_fusedFinite 298 = .ok (.lstore 26, 2) := by decide +kernel
theorem dX2_fusedFinite_300 : decode cX2_fusedFinite 300 = .ok (.lload 28, 2) := by decide +kernel
theorem dX2_fusedFinite_302 : decode cX2_fusedFinite 302 = .ok (.lload 26, 2) := by decide +kernel
theorem dX2_fusedFinite_304 : decode cX2_fusedFinite 304 = .ok (.lor, 1) := by decide +kernel
theorem dX2_fusedFinite_305 : decode cX2_fusedFinite 305 = .ok (.lconst 0, 1) := by decide +kernel
theorem dX2_fusedFinite_306 : decode cX2_fusedFinite 306 = .ok (.lcmp, 1) := by decide +kernel
theorem dX2_fusedFinite_307 : decode cX2_fusedFinite 307 = .ok (.ifCond .ne 5, 3) := by decide +kernel
theorem dX2_fusedFinite_310 : decode cX2_fusedFinite 310 = .ok (.lconst 0, 1) := by decide +kernel
theorem dX2_fusedFinite_311 : decode cX2_fusedFinite 311 = .ok (.lreturn, 1) := by decide +kernel
theorem dX2_fusedFinite_312 : decode cX2_fusedFinite 312 = .ok (.lload 28, 2) := by decide +kernel
theorem dX2_fusedFinite_314 : decode cX2_fusedFinite 314 = .ok (.lconst 0, 1) := by decide +kernel
theorem dX2_fusedFinite_315 : decode cX2_fusedFinite 315 = .ok (.lcmp, 1) := by decide +kernel
theorem dX2_fusedFinite_316 : decode cX2_fusedFinite 316 = .ok (.ifCond .ne 7, 3) := by decide +kernel
theorem dX2_fusedFinite_319 : decode cX2_fusedFinite 319 = .ok (.iconst 0, 1) := by decide +kernel
theorem dX2_fusedFinite_320 : decode cX2_fusedFinite 320 = .ok (.goto 11, 3) := by decide +kernel
theorem dX2_fusedFinite_323 : decode cX2_fusedFinite 323 = .ok (.bipush 64, 2) := by decide +kernel
theorem dX2_fusedFinite_325 : decode cX2_fusedFinite 325 = .ok (.lload 28, 2) := by decide +kernel
theorem dX2_fusedFinite_327 : decode cX2_fusedFinite 327 = .ok (.invokestatic 160, 3) := by decide +kernel
theorem dX2_fusedFinite_330 : decode cX2_fusedFinite 330 = .ok (.isub, 1) := by decide +kernel
theorem dX2_fusedFinite_331 : decode cX2_fusedFinite 331 = .ok (.istore 30, 2) := by decide +kernel
theorem dX2_fusedFinite_333 : decode cX2_fusedFinite 333 = .ok (.aload_n 0, 1) := by decide +kernel
theorem dX2_fusedFinite_334 : decode cX2_fusedFinite 334 = .ok (.iload 25, 2) := by decide +kernel
theorem dX2_fusedFinite_336 : decode cX2_fusedFinite 336 = .ok (.iload 22, 2) := by decide +kernel
theorem dX2_fusedFinite_338 : decode cX2_fusedFinite 338 = .ok (.iload 30, 2) := by decide +kernel
theorem dX2_fusedFinite_340 : decode cX2_fusedFinite 340 = .ok (.iadd, 1) := by decide +kernel
theorem dX2_fusedFinite_341 : decode cX2_fusedFinite 341 = .ok (.lload 28, 2) := by decide +kernel
theorem dX2_fusedFinite_343 : decode cX2_fusedFinite 343 = .ok (.lload 26, 2) := by decide +kernel
theorem dX2_fusedFinite_345 : decode cX2_fusedFinite 345 = .ok (.iload 30, 2) := by decide +kernel
theorem dX2_fusedFinite_347 : decode cX2_fusedFinite 347 = .ok (.invokestatic 184, 3) := by decide +kernel
theorem dX2_fusedFinite_350 : decode cX2_fusedFinite 350 = .ok (.invokevirtual 148, 3) := by decide +kernel
theorem dX2_fusedFinite_353 : decode cX2_fusedFinite 353 = .ok (.lreturn, 1) := by decide +kernel
theorem dX2_ofWhole_0 : decode cX2_ofWhole 0 = .ok (.iload_n 1, 1) := by decide +kernel
theorem dX2_ofWhole_1 : decode cX2_ofWhole 1 = .ok (.ifCond .ne 7, 3) := by decide +kernel
theorem dX2_ofWhole_4 : decode cX2_ofWhole 4 = .ok (.lconst 0, 1) := by decide +kernel
theorem dX2_ofWhole_5 : decode cX2_ofWhole 5 = .ok (.goto 22, 3) := by decide +kernel
theorem dX2_ofWhole_8 : decode cX2_ofWhole 8 = .ok (.aload_n 0, 1) := by decide +kernel
theorem dX2_ofWhole_9 : decode cX2_ofWhole 9 = .ok (.iload_n 1, 1) := by decide +kernel
theorem dX2_ofWhole_10 : decode cX2_ofWhole 10 = .ok (.ifCond .ge 7, 3) := by decide +kernel
theorem dX2_ofWhole_13 : decode cX2_ofWhole 13 = .ok (.iconst 1, 1) := by decide +kernel
theorem dX2_ofWhole_14 : decode cX2_ofWhole 14 = .ok (.goto 4, 3) := by decide +kernel
theorem dX2_ofWhole_17 : decode cX2_ofWhole 17 = .ok (.iconst 0, 1) := by decide +kernel
theorem dX2_ofWhole_18 : decode cX2_ofWhole 18 = .ok (.iconst 0, 1) := by decide +kernel
theorem dX2_ofWhole_19 : decode cX2_ofWhole 19 = .ok (.iload_n 1, 1) := by decide +kernel
theorem dX2_ofWhole_20 : decode cX2_ofWhole 20 = .ok (.i2l, 1) := by decide +kernel
theorem dX2_ofWhole_21 : decode cX2_ofWhole 21 = .ok (.invokestatic 157, 3) := by decide +kernel
theorem dX2_ofWhole_24 : decode cX2_ofWhole 24 = .ok (.invokevirtual 148, 3) := by decide +kernel
theorem dX2_ofWhole_27 : decode cX2_ofWhole 27 = .ok (.lreturn, 1) := by decide +kernel
theorem dX2_cut_0 : decode cX2_cut 0 = .ok (.aload_n 0, 1) := by decide +kernel
theorem dX2_cut_1 : decode cX2_cut 1 = .ok (.lload_n 1, 1) := by decide +kernel
theorem dX2_cut_2 : decode cX2_cut 2 = .ok (.invokevirtual 101, 3) := by decide +kernel
theorem dX2_cut_5 : decode cX2_cut 5 = .ok (.aload_n 0, 1) := by decide +kernel
theorem dX2_cut_6 : decode cX2_cut 6 = .ok (.getfield 33, 3) := by decide +kernel
theorem dX2_cut_9 : decode cX2_cut 9 = .ok (.isub, 1) := by decide +kernel
theorem dX2_cut_10 : decode cX2_cut 10 = .ok (.istore_n 3, 1) := by decide +kernel
theorem dX2_cut_11 : decode cX2_cut 11 = .ok (.iload_n 3, 1) := by decide +kernel
theorem dX2_cut_12 : decode cX2_cut 12 = .ok (.ifCond .ge 5, 3) := by decide +kernel
theorem dX2_cut_15 : decode cX2_cut 15 = .ok (.lconst 0, 1) := by decide +kernel
theorem dX2_cut_16 : decode cX2_cut 16 = .ok (.lreturn, 1) := by decide +kernel
theorem dX2_cut_17 : decode cX2_cut 17 = .ok (.iload_n 3, 1) := by decide +kernel
theorem dX2_cut_18 : decode cX2_cut 18 = .ok (.bipush 31, 2) := by decide +kernel
theorem dX2_cut_20 : decode cX2_cut 20 = .ok (.if_icmp .lt 21, 3) := by decide +kernel
theorem dX2_cut_23 : decode cX2_cut 23 = .ok (.aload_n 0, 1) := by decide +kernel
theorem dX2_cut_24 : decode cX2_cut 24 = .ok (.lload_n 1, 1) := by decide +kernel
theorem dX2_cut_25 : decode cX2_cut 25 = .ok (.invokevirtual 136, 3) := by decide +kernel
theorem dX2_cut_28 : decode cX2_cut 28 = .ok (.ifCond .eq 9, 3) := by decide +kernel
theorem dX2_cut_31 : decode cX2_cut 31 = .ok (.ldc2_w 200, 3) := by decide +kernel
theorem dX2_cut_34 : decode cX2_cut 34 = .ok (.goto 6, 3) := by decide +kernel
theorem dX2_cut_37 : decode cX2_cut 37 = .ok (.ldc2_w 202, 3) := by decide +kernel
theorem dX2_cut_40 : decode cX2_cut 40 = .ok (.lreturn, 1) := by decide +kernel
theorem dX2_cut_41 : decode cX2_cut 41 = .ok (.iload_n 3, 1) := by decide +kernel
theorem dX2_cut_42 : decode cX2_cut 42 = .ok (.aload_n 0, 1) := by decide +kernel
theorem dX2_cut_43 : decode cX2_cut 43 = .ok (.getfield 29, 3) := by decide +kernel
theorem dX2_cut_46 : decode cX2_cut 46 = .ok (.if_icmp .ge 18, 3) := by decide +kernel
theorem dX2_cut_49 : decode cX2_cut 49 = .ok (.aload_n 0, 1) := by decide +kernel
theorem dX2_cut_50 : decode cX2_cut 50 = .ok (.lload_n 1, 1) := by decide +kernel
theorem dX2_cut_51 : decode cX2_cut 51 = .ok (.invokevirtual 145, 3) := by decide +kernel
theorem dX2_cut_54 : decode cX2_cut 54 = .ok (.aload_n 0, 1) := by decide +kernel
theorem dX2_cut_55 : decode cX2_cut 55 = .ok (.getfield 29, 3) := by decide +kernel
theorem dX2_cut_58 : decode cX2_cut 58 = .ok (.iload_n 3, 1) := by decide +kernel
theorem dX2_cut_59 : decode cX2_cut 59 = .ok (.isub, 1) := by decide +kernel
theorem dX2_cut_60 : decode cX2_cut 60 = .ok (.lushr, 1) := by decide +kernel
theorem dX2_cut_61 : decode cX2_cut 61 = .ok (.goto 15, 3) := by decide +kernel
theorem dX2_cut_64 : decode cX2_cut 64 = .ok (.aload_n 0, 1) := by decide +kernel
theorem dX2_cut_65 : decode cX2_cut 65 = .ok (.lload_n 1, 1) := by decide +kernel
theorem dX2_cut_66 : decode cX2_cut 66 = .ok (.invokevirtual 145, 3) := by decide +kernel
theorem dX2_cut_69 : decode cX2_cut 69 = .ok (.iload_n 3, 1) := by decide +kernel
theorem dX2_cut_70 : decode cX2_cut 70 = .ok (.aload_n 0, 1) := by decide +kernel
theorem dX2_cut_71 : decode cX2_cut 71 = .ok (.getfield 29, 3) := by decide +kernel
theorem dX2_cut_74 : decode cX2_cut 74 = .ok (.isub, 1) := by decide +kernel
theorem dX2_cut_75 : decode cX2_cut 75 = .ok (.lshl, 1) := by decide +kernel
theorem dX2_cut_76 : decode cX2_cut 76 = .ok (.lstore 4, 2) := by decide +kernel
theorem dX2_cut_78 : decode cX2_cut 78 = .ok (.aload_n 0, 1) := by decide +kernel
theorem dX2_cut_79 : decode cX2_cut 79 = .ok (.lload_n 1, 1) := by decide +kernel
theorem dX2_cut_80 : decode cX2_cut 80 = .ok (.invokevirtual 136, 3) := by decide +kernel
theorem dX2_cut_83 : decode cX2_cut 83 = .ok (.ifCond .eq 9, 3) := by decide +kernel
theorem dX2_cut_86 : decode cX2_cut 86 = .ok (.lload 4, 2) := by decide +kernel
theorem dX2_cut_88 : decode cX2_cut 88 = .ok (.lneg, 1) := by decide +kernel
theorem dX2_cut_89 : decode cX2_cut 89 = .ok (.goto 5, 3) := by decide +kernel
theorem dX2_cut_92 : decode cX2_cut 92 = .ok (.lload 4, 2) := by decide +kernel
theorem dX2_cut_94 : decode cX2_cut 94 = .ok (.lreturn, 1) := by decide +kernel
theorem dX2_rounded_0 : decode cX2_rounded 0 = .ok (.lload_n 3, 1) := by decide +kernel
theorem dX2_rounded_1 : decode cX2_rounded 1 = .ok (.invokestatic 160, 3) := by decide +kernel
theorem dX2_rounded_4 : decode cX2_rounded 4 = .ok (.istore 5, 2) := by decide +kernel
theorem dX2_rounded_6 : decode cX2_rounded 6 = .ok (.iload 5, 2) := by decide +kernel
theorem dX2_rounded_8 : decode cX2_rounded 8 = .ok (.ifCond .ne 13, 3) := by decide +kernel
theorem dX2_rounded_11 : decode cX2_rounded 11 = .ok (.lload_n 3, 1) := by decide +kernel
theorem dX2_rounded_12 : decode cX2_rounded 12 = .ok (.iconst 1, 1) := by decide +kernel
theorem dX2_rounded_13 : decode cX2_rounded 13 = .ok (.lushr, 1) := by decide +kernel
theorem dX2_rounded_14 : decode cX2_rounded 14 = .ok (.lload_n 3, 1) := by decide +kernel
theorem dX2_rounded_15 : decode cX2_rounded 15 = .ok (.lconst 1, 1) := by decide +kernel
theorem dX2_rounded_16 : decode cX2_rounded 16 = .ok (.land, 1) := by decide +kernel
theorem dX2_rounded_17 : decode cX2_rounded 17 = .ok (.lor, 1) := by decide +kernel
theorem dX2_rounded_18 : decode cX2_rounded 18 = .ok (.goto 9, 3) := by decide +kernel
theorem dX2_rounded_21 : decode cX2_rounded 21 = .ok (.lload_n 3, 1) := by decide +kernel
theorem dX2_rounded_22 : decode cX2_rounded 22 = .ok (.iload 5, 2) := by decide +kernel
theorem dX2_rounded_24 : decode cX2_rounded 24 = .ok (.iconst 1, 1) := by decide +kernel
theorem dX2_rounded_25 : decode cX2_rounded 25 = .ok (.isub, 1) := by decide +kernel
theorem dX2_rounded_26 : decode cX2_rounded 26 = .ok (.lshl, 1) := by decide +kernel
theorem dX2_rounded_27 : decode cX2_rounded 27 = .ok (.lstore 6, 2) := by decide +kernel
theorem dX2_rounded_29 : decode cX2_rounded 29 = .ok (.iload_n 2, 1) := by decide +kernel
theorem dX2_rounded_30 : decode cX2_rounded 30 = .ok (.bipush 63, 2) := by decide +kernel
theorem dX2_rounded_32 : decode cX2_rounded 32 = .ok (.iadd, 1) := by decide +kernel
theorem dX2_rounded_33 : decode cX2_rounded 33 = .ok (.iload 5, 2) := by decide +kernel
theorem dX2_rounded_35 : decode cX2_rounded 35 = .ok (.isub, 1) := by decide +kernel
theorem dX2_rounded_36 : decode cX2_rounded 36 = .ok (.aload_n 0, 1) := by decide +kernel
theorem dX2_rounded_37 : decode cX2_rounded 37 = .ok (.getfield 33, 3) := by decide +kernel
theorem dX2_rounded_40 : decode cX2_rounded 40 = .ok (.iadd, 1) := by decide +kernel
theorem dX2_rounded_41 : decode cX2_rounded 41 = .ok (.istore 8, 2) := by decide +kernel
theorem dX2_rounded_43 : decode cX2_rounded 43 = .ok (.iload_n 1, 1) := by decide +kernel
theorem dX2_rounded_44 : decode cX2_rounded 44 = .ok (.ifCond .eq 10, 3) := by decide +kernel
theorem dX2_rounded_47 : decode cX2_rounded 47 = .ok (.aload_n 0, 1) := by decide +kernel
theorem dX2_rounded_48 : decode cX2_rounded 48 = .ok (.getfield 42, 3) := by decide +kernel
theorem dX2_rounded_51 : decode cX2_rounded 51 = .ok (.goto 4, 3) := by decide +kernel
theorem dX2_rounded_54 : decode cX2_rounded 54 = .ok (.lconst 0, 1) := by decide +kernel
theorem dX2_rounded_55 : decode cX2_rounded 55 = .ok (.lstore 9, 2) := by decide +kernel
theorem dX2_rounded_57 : decode cX2_rounded 57 = .ok (.iload 8, 2) := by decide +kernel
theorem dX2_rounded_59 : decode cX2_rounded 59 = .ok (.aload_n 0, 1) := by decide +kernel
theorem dX2_rounded_60 : decode cX2_rounded 60 = .ok (.getfield 36, 3) := by decide +kernel
theorem dX2_rounded_63 : decode cX2_rounded 63 = .ok (.if_icmp .lt 11, 3) := by decide +kernel
theorem dX2_rounded_66 : decode cX2_rounded 66 = .ok (.lload 9, 2) := by decide +kernel
theorem dX2_rounded_68 : decode cX2_rounded 68 = .ok (.aload_n 0, 1) := by decide +kernel
theorem dX2_rounded_69 : decode cX2_rounded 69 = .ok (.getfield 49, 3) := by decide +kernel
theorem dX2_rounded_72 : decode cX2_rounded 72 = .ok (.lor, 1) := by decide +kernel
theorem dX2_rounded_73 : decode cX2_rounded 73 = .ok (.lreturn, 1) := by decide +kernel
theorem dX2_rounded_74 : decode cX2_rounded 74 = .ok (.bipush 62, 2) := by decide +kernel
theorem dX2_rounded_76 : decode cX2_rounded 76 = .ok (.aload_n 0, 1) := by decide +kernel
theorem dX2_rounded_77 : decode cX2_rounded 77 = .ok (.getfield 29, 3) := by decide +kernel
theorem dX2_rounded_80 : decode cX2_rounded 80 = .ok (.isub, 1) := by decide +kernel
theorem dX2_rounded_81 : decode cX2_rounded 81 = .ok (.iconst 1, 1) := by decide +kernel
theorem dX2_rounded_82 : decode cX2_rounded 82 = .ok (.iload 8, 2) := by decide +kernel
theorem dX2_rounded_84 : decode cX2_rounded 84 = .ok (.isub, 1) := by decide +kernel
theorem dX2_rounded_85 : decode cX2_rounded 85 = .ok (.iconst 0, 1) := by decide +kernel
theorem dX2_rounded_86 : decode cX2_rounded 86 = .ok (.invokestatic 130, 3) := by decide +kernel
theorem dX2_rounded_89 : decode cX2_rounded 89 = .ok (.iadd, 1) := by decide +kernel
theorem dX2_rounded_90 : decode cX2_rounded 90 = .ok (.istore 11, 2) := by decide +kernel
theorem dX2_rounded_92 : decode cX2_rounded 92 = .ok (.iload 11, 2) := by decide +kernel
theorem dX2_rounded_94 : decode cX2_rounded 94 = .ok (.bipush 63, 2) := by decide +kernel
theorem dX2_rounded_96 : decode cX2_rounded 96 = .ok (.if_icmp .le 6, 3) := by decide +kernel
theorem dX2_rounded_99 : decode cX2_rounded 99 = .ok (.lload 9, 2) := by decide +kernel
theorem dX2_rounded_101 : decode cX2_rounded 101 = .ok (.lreturn, 1) := by decide +kernel
theorem dX2_rounded_102 : decode cX2_rounded 102 = .ok (.lload 6, 2) := by decide +kernel
theorem dX2_rounded_104 : decode cX2_rounded 104 = .ok (.iload 11, 2) := by decide +kernel
theorem dX2_rounded_106 : decode cX2_rounded 106 = .ok (.lushr, 1) := by decide +kernel
theorem dX2_rounded_107 : decode cX2_rounded 107 = .ok (.lstore 12, 2) := by decide +kernel
