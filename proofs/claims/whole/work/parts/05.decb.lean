theorem dX8_init_0 : decode cX8_init 0 = .ok (.aload_n 0, 1) := by decide +kernel
theorem dX8_init_1 : decode cX8_init 1 = .ok (.invokespecial 1, 3) := by decide +kernel
theorem dX8_init_4 : decode cX8_init 4 = .ok (.aload_n 0, 1) := by decide +kernel
theorem dX8_init_5 : decode cX8_init 5 = .ok (.bipush 36, 2) := by decide +kernel
theorem dX8_init_7 : decode cX8_init 7 = .ok (.newarray .int, 2) := by decide +kernel
theorem dX8_init_9 : decode cX8_init 9 = .ok (.putfield 7, 3) := by decide +kernel
theorem dX8_init_12 : decode cX8_init 12 = .ok (.aload_n 0, 1) := by decide +kernel
theorem dX8_init_13 : decode cX8_init 13 = .ok (.bipush 36, 2) := by decide +kernel
theorem dX8_init_15 : decode cX8_init 15 = .ok (.newarray .int, 2) := by decide +kernel
theorem dX8_init_17 : decode cX8_init 17 = .ok (.putfield 13, 3) := by decide +kernel
theorem dX8_init_20 : decode cX8_init 20 = .ok (.aload_n 0, 1) := by decide +kernel
theorem dX8_init_21 : decode cX8_init 21 = .ok (.bipush 9, 2) := by decide +kernel
theorem dX8_init_23 : decode cX8_init 23 = .ok (.newarray .int, 2) := by decide +kernel
theorem dX8_init_25 : decode cX8_init 25 = .ok (.putfield 16, 3) := by decide +kernel
theorem dX8_init_28 : decode cX8_init 28 = .ok (.aload_n 0, 1) := by decide +kernel
theorem dX8_init_29 : decode cX8_init 29 = .ok (.bipush 72, 2) := by decide +kernel
theorem dX8_init_31 : decode cX8_init 31 = .ok (.newarray .int, 2) := by decide +kernel
theorem dX8_init_33 : decode cX8_init 33 = .ok (.putfield 19, 3) := by decide +kernel
theorem dX8_init_36 : decode cX8_init 36 = .ok (.aload_n 0, 1) := by decide +kernel
theorem dX8_init_37 : decode cX8_init 37 = .ok (.sipush 162, 3) := by decide +kernel
theorem dX8_init_40 : decode cX8_init 40 = .ok (.newarray .int, 2) := by decide +kernel
theorem dX8_init_42 : decode cX8_init 42 = .ok (.putfield 22, 3) := by decide +kernel
theorem dX8_init_45 : decode cX8_init 45 = .ok (.aload_n 0, 1) := by decide +kernel
theorem dX8_init_46 : decode cX8_init 46 = .ok (.iconst 2, 1) := by decide +kernel
theorem dX8_init_47 : decode cX8_init 47 = .ok (.newarray .boolean, 2) := by decide +kernel
theorem dX8_init_49 : decode cX8_init 49 = .ok (.putfield 25, 3) := by decide +kernel
theorem dX8_init_52 : decode cX8_init 52 = .ok (.aload_n 0, 1) := by decide +kernel
theorem dX8_init_53 : decode cX8_init 53 = .ok (.bipush 120, 2) := by decide +kernel
theorem dX8_init_55 : decode cX8_init 55 = .ok (.newarray .int, 2) := by decide +kernel
theorem dX8_init_57 : decode cX8_init 57 = .ok (.putfield 29, 3) := by decide +kernel
theorem dX8_init_60 : decode cX8_init 60 = .ok (.aload_n 0, 1) := by decide +kernel
theorem dX8_init_61 : decode cX8_init 61 = .ok (.bipush 9, 2) := by decide +kernel
theorem dX8_init_63 : decode cX8_init 63 = .ok (.newarray .int, 2) := by decide +kernel
theorem dX8_init_65 : decode cX8_init 65 = .ok (.putfield 32, 3) := by decide +kernel
theorem dX8_init_68 : decode cX8_init 68 = .ok (.aload_n 0, 1) := by decide +kernel
theorem dX8_init_69 : decode cX8_init 69 = .ok (.bipush 9, 2) := by decide +kernel
theorem dX8_init_71 : decode cX8_init 71 = .ok (.newarray .int, 2) := by decide +kernel
theorem dX8_init_73 : decode cX8_init 73 = .ok (.putfield 35, 3) := by decide +kernel
theorem dX8_init_76 : decode cX8_init 76 = .ok (.aload_n 0, 1) := by decide +kernel
theorem dX8_init_77 : decode cX8_init 77 = .ok (.bipush 9, 2) := by decide +kernel
theorem dX8_init_79 : decode cX8_init 79 = .ok (.newarray .int, 2) := by decide +kernel
theorem dX8_init_81 : decode cX8_init 81 = .ok (.putfield 38, 3) := by decide +kernel
theorem dX8_init_84 : decode cX8_init 84 = .ok (.aload_n 0, 1) := by decide +kernel
theorem dX8_init_85 : decode cX8_init 85 = .ok (.bipush 9, 2) := by decide +kernel
theorem dX8_init_87 : decode cX8_init 87 = .ok (.newarray .int, 2) := by decide +kernel
theorem dX8_init_89 : decode cX8_init 89 = .ok (.putfield 41, 3) := by decide +kernel
theorem dX8_init_92 : decode cX8_init 92 = .ok (.aload_n 0, 1) := by decide +kernel
theorem dX8_init_93 : decode cX8_init 93 = .ok (.bipush 9, 2) := by decide +kernel
theorem dX8_init_95 : decode cX8_init 95 = .ok (.newarray .int, 2) := by decide +kernel
theorem dX8_init_97 : decode cX8_init 97 = .ok (.putfield 44, 3) := by decide +kernel
theorem dX8_init_100 : decode cX8_init 100 = .ok (.aload_n 0, 1) := by decide +kernel
theorem dX8_init_101 : decode cX8_init 101 = .ok (.bipush 9, 2) := by decide +kernel
theorem dX8_init_103 : decode cX8_init 103 = .ok (.newarray .int, 2) := by decide +kernel
theorem dX8_init_105 : decode cX8_init 105 = .ok (.putfield 47, 3) := by decide +kernel
theorem dX8_init_108 : decode cX8_init 108 = .ok (.aload_n 0, 1) := by decide +kernel
theorem dX8_init_109 : decode cX8_init 109 = .ok (.bipush 9, 2) := by decide +kernel
theorem dX8_init_111 : decode cX8_init 111 = .ok (.newarray .int, 2) := by decide +kernel
theorem dX8_init_113 : decode cX8_init 113 = .ok (.putfield 50, 3) := by decide +kernel
theorem dX8_init_116 : decode cX8_init 116 = .ok (.aload_n 0, 1) := by decide +kernel
theorem dX8_init_117 : decode cX8_init 117 = .ok (.bipush 63, 2) := by decide +kernel
theorem dX8_init_119 : decode cX8_init 119 = .ok (.newarray .int, 2) := by decide +kernel
theorem dX8_init_121 : decode cX8_init 121 = .ok (.putfield 53, 3) := by decide +kernel
theorem dX8_init_124 : decode cX8_init 124 = .ok (.aload_n 0, 1) := by decide +kernel
theorem dX8_init_125 : decode cX8_init 125 = .ok (.bipush 63, 2) := by decide +kernel
theorem dX8_init_127 : decode cX8_init 127 = .ok (.newarray .int, 2) := by decide +kernel
theorem dX8_init_129 : decode cX8_init 129 = .ok (.putfield 56, 3) := by decide +kernel
theorem dX8_init_132 : decode cX8_init 132 = .ok (.aload_n 0, 1) := by decide +kernel
theorem dX8_init_133 : decode cX8_init 133 = .ok (.bipush 9, 2) := by decide +kernel
theorem dX8_init_135 : decode cX8_init 135 = .ok (.newarray .int, 2) := by decide +kernel
theorem dX8_init_137 : decode cX8_init 137 = .ok (.putfield 59, 3) := by decide +kernel
theorem dX8_init_140 : decode cX8_init 140 = .ok (.aload_n 0, 1) := by decide +kernel
theorem dX8_init_141 : decode cX8_init 141 = .ok (.bipush 7, 2) := by decide +kernel
theorem dX8_init_143 : decode cX8_init 143 = .ok (.newarray .int, 2) := by decide +kernel
theorem dX8_init_145 : decode cX8_init 145 = .ok (.putfield 62, 3) := by decide +kernel
theorem dX8_init_148 : decode cX8_init 148 = .ok (.aload_n 0, 1) := by decide +kernel
theorem dX8_init_149 : decode cX8_init 149 = .ok (.bipush 7, 2) := by decide +kernel
theorem dX8_init_151 : decode cX8_init 151 = .ok (.newarray .int, 2) := by decide +kernel
theorem dX8_init_153 : decode cX8_init 153 = .ok (.putfield 65, 3) := by decide +kernel
theorem dX8_init_156 : decode cX8_init 156 = .ok (.aload_n 0, 1) := by decide +kernel
theorem dX8_init_157 : decode cX8_init 157 = .ok (.bipush 7, 2) := by decide +kernel
theorem dX8_init_159 : decode cX8_init 159 = .ok (.newarray .int, 2) := by decide +kernel
theorem dX8_init_161 : decode cX8_init 161 = .ok (.putfield 68, 3) := by decide +kernel
theorem dX8_init_164 : decode cX8_init 164 = .ok (.aload_n 0, 1) := by decide +kernel
theorem dX8_init_165 : decode cX8_init 165 = .ok (.bipush 9, 2) := by decide +kernel
theorem dX8_init_167 : decode cX8_init 167 = .ok (.newarray .int, 2) := by decide +kernel
theorem dX8_init_169 : decode cX8_init 169 = .ok (.putfield 71, 3) := by decide +kernel
theorem dX8_init_172 : decode cX8_init 172 = .ok (.aload_n 0, 1) := by decide +kernel
theorem dX8_init_173 : decode cX8_init 173 = .ok (.bipush 9, 2) := by decide +kernel
theorem dX8_init_175 : decode cX8_init 175 = .ok (.newarray .int, 2) := by decide +kernel
theorem dX8_init_177 : decode cX8_init 177 = .ok (.putfield 74, 3) := by decide +kernel
theorem dX8_init_180 : decode cX8_init 180 = .ok (.aload_n 0, 1) := by decide +kernel
theorem dX8_init_181 : decode cX8_init 181 = .ok (.bipush 9, 2) := by decide +kernel
theorem dX8_init_183 : decode cX8_init 183 = .ok (.newarray .int, 2) := by decide +kernel
theorem dX8_init_185 : decode cX8_init 185 = .ok (.putfield 77, 3) := by decide +kernel
theorem dX8_init_188 : decode cX8_init 188 = .ok (.aload_n 0, 1) := by decide +kernel
theorem dX8_init_189 : decode cX8_init 189 = .ok (.bipush 9, 2) := by decide +kernel
theorem dX8_init_191 : decode cX8_init 191 = .ok (.newarray .int, 2) := by decide +kernel
theorem dX8_init_193 : decode cX8_init 193 = .ok (.putfield 80, 3) := by decide +kernel
theorem dX8_init_196 : decode cX8_init 196 = .ok (.aload_n 0, 1) := by decide +kernel
theorem dX8_init_197 : decode cX8_init 197 = .ok (.bipush 9, 2) := by decide +kernel
theorem dX8_init_199 : decode cX8_init 199 = .ok (.newarray .int, 2) := by decide +kernel
theorem dX8_init_201 : decode cX8_init 201 = .ok (.putfield 83, 3) := by decide +kernel
theorem dX8_init_204 : decode cX8_init 204 = .ok (.aload_n 0, 1) := by decide +kernel
theorem dX8_init_205 : decode cX8_init 205 = .ok (.bipush 81, 2) := by decide +kernel
theorem dX8_init_207 : decode cX8_init 207 = .ok (.newarray .int, 2) := by decide +kernel
theorem dX8_init_209 : decode cX8_init 209 = .ok (.putfield 86, 3) := by decide +kernel
theorem dX8_init_212 : decode cX8_init 212 = .ok (.aload_n 0, 1) := by decide +kernel
theorem dX8_init_213 : decode cX8_init 213 = .ok (.bipush 81, 2) := by decide +kernel
theorem dX8_init_215 : decode cX8_init 215 = .ok (.newarray .int, 2) := by decide +kernel
theorem dX8_init_217 : decode cX8_init 217 = .ok (.putfield 89, 3) := by decide +kernel
theorem dX8_init_220 : decode cX8_init 220 = .ok (.aload_n 0, 1) := by decide +kernel
theorem dX8_init_221 : decode cX8_init 221 = .ok (.bipush 9, 2) := by decide +kernel
theorem dX8_init_223 : decode cX8_init 223 = .ok (.newarray .int, 2) := by decide +kernel
theorem dX8_init_225 : decode cX8_init 225 = .ok (.putfield 92, 3) := by decide +kernel
theorem dX8_init_228 : decode cX8_init 228 = .ok (.aload_n 0, 1) := by decide +kernel
theorem dX8_init_229 : decode cX8_init 229 = .ok (.bipush 9, 2) := by decide +kernel
theorem dX8_init_231 : decode cX8_init 231 = .ok (.newarray .int, 2) := by decide +kernel
theorem dX8_init_233 : decode cX8_init 233 = .ok (.putfield 95, 3) := by decide +kernel
theorem dX8_init_236 : decode cX8_init 236 = .ok (.aload_n 0, 1) := by decide +kernel
theorem dX8_init_237 : decode cX8_init 237 = .ok (.bipush 9, 2) := by decide +kernel
theorem dX8_init_239 : decode cX8_init 239 = .ok (.newarray .int, 2) := by decide +kernel
theorem dX8_init_241 : decode cX8_init 241 = .ok (.putfield 98, 3) := by decide +kernel
theorem dX8_init_244 : decode cX8_init 244 = .ok (.aload_n 0, 1) := by decide +kernel
theorem dX8_init_245 : decode cX8_init 245 = .ok (.bipush 9, 2) := by decide +kernel
theorem dX8_init_247 : decode cX8_init 247 = .ok (.newarray .int, 2) := by decide +kernel
theorem dX8_init_249 : decode cX8_init 249 = .ok (.putfield 101, 3) := by decide +kernel
theorem dX8_init_252 : decode cX8_init 252 = .ok (.iconst 0, 1) := by decide +kernel
theorem dX8_init_253 : decode cX8_init 253 = .ok (.istore_n 1, 1) := by decide +kernel
theorem dX8_init_254 : decode cX8_init 254 = .ok (.iload_n 1, 1) := by decide +kernel
theorem dX8_init_255 : decode cX8_init 255 = .ok (.iconst 4, 1) := by decide +kernel
theorem dX8_init_256 : decode cX8_init 256 = .ok (.if_icmp .ge 31, 3) := by decide +kernel
theorem dX8_init_259 : decode cX8_init 259 = .ok (.aload_n 0, 1) := by decide +kernel
theorem dX8_init_260 : decode cX8_init 260 = .ok (.getfield 7, 3) := by decide +kernel
theorem dX8_init_263 : decode cX8_init 263 = .ok (.bipush 9, 2) := by decide +kernel
theorem dX8_init_265 : decode cX8_init 265 = .ok (.iload_n 1, 1) := by decide +kernel
theorem dX8_init_266 : decode cX8_init 266 = .ok (.imul, 1) := by decide +kernel
theorem dX8_init_267 : decode cX8_init 267 = .ok (.iconst 1, 1) := by decide +kernel
theorem dX8_init_268 : decode cX8_init 268 = .ok (.iastore, 1) := by decide +kernel
theorem dX8_init_269 : decode cX8_init 269 = .ok (.aload_n 0, 1) := by decide +kernel
theorem dX8_init_270 : decode cX8_init 270 = .ok (.getfield 13, 3) := by decide +kernel
theorem dX8_init_273 : decode cX8_init 273 = .ok (.bipush 9, 2) := by decide +kernel
theorem dX8_init_275 : decode cX8_init 275 = .ok (.iload_n 1, 1) := by decide +kernel
theorem dX8_init_276 : decode cX8_init 276 = .ok (.imul, 1) := by decide +kernel
theorem dX8_init_277 : decode cX8_init 277 = .ok (.iconst 1, 1) := by decide +kernel
theorem dX8_init_278 : decode cX8_init 278 = .ok (.iadd, 1) := by decide +kernel
theorem dX8_init_279 : decode cX8_init 279 = .ok (.iconst 1, 1) := by decide +kernel
theorem dX8_init_280 : decode cX8_init 280 = .ok (.iastore, 1) := by decide +kernel
theorem dX8_init_281 : decode cX8_init 281 = .ok (.iinc 1 1, 3) := by decide +kernel
theorem dX8_init_284 : decode cX8_init 284 = .ok (.goto (-30), 3) := by decide +kernel
theorem dX8_init_287 : decode cX8_init 287 = .ok (.return_, 1) := by decide +kernel
theorem dX8_in_0 : decode cX8_in 0 = .ok (.iload_n 0, 1) := by decide +kernel
theorem dX8_in_1 : decode cX8_in 1 = .ok (.iload_n 1, 1) := by decide +kernel
theorem dX8_in_2 : decode cX8_in 2 = .ok (.if_icmp .lt 12, 3) := by decide +kernel
theorem dX8_in_5 : decode cX8_in 5 = .ok (.iload_n 0, 1) := by decide +kernel
theorem dX8_in_6 : decode cX8_in 6 = .ok (.iload_n 2, 1) := by decide +kernel
theorem dX8_in_7 : decode cX8_in 7 = .ok (.if_icmp .gt 7, 3) := by decide +kernel
theorem dX8_in_10 : decode cX8_in 10 = .ok (.iconst 1, 1) := by decide +kernel
theorem dX8_in_11 : decode cX8_in 11 = .ok (.goto 4, 3) := by decide +kernel
theorem dX8_in_14 : decode cX8_in 14 = .ok (.iconst 0, 1) := by decide +kernel
theorem dX8_in_15 : decode cX8_in 15 = .ok (.ireturn, 1) := by decide +kernel
theorem dX8_isRow_0 : decode cX8_isRow 0 = .ok (.iload_n 0, 1) := by decide +kernel
theorem dX8_isRow_1 : decode cX8_isRow 1 = .ok (.iconst 0, 1) := by decide +kernel
theorem dX8_isRow_2 : decode cX8_isRow 2 = .ok (.iconst 3, 1) := by decide +kernel
theorem dX8_isRow_3 : decode cX8_isRow 3 = .ok (.invokestatic 104, 3) := by decide +kernel
theorem dX8_isRow_6 : decode cX8_isRow 6 = .ok (.ireturn, 1) := by decide +kernel
theorem dX8_isPlace_0 : decode cX8_isPlace 0 = .ok (.iload_n 0, 1) := by decide +kernel
theorem dX8_isPlace_1 : decode cX8_isPlace 1 = .ok (.iconst 0, 1) := by decide +kernel
theorem dX8_isPlace_2 : decode cX8_isPlace 2 = .ok (.bipush 8, 2) := by decide +kernel
theorem dX8_isPlace_4 : decode cX8_isPlace 4 = .ok (.invokestatic 104, 3) := by decide +kernel
theorem dX8_isPlace_7 : decode cX8_isPlace 7 = .ok (.ireturn, 1) := by decide +kernel
theorem dX8_isNumber_0 : decode cX8_isNumber 0 = .ok (.iload_n 0, 1) := by decide +kernel
theorem dX8_isNumber_1 : decode cX8_isNumber 1 = .ok (.iconst 0, 1) := by decide +kernel
theorem dX8_isNumber_2 : decode cX8_isNumber 2 = .ok (.sipush 9972, 3) := by decide +kernel
theorem dX8_isNumber_5 : decode cX8_isNumber 5 = .ok (.invokestatic 104, 3) := by decide +kernel
theorem dX8_isNumber_8 : decode cX8_isNumber 8 = .ok (.ireturn, 1) := by decide +kernel
theorem dX8_bring_0 : decode cX8_bring 0 = .ok (.iconst 0, 1) := by decide +kernel
theorem dX8_bring_1 : decode cX8_bring 1 = .ok (.istore 5, 2) := by decide +kernel
theorem dX8_bring_3 : decode cX8_bring 3 = .ok (.iload 5, 2) := by decide +kernel
theorem dX8_bring_5 : decode cX8_bring 5 = .ok (.iload 4, 2) := by decide +kernel
theorem dX8_bring_7 : decode cX8_bring 7 = .ok (.if_icmp .ge 21, 3) := by decide +kernel
theorem dX8_bring_10 : decode cX8_bring 10 = .ok (.aload_n 2, 1) := by decide +kernel
theorem dX8_bring_11 : decode cX8_bring 11 = .ok (.iload_n 3, 1) := by decide +kernel
theorem dX8_bring_12 : decode cX8_bring 12 = .ok (.iload 5, 2) := by decide +kernel
theorem dX8_bring_14 : decode cX8_bring 14 = .ok (.iadd, 1) := by decide +kernel
theorem dX8_bring_15 : decode cX8_bring 15 = .ok (.aload_n 0, 1) := by decide +kernel
theorem dX8_bring_16 : decode cX8_bring 16 = .ok (.iload_n 1, 1) := by decide +kernel
theorem dX8_bring_17 : decode cX8_bring 17 = .ok (.iload 5, 2) := by decide +kernel
theorem dX8_bring_19 : decode cX8_bring 19 = .ok (.iadd, 1) := by decide +kernel
theorem dX8_bring_20 : decode cX8_bring 20 = .ok (.iaload, 1) := by decide +kernel
theorem dX8_bring_21 : decode cX8_bring 21 = .ok (.iastore, 1) := by decide +kernel
theorem dX8_bring_22 : decode cX8_bring 22 = .ok (.iinc 5 1, 3) := by decide +kernel
theorem dX8_bring_25 : decode cX8_bring 25 = .ok (.goto (-22), 3) := by decide +kernel
theorem dX8_bring_28 : decode cX8_bring 28 = .ok (.return_, 1) := by decide +kernel
theorem dX8_together_0 : decode cX8_together 0 = .ok (.iload_n 0, 1) := by decide +kernel
theorem dX8_together_1 : decode cX8_together 1 = .ok (.iload_n 1, 1) := by decide +kernel
theorem dX8_together_2 : decode cX8_together 2 = .ok (.iadd, 1) := by decide +kernel
theorem dX8_together_3 : decode cX8_together 3 = .ok (.sipush 9973, 3) := by decide +kernel
theorem dX8_together_6 : decode cX8_together 6 = .ok (.irem, 1) := by decide +kernel
theorem dX8_together_7 : decode cX8_together 7 = .ok (.ireturn, 1) := by decide +kernel
theorem dX8_less_0 : decode cX8_less 0 = .ok (.iload_n 0, 1) := by decide +kernel
theorem dX8_less_1 : decode cX8_less 1 = .ok (.sipush 9973, 3) := by decide +kernel
theorem dX8_less_4 : decode cX8_less 4 = .ok (.iadd, 1) := by decide +kernel
theorem dX8_less_5 : decode cX8_less 5 = .ok (.iload_n 1, 1) := by decide +kernel
theorem dX8_less_6 : decode cX8_less 6 = .ok (.isub, 1) := by decide +kernel
theorem dX8_less_7 : decode cX8_less 7 = .ok (.sipush 9973, 3) := by decide +kernel
theorem dX8_less_10 : decode cX8_less 10 = .ok (.irem, 1) := by decide +kernel
theorem dX8_less_11 : decode cX8_less 11 = .ok (.ireturn, 1) := by decide +kernel
theorem dX8_product_0 : decode cX8_product 0 = .ok (.iload_n 0, 1) := by decide +kernel
theorem dX8_product_1 : decode cX8_product 1 = .ok (.iload_n 1, 1) := by decide +kernel
theorem dX8_product_2 : decode cX8_product 2 = .ok (.imul, 1) := by decide +kernel
theorem dX8_product_3 : decode cX8_product 3 = .ok (.sipush 9973, 3) := by decide +kernel
theorem dX8_product_6 : decode cX8_product 6 = .ok (.irem, 1) := by decide +kernel
theorem dX8_product_7 : decode cX8_product 7 = .ok (.ireturn, 1) := by decide +kernel
theorem dX8_over_0 : decode cX8_over 0 = .ok (.iconst 1, 1) := by decide +kernel
theorem dX8_over_1 : decode cX8_over 1 = .ok (.istore_n 1, 1) := by decide +kernel
theorem dX8_over_2 : decode cX8_over 2 = .ok (.iload_n 0, 1) := by decide +kernel
theorem dX8_over_3 : decode cX8_over 3 = .ok (.istore_n 2, 1) := by decide +kernel
theorem dX8_over_4 : decode cX8_over 4 = .ok (.sipush 9971, 3) := by decide +kernel
theorem dX8_over_7 : decode cX8_over 7 = .ok (.istore_n 3, 1) := by decide +kernel
theorem dX8_over_8 : decode cX8_over 8 = .ok (.iload_n 3, 1) := by decide +kernel
theorem dX8_over_9 : decode cX8_over 9 = .ok (.ifCond .le 33, 3) := by decide +kernel
theorem dX8_over_12 : decode cX8_over 12 = .ok (.iload_n 3, 1) := by decide +kernel
theorem dX8_over_13 : decode cX8_over 13 = .ok (.iconst 2, 1) := by decide +kernel
theorem dX8_over_14 : decode cX8_over 14 = .ok (.irem, 1) := by decide +kernel
theorem dX8_over_15 : decode cX8_over 15 = .ok (.iconst 1, 1) := by decide +kernel
theorem dX8_over_16 : decode cX8_over 16 = .ok (.if_icmp .ne 11, 3) := by decide +kernel
theorem dX8_over_19 : decode cX8_over 19 = .ok (.iload_n 1, 1) := by decide +kernel
theorem dX8_over_20 : decode cX8_over 20 = .ok (.iload_n 2, 1) := by decide +kernel
theorem dX8_over_21 : decode cX8_over 21 = .ok (.invokestatic 108, 3) := by decide +kernel
theorem dX8_over_24 : decode cX8_over 24 = .ok (.goto 4, 3) := by decide +kernel
theorem dX8_over_27 : decode cX8_over 27 = .ok (.iload_n 1, 1) := by decide +kernel
theorem dX8_over_28 : decode cX8_over 28 = .ok (.istore_n 1, 1) := by decide +kernel
theorem dX8_over_29 : decode cX8_over 29 = .ok (.iload_n 2, 1) := by decide +kernel
theorem dX8_over_30 : decode cX8_over 30 = .ok (.iload_n 2, 1) := by decide +kernel
theorem dX8_over_31 : decode cX8_over 31 = .ok (.invokestatic 108, 3) := by decide +kernel
theorem dX8_over_34 : decode cX8_over 34 = .ok (.istore_n 2, 1) := by decide +kernel
theorem dX8_over_35 : decode cX8_over 35 = .ok (.iload_n 3, 1) := by decide +kernel
theorem dX8_over_36 : decode cX8_over 36 = .ok (.iconst 2, 1) := by decide +kernel
theorem dX8_over_37 : decode cX8_over 37 = .ok (.idiv, 1) := by decide +kernel
theorem dX8_over_38 : decode cX8_over 38 = .ok (.istore_n 3, 1) := by decide +kernel
theorem dX8_over_39 : decode cX8_over 39 = .ok (.goto (-31), 3) := by decide +kernel
theorem dX8_over_42 : decode cX8_over 42 = .ok (.iload_n 1, 1) := by decide +kernel
theorem dX8_over_43 : decode cX8_over 43 = .ok (.ireturn, 1) := by decide +kernel
theorem dX8_toMade_0 : decode cX8_toMade 0 = .ok (.aload_n 0, 1) := by decide +kernel
theorem dX8_toMade_1 : decode cX8_toMade 1 = .ok (.getfield 32, 3) := by decide +kernel
theorem dX8_toMade_4 : decode cX8_toMade 4 = .ok (.iconst 0, 1) := by decide +kernel
theorem dX8_toMade_5 : decode cX8_toMade 5 = .ok (.aload_n 1, 1) := by decide +kernel
theorem dX8_toMade_6 : decode cX8_toMade 6 = .ok (.iload_n 2, 1) := by decide +kernel
theorem dX8_toMade_7 : decode cX8_toMade 7 = .ok (.bipush 9, 2) := by decide +kernel
theorem dX8_toMade_9 : decode cX8_toMade 9 = .ok (.invokestatic 112, 3) := by decide +kernel
theorem dX8_toMade_12 : decode cX8_toMade 12 = .ok (.return_, 1) := by decide +kernel
theorem dX8_clears_0 : decode cX8_clears 0 = .ok (.iconst 0, 1) := by decide +kernel
theorem dX8_clears_1 : decode cX8_clears 1 = .ok (.istore_n 1, 1) := by decide +kernel
theorem dX8_clears_2 : decode cX8_clears 2 = .ok (.iload_n 1, 1) := by decide +kernel
theorem dX8_clears_3 : decode cX8_clears 3 = .ok (.bipush 9, 2) := by decide +kernel
theorem dX8_clears_5 : decode cX8_clears 5 = .ok (.if_icmp .ge 16, 3) := by decide +kernel
theorem dX8_clears_8 : decode cX8_clears 8 = .ok (.aload_n 0, 1) := by decide +kernel
theorem dX8_clears_9 : decode cX8_clears 9 = .ok (.getfield 32, 3) := by decide +kernel
theorem dX8_clears_12 : decode cX8_clears 12 = .ok (.iload_n 1, 1) := by decide +kernel
theorem dX8_clears_13 : decode cX8_clears 13 = .ok (.iconst 0, 1) := by decide +kernel
theorem dX8_clears_14 : decode cX8_clears 14 = .ok (.iastore, 1) := by decide +kernel
theorem dX8_clears_15 : decode cX8_clears 15 = .ok (.iinc 1 1, 3) := by decide +kernel
theorem dX8_clears_18 : decode cX8_clears 18 = .ok (.goto (-16), 3) := by decide +kernel
theorem dX8_clears_21 : decode cX8_clears 21 = .ok (.return_, 1) := by decide +kernel
theorem dX8_multiplies_0 : decode cX8_multiplies 0 = .ok (.aload_n 0, 1) := by decide +kernel
theorem dX8_multiplies_1 : decode cX8_multiplies 1 = .ok (.invokevirtual 116, 3) := by decide +kernel
theorem dX8_multiplies_4 : decode cX8_multiplies 4 = .ok (.iconst 0, 1) := by decide +kernel
theorem dX8_multiplies_5 : decode cX8_multiplies 5 = .ok (.istore 6, 2) := by decide +kernel
theorem dX8_multiplies_7 : decode cX8_multiplies 7 = .ok (.iload 6, 2) := by decide +kernel
theorem dX8_multiplies_9 : decode cX8_multiplies 9 = .ok (.bipush 9, 2) := by decide +kernel
theorem dX8_multiplies_11 : decode cX8_multiplies 11 = .ok (.if_icmp .ge 67, 3) := by decide +kernel
theorem dX8_multiplies_14 : decode cX8_multiplies 14 = .ok (.iconst 0, 1) := by decide +kernel
theorem dX8_multiplies_15 : decode cX8_multiplies 15 = .ok (.istore 7, 2) := by decide +kernel
theorem dX8_multiplies_17 : decode cX8_multiplies 17 = .ok (.iload 6, 2) := by decide +kernel
theorem dX8_multiplies_19 : decode cX8_multiplies 19 = .ok (.iload 7, 2) := by decide +kernel
theorem dX8_multiplies_21 : decode cX8_multiplies 21 = .ok (.iadd, 1) := by decide +kernel
theorem dX8_multiplies_22 : decode cX8_multiplies 22 = .ok (.bipush 9, 2) := by decide +kernel
theorem dX8_multiplies_24 : decode cX8_multiplies 24 = .ok (.if_icmp .ge 48, 3) := by decide +kernel
theorem dX8_multiplies_27 : decode cX8_multiplies 27 = .ok (.aload_n 0, 1) := by decide +kernel
theorem dX8_multiplies_28 : decode cX8_multiplies 28 = .ok (.getfield 32, 3) := by decide +kernel
theorem dX8_multiplies_31 : decode cX8_multiplies 31 = .ok (.iload 6, 2) := by decide +kernel
theorem dX8_multiplies_33 : decode cX8_multiplies 33 = .ok (.iload 7, 2) := by decide +kernel
theorem dX8_multiplies_35 : decode cX8_multiplies 35 = .ok (.iadd, 1) := by decide +kernel
theorem dX8_multiplies_36 : decode cX8_multiplies 36 = .ok (.aload_n 0, 1) := by decide +kernel
theorem dX8_multiplies_37 : decode cX8_multiplies 37 = .ok (.getfield 32, 3) := by decide +kernel
theorem dX8_multiplies_40 : decode cX8_multiplies 40 = .ok (.iload 6, 2) := by decide +kernel
theorem dX8_multiplies_42 : decode cX8_multiplies 42 = .ok (.iload 7, 2) := by decide +kernel
theorem dX8_multiplies_44 : decode cX8_multiplies 44 = .ok (.iadd, 1) := by decide +kernel
theorem dX8_multiplies_45 : decode cX8_multiplies 45 = .ok (.iaload, 1) := by decide +kernel
theorem dX8_multiplies_46 : decode cX8_multiplies 46 = .ok (.aload_n 1, 1) := by decide +kernel
theorem dX8_multiplies_47 : decode cX8_multiplies 47 = .ok (.iload_n 2, 1) := by decide +kernel
theorem dX8_multiplies_48 : decode cX8_multiplies 48 = .ok (.iload 6, 2) := by decide +kernel
theorem dX8_multiplies_50 : decode cX8_multiplies 50 = .ok (.iadd, 1) := by decide +kernel
theorem dX8_multiplies_51 : decode cX8_multiplies 51 = .ok (.iaload, 1) := by decide +kernel
theorem dX8_multiplies_52 : decode cX8_multiplies 52 = .ok (.aload_n 3, 1) := by decide +kernel
theorem dX8_multiplies_53 : decode cX8_multiplies 53 = .ok (.iload 4, 2) := by decide +kernel
theorem dX8_multiplies_55 : decode cX8_multiplies 55 = .ok (.iload 7, 2) := by decide +kernel
theorem dX8_multiplies_57 : decode cX8_multiplies 57 = .ok (.iadd, 1) := by decide +kernel
theorem dX8_multiplies_58 : decode cX8_multiplies 58 = .ok (.iaload, 1) := by decide +kernel
theorem dX8_multiplies_59 : decode cX8_multiplies 59 = .ok (.invokestatic 108, 3) := by decide +kernel
theorem dX8_multiplies_62 : decode cX8_multiplies 62 = .ok (.invokestatic 119, 3) := by decide +kernel
theorem dX8_multiplies_65 : decode cX8_multiplies 65 = .ok (.iastore, 1) := by decide +kernel
theorem dX8_multiplies_66 : decode cX8_multiplies 66 = .ok (.iinc 7 1, 3) := by decide +kernel
theorem dX8_multiplies_69 : decode cX8_multiplies 69 = .ok (.goto (-52), 3) := by decide +kernel
theorem dX8_multiplies_72 : decode cX8_multiplies 72 = .ok (.iinc 6 1, 3) := by decide +kernel
theorem dX8_multiplies_75 : decode cX8_multiplies 75 = .ok (.goto (-68), 3) := by decide +kernel
theorem dX8_multiplies_78 : decode cX8_multiplies 78 = .ok (.aload_n 0, 1) := by decide +kernel
theorem dX8_multiplies_79 : decode cX8_multiplies 79 = .ok (.aload 5, 2) := by decide +kernel
theorem dX8_multiplies_81 : decode cX8_multiplies 81 = .ok (.iconst 0, 1) := by decide +kernel
theorem dX8_multiplies_82 : decode cX8_multiplies 82 = .ok (.invokevirtual 122, 3) := by decide +kernel
theorem dX8_multiplies_85 : decode cX8_multiplies 85 = .ok (.return_, 1) := by decide +kernel
theorem dX8_divides_0 : decode cX8_divides 0 = .ok (.aload_n 3, 1) := by decide +kernel
theorem dX8_divides_1 : decode cX8_divides 1 = .ok (.iload 4, 2) := by decide +kernel
theorem dX8_divides_3 : decode cX8_divides 3 = .ok (.iaload, 1) := by decide +kernel
theorem dX8_divides_4 : decode cX8_divides 4 = .ok (.invokestatic 126, 3) := by decide +kernel
theorem dX8_divides_7 : decode cX8_divides 7 = .ok (.istore 6, 2) := by decide +kernel
theorem dX8_divides_9 : decode cX8_divides 9 = .ok (.aload_n 0, 1) := by decide +kernel
theorem dX8_divides_10 : decode cX8_divides 10 = .ok (.invokevirtual 116, 3) := by decide +kernel
theorem dX8_divides_13 : decode cX8_divides 13 = .ok (.iconst 0, 1) := by decide +kernel
theorem dX8_divides_14 : decode cX8_divides 14 = .ok (.istore 7, 2) := by decide +kernel
theorem dX8_divides_16 : decode cX8_divides 16 = .ok (.iload 7, 2) := by decide +kernel
theorem dX8_divides_18 : decode cX8_divides 18 = .ok (.bipush 9, 2) := by decide +kernel
theorem dX8_divides_20 : decode cX8_divides 20 = .ok (.if_icmp .ge 74, 3) := by decide +kernel
theorem dX8_divides_23 : decode cX8_divides 23 = .ok (.aload_n 1, 1) := by decide +kernel
theorem dX8_divides_24 : decode cX8_divides 24 = .ok (.iload_n 2, 1) := by decide +kernel
theorem dX8_divides_25 : decode cX8_divides 25 = .ok (.iload 7, 2) := by decide +kernel
theorem dX8_divides_27 : decode cX8_divides 27 = .ok (.iadd, 1) := by decide +kernel
theorem dX8_divides_28 : decode cX8_divides 28 = .ok (.iaload, 1) := by decide +kernel
theorem dX8_divides_29 : decode cX8_divides 29 = .ok (.istore 8, 2) := by decide +kernel
theorem dX8_divides_31 : decode cX8_divides 31 = .ok (.iconst 0, 1) := by decide +kernel
theorem dX8_divides_32 : decode cX8_divides 32 = .ok (.istore 9, 2) := by decide +kernel
theorem dX8_divides_34 : decode cX8_divides 34 = .ok (.iload 9, 2) := by decide +kernel
theorem dX8_divides_36 : decode cX8_divides 36 = .ok (.iload 7, 2) := by decide +kernel
theorem dX8_divides_38 : decode cX8_divides 38 = .ok (.if_icmp .ge 36, 3) := by decide +kernel
theorem dX8_divides_41 : decode cX8_divides 41 = .ok (.iload 8, 2) := by decide +kernel
theorem dX8_divides_43 : decode cX8_divides 43 = .ok (.aload_n 0, 1) := by decide +kernel
theorem dX8_divides_44 : decode cX8_divides 44 = .ok (.getfield 32, 3) := by decide +kernel
theorem dX8_divides_47 : decode cX8_divides 47 = .ok (.iload 9, 2) := by decide +kernel
theorem dX8_divides_49 : decode cX8_divides 49 = .ok (.iaload, 1) := by decide +kernel
theorem dX8_divides_50 : decode cX8_divides 50 = .ok (.aload_n 3, 1) := by decide +kernel
theorem dX8_divides_51 : decode cX8_divides 51 = .ok (.iload 4, 2) := by decide +kernel
theorem dX8_divides_53 : decode cX8_divides 53 = .ok (.iload 7, 2) := by decide +kernel
theorem dX8_divides_55 : decode cX8_divides 55 = .ok (.iadd, 1) := by decide +kernel
theorem dX8_divides_56 : decode cX8_divides 56 = .ok (.iload 9, 2) := by decide +kernel
theorem dX8_divides_58 : decode cX8_divides 58 = .ok (.isub, 1) := by decide +kernel
theorem dX8_divides_59 : decode cX8_divides 59 = .ok (.iaload, 1) := by decide +kernel
theorem dX8_divides_60 : decode cX8_divides 60 = .ok (.invokestatic 108, 3) := by decide +kernel
theorem dX8_divides_63 : decode cX8_divides 63 = .ok (.invokestatic 130, 3) := by decide +kernel
theorem dX8_divides_66 : decode cX8_divides 66 = .ok (.istore 8, 2) := by decide +kernel
theorem dX8_divides_68 : decode cX8_divides 68 = .ok (.iinc 9 1, 3) := by decide +kernel
theorem dX8_divides_71 : decode cX8_divides 71 = .ok (.goto (-37), 3) := by decide +kernel
theorem dX8_divides_74 : decode cX8_divides 74 = .ok (.aload_n 0, 1) := by decide +kernel
theorem dX8_divides_75 : decode cX8_divides 75 = .ok (.getfield 32, 3) := by decide +kernel
theorem dX8_divides_78 : decode cX8_divides 78 = .ok (.iload 7, 2) := by decide +kernel
theorem dX8_divides_80 : decode cX8_divides 80 = .ok (.iload 8, 2) := by decide +kernel
theorem dX8_divides_82 : decode cX8_divides 82 = .ok (.iload 6, 2) := by decide +kernel
theorem dX8_divides_84 : decode cX8_divides 84 = .ok (.invokestatic 108, 3) := by decide +kernel
theorem dX8_divides_87 : decode cX8_divides 87 = .ok (.iastore, 1) := by decide +kernel
theorem dX8_divides_88 : decode cX8_divides 88 = .ok (.iinc 7 1, 3) := by decide +kernel
theorem dX8_divides_91 : decode cX8_divides 91 = .ok (.goto (-75), 3) := by decide +kernel
theorem dX8_divides_94 : decode cX8_divides 94 = .ok (.aload_n 0, 1) := by decide +kernel
theorem dX8_divides_95 : decode cX8_divides 95 = .ok (.aload 5, 2) := by decide +kernel
theorem dX8_divides_97 : decode cX8_divides 97 = .ok (.iconst 0, 1) := by decide +kernel
theorem dX8_divides_98 : decode cX8_divides 98 = .ok (.invokevirtual 122, 3) := by decide +kernel
theorem dX8_divides_101 : decode cX8_divides 101 = .ok (.return_, 1) := by decide +kernel
theorem dX8_puts_0 : decode cX8_puts 0 = .ok (.iconst 0, 1) := by decide +kernel
theorem dX8_puts_1 : decode cX8_puts 1 = .ok (.istore 6, 2) := by decide +kernel
theorem dX8_puts_3 : decode cX8_puts 3 = .ok (.iload 6, 2) := by decide +kernel
theorem dX8_puts_5 : decode cX8_puts 5 = .ok (.bipush 9, 2) := by decide +kernel
theorem dX8_puts_7 : decode cX8_puts 7 = .ok (.if_icmp .ge 17, 3) := by decide +kernel
theorem dX8_puts_10 : decode cX8_puts 10 = .ok (.aload_n 0, 1) := by decide +kernel
theorem dX8_puts_11 : decode cX8_puts 11 = .ok (.getfield 35, 3) := by decide +kernel
theorem dX8_puts_14 : decode cX8_puts 14 = .ok (.iload 6, 2) := by decide +kernel
theorem dX8_puts_16 : decode cX8_puts 16 = .ok (.iconst 0, 1) := by decide +kernel
theorem dX8_puts_17 : decode cX8_puts 17 = .ok (.iastore, 1) := by decide +kernel
theorem dX8_puts_18 : decode cX8_puts 18 = .ok (.iinc 6 1, 3) := by decide +kernel
theorem dX8_puts_21 : decode cX8_puts 21 = .ok (.goto (-18), 3) := by decide +kernel
theorem dX8_puts_24 : decode cX8_puts 24 = .ok (.bipush 8, 2) := by decide +kernel
theorem dX8_puts_26 : decode cX8_puts 26 = .ok (.istore 6, 2) := by decide +kernel
theorem dX8_puts_28 : decode cX8_puts 28 = .ok (.iload 6, 2) := by decide +kernel
theorem dX8_puts_30 : decode cX8_puts 30 = .ok (.ifCond .lt 46, 3) := by decide +kernel
theorem dX8_puts_33 : decode cX8_puts 33 = .ok (.aload_n 0, 1) := by decide +kernel
theorem dX8_puts_34 : decode cX8_puts 34 = .ok (.aload_n 0, 1) := by decide +kernel
theorem dX8_puts_35 : decode cX8_puts 35 = .ok (.getfield 35, 3) := by decide +kernel
theorem dX8_puts_38 : decode cX8_puts 38 = .ok (.iconst 0, 1) := by decide +kernel
theorem dX8_puts_39 : decode cX8_puts 39 = .ok (.aload_n 3, 1) := by decide +kernel
theorem dX8_puts_40 : decode cX8_puts 40 = .ok (.iload 4, 2) := by decide +kernel
theorem dX8_puts_42 : decode cX8_puts 42 = .ok (.aload_n 0, 1) := by decide +kernel
theorem dX8_puts_43 : decode cX8_puts 43 = .ok (.getfield 35, 3) := by decide +kernel
theorem dX8_puts_46 : decode cX8_puts 46 = .ok (.invokevirtual 133, 3) := by decide +kernel
theorem dX8_puts_49 : decode cX8_puts 49 = .ok (.aload_n 0, 1) := by decide +kernel
theorem dX8_puts_50 : decode cX8_puts 50 = .ok (.getfield 35, 3) := by decide +kernel
theorem dX8_puts_53 : decode cX8_puts 53 = .ok (.iconst 0, 1) := by decide +kernel
theorem dX8_puts_54 : decode cX8_puts 54 = .ok (.aload_n 0, 1) := by decide +kernel
theorem dX8_puts_55 : decode cX8_puts 55 = .ok (.getfield 35, 3) := by decide +kernel
theorem dX8_puts_58 : decode cX8_puts 58 = .ok (.iconst 0, 1) := by decide +kernel
theorem dX8_puts_59 : decode cX8_puts 59 = .ok (.iaload, 1) := by decide +kernel
theorem dX8_puts_60 : decode cX8_puts 60 = .ok (.aload_n 1, 1) := by decide +kernel
theorem dX8_puts_61 : decode cX8_puts 61 = .ok (.iload_n 2, 1) := by decide +kernel
theorem dX8_puts_62 : decode cX8_puts 62 = .ok (.iload 6, 2) := by decide +kernel
theorem dX8_puts_64 : decode cX8_puts 64 = .ok (.iadd, 1) := by decide +kernel
theorem dX8_puts_65 : decode cX8_puts 65 = .ok (.iaload, 1) := by decide +kernel
theorem dX8_puts_66 : decode cX8_puts 66 = .ok (.invokestatic 119, 3) := by decide +kernel
theorem dX8_puts_69 : decode cX8_puts 69 = .ok (.iastore, 1) := by decide +kernel
theorem dX8_puts_70 : decode cX8_puts 70 = .ok (.iinc 6 (-1), 3) := by decide +kernel
theorem dX8_puts_73 : decode cX8_puts 73 = .ok (.goto (-45), 3) := by decide +kernel
theorem dX8_puts_76 : decode cX8_puts 76 = .ok (.aload_n 0, 1) := by decide +kernel
theorem dX8_puts_77 : decode cX8_puts 77 = .ok (.getfield 35, 3) := by decide +kernel
theorem dX8_puts_80 : decode cX8_puts 80 = .ok (.iconst 0, 1) := by decide +kernel
theorem dX8_puts_81 : decode cX8_puts 81 = .ok (.aload 5, 2) := by decide +kernel
theorem dX8_puts_83 : decode cX8_puts 83 = .ok (.iconst 0, 1) := by decide +kernel
theorem dX8_puts_84 : decode cX8_puts 84 = .ok (.bipush 9, 2) := by decide +kernel
theorem dX8_puts_86 : decode cX8_puts 86 = .ok (.invokestatic 112, 3) := by decide +kernel
theorem dX8_puts_89 : decode cX8_puts 89 = .ok (.return_, 1) := by decide +kernel
theorem dX8_turns_0 : decode cX8_turns 0 = .ok (.aload_n 1, 1) := by decide +kernel
theorem dX8_turns_1 : decode cX8_turns 1 = .ok (.iload_n 2, 1) := by decide +kernel
theorem dX8_turns_2 : decode cX8_turns 2 = .ok (.iconst 1, 1) := by decide +kernel
theorem dX8_turns_3 : decode cX8_turns 3 = .ok (.iadd, 1) := by decide +kernel
theorem dX8_turns_4 : decode cX8_turns 4 = .ok (.iaload, 1) := by decide +kernel
theorem dX8_turns_5 : decode cX8_turns 5 = .ok (.invokestatic 126, 3) := by decide +kernel
theorem dX8_turns_8 : decode cX8_turns 8 = .ok (.istore 4, 2) := by decide +kernel
theorem dX8_turns_10 : decode cX8_turns 10 = .ok (.iconst 0, 1) := by decide +kernel
theorem dX8_turns_11 : decode cX8_turns 11 = .ok (.istore 5, 2) := by decide +kernel
theorem dX8_turns_13 : decode cX8_turns 13 = .ok (.iload 5, 2) := by decide +kernel
theorem dX8_turns_15 : decode cX8_turns 15 = .ok (.bipush 9, 2) := by decide +kernel
theorem dX8_turns_17 : decode cX8_turns 17 = .ok (.if_icmp .ge 17, 3) := by decide +kernel
theorem dX8_turns_20 : decode cX8_turns 20 = .ok (.aload_n 0, 1) := by decide +kernel
theorem dX8_turns_21 : decode cX8_turns 21 = .ok (.getfield 38, 3) := by decide +kernel
theorem dX8_turns_24 : decode cX8_turns 24 = .ok (.iload 5, 2) := by decide +kernel
theorem dX8_turns_26 : decode cX8_turns 26 = .ok (.iconst 0, 1) := by decide +kernel
theorem dX8_turns_27 : decode cX8_turns 27 = .ok (.iastore, 1) := by decide +kernel
theorem dX8_turns_28 : decode cX8_turns 28 = .ok (.iinc 5 1, 3) := by decide +kernel
theorem dX8_turns_31 : decode cX8_turns 31 = .ok (.goto (-18), 3) := by decide +kernel
theorem dX8_turns_34 : decode cX8_turns 34 = .ok (.iconst 1, 1) := by decide +kernel
theorem dX8_turns_35 : decode cX8_turns 35 = .ok (.istore 5, 2) := by decide +kernel
theorem dX8_turns_37 : decode cX8_turns 37 = .ok (.iload 5, 2) := by decide +kernel
theorem dX8_turns_39 : decode cX8_turns 39 = .ok (.bipush 9, 2) := by decide +kernel
theorem dX8_turns_41 : decode cX8_turns 41 = .ok (.if_icmp .ge 61, 3) := by decide +kernel
theorem dX8_turns_44 : decode cX8_turns 44 = .ok (.aload_n 0, 1) := by decide +kernel
theorem dX8_turns_45 : decode cX8_turns 45 = .ok (.aload_n 1, 1) := by decide +kernel
theorem dX8_turns_46 : decode cX8_turns 46 = .ok (.iload_n 2, 1) := by decide +kernel
theorem dX8_turns_47 : decode cX8_turns 47 = .ok (.aload_n 0, 1) := by decide +kernel
theorem dX8_turns_48 : decode cX8_turns 48 = .ok (.getfield 38, 3) := by decide +kernel
theorem dX8_turns_51 : decode cX8_turns 51 = .ok (.iconst 0, 1) := by decide +kernel
theorem dX8_turns_52 : decode cX8_turns 52 = .ok (.aload_n 0, 1) := by decide +kernel
theorem dX8_turns_53 : decode cX8_turns 53 = .ok (.getfield 41, 3) := by decide +kernel
theorem dX8_turns_56 : decode cX8_turns 56 = .ok (.invokevirtual 137, 3) := by decide +kernel
theorem dX8_turns_59 : decode cX8_turns 59 = .ok (.iload 5, 2) := by decide +kernel
theorem dX8_turns_61 : decode cX8_turns 61 = .ok (.iconst 1, 1) := by decide +kernel
theorem dX8_turns_62 : decode cX8_turns 62 = .ok (.if_icmp .ne 7, 3) := by decide +kernel
theorem dX8_turns_65 : decode cX8_turns 65 = .ok (.iconst 1, 1) := by decide +kernel
theorem dX8_turns_66 : decode cX8_turns 66 = .ok (.goto 4, 3) := by decide +kernel
theorem dX8_turns_69 : decode cX8_turns 69 = .ok (.iconst 0, 1) := by decide +kernel
theorem dX8_turns_70 : decode cX8_turns 70 = .ok (.istore 6, 2) := by decide +kernel
theorem dX8_turns_72 : decode cX8_turns 72 = .ok (.aload_n 0, 1) := by decide +kernel
theorem dX8_turns_73 : decode cX8_turns 73 = .ok (.getfield 38, 3) := by decide +kernel
theorem dX8_turns_76 : decode cX8_turns 76 = .ok (.iload 5, 2) := by decide +kernel
theorem dX8_turns_78 : decode cX8_turns 78 = .ok (.iload 6, 2) := by decide +kernel
theorem dX8_turns_80 : decode cX8_turns 80 = .ok (.aload_n 0, 1) := by decide +kernel
theorem dX8_turns_81 : decode cX8_turns 81 = .ok (.getfield 41, 3) := by decide +kernel
theorem dX8_turns_84 : decode cX8_turns 84 = .ok (.iload 5, 2) := by decide +kernel
theorem dX8_turns_86 : decode cX8_turns 86 = .ok (.iaload, 1) := by decide +kernel
theorem dX8_turns_87 : decode cX8_turns 87 = .ok (.invokestatic 130, 3) := by decide +kernel
theorem dX8_turns_90 : decode cX8_turns 90 = .ok (.iload 4, 2) := by decide +kernel
theorem dX8_turns_92 : decode cX8_turns 92 = .ok (.invokestatic 108, 3) := by decide +kernel
theorem dX8_turns_95 : decode cX8_turns 95 = .ok (.iastore, 1) := by decide +kernel
theorem dX8_turns_96 : decode cX8_turns 96 = .ok (.iinc 5 1, 3) := by decide +kernel
theorem dX8_turns_99 : decode cX8_turns 99 = .ok (.goto (-62), 3) := by decide +kernel
theorem dX8_turns_102 : decode cX8_turns 102 = .ok (.aload_n 0, 1) := by decide +kernel
theorem dX8_turns_103 : decode cX8_turns 103 = .ok (.getfield 38, 3) := by decide +kernel
theorem dX8_turns_106 : decode cX8_turns 106 = .ok (.iconst 0, 1) := by decide +kernel
theorem dX8_turns_107 : decode cX8_turns 107 = .ok (.aload_n 3, 1) := by decide +kernel
theorem dX8_turns_108 : decode cX8_turns 108 = .ok (.iconst 0, 1) := by decide +kernel
theorem dX8_turns_109 : decode cX8_turns 109 = .ok (.bipush 9, 2) := by decide +kernel
theorem dX8_turns_111 : decode cX8_turns 111 = .ok (.invokestatic 112, 3) := by decide +kernel
theorem dX8_turns_114 : decode cX8_turns 114 = .ok (.return_, 1) := by decide +kernel
theorem dX8_makes_0 : decode cX8_makes 0 = .ok (.iconst 1, 1) := by decide +kernel
theorem dX8_makes_1 : decode cX8_makes 1 = .ok (.istore_n 3, 1) := by decide +kernel
theorem dX8_makes_2 : decode cX8_makes 2 = .ok (.iconst 0, 1) := by decide +kernel
theorem dX8_makes_3 : decode cX8_makes 3 = .ok (.istore 4, 2) := by decide +kernel
theorem dX8_makes_5 : decode cX8_makes 5 = .ok (.iload 4, 2) := by decide +kernel
theorem dX8_makes_7 : decode cX8_makes 7 = .ok (.bipush 9, 2) := by decide +kernel
theorem dX8_makes_9 : decode cX8_makes 9 = .ok (.if_icmp .ge 34, 3) := by decide +kernel
theorem dX8_makes_12 : decode cX8_makes 12 = .ok (.aload_n 0, 1) := by decide +kernel
theorem dX8_makes_13 : decode cX8_makes 13 = .ok (.getfield 44, 3) := by decide +kernel
theorem dX8_makes_16 : decode cX8_makes 16 = .ok (.iload 4, 2) := by decide +kernel
theorem dX8_makes_18 : decode cX8_makes 18 = .ok (.iload 4, 2) := by decide +kernel
theorem dX8_makes_20 : decode cX8_makes 20 = .ok (.ifCond .ne 7, 3) := by decide +kernel
theorem dX8_makes_23 : decode cX8_makes 23 = .ok (.iconst 1, 1) := by decide +kernel
theorem dX8_makes_24 : decode cX8_makes 24 = .ok (.goto 4, 3) := by decide +kernel
theorem dX8_makes_27 : decode cX8_makes 27 = .ok (.iconst 0, 1) := by decide +kernel
theorem dX8_makes_28 : decode cX8_makes 28 = .ok (.iastore, 1) := by decide +kernel
theorem dX8_makes_29 : decode cX8_makes 29 = .ok (.aload_n 0, 1) := by decide +kernel
theorem dX8_makes_30 : decode cX8_makes 30 = .ok (.getfield 47, 3) := by decide +kernel
theorem dX8_makes_33 : decode cX8_makes 33 = .ok (.iload 4, 2) := by decide +kernel
theorem dX8_makes_35 : decode cX8_makes 35 = .ok (.iconst 0, 1) := by decide +kernel
theorem dX8_makes_36 : decode cX8_makes 36 = .ok (.iastore, 1) := by decide +kernel
theorem dX8_makes_37 : decode cX8_makes 37 = .ok (.iinc 4 1, 3) := by decide +kernel
theorem dX8_makes_40 : decode cX8_makes 40 = .ok (.goto (-35), 3) := by decide +kernel
theorem dX8_makes_43 : decode cX8_makes 43 = .ok (.iconst 0, 1) := by decide +kernel
theorem dX8_makes_44 : decode cX8_makes 44 = .ok (.istore 4, 2) := by decide +kernel
theorem dX8_makes_46 : decode cX8_makes 46 = .ok (.iload 4, 2) := by decide +kernel
theorem dX8_makes_48 : decode cX8_makes 48 = .ok (.bipush 9, 2) := by decide +kernel
theorem dX8_makes_50 : decode cX8_makes 50 = .ok (.if_icmp .ge 154, 3) := by decide +kernel
theorem dX8_makes_53 : decode cX8_makes 53 = .ok (.iload 4, 2) := by decide +kernel
theorem dX8_makes_55 : decode cX8_makes 55 = .ok (.ifCond .ne 7, 3) := by decide +kernel
theorem dX8_makes_58 : decode cX8_makes 58 = .ok (.iconst 1, 1) := by decide +kernel
theorem dX8_makes_59 : decode cX8_makes 59 = .ok (.goto 9, 3) := by decide +kernel
theorem dX8_makes_62 : decode cX8_makes 62 = .ok (.iload_n 3, 1) := by decide +kernel
theorem dX8_makes_63 : decode cX8_makes 63 = .ok (.iload 4, 2) := by decide +kernel
theorem dX8_makes_65 : decode cX8_makes 65 = .ok (.invokestatic 108, 3) := by decide +kernel
theorem dX8_makes_68 : decode cX8_makes 68 = .ok (.istore_n 3, 1) := by decide +kernel
theorem dX8_makes_69 : decode cX8_makes 69 = .ok (.iload_n 1, 1) := by decide +kernel
theorem dX8_makes_70 : decode cX8_makes 70 = .ok (.bipush 101, 2) := by decide +kernel
theorem dX8_makes_72 : decode cX8_makes 72 = .ok (.if_icmp .ne 10, 3) := by decide +kernel
theorem dX8_makes_75 : decode cX8_makes 75 = .ok (.iload_n 3, 1) := by decide +kernel
theorem dX8_makes_76 : decode cX8_makes 76 = .ok (.invokestatic 126, 3) := by decide +kernel
theorem dX8_makes_79 : decode cX8_makes 79 = .ok (.goto 57, 3) := by decide +kernel
theorem dX8_makes_82 : decode cX8_makes 82 = .ok (.iload_n 1, 1) := by decide +kernel
theorem dX8_makes_83 : decode cX8_makes 83 = .ok (.bipush 113, 2) := by decide +kernel
theorem dX8_makes_85 : decode cX8_makes 85 = .ok (.if_icmp .ne 17, 3) := by decide +kernel
theorem dX8_makes_88 : decode cX8_makes 88 = .ok (.iload_n 3, 1) := by decide +kernel
theorem dX8_makes_89 : decode cX8_makes 89 = .ok (.iload 4, 2) := by decide +kernel
theorem dX8_makes_91 : decode cX8_makes 91 = .ok (.iconst 1, 1) := by decide +kernel
theorem dX8_makes_92 : decode cX8_makes 92 = .ok (.iadd, 1) := by decide +kernel
theorem dX8_makes_93 : decode cX8_makes 93 = .ok (.invokestatic 108, 3) := by decide +kernel
theorem dX8_makes_96 : decode cX8_makes 96 = .ok (.invokestatic 126, 3) := by decide +kernel
theorem dX8_makes_99 : decode cX8_makes 99 = .ok (.goto 37, 3) := by decide +kernel
theorem dX8_makes_102 : decode cX8_makes 102 = .ok (.iload 4, 2) := by decide +kernel
theorem dX8_makes_104 : decode cX8_makes 104 = .ok (.ifCond .ne 7, 3) := by decide +kernel
theorem dX8_makes_107 : decode cX8_makes 107 = .ok (.iconst 0, 1) := by decide +kernel
theorem dX8_makes_108 : decode cX8_makes 108 = .ok (.goto 28, 3) := by decide +kernel
theorem dX8_makes_111 : decode cX8_makes 111 = .ok (.iload 4, 2) := by decide +kernel
theorem dX8_makes_113 : decode cX8_makes 113 = .ok (.iconst 2, 1) := by decide +kernel
theorem dX8_makes_114 : decode cX8_makes 114 = .ok (.irem, 1) := by decide +kernel
theorem dX8_makes_115 : decode cX8_makes 115 = .ok (.iconst 1, 1) := by decide +kernel
theorem dX8_makes_116 : decode cX8_makes 116 = .ok (.if_icmp .ne 11, 3) := by decide +kernel
theorem dX8_makes_119 : decode cX8_makes 119 = .ok (.iload 4, 2) := by decide +kernel
theorem dX8_makes_121 : decode cX8_makes 121 = .ok (.invokestatic 126, 3) := by decide +kernel
theorem dX8_makes_124 : decode cX8_makes 124 = .ok (.goto 12, 3) := by decide +kernel
theorem dX8_makes_127 : decode cX8_makes 127 = .ok (.sipush 9973, 3) := by decide +kernel
theorem dX8_makes_130 : decode cX8_makes 130 = .ok (.iload 4, 2) := by decide +kernel
theorem dX8_makes_132 : decode cX8_makes 132 = .ok (.invokestatic 126, 3) := by decide +kernel
theorem dX8_makes_135 : decode cX8_makes 135 = .ok (.isub, 1) := by decide +kernel
theorem dX8_makes_136 : decode cX8_makes 136 = .ok (.istore 5, 2) := by decide +kernel
theorem dX8_makes_138 : decode cX8_makes 138 = .ok (.iconst 0, 1) := by decide +kernel
theorem dX8_makes_139 : decode cX8_makes 139 = .ok (.istore 6, 2) := by decide +kernel
theorem dX8_makes_141 : decode cX8_makes 141 = .ok (.iload 6, 2) := by decide +kernel
theorem dX8_makes_143 : decode cX8_makes 143 = .ok (.bipush 9, 2) := by decide +kernel
theorem dX8_makes_145 : decode cX8_makes 145 = .ok (.if_icmp .ge 38, 3) := by decide +kernel
theorem dX8_makes_148 : decode cX8_makes 148 = .ok (.aload_n 0, 1) := by decide +kernel
theorem dX8_makes_149 : decode cX8_makes 149 = .ok (.getfield 47, 3) := by decide +kernel
theorem dX8_makes_152 : decode cX8_makes 152 = .ok (.iload 6, 2) := by decide +kernel
theorem dX8_makes_154 : decode cX8_makes 154 = .ok (.aload_n 0, 1) := by decide +kernel
theorem dX8_makes_155 : decode cX8_makes 155 = .ok (.getfield 47, 3) := by decide +kernel
theorem dX8_makes_158 : decode cX8_makes 158 = .ok (.iload 6, 2) := by decide +kernel
theorem dX8_makes_160 : decode cX8_makes 160 = .ok (.iaload, 1) := by decide +kernel
theorem dX8_makes_161 : decode cX8_makes 161 = .ok (.iload 5, 2) := by decide +kernel
theorem dX8_makes_163 : decode cX8_makes 163 = .ok (.aload_n 0, 1) := by decide +kernel
theorem dX8_makes_164 : decode cX8_makes 164 = .ok (.getfield 44, 3) := by decide +kernel
theorem dX8_makes_167 : decode cX8_makes 167 = .ok (.iload 6, 2) := by decide +kernel
theorem dX8_makes_169 : decode cX8_makes 169 = .ok (.iaload, 1) := by decide +kernel
theorem dX8_makes_170 : decode cX8_makes 170 = .ok (.invokestatic 108, 3) := by decide +kernel
theorem dX8_makes_173 : decode cX8_makes 173 = .ok (.invokestatic 119, 3) := by decide +kernel
theorem dX8_makes_176 : decode cX8_makes 176 = .ok (.iastore, 1) := by decide +kernel
theorem dX8_makes_177 : decode cX8_makes 177 = .ok (.iinc 6 1, 3) := by decide +kernel
theorem dX8_makes_180 : decode cX8_makes 180 = .ok (.goto (-39), 3) := by decide +kernel
theorem dX8_makes_183 : decode cX8_makes 183 = .ok (.aload_n 0, 1) := by decide +kernel
theorem dX8_makes_184 : decode cX8_makes 184 = .ok (.aload_n 0, 1) := by decide +kernel
theorem dX8_makes_185 : decode cX8_makes 185 = .ok (.getfield 44, 3) := by decide +kernel
theorem dX8_makes_188 : decode cX8_makes 188 = .ok (.iconst 0, 1) := by decide +kernel
theorem dX8_makes_189 : decode cX8_makes 189 = .ok (.aload_n 2, 1) := by decide +kernel
theorem dX8_makes_190 : decode cX8_makes 190 = .ok (.iconst 0, 1) := by decide +kernel
theorem dX8_makes_191 : decode cX8_makes 191 = .ok (.aload_n 0, 1) := by decide +kernel
theorem dX8_makes_192 : decode cX8_makes 192 = .ok (.getfield 44, 3) := by decide +kernel
theorem dX8_makes_195 : decode cX8_makes 195 = .ok (.invokevirtual 133, 3) := by decide +kernel
theorem dX8_makes_198 : decode cX8_makes 198 = .ok (.iinc 4 1, 3) := by decide +kernel
theorem dX8_makes_201 : decode cX8_makes 201 = .ok (.goto (-155), 3) := by decide +kernel
theorem dX8_makes_204 : decode cX8_makes 204 = .ok (.aload_n 0, 1) := by decide +kernel
theorem dX8_makes_205 : decode cX8_makes 205 = .ok (.getfield 47, 3) := by decide +kernel
theorem dX8_makes_208 : decode cX8_makes 208 = .ok (.iconst 0, 1) := by decide +kernel
theorem dX8_makes_209 : decode cX8_makes 209 = .ok (.aload_n 2, 1) := by decide +kernel
theorem dX8_makes_210 : decode cX8_makes 210 = .ok (.iconst 0, 1) := by decide +kernel
theorem dX8_makes_211 : decode cX8_makes 211 = .ok (.bipush 9, 2) := by decide +kernel
theorem dX8_makes_213 : decode cX8_makes 213 = .ok (.invokestatic 112, 3) := by decide +kernel
theorem dX8_makes_216 : decode cX8_makes 216 = .ok (.return_, 1) := by decide +kernel
theorem dX8_isFlat_0 : decode cX8_isFlat 0 = .ok (.aload_n 0, 1) := by decide +kernel
theorem dX8_isFlat_1 : decode cX8_isFlat 1 = .ok (.iload_n 1, 1) := by decide +kernel
theorem dX8_isFlat_2 : decode cX8_isFlat 2 = .ok (.iaload, 1) := by decide +kernel
theorem dX8_isFlat_3 : decode cX8_isFlat 3 = .ok (.ifCond .ne 7, 3) := by decide +kernel
theorem dX8_isFlat_6 : decode cX8_isFlat 6 = .ok (.iconst 1, 1) := by decide +kernel
theorem dX8_isFlat_7 : decode cX8_isFlat 7 = .ok (.goto 4, 3) := by decide +kernel
theorem dX8_isFlat_10 : decode cX8_isFlat 10 = .ok (.iconst 0, 1) := by decide +kernel
theorem dX8_isFlat_11 : decode cX8_isFlat 11 = .ok (.ireturn, 1) := by decide +kernel
theorem dX8_isDelta_0 : decode cX8_isDelta 0 = .ok (.aload_n 0, 1) := by decide +kernel
theorem dX8_isDelta_1 : decode cX8_isDelta 1 = .ok (.iload_n 1, 1) := by decide +kernel
theorem dX8_isDelta_2 : decode cX8_isDelta 2 = .ok (.iaload, 1) := by decide +kernel
theorem dX8_isDelta_3 : decode cX8_isDelta 3 = .ok (.ifCond .ne 15, 3) := by decide +kernel
theorem dX8_isDelta_6 : decode cX8_isDelta 6 = .ok (.aload_n 0, 1) := by decide +kernel
theorem dX8_isDelta_7 : decode cX8_isDelta 7 = .ok (.iload_n 1, 1) := by decide +kernel
theorem dX8_isDelta_8 : decode cX8_isDelta 8 = .ok (.iconst 1, 1) := by decide +kernel
theorem dX8_isDelta_9 : decode cX8_isDelta 9 = .ok (.iadd, 1) := by decide +kernel
theorem dX8_isDelta_10 : decode cX8_isDelta 10 = .ok (.iaload, 1) := by decide +kernel
theorem dX8_isDelta_11 : decode cX8_isDelta 11 = .ok (.ifCond .eq 7, 3) := by decide +kernel
theorem dX8_isDelta_14 : decode cX8_isDelta 14 = .ok (.iconst 1, 1) := by decide +kernel
theorem dX8_isDelta_15 : decode cX8_isDelta 15 = .ok (.goto 4, 3) := by decide +kernel
theorem dX8_isDelta_18 : decode cX8_isDelta 18 = .ok (.iconst 0, 1) := by decide +kernel
theorem dX8_isDelta_19 : decode cX8_isDelta 19 = .ok (.ireturn, 1) := by decide +kernel
theorem dX8_isDigit_0 : decode cX8_isDigit 0 = .ok (.iload_n 0, 1) := by decide +kernel
theorem dX8_isDigit_1 : decode cX8_isDigit 1 = .ok (.bipush 48, 2) := by decide +kernel
theorem dX8_isDigit_3 : decode cX8_isDigit 3 = .ok (.if_icmp .lt 13, 3) := by decide +kernel
theorem dX8_isDigit_6 : decode cX8_isDigit 6 = .ok (.iload_n 0, 1) := by decide +kernel
theorem dX8_isDigit_7 : decode cX8_isDigit 7 = .ok (.bipush 57, 2) := by decide +kernel
theorem dX8_isDigit_9 : decode cX8_isDigit 9 = .ok (.if_icmp .gt 7, 3) := by decide +kernel
theorem dX8_isDigit_12 : decode cX8_isDigit 12 = .ok (.iconst 1, 1) := by decide +kernel
theorem dX8_isDigit_13 : decode cX8_isDigit 13 = .ok (.goto 4, 3) := by decide +kernel
theorem dX8_isDigit_16 : decode cX8_isDigit 16 = .ok (.iconst 0, 1) := by decide +kernel
theorem dX8_isDigit_17 : decode cX8_isDigit 17 = .ok (.ireturn, 1) := by decide +kernel
theorem dX8_sign_0 : decode cX8_sign 0 = .ok (.aload_n 0, 1) := by decide +kernel
theorem dX8_sign_1 : decode cX8_sign 1 = .ok (.getfield 140, 3) := by decide +kernel
theorem dX8_sign_4 : decode cX8_sign 4 = .ok (.aload_n 0, 1) := by decide +kernel
theorem dX8_sign_5 : decode cX8_sign 5 = .ok (.getfield 144, 3) := by decide +kernel
theorem dX8_sign_8 : decode cX8_sign 8 = .ok (.if_icmp .ge 30, 3) := by decide +kernel
theorem dX8_sign_11 : decode cX8_sign 11 = .ok (.aload_n 0, 1) := by decide +kernel
theorem dX8_sign_12 : decode cX8_sign 12 = .ok (.getfield 29, 3) := by decide +kernel
theorem dX8_sign_15 : decode cX8_sign 15 = .ok (.aload_n 0, 1) := by decide +kernel
theorem dX8_sign_16 : decode cX8_sign 16 = .ok (.getfield 140, 3) := by decide +kernel
theorem dX8_sign_19 : decode cX8_sign 19 = .ok (.iaload, 1) := by decide +kernel
theorem dX8_sign_20 : decode cX8_sign 20 = .ok (.bipush 32, 2) := by decide +kernel
theorem dX8_sign_22 : decode cX8_sign 22 = .ok (.if_icmp .ne 16, 3) := by decide +kernel
theorem dX8_sign_25 : decode cX8_sign 25 = .ok (.aload_n 0, 1) := by decide +kernel
theorem dX8_sign_26 : decode cX8_sign 26 = .ok (.dup, 1) := by decide +kernel
theorem dX8_sign_27 : decode cX8_sign 27 = .ok (.getfield 140, 3) := by decide +kernel
theorem dX8_sign_30 : decode cX8_sign 30 = .ok (.iconst 1, 1) := by decide +kernel
theorem dX8_sign_31 : decode cX8_sign 31 = .ok (.iadd, 1) := by decide +kernel
theorem dX8_sign_32 : decode cX8_sign 32 = .ok (.putfield 140, 3) := by decide +kernel
theorem dX8_sign_35 : decode cX8_sign 35 = .ok (.goto (-35), 3) := by decide +kernel
theorem dX8_sign_38 : decode cX8_sign 38 = .ok (.aload_n 0, 1) := by decide +kernel
theorem dX8_sign_39 : decode cX8_sign 39 = .ok (.getfield 140, 3) := by decide +kernel
theorem dX8_sign_42 : decode cX8_sign 42 = .ok (.aload_n 0, 1) := by decide +kernel
theorem dX8_sign_43 : decode cX8_sign 43 = .ok (.getfield 144, 3) := by decide +kernel
theorem dX8_sign_46 : decode cX8_sign 46 = .ok (.if_icmp .ge 15, 3) := by decide +kernel
theorem dX8_sign_49 : decode cX8_sign 49 = .ok (.aload_n 0, 1) := by decide +kernel
theorem dX8_sign_50 : decode cX8_sign 50 = .ok (.getfield 29, 3) := by decide +kernel
theorem dX8_sign_53 : decode cX8_sign 53 = .ok (.aload_n 0, 1) := by decide +kernel
theorem dX8_sign_54 : decode cX8_sign 54 = .ok (.getfield 140, 3) := by decide +kernel
theorem dX8_sign_57 : decode cX8_sign 57 = .ok (.iaload, 1) := by decide +kernel
theorem dX8_sign_58 : decode cX8_sign 58 = .ok (.goto 4, 3) := by decide +kernel
theorem dX8_sign_61 : decode cX8_sign 61 = .ok (.iconst (-1), 1) := by decide +kernel
theorem dX8_sign_62 : decode cX8_sign 62 = .ok (.ireturn, 1) := by decide +kernel
theorem dX8_figures_0 : decode cX8_figures 0 = .ok (.iconst 0, 1) := by decide +kernel
theorem dX8_figures_1 : decode cX8_figures 1 = .ok (.istore_n 1, 1) := by decide +kernel
theorem dX8_figures_2 : decode cX8_figures 2 = .ok (.aload_n 0, 1) := by decide +kernel
theorem dX8_figures_3 : decode cX8_figures 3 = .ok (.getfield 140, 3) := by decide +kernel
theorem dX8_figures_6 : decode cX8_figures 6 = .ok (.iload_n 1, 1) := by decide +kernel
theorem dX8_figures_7 : decode cX8_figures 7 = .ok (.iadd, 1) := by decide +kernel
theorem dX8_figures_8 : decode cX8_figures 8 = .ok (.aload_n 0, 1) := by decide +kernel
theorem dX8_figures_9 : decode cX8_figures 9 = .ok (.getfield 144, 3) := by decide +kernel
theorem dX8_figures_12 : decode cX8_figures 12 = .ok (.if_icmp .ge 26, 3) := by decide +kernel
theorem dX8_figures_15 : decode cX8_figures 15 = .ok (.aload_n 0, 1) := by decide +kernel
theorem dX8_figures_16 : decode cX8_figures 16 = .ok (.getfield 29, 3) := by decide +kernel
theorem dX8_figures_19 : decode cX8_figures 19 = .ok (.aload_n 0, 1) := by decide +kernel
theorem dX8_figures_20 : decode cX8_figures 20 = .ok (.getfield 140, 3) := by decide +kernel
theorem dX8_figures_23 : decode cX8_figures 23 = .ok (.iload_n 1, 1) := by decide +kernel
theorem dX8_figures_24 : decode cX8_figures 24 = .ok (.iadd, 1) := by decide +kernel
theorem dX8_figures_25 : decode cX8_figures 25 = .ok (.iaload, 1) := by decide +kernel
theorem dX8_figures_26 : decode cX8_figures 26 = .ok (.invokestatic 147, 3) := by decide +kernel
theorem dX8_figures_29 : decode cX8_figures 29 = .ok (.ifCond .eq 9, 3) := by decide +kernel
theorem dX8_figures_32 : decode cX8_figures 32 = .ok (.iinc 1 1, 3) := by decide +kernel
theorem dX8_figures_35 : decode cX8_figures 35 = .ok (.goto (-33), 3) := by decide +kernel
theorem dX8_figures_38 : decode cX8_figures 38 = .ok (.iload_n 1, 1) := by decide +kernel
theorem dX8_figures_39 : decode cX8_figures 39 = .ok (.ireturn, 1) := by decide +kernel
theorem dX8_numberOf_0 : decode cX8_numberOf 0 = .ok (.iconst 0, 1) := by decide +kernel
theorem dX8_numberOf_1 : decode cX8_numberOf 1 = .ok (.istore_n 2, 1) := by decide +kernel
theorem dX8_numberOf_2 : decode cX8_numberOf 2 = .ok (.iconst 0, 1) := by decide +kernel
theorem dX8_numberOf_3 : decode cX8_numberOf 3 = .ok (.istore_n 3, 1) := by decide +kernel
theorem dX8_numberOf_4 : decode cX8_numberOf 4 = .ok (.iload_n 3, 1) := by decide +kernel
theorem dX8_numberOf_5 : decode cX8_numberOf 5 = .ok (.iload_n 1, 1) := by decide +kernel
theorem dX8_numberOf_6 : decode cX8_numberOf 6 = .ok (.if_icmp .ge 29, 3) := by decide +kernel
theorem dX8_numberOf_9 : decode cX8_numberOf 9 = .ok (.bipush 10, 2) := by decide +kernel
theorem dX8_numberOf_11 : decode cX8_numberOf 11 = .ok (.iload_n 2, 1) := by decide +kernel
theorem dX8_numberOf_12 : decode cX8_numberOf 12 = .ok (.imul, 1) := by decide +kernel
theorem dX8_numberOf_13 : decode cX8_numberOf 13 = .ok (.aload_n 0, 1) := by decide +kernel
theorem dX8_numberOf_14 : decode cX8_numberOf 14 = .ok (.getfield 29, 3) := by decide +kernel
theorem dX8_numberOf_17 : decode cX8_numberOf 17 = .ok (.aload_n 0, 1) := by decide +kernel
theorem dX8_numberOf_18 : decode cX8_numberOf 18 = .ok (.getfield 140, 3) := by decide +kernel
theorem dX8_numberOf_21 : decode cX8_numberOf 21 = .ok (.iload_n 3, 1) := by decide +kernel
theorem dX8_numberOf_22 : decode cX8_numberOf 22 = .ok (.iadd, 1) := by decide +kernel
theorem dX8_numberOf_23 : decode cX8_numberOf 23 = .ok (.iaload, 1) := by decide +kernel
theorem dX8_numberOf_24 : decode cX8_numberOf 24 = .ok (.iadd, 1) := by decide +kernel
theorem dX8_numberOf_25 : decode cX8_numberOf 25 = .ok (.bipush 48, 2) := by decide +kernel
theorem dX8_numberOf_27 : decode cX8_numberOf 27 = .ok (.isub, 1) := by decide +kernel
theorem dX8_numberOf_28 : decode cX8_numberOf 28 = .ok (.istore_n 2, 1) := by decide +kernel
theorem dX8_numberOf_29 : decode cX8_numberOf 29 = .ok (.iinc 3 1, 3) := by decide +kernel
theorem dX8_numberOf_32 : decode cX8_numberOf 32 = .ok (.goto (-28), 3) := by decide +kernel
theorem dX8_numberOf_35 : decode cX8_numberOf 35 = .ok (.iload_n 2, 1) := by decide +kernel
theorem dX8_numberOf_36 : decode cX8_numberOf 36 = .ok (.ireturn, 1) := by decide +kernel
theorem dX8_sets_0 : decode cX8_sets 0 = .ok (.iconst 0, 1) := by decide +kernel
theorem dX8_sets_1 : decode cX8_sets 1 = .ok (.istore_n 3, 1) := by decide +kernel
theorem dX8_sets_2 : decode cX8_sets 2 = .ok (.iload_n 3, 1) := by decide +kernel
theorem dX8_sets_3 : decode cX8_sets 3 = .ok (.bipush 9, 2) := by decide +kernel
theorem dX8_sets_5 : decode cX8_sets 5 = .ok (.if_icmp .ge 16, 3) := by decide +kernel
theorem dX8_sets_8 : decode cX8_sets 8 = .ok (.aload_n 0, 1) := by decide +kernel
theorem dX8_sets_9 : decode cX8_sets 9 = .ok (.getfield 50, 3) := by decide +kernel
theorem dX8_sets_12 : decode cX8_sets 12 = .ok (.iload_n 3, 1) := by decide +kernel
theorem dX8_sets_13 : decode cX8_sets 13 = .ok (.iconst 0, 1) := by decide +kernel
theorem dX8_sets_14 : decode cX8_sets 14 = .ok (.iastore, 1) := by decide +kernel
theorem dX8_sets_15 : decode cX8_sets 15 = .ok (.iinc 3 1, 3) := by decide +kernel
theorem dX8_sets_18 : decode cX8_sets 18 = .ok (.goto (-16), 3) := by decide +kernel
theorem dX8_sets_21 : decode cX8_sets 21 = .ok (.aload_n 0, 1) := by decide +kernel
theorem dX8_sets_22 : decode cX8_sets 22 = .ok (.getfield 50, 3) := by decide +kernel
theorem dX8_sets_25 : decode cX8_sets 25 = .ok (.iconst 0, 1) := by decide +kernel
theorem dX8_sets_26 : decode cX8_sets 26 = .ok (.iload_n 1, 1) := by decide +kernel
theorem dX8_sets_27 : decode cX8_sets 27 = .ok (.iastore, 1) := by decide +kernel
theorem dX8_sets_28 : decode cX8_sets 28 = .ok (.aload_n 0, 1) := by decide +kernel
theorem dX8_sets_29 : decode cX8_sets 29 = .ok (.getfield 50, 3) := by decide +kernel
theorem dX8_sets_32 : decode cX8_sets 32 = .ok (.iconst 1, 1) := by decide +kernel
theorem dX8_sets_33 : decode cX8_sets 33 = .ok (.iload_n 2, 1) := by decide +kernel
theorem dX8_sets_34 : decode cX8_sets 34 = .ok (.iastore, 1) := by decide +kernel
theorem dX8_sets_35 : decode cX8_sets 35 = .ok (.return_, 1) := by decide +kernel
theorem dX8_endsPower_0 : decode cX8_endsPower 0 = .ok (.bipush 9, 2) := by decide +kernel
theorem dX8_endsPower_2 : decode cX8_endsPower 2 = .ok (.aload_n 0, 1) := by decide +kernel
theorem dX8_endsPower_3 : decode cX8_endsPower 3 = .ok (.getfield 151, 3) := by decide +kernel
theorem dX8_endsPower_6 : decode cX8_endsPower 6 = .ok (.imul, 1) := by decide +kernel
theorem dX8_endsPower_7 : decode cX8_endsPower 7 = .ok (.istore_n 1, 1) := by decide +kernel
theorem dX8_endsPower_8 : decode cX8_endsPower 8 = .ok (.aload_n 0, 1) := by decide +kernel
theorem dX8_endsPower_9 : decode cX8_endsPower 9 = .ok (.getfield 65, 3) := by decide +kernel
theorem dX8_endsPower_12 : decode cX8_endsPower 12 = .ok (.aload_n 0, 1) := by decide +kernel
theorem dX8_endsPower_13 : decode cX8_endsPower 13 = .ok (.getfield 151, 3) := by decide +kernel
theorem dX8_endsPower_16 : decode cX8_endsPower 16 = .ok (.iaload, 1) := by decide +kernel
theorem dX8_endsPower_17 : decode cX8_endsPower 17 = .ok (.istore_n 2, 1) := by decide +kernel
theorem dX8_endsPower_18 : decode cX8_endsPower 18 = .ok (.aload_n 0, 1) := by decide +kernel
theorem dX8_endsPower_19 : decode cX8_endsPower 19 = .ok (.getfield 56, 3) := by decide +kernel
theorem dX8_endsPower_22 : decode cX8_endsPower 22 = .ok (.iload_n 1, 1) := by decide +kernel
theorem dX8_endsPower_23 : decode cX8_endsPower 23 = .ok (.aload_n 0, 1) := by decide +kernel
theorem dX8_endsPower_24 : decode cX8_endsPower 24 = .ok (.getfield 59, 3) := by decide +kernel
theorem dX8_endsPower_27 : decode cX8_endsPower 27 = .ok (.iconst 0, 1) := by decide +kernel
theorem dX8_endsPower_28 : decode cX8_endsPower 28 = .ok (.bipush 9, 2) := by decide +kernel
theorem dX8_endsPower_30 : decode cX8_endsPower 30 = .ok (.invokestatic 112, 3) := by decide +kernel
theorem dX8_endsPower_33 : decode cX8_endsPower 33 = .ok (.iload_n 2, 1) := by decide +kernel
theorem dX8_endsPower_34 : decode cX8_endsPower 34 = .ok (.ifCond .ne 21, 3) := by decide +kernel
theorem dX8_endsPower_37 : decode cX8_endsPower 37 = .ok (.aload_n 0, 1) := by decide +kernel
theorem dX8_endsPower_38 : decode cX8_endsPower 38 = .ok (.getfield 50, 3) := by decide +kernel
theorem dX8_endsPower_41 : decode cX8_endsPower 41 = .ok (.iconst 0, 1) := by decide +kernel
theorem dX8_endsPower_42 : decode cX8_endsPower 42 = .ok (.aload_n 0, 1) := by decide +kernel
theorem dX8_endsPower_43 : decode cX8_endsPower 43 = .ok (.getfield 59, 3) := by decide +kernel
theorem dX8_endsPower_46 : decode cX8_endsPower 46 = .ok (.iconst 0, 1) := by decide +kernel
theorem dX8_endsPower_47 : decode cX8_endsPower 47 = .ok (.bipush 9, 2) := by decide +kernel
theorem dX8_endsPower_49 : decode cX8_endsPower 49 = .ok (.invokestatic 112, 3) := by decide +kernel
theorem dX8_endsPower_52 : decode cX8_endsPower 52 = .ok (.goto 65, 3) := by decide +kernel
theorem dX8_endsPower_55 : decode cX8_endsPower 55 = .ok (.iload_n 2, 1) := by decide +kernel
theorem dX8_endsPower_56 : decode cX8_endsPower 56 = .ok (.bipush 42, 2) := by decide +kernel
theorem dX8_endsPower_58 : decode cX8_endsPower 58 = .ok (.if_icmp .ne 24, 3) := by decide +kernel
theorem dX8_endsPower_61 : decode cX8_endsPower 61 = .ok (.aload_n 0, 1) := by decide +kernel
theorem dX8_endsPower_62 : decode cX8_endsPower 62 = .ok (.aload_n 0, 1) := by decide +kernel
theorem dX8_endsPower_63 : decode cX8_endsPower 63 = .ok (.getfield 59, 3) := by decide +kernel
theorem dX8_endsPower_66 : decode cX8_endsPower 66 = .ok (.iconst 0, 1) := by decide +kernel
theorem dX8_endsPower_67 : decode cX8_endsPower 67 = .ok (.aload_n 0, 1) := by decide +kernel
theorem dX8_endsPower_68 : decode cX8_endsPower 68 = .ok (.getfield 50, 3) := by decide +kernel
theorem dX8_endsPower_71 : decode cX8_endsPower 71 = .ok (.iconst 0, 1) := by decide +kernel
theorem dX8_endsPower_72 : decode cX8_endsPower 72 = .ok (.aload_n 0, 1) := by decide +kernel
theorem dX8_endsPower_73 : decode cX8_endsPower 73 = .ok (.getfield 59, 3) := by decide +kernel
theorem dX8_endsPower_76 : decode cX8_endsPower 76 = .ok (.invokevirtual 133, 3) := by decide +kernel
theorem dX8_endsPower_79 : decode cX8_endsPower 79 = .ok (.goto 38, 3) := by decide +kernel
theorem dX8_endsPower_82 : decode cX8_endsPower 82 = .ok (.aload_n 0, 1) := by decide +kernel
theorem dX8_endsPower_83 : decode cX8_endsPower 83 = .ok (.getfield 50, 3) := by decide +kernel
theorem dX8_endsPower_86 : decode cX8_endsPower 86 = .ok (.iconst 0, 1) := by decide +kernel
theorem dX8_endsPower_87 : decode cX8_endsPower 87 = .ok (.iaload, 1) := by decide +kernel
theorem dX8_endsPower_88 : decode cX8_endsPower 88 = .ok (.ifCond .ne 11, 3) := by decide +kernel
theorem dX8_endsPower_91 : decode cX8_endsPower 91 = .ok (.aload_n 0, 1) := by decide +kernel
theorem dX8_endsPower_92 : decode cX8_endsPower 92 = .ok (.iconst 1, 1) := by decide +kernel
theorem dX8_endsPower_93 : decode cX8_endsPower 93 = .ok (.putfield 154, 3) := by decide +kernel
theorem dX8_endsPower_96 : decode cX8_endsPower 96 = .ok (.goto 21, 3) := by decide +kernel
theorem dX8_endsPower_99 : decode cX8_endsPower 99 = .ok (.aload_n 0, 1) := by decide +kernel
theorem dX8_endsPower_100 : decode cX8_endsPower 100 = .ok (.aload_n 0, 1) := by decide +kernel
theorem dX8_endsPower_101 : decode cX8_endsPower 101 = .ok (.getfield 59, 3) := by decide +kernel
theorem dX8_endsPower_104 : decode cX8_endsPower 104 = .ok (.iconst 0, 1) := by decide +kernel
theorem dX8_endsPower_105 : decode cX8_endsPower 105 = .ok (.aload_n 0, 1) := by decide +kernel
theorem dX8_endsPower_106 : decode cX8_endsPower 106 = .ok (.getfield 50, 3) := by decide +kernel
theorem dX8_endsPower_109 : decode cX8_endsPower 109 = .ok (.iconst 0, 1) := by decide +kernel
theorem dX8_endsPower_110 : decode cX8_endsPower 110 = .ok (.aload_n 0, 1) := by decide +kernel
theorem dX8_endsPower_111 : decode cX8_endsPower 111 = .ok (.getfield 59, 3) := by decide +kernel
theorem dX8_endsPower_114 : decode cX8_endsPower 114 = .ok (.invokevirtual 158, 3) := by decide +kernel
theorem dX8_endsPower_117 : decode cX8_endsPower 117 = .ok (.aload_n 0, 1) := by decide +kernel
theorem dX8_endsPower_118 : decode cX8_endsPower 118 = .ok (.getfield 59, 3) := by decide +kernel
theorem dX8_endsPower_121 : decode cX8_endsPower 121 = .ok (.iconst 0, 1) := by decide +kernel
theorem dX8_endsPower_122 : decode cX8_endsPower 122 = .ok (.aload_n 0, 1) := by decide +kernel
theorem dX8_endsPower_123 : decode cX8_endsPower 123 = .ok (.getfield 56, 3) := by decide +kernel
theorem dX8_endsPower_126 : decode cX8_endsPower 126 = .ok (.iload_n 1, 1) := by decide +kernel
theorem dX8_endsPower_127 : decode cX8_endsPower 127 = .ok (.bipush 9, 2) := by decide +kernel
theorem dX8_endsPower_129 : decode cX8_endsPower 129 = .ok (.invokestatic 112, 3) := by decide +kernel
theorem dX8_endsPower_132 : decode cX8_endsPower 132 = .ok (.return_, 1) := by decide +kernel
theorem dX8_endsProduct_0 : decode cX8_endsProduct 0 = .ok (.aload_n 0, 1) := by decide +kernel
theorem dX8_endsProduct_1 : decode cX8_endsProduct 1 = .ok (.invokevirtual 161, 3) := by decide +kernel
theorem dX8_endsProduct_4 : decode cX8_endsProduct 4 = .ok (.bipush 9, 2) := by decide +kernel
theorem dX8_endsProduct_6 : decode cX8_endsProduct 6 = .ok (.aload_n 0, 1) := by decide +kernel
theorem dX8_endsProduct_7 : decode cX8_endsProduct 7 = .ok (.getfield 151, 3) := by decide +kernel
theorem dX8_endsProduct_10 : decode cX8_endsProduct 10 = .ok (.imul, 1) := by decide +kernel
theorem dX8_endsProduct_11 : decode cX8_endsProduct 11 = .ok (.istore_n 1, 1) := by decide +kernel
theorem dX8_endsProduct_12 : decode cX8_endsProduct 12 = .ok (.aload_n 0, 1) := by decide +kernel
theorem dX8_endsProduct_13 : decode cX8_endsProduct 13 = .ok (.getfield 62, 3) := by decide +kernel
theorem dX8_endsProduct_16 : decode cX8_endsProduct 16 = .ok (.aload_n 0, 1) := by decide +kernel
theorem dX8_endsProduct_17 : decode cX8_endsProduct 17 = .ok (.getfield 151, 3) := by decide +kernel
theorem dX8_endsProduct_20 : decode cX8_endsProduct 20 = .ok (.iaload, 1) := by decide +kernel
theorem dX8_endsProduct_21 : decode cX8_endsProduct 21 = .ok (.istore_n 2, 1) := by decide +kernel
theorem dX8_endsProduct_22 : decode cX8_endsProduct 22 = .ok (.iconst 0, 1) := by decide +kernel
theorem dX8_endsProduct_23 : decode cX8_endsProduct 23 = .ok (.istore_n 3, 1) := by decide +kernel
theorem dX8_endsProduct_24 : decode cX8_endsProduct 24 = .ok (.iload_n 3, 1) := by decide +kernel
theorem dX8_endsProduct_25 : decode cX8_endsProduct 25 = .ok (.bipush 9, 2) := by decide +kernel
theorem dX8_endsProduct_27 : decode cX8_endsProduct 27 = .ok (.if_icmp .ge 71, 3) := by decide +kernel
theorem dX8_endsProduct_30 : decode cX8_endsProduct 30 = .ok (.aload_n 0, 1) := by decide +kernel
theorem dX8_endsProduct_31 : decode cX8_endsProduct 31 = .ok (.getfield 56, 3) := by decide +kernel
theorem dX8_endsProduct_34 : decode cX8_endsProduct 34 = .ok (.iload_n 1, 1) := by decide +kernel
theorem dX8_endsProduct_35 : decode cX8_endsProduct 35 = .ok (.iload_n 3, 1) := by decide +kernel
theorem dX8_endsProduct_36 : decode cX8_endsProduct 36 = .ok (.iadd, 1) := by decide +kernel
theorem dX8_endsProduct_37 : decode cX8_endsProduct 37 = .ok (.iaload, 1) := by decide +kernel
theorem dX8_endsProduct_38 : decode cX8_endsProduct 38 = .ok (.istore 4, 2) := by decide +kernel
theorem dX8_endsProduct_40 : decode cX8_endsProduct 40 = .ok (.aload_n 0, 1) := by decide +kernel
theorem dX8_endsProduct_41 : decode cX8_endsProduct 41 = .ok (.getfield 53, 3) := by decide +kernel
theorem dX8_endsProduct_44 : decode cX8_endsProduct 44 = .ok (.iload_n 1, 1) := by decide +kernel
theorem dX8_endsProduct_45 : decode cX8_endsProduct 45 = .ok (.iload_n 3, 1) := by decide +kernel
theorem dX8_endsProduct_46 : decode cX8_endsProduct 46 = .ok (.iadd, 1) := by decide +kernel
theorem dX8_endsProduct_47 : decode cX8_endsProduct 47 = .ok (.iload_n 2, 1) := by decide +kernel
theorem dX8_endsProduct_48 : decode cX8_endsProduct 48 = .ok (.ifCond .ne 8, 3) := by decide +kernel
theorem dX8_endsProduct_51 : decode cX8_endsProduct 51 = .ok (.iload 4, 2) := by decide +kernel
theorem dX8_endsProduct_53 : decode cX8_endsProduct 53 = .ok (.goto 38, 3) := by decide +kernel
theorem dX8_endsProduct_56 : decode cX8_endsProduct 56 = .ok (.iload_n 2, 1) := by decide +kernel
theorem dX8_endsProduct_57 : decode cX8_endsProduct 57 = .ok (.bipush 43, 2) := by decide +kernel
theorem dX8_endsProduct_59 : decode cX8_endsProduct 59 = .ok (.if_icmp .ne 19, 3) := by decide +kernel
theorem dX8_endsProduct_62 : decode cX8_endsProduct 62 = .ok (.aload_n 0, 1) := by decide +kernel
theorem dX8_endsProduct_63 : decode cX8_endsProduct 63 = .ok (.getfield 53, 3) := by decide +kernel
theorem dX8_endsProduct_66 : decode cX8_endsProduct 66 = .ok (.iload_n 1, 1) := by decide +kernel
theorem dX8_endsProduct_67 : decode cX8_endsProduct 67 = .ok (.iload_n 3, 1) := by decide +kernel
theorem dX8_endsProduct_68 : decode cX8_endsProduct 68 = .ok (.iadd, 1) := by decide +kernel
theorem dX8_endsProduct_69 : decode cX8_endsProduct 69 = .ok (.iaload, 1) := by decide +kernel
theorem dX8_endsProduct_70 : decode cX8_endsProduct 70 = .ok (.iload 4, 2) := by decide +kernel
theorem dX8_endsProduct_72 : decode cX8_endsProduct 72 = .ok (.invokestatic 119, 3) := by decide +kernel
theorem dX8_endsProduct_75 : decode cX8_endsProduct 75 = .ok (.goto 16, 3) := by decide +kernel
theorem dX8_endsProduct_78 : decode cX8_endsProduct 78 = .ok (.aload_n 0, 1) := by decide +kernel
theorem dX8_endsProduct_79 : decode cX8_endsProduct 79 = .ok (.getfield 53, 3) := by decide +kernel
theorem dX8_endsProduct_82 : decode cX8_endsProduct 82 = .ok (.iload_n 1, 1) := by decide +kernel
theorem dX8_endsProduct_83 : decode cX8_endsProduct 83 = .ok (.iload_n 3, 1) := by decide +kernel
theorem dX8_endsProduct_84 : decode cX8_endsProduct 84 = .ok (.iadd, 1) := by decide +kernel
theorem dX8_endsProduct_85 : decode cX8_endsProduct 85 = .ok (.iaload, 1) := by decide +kernel
theorem dX8_endsProduct_86 : decode cX8_endsProduct 86 = .ok (.iload 4, 2) := by decide +kernel
theorem dX8_endsProduct_88 : decode cX8_endsProduct 88 = .ok (.invokestatic 130, 3) := by decide +kernel
theorem dX8_endsProduct_91 : decode cX8_endsProduct 91 = .ok (.iastore, 1) := by decide +kernel
theorem dX8_endsProduct_92 : decode cX8_endsProduct 92 = .ok (.iinc 3 1, 3) := by decide +kernel
theorem dX8_endsProduct_95 : decode cX8_endsProduct 95 = .ok (.goto (-71), 3) := by decide +kernel
theorem dX8_endsProduct_98 : decode cX8_endsProduct 98 = .ok (.return_, 1) := by decide +kernel
theorem dX8_begins_0 : decode cX8_begins 0 = .ok (.aload_n 0, 1) := by decide +kernel
theorem dX8_begins_1 : decode cX8_begins 1 = .ok (.getfield 68, 3) := by decide +kernel
theorem dX8_begins_4 : decode cX8_begins 4 = .ok (.aload_n 0, 1) := by decide +kernel
theorem dX8_begins_5 : decode cX8_begins 5 = .ok (.getfield 151, 3) := by decide +kernel
theorem dX8_begins_8 : decode cX8_begins 8 = .ok (.iload_n 1, 1) := by decide +kernel
theorem dX8_begins_9 : decode cX8_begins 9 = .ok (.iastore, 1) := by decide +kernel
theorem dX8_begins_10 : decode cX8_begins 10 = .ok (.aload_n 0, 1) := by decide +kernel
theorem dX8_begins_11 : decode cX8_begins 11 = .ok (.getfield 62, 3) := by decide +kernel
theorem dX8_begins_14 : decode cX8_begins 14 = .ok (.aload_n 0, 1) := by decide +kernel
theorem dX8_begins_15 : decode cX8_begins 15 = .ok (.getfield 151, 3) := by decide +kernel
theorem dX8_begins_18 : decode cX8_begins 18 = .ok (.iconst 0, 1) := by decide +kernel
theorem dX8_begins_19 : decode cX8_begins 19 = .ok (.iastore, 1) := by decide +kernel
theorem dX8_begins_20 : decode cX8_begins 20 = .ok (.aload_n 0, 1) := by decide +kernel
theorem dX8_begins_21 : decode cX8_begins 21 = .ok (.getfield 65, 3) := by decide +kernel
theorem dX8_begins_24 : decode cX8_begins 24 = .ok (.aload_n 0, 1) := by decide +kernel
theorem dX8_begins_25 : decode cX8_begins 25 = .ok (.getfield 151, 3) := by decide +kernel
theorem dX8_begins_28 : decode cX8_begins 28 = .ok (.iconst 0, 1) := by decide +kernel
theorem dX8_begins_29 : decode cX8_begins 29 = .ok (.iastore, 1) := by decide +kernel
theorem dX8_begins_30 : decode cX8_begins 30 = .ok (.return_, 1) := by decide +kernel
theorem dX8_closes_0 : decode cX8_closes 0 = .ok (.aload_n 0, 1) := by decide +kernel
theorem dX8_closes_1 : decode cX8_closes 1 = .ok (.invokevirtual 164, 3) := by decide +kernel
theorem dX8_closes_4 : decode cX8_closes 4 = .ok (.aload_n 0, 1) := by decide +kernel
theorem dX8_closes_5 : decode cX8_closes 5 = .ok (.getfield 53, 3) := by decide +kernel
theorem dX8_closes_8 : decode cX8_closes 8 = .ok (.bipush 9, 2) := by decide +kernel
theorem dX8_closes_10 : decode cX8_closes 10 = .ok (.aload_n 0, 1) := by decide +kernel
theorem dX8_closes_11 : decode cX8_closes 11 = .ok (.getfield 151, 3) := by decide +kernel
theorem dX8_closes_14 : decode cX8_closes 14 = .ok (.imul, 1) := by decide +kernel
theorem dX8_closes_15 : decode cX8_closes 15 = .ok (.aload_n 0, 1) := by decide +kernel
theorem dX8_closes_16 : decode cX8_closes 16 = .ok (.getfield 50, 3) := by decide +kernel
theorem dX8_closes_19 : decode cX8_closes 19 = .ok (.iconst 0, 1) := by decide +kernel
theorem dX8_closes_20 : decode cX8_closes 20 = .ok (.bipush 9, 2) := by decide +kernel
theorem dX8_closes_22 : decode cX8_closes 22 = .ok (.invokestatic 112, 3) := by decide +kernel
theorem dX8_closes_25 : decode cX8_closes 25 = .ok (.aload_n 0, 1) := by decide +kernel
theorem dX8_closes_26 : decode cX8_closes 26 = .ok (.getfield 68, 3) := by decide +kernel
theorem dX8_closes_29 : decode cX8_closes 29 = .ok (.aload_n 0, 1) := by decide +kernel
theorem dX8_closes_30 : decode cX8_closes 30 = .ok (.getfield 151, 3) := by decide +kernel
theorem dX8_closes_33 : decode cX8_closes 33 = .ok (.iaload, 1) := by decide +kernel
theorem dX8_closes_34 : decode cX8_closes 34 = .ok (.istore_n 1, 1) := by decide +kernel
theorem dX8_closes_35 : decode cX8_closes 35 = .ok (.aload_n 0, 1) := by decide +kernel
theorem dX8_closes_36 : decode cX8_closes 36 = .ok (.dup, 1) := by decide +kernel
theorem dX8_closes_37 : decode cX8_closes 37 = .ok (.getfield 151, 3) := by decide +kernel
theorem dX8_closes_40 : decode cX8_closes 40 = .ok (.iconst 1, 1) := by decide +kernel
theorem dX8_closes_41 : decode cX8_closes 41 = .ok (.isub, 1) := by decide +kernel
theorem dX8_closes_42 : decode cX8_closes 42 = .ok (.putfield 151, 3) := by decide +kernel
theorem dX8_closes_45 : decode cX8_closes 45 = .ok (.iload_n 1, 1) := by decide +kernel
theorem dX8_closes_46 : decode cX8_closes 46 = .ok (.bipush 105, 2) := by decide +kernel
theorem dX8_closes_48 : decode cX8_closes 48 = .ok (.if_icmp .ne 38, 3) := by decide +kernel
theorem dX8_closes_51 : decode cX8_closes 51 = .ok (.aload_n 0, 1) := by decide +kernel
theorem dX8_closes_52 : decode cX8_closes 52 = .ok (.getfield 50, 3) := by decide +kernel
theorem dX8_closes_55 : decode cX8_closes 55 = .ok (.iconst 0, 1) := by decide +kernel
theorem dX8_closes_56 : decode cX8_closes 56 = .ok (.invokestatic 167, 3) := by decide +kernel
theorem dX8_closes_59 : decode cX8_closes 59 = .ok (.ifCond .eq 19, 3) := by decide +kernel
theorem dX8_closes_62 : decode cX8_closes 62 = .ok (.aload_n 0, 1) := by decide +kernel
theorem dX8_closes_63 : decode cX8_closes 63 = .ok (.aload_n 0, 1) := by decide +kernel
theorem dX8_closes_64 : decode cX8_closes 64 = .ok (.getfield 50, 3) := by decide +kernel
theorem dX8_closes_67 : decode cX8_closes 67 = .ok (.iconst 0, 1) := by decide +kernel
theorem dX8_closes_68 : decode cX8_closes 68 = .ok (.aload_n 0, 1) := by decide +kernel
theorem dX8_closes_69 : decode cX8_closes 69 = .ok (.getfield 50, 3) := by decide +kernel
theorem dX8_closes_72 : decode cX8_closes 72 = .ok (.invokevirtual 171, 3) := by decide +kernel
theorem dX8_closes_75 : decode cX8_closes 75 = .ok (.goto 43, 3) := by decide +kernel
theorem dX8_closes_78 : decode cX8_closes 78 = .ok (.aload_n 0, 1) := by decide +kernel
theorem dX8_closes_79 : decode cX8_closes 79 = .ok (.iconst 1, 1) := by decide +kernel
theorem dX8_closes_80 : decode cX8_closes 80 = .ok (.putfield 154, 3) := by decide +kernel
theorem dX8_closes_83 : decode cX8_closes 83 = .ok (.goto 35, 3) := by decide +kernel
theorem dX8_closes_86 : decode cX8_closes 86 = .ok (.iload_n 1, 1) := by decide +kernel
theorem dX8_closes_87 : decode cX8_closes 87 = .ok (.ifCond .eq 31, 3) := by decide +kernel
theorem dX8_closes_90 : decode cX8_closes 90 = .ok (.aload_n 0, 1) := by decide +kernel
theorem dX8_closes_91 : decode cX8_closes 91 = .ok (.getfield 50, 3) := by decide +kernel
theorem dX8_closes_94 : decode cX8_closes 94 = .ok (.iconst 0, 1) := by decide +kernel
theorem dX8_closes_95 : decode cX8_closes 95 = .ok (.invokestatic 175, 3) := by decide +kernel
theorem dX8_closes_98 : decode cX8_closes 98 = .ok (.ifCond .eq 15, 3) := by decide +kernel
theorem dX8_closes_101 : decode cX8_closes 101 = .ok (.aload_n 0, 1) := by decide +kernel
theorem dX8_closes_102 : decode cX8_closes 102 = .ok (.iload_n 1, 1) := by decide +kernel
theorem dX8_closes_103 : decode cX8_closes 103 = .ok (.aload_n 0, 1) := by decide +kernel
theorem dX8_closes_104 : decode cX8_closes 104 = .ok (.getfield 50, 3) := by decide +kernel
theorem dX8_closes_107 : decode cX8_closes 107 = .ok (.invokevirtual 178, 3) := by decide +kernel
theorem dX8_closes_110 : decode cX8_closes 110 = .ok (.goto 8, 3) := by decide +kernel
theorem dX8_closes_113 : decode cX8_closes 113 = .ok (.aload_n 0, 1) := by decide +kernel
theorem dX8_closes_114 : decode cX8_closes 114 = .ok (.iconst 1, 1) := by decide +kernel
theorem dX8_closes_115 : decode cX8_closes 115 = .ok (.putfield 154, 3) := by decide +kernel
theorem dX8_closes_118 : decode cX8_closes 118 = .ok (.return_, 1) := by decide +kernel
theorem dX8_raisesThing_0 : decode cX8_raisesThing 0 = .ok (.aload_n 0, 1) := by decide +kernel
theorem dX8_raisesThing_1 : decode cX8_raisesThing 1 = .ok (.invokevirtual 182, 3) := by decide +kernel
theorem dX8_raisesThing_4 : decode cX8_raisesThing 4 = .ok (.iconst 0, 1) := by decide +kernel
theorem dX8_raisesThing_5 : decode cX8_raisesThing 5 = .ok (.istore_n 2, 1) := by decide +kernel
theorem dX8_raisesThing_6 : decode cX8_raisesThing 6 = .ok (.iload_n 2, 1) := by decide +kernel
theorem dX8_raisesThing_7 : decode cX8_raisesThing 7 = .ok (.iload_n 1, 1) := by decide +kernel
theorem dX8_raisesThing_8 : decode cX8_raisesThing 8 = .ok (.if_icmp .ge 27, 3) := by decide +kernel
theorem dX8_raisesThing_11 : decode cX8_raisesThing 11 = .ok (.aload_n 0, 1) := by decide +kernel
theorem dX8_raisesThing_12 : decode cX8_raisesThing 12 = .ok (.aload_n 0, 1) := by decide +kernel
theorem dX8_raisesThing_13 : decode cX8_raisesThing 13 = .ok (.getfield 35, 3) := by decide +kernel
theorem dX8_raisesThing_16 : decode cX8_raisesThing 16 = .ok (.iconst 0, 1) := by decide +kernel
theorem dX8_raisesThing_17 : decode cX8_raisesThing 17 = .ok (.aload_n 0, 1) := by decide +kernel
theorem dX8_raisesThing_18 : decode cX8_raisesThing 18 = .ok (.getfield 50, 3) := by decide +kernel
theorem dX8_raisesThing_21 : decode cX8_raisesThing 21 = .ok (.iconst 0, 1) := by decide +kernel
theorem dX8_raisesThing_22 : decode cX8_raisesThing 22 = .ok (.aload_n 0, 1) := by decide +kernel
theorem dX8_raisesThing_23 : decode cX8_raisesThing 23 = .ok (.getfield 35, 3) := by decide +kernel
theorem dX8_raisesThing_26 : decode cX8_raisesThing 26 = .ok (.invokevirtual 133, 3) := by decide +kernel
theorem dX8_raisesThing_29 : decode cX8_raisesThing 29 = .ok (.iinc 2 1, 3) := by decide +kernel
theorem dX8_raisesThing_32 : decode cX8_raisesThing 32 = .ok (.goto (-26), 3) := by decide +kernel
theorem dX8_raisesThing_35 : decode cX8_raisesThing 35 = .ok (.aload_n 0, 1) := by decide +kernel
theorem dX8_raisesThing_36 : decode cX8_raisesThing 36 = .ok (.getfield 35, 3) := by decide +kernel
theorem dX8_raisesThing_39 : decode cX8_raisesThing 39 = .ok (.iconst 0, 1) := by decide +kernel
theorem dX8_raisesThing_40 : decode cX8_raisesThing 40 = .ok (.aload_n 0, 1) := by decide +kernel
theorem dX8_raisesThing_41 : decode cX8_raisesThing 41 = .ok (.getfield 50, 3) := by decide +kernel
theorem dX8_raisesThing_44 : decode cX8_raisesThing 44 = .ok (.iconst 0, 1) := by decide +kernel
theorem dX8_raisesThing_45 : decode cX8_raisesThing 45 = .ok (.bipush 9, 2) := by decide +kernel
theorem dX8_raisesThing_47 : decode cX8_raisesThing 47 = .ok (.invokestatic 112, 3) := by decide +kernel
theorem dX8_raisesThing_50 : decode cX8_raisesThing 50 = .ok (.return_, 1) := by decide +kernel
theorem dX8_sofarOne_0 : decode cX8_sofarOne 0 = .ok (.iconst 0, 1) := by decide +kernel
theorem dX8_sofarOne_1 : decode cX8_sofarOne 1 = .ok (.istore_n 1, 1) := by decide +kernel
theorem dX8_sofarOne_2 : decode cX8_sofarOne 2 = .ok (.iload_n 1, 1) := by decide +kernel
theorem dX8_sofarOne_3 : decode cX8_sofarOne 3 = .ok (.bipush 9, 2) := by decide +kernel
theorem dX8_sofarOne_5 : decode cX8_sofarOne 5 = .ok (.if_icmp .ge 24, 3) := by decide +kernel
theorem dX8_sofarOne_8 : decode cX8_sofarOne 8 = .ok (.aload_n 0, 1) := by decide +kernel
theorem dX8_sofarOne_9 : decode cX8_sofarOne 9 = .ok (.getfield 35, 3) := by decide +kernel
theorem dX8_sofarOne_12 : decode cX8_sofarOne 12 = .ok (.iload_n 1, 1) := by decide +kernel
theorem dX8_sofarOne_13 : decode cX8_sofarOne 13 = .ok (.iload_n 1, 1) := by decide +kernel
theorem dX8_sofarOne_14 : decode cX8_sofarOne 14 = .ok (.ifCond .ne 7, 3) := by decide +kernel
theorem dX8_sofarOne_17 : decode cX8_sofarOne 17 = .ok (.iconst 1, 1) := by decide +kernel
theorem dX8_sofarOne_18 : decode cX8_sofarOne 18 = .ok (.goto 4, 3) := by decide +kernel
theorem dX8_sofarOne_21 : decode cX8_sofarOne 21 = .ok (.iconst 0, 1) := by decide +kernel
theorem dX8_sofarOne_22 : decode cX8_sofarOne 22 = .ok (.iastore, 1) := by decide +kernel
theorem dX8_sofarOne_23 : decode cX8_sofarOne 23 = .ok (.iinc 1 1, 3) := by decide +kernel
theorem dX8_sofarOne_26 : decode cX8_sofarOne 26 = .ok (.goto (-24), 3) := by decide +kernel
theorem dX8_sofarOne_29 : decode cX8_sofarOne 29 = .ok (.return_, 1) := by decide +kernel
theorem dX8_isLetter_0 : decode cX8_isLetter 0 = .ok (.iload_n 0, 1) := by decide +kernel
theorem dX8_isLetter_1 : decode cX8_isLetter 1 = .ok (.bipush 101, 2) := by decide +kernel
theorem dX8_isLetter_3 : decode cX8_isLetter 3 = .ok (.if_icmp .eq 21, 3) := by decide +kernel
theorem dX8_isLetter_6 : decode cX8_isLetter 6 = .ok (.iload_n 0, 1) := by decide +kernel
theorem dX8_isLetter_7 : decode cX8_isLetter 7 = .ok (.bipush 113, 2) := by decide +kernel
theorem dX8_isLetter_9 : decode cX8_isLetter 9 = .ok (.if_icmp .eq 15, 3) := by decide +kernel
theorem dX8_isLetter_12 : decode cX8_isLetter 12 = .ok (.iload_n 0, 1) := by decide +kernel
theorem dX8_isLetter_13 : decode cX8_isLetter 13 = .ok (.bipush 108, 2) := by decide +kernel
theorem dX8_isLetter_15 : decode cX8_isLetter 15 = .ok (.if_icmp .eq 9, 3) := by decide +kernel
theorem dX8_isLetter_18 : decode cX8_isLetter 18 = .ok (.iload_n 0, 1) := by decide +kernel
theorem dX8_isLetter_19 : decode cX8_isLetter 19 = .ok (.bipush 105, 2) := by decide +kernel
theorem dX8_isLetter_21 : decode cX8_isLetter 21 = .ok (.if_icmp .ne 7, 3) := by decide +kernel
theorem dX8_isLetter_24 : decode cX8_isLetter 24 = .ok (.iconst 1, 1) := by decide +kernel
theorem dX8_isLetter_25 : decode cX8_isLetter 25 = .ok (.goto 4, 3) := by decide +kernel
theorem dX8_isLetter_28 : decode cX8_isLetter 28 = .ok (.iconst 0, 1) := by decide +kernel
theorem dX8_isLetter_29 : decode cX8_isLetter 29 = .ok (.ireturn, 1) := by decide +kernel
theorem dX8_readsThing_0 : decode cX8_readsThing 0 = .ok (.iload_n 1, 1) := by decide +kernel
theorem dX8_readsThing_1 : decode cX8_readsThing 1 = .ok (.invokestatic 147, 3) := by decide +kernel
theorem dX8_readsThing_4 : decode cX8_readsThing 4 = .ok (.ifCond .eq 48, 3) := by decide +kernel
theorem dX8_readsThing_7 : decode cX8_readsThing 7 = .ok (.aload_n 0, 1) := by decide +kernel
theorem dX8_readsThing_8 : decode cX8_readsThing 8 = .ok (.invokevirtual 185, 3) := by decide +kernel
theorem dX8_readsThing_11 : decode cX8_readsThing 11 = .ok (.istore_n 2, 1) := by decide +kernel
theorem dX8_readsThing_12 : decode cX8_readsThing 12 = .ok (.iload_n 2, 1) := by decide +kernel
theorem dX8_readsThing_13 : decode cX8_readsThing 13 = .ok (.iconst 4, 1) := by decide +kernel
theorem dX8_readsThing_14 : decode cX8_readsThing 14 = .ok (.if_icmp .gt 14, 3) := by decide +kernel
theorem dX8_readsThing_17 : decode cX8_readsThing 17 = .ok (.aload_n 0, 1) := by decide +kernel
theorem dX8_readsThing_18 : decode cX8_readsThing 18 = .ok (.iload_n 2, 1) := by decide +kernel
theorem dX8_readsThing_19 : decode cX8_readsThing 19 = .ok (.invokevirtual 189, 3) := by decide +kernel
theorem dX8_readsThing_22 : decode cX8_readsThing 22 = .ok (.sipush 9973, 3) := by decide +kernel
theorem dX8_readsThing_25 : decode cX8_readsThing 25 = .ok (.if_icmp .lt 5, 3) := by decide +kernel
theorem dX8_readsThing_28 : decode cX8_readsThing 28 = .ok (.iconst (-1), 1) := by decide +kernel
theorem dX8_readsThing_29 : decode cX8_readsThing 29 = .ok (.ireturn, 1) := by decide +kernel
theorem dX8_readsThing_30 : decode cX8_readsThing 30 = .ok (.aload_n 0, 1) := by decide +kernel
theorem dX8_readsThing_31 : decode cX8_readsThing 31 = .ok (.aload_n 0, 1) := by decide +kernel
theorem dX8_readsThing_32 : decode cX8_readsThing 32 = .ok (.iload_n 2, 1) := by decide +kernel
theorem dX8_readsThing_33 : decode cX8_readsThing 33 = .ok (.invokevirtual 189, 3) := by decide +kernel
theorem dX8_readsThing_36 : decode cX8_readsThing 36 = .ok (.iconst 0, 1) := by decide +kernel
theorem dX8_readsThing_37 : decode cX8_readsThing 37 = .ok (.invokevirtual 192, 3) := by decide +kernel
theorem dX8_readsThing_40 : decode cX8_readsThing 40 = .ok (.aload_n 0, 1) := by decide +kernel
theorem dX8_readsThing_41 : decode cX8_readsThing 41 = .ok (.dup, 1) := by decide +kernel
theorem dX8_readsThing_42 : decode cX8_readsThing 42 = .ok (.getfield 140, 3) := by decide +kernel
theorem dX8_readsThing_45 : decode cX8_readsThing 45 = .ok (.iload_n 2, 1) := by decide +kernel
theorem dX8_readsThing_46 : decode cX8_readsThing 46 = .ok (.iadd, 1) := by decide +kernel
theorem dX8_readsThing_47 : decode cX8_readsThing 47 = .ok (.putfield 140, 3) := by decide +kernel
theorem dX8_readsThing_50 : decode cX8_readsThing 50 = .ok (.iconst 1, 1) := by decide +kernel
theorem dX8_readsThing_51 : decode cX8_readsThing 51 = .ok (.ireturn, 1) := by decide +kernel
theorem dX8_readsThing_52 : decode cX8_readsThing 52 = .ok (.iload_n 1, 1) := by decide +kernel
theorem dX8_readsThing_53 : decode cX8_readsThing 53 = .ok (.bipush 116, 2) := by decide +kernel
theorem dX8_readsThing_55 : decode cX8_readsThing 55 = .ok (.if_icmp .ne 21, 3) := by decide +kernel
theorem dX8_readsThing_58 : decode cX8_readsThing 58 = .ok (.aload_n 0, 1) := by decide +kernel
theorem dX8_readsThing_59 : decode cX8_readsThing 59 = .ok (.iconst 0, 1) := by decide +kernel
theorem dX8_readsThing_60 : decode cX8_readsThing 60 = .ok (.iconst 1, 1) := by decide +kernel
theorem dX8_readsThing_61 : decode cX8_readsThing 61 = .ok (.invokevirtual 192, 3) := by decide +kernel
theorem dX8_readsThing_64 : decode cX8_readsThing 64 = .ok (.aload_n 0, 1) := by decide +kernel
theorem dX8_readsThing_65 : decode cX8_readsThing 65 = .ok (.dup, 1) := by decide +kernel
theorem dX8_readsThing_66 : decode cX8_readsThing 66 = .ok (.getfield 140, 3) := by decide +kernel
theorem dX8_readsThing_69 : decode cX8_readsThing 69 = .ok (.iconst 1, 1) := by decide +kernel
theorem dX8_readsThing_70 : decode cX8_readsThing 70 = .ok (.iadd, 1) := by decide +kernel
theorem dX8_readsThing_71 : decode cX8_readsThing 71 = .ok (.putfield 140, 3) := by decide +kernel
theorem dX8_readsThing_74 : decode cX8_readsThing 74 = .ok (.iconst 1, 1) := by decide +kernel
theorem dX8_readsThing_75 : decode cX8_readsThing 75 = .ok (.ireturn, 1) := by decide +kernel
theorem dX8_readsThing_76 : decode cX8_readsThing 76 = .ok (.iload_n 1, 1) := by decide +kernel
theorem dX8_readsThing_77 : decode cX8_readsThing 77 = .ok (.invokestatic 196, 3) := by decide +kernel
theorem dX8_readsThing_80 : decode cX8_readsThing 80 = .ok (.ifCond .eq 20, 3) := by decide +kernel
theorem dX8_readsThing_83 : decode cX8_readsThing 83 = .ok (.aload_n 0, 1) := by decide +kernel
theorem dX8_readsThing_84 : decode cX8_readsThing 84 = .ok (.iload_n 1, 1) := by decide +kernel
theorem dX8_readsThing_85 : decode cX8_readsThing 85 = .ok (.putfield 199, 3) := by decide +kernel
theorem dX8_readsThing_88 : decode cX8_readsThing 88 = .ok (.aload_n 0, 1) := by decide +kernel
theorem dX8_readsThing_89 : decode cX8_readsThing 89 = .ok (.dup, 1) := by decide +kernel
theorem dX8_readsThing_90 : decode cX8_readsThing 90 = .ok (.getfield 140, 3) := by decide +kernel
theorem dX8_readsThing_93 : decode cX8_readsThing 93 = .ok (.iconst 1, 1) := by decide +kernel
theorem dX8_readsThing_94 : decode cX8_readsThing 94 = .ok (.iadd, 1) := by decide +kernel
theorem dX8_readsThing_95 : decode cX8_readsThing 95 = .ok (.putfield 140, 3) := by decide +kernel
theorem dX8_readsThing_98 : decode cX8_readsThing 98 = .ok (.iconst 3, 1) := by decide +kernel
theorem dX8_readsThing_99 : decode cX8_readsThing 99 = .ok (.ireturn, 1) := by decide +kernel
theorem dX8_readsThing_100 : decode cX8_readsThing 100 = .ok (.aload_n 0, 1) := by decide +kernel
theorem dX8_readsThing_101 : decode cX8_readsThing 101 = .ok (.iconst 0, 1) := by decide +kernel
theorem dX8_readsThing_102 : decode cX8_readsThing 102 = .ok (.putfield 199, 3) := by decide +kernel
theorem dX8_readsThing_105 : decode cX8_readsThing 105 = .ok (.aload_n 0, 1) := by decide +kernel
theorem dX8_readsThing_106 : decode cX8_readsThing 106 = .ok (.iload_n 1, 1) := by decide +kernel
theorem dX8_readsThing_107 : decode cX8_readsThing 107 = .ok (.invokevirtual 202, 3) := by decide +kernel
theorem dX8_readsThing_110 : decode cX8_readsThing 110 = .ok (.ireturn, 1) := by decide +kernel
theorem dX8_readsBracket_0 : decode cX8_readsBracket 0 = .ok (.iload_n 1, 1) := by decide +kernel
theorem dX8_readsBracket_1 : decode cX8_readsBracket 1 = .ok (.bipush 40, 2) := by decide +kernel
theorem dX8_readsBracket_3 : decode cX8_readsBracket 3 = .ok (.if_icmp .ne 12, 3) := by decide +kernel
theorem dX8_readsBracket_6 : decode cX8_readsBracket 6 = .ok (.aload_n 0, 1) := by decide +kernel
theorem dX8_readsBracket_7 : decode cX8_readsBracket 7 = .ok (.getfield 151, 3) := by decide +kernel
theorem dX8_readsBracket_10 : decode cX8_readsBracket 10 = .ok (.bipush 6, 2) := by decide +kernel
theorem dX8_readsBracket_12 : decode cX8_readsBracket 12 = .ok (.if_icmp .ne 5, 3) := by decide +kernel
theorem dX8_readsBracket_15 : decode cX8_readsBracket 15 = .ok (.iconst (-1), 1) := by decide +kernel
theorem dX8_readsBracket_16 : decode cX8_readsBracket 16 = .ok (.ireturn, 1) := by decide +kernel
theorem dX8_readsBracket_17 : decode cX8_readsBracket 17 = .ok (.aload_n 0, 1) := by decide +kernel
theorem dX8_readsBracket_18 : decode cX8_readsBracket 18 = .ok (.dup, 1) := by decide +kernel
theorem dX8_readsBracket_19 : decode cX8_readsBracket 19 = .ok (.getfield 151, 3) := by decide +kernel
theorem dX8_readsBracket_22 : decode cX8_readsBracket 22 = .ok (.iconst 1, 1) := by decide +kernel
theorem dX8_readsBracket_23 : decode cX8_readsBracket 23 = .ok (.iadd, 1) := by decide +kernel
theorem dX8_readsBracket_24 : decode cX8_readsBracket 24 = .ok (.putfield 151, 3) := by decide +kernel
theorem dX8_readsBracket_27 : decode cX8_readsBracket 27 = .ok (.aload_n 0, 1) := by decide +kernel
theorem dX8_readsBracket_28 : decode cX8_readsBracket 28 = .ok (.aload_n 0, 1) := by decide +kernel
theorem dX8_readsBracket_29 : decode cX8_readsBracket 29 = .ok (.getfield 199, 3) := by decide +kernel
theorem dX8_readsBracket_32 : decode cX8_readsBracket 32 = .ok (.invokevirtual 205, 3) := by decide +kernel
theorem dX8_readsBracket_35 : decode cX8_readsBracket 35 = .ok (.aload_n 0, 1) := by decide +kernel
theorem dX8_readsBracket_36 : decode cX8_readsBracket 36 = .ok (.dup, 1) := by decide +kernel
theorem dX8_readsBracket_37 : decode cX8_readsBracket 37 = .ok (.getfield 140, 3) := by decide +kernel
theorem dX8_readsBracket_40 : decode cX8_readsBracket 40 = .ok (.iconst 1, 1) := by decide +kernel
theorem dX8_readsBracket_41 : decode cX8_readsBracket 41 = .ok (.iadd, 1) := by decide +kernel
theorem dX8_readsBracket_42 : decode cX8_readsBracket 42 = .ok (.putfield 140, 3) := by decide +kernel
theorem dX8_readsBracket_45 : decode cX8_readsBracket 45 = .ok (.iconst 0, 1) := by decide +kernel
theorem dX8_readsBracket_46 : decode cX8_readsBracket 46 = .ok (.ireturn, 1) := by decide +kernel
theorem dX8_readsTimes_0 : decode cX8_readsTimes 0 = .ok (.iload_n 1, 1) := by decide +kernel
theorem dX8_readsTimes_1 : decode cX8_readsTimes 1 = .ok (.invokestatic 147, 3) := by decide +kernel
theorem dX8_readsTimes_4 : decode cX8_readsTimes 4 = .ok (.ifCond .eq 11, 3) := by decide +kernel
theorem dX8_readsTimes_7 : decode cX8_readsTimes 7 = .ok (.aload_n 0, 1) := by decide +kernel
theorem dX8_readsTimes_8 : decode cX8_readsTimes 8 = .ok (.invokevirtual 185, 3) := by decide +kernel
theorem dX8_readsTimes_11 : decode cX8_readsTimes 11 = .ok (.iconst 1, 1) := by decide +kernel
theorem dX8_readsTimes_12 : decode cX8_readsTimes 12 = .ok (.if_icmp .le 5, 3) := by decide +kernel
theorem dX8_readsTimes_15 : decode cX8_readsTimes 15 = .ok (.iconst (-1), 1) := by decide +kernel
theorem dX8_readsTimes_16 : decode cX8_readsTimes 16 = .ok (.ireturn, 1) := by decide +kernel
theorem dX8_readsTimes_17 : decode cX8_readsTimes 17 = .ok (.aload_n 0, 1) := by decide +kernel
theorem dX8_readsTimes_18 : decode cX8_readsTimes 18 = .ok (.iload_n 1, 1) := by decide +kernel
theorem dX8_readsTimes_19 : decode cX8_readsTimes 19 = .ok (.bipush 48, 2) := by decide +kernel
theorem dX8_readsTimes_21 : decode cX8_readsTimes 21 = .ok (.isub, 1) := by decide +kernel
theorem dX8_readsTimes_22 : decode cX8_readsTimes 22 = .ok (.invokevirtual 209, 3) := by decide +kernel
theorem dX8_readsTimes_25 : decode cX8_readsTimes 25 = .ok (.aload_n 0, 1) := by decide +kernel
theorem dX8_readsTimes_26 : decode cX8_readsTimes 26 = .ok (.dup, 1) := by decide +kernel
theorem dX8_readsTimes_27 : decode cX8_readsTimes 27 = .ok (.getfield 140, 3) := by decide +kernel
theorem dX8_readsTimes_30 : decode cX8_readsTimes 30 = .ok (.iconst 1, 1) := by decide +kernel
theorem dX8_readsTimes_31 : decode cX8_readsTimes 31 = .ok (.iadd, 1) := by decide +kernel
theorem dX8_readsTimes_32 : decode cX8_readsTimes 32 = .ok (.putfield 140, 3) := by decide +kernel
theorem dX8_readsTimes_35 : decode cX8_readsTimes 35 = .ok (.iconst 2, 1) := by decide +kernel
theorem dX8_readsTimes_36 : decode cX8_readsTimes 36 = .ok (.ireturn, 1) := by decide +kernel
theorem dX8_readsOn_0 : decode cX8_readsOn 0 = .ok (.iload_n 1, 1) := by decide +kernel
theorem dX8_readsOn_1 : decode cX8_readsOn 1 = .ok (.lookupswitch 176 #[(41, 151), (42, 89), (43, 115), (45, 115), (47, 89), (94, 59)], 59) := by decide +kernel
theorem dX8_readsOn_60 : decode cX8_readsOn 60 = .ok (.aload_n 0, 1) := by decide +kernel
theorem dX8_readsOn_61 : decode cX8_readsOn 61 = .ok (.dup, 1) := by decide +kernel
theorem dX8_readsOn_62 : decode cX8_readsOn 62 = .ok (.getfield 140, 3) := by decide +kernel
theorem dX8_readsOn_65 : decode cX8_readsOn 65 = .ok (.iload_n 2, 1) := by decide +kernel
theorem dX8_readsOn_66 : decode cX8_readsOn 66 = .ok (.iconst 1, 1) := by decide +kernel
theorem dX8_readsOn_67 : decode cX8_readsOn 67 = .ok (.if_icmp .ne 7, 3) := by decide +kernel
theorem dX8_readsOn_70 : decode cX8_readsOn 70 = .ok (.iconst 1, 1) := by decide +kernel
theorem dX8_readsOn_71 : decode cX8_readsOn 71 = .ok (.goto 4, 3) := by decide +kernel
theorem dX8_readsOn_74 : decode cX8_readsOn 74 = .ok (.iconst 0, 1) := by decide +kernel
theorem dX8_readsOn_75 : decode cX8_readsOn 75 = .ok (.iadd, 1) := by decide +kernel
theorem dX8_readsOn_76 : decode cX8_readsOn 76 = .ok (.putfield 140, 3) := by decide +kernel
theorem dX8_readsOn_79 : decode cX8_readsOn 79 = .ok (.iload_n 2, 1) := by decide +kernel
theorem dX8_readsOn_80 : decode cX8_readsOn 80 = .ok (.iconst 1, 1) := by decide +kernel
theorem dX8_readsOn_81 : decode cX8_readsOn 81 = .ok (.if_icmp .ne 7, 3) := by decide +kernel
theorem dX8_readsOn_84 : decode cX8_readsOn 84 = .ok (.iconst 4, 1) := by decide +kernel
theorem dX8_readsOn_85 : decode cX8_readsOn 85 = .ok (.goto 4, 3) := by decide +kernel
theorem dX8_readsOn_88 : decode cX8_readsOn 88 = .ok (.iconst (-1), 1) := by decide +kernel
theorem dX8_readsOn_89 : decode cX8_readsOn 89 = .ok (.ireturn, 1) := by decide +kernel
theorem dX8_readsOn_90 : decode cX8_readsOn 90 = .ok (.aload_n 0, 1) := by decide +kernel
theorem dX8_readsOn_91 : decode cX8_readsOn 91 = .ok (.invokevirtual 161, 3) := by decide +kernel
theorem dX8_readsOn_94 : decode cX8_readsOn 94 = .ok (.aload_n 0, 1) := by decide +kernel
theorem dX8_readsOn_95 : decode cX8_readsOn 95 = .ok (.getfield 65, 3) := by decide +kernel
theorem dX8_readsOn_98 : decode cX8_readsOn 98 = .ok (.aload_n 0, 1) := by decide +kernel
theorem dX8_readsOn_99 : decode cX8_readsOn 99 = .ok (.getfield 151, 3) := by decide +kernel
theorem dX8_readsOn_102 : decode cX8_readsOn 102 = .ok (.iload_n 1, 1) := by decide +kernel
theorem dX8_readsOn_103 : decode cX8_readsOn 103 = .ok (.iastore, 1) := by decide +kernel
theorem dX8_readsOn_104 : decode cX8_readsOn 104 = .ok (.aload_n 0, 1) := by decide +kernel
theorem dX8_readsOn_105 : decode cX8_readsOn 105 = .ok (.dup, 1) := by decide +kernel
theorem dX8_readsOn_106 : decode cX8_readsOn 106 = .ok (.getfield 140, 3) := by decide +kernel
theorem dX8_readsOn_109 : decode cX8_readsOn 109 = .ok (.iconst 1, 1) := by decide +kernel
theorem dX8_readsOn_110 : decode cX8_readsOn 110 = .ok (.iadd, 1) := by decide +kernel
theorem dX8_readsOn_111 : decode cX8_readsOn 111 = .ok (.putfield 140, 3) := by decide +kernel
theorem dX8_readsOn_114 : decode cX8_readsOn 114 = .ok (.iconst 0, 1) := by decide +kernel
theorem dX8_readsOn_115 : decode cX8_readsOn 115 = .ok (.ireturn, 1) := by decide +kernel
theorem dX8_readsOn_116 : decode cX8_readsOn 116 = .ok (.aload_n 0, 1) := by decide +kernel
theorem dX8_readsOn_117 : decode cX8_readsOn 117 = .ok (.invokevirtual 164, 3) := by decide +kernel
theorem dX8_readsOn_120 : decode cX8_readsOn 120 = .ok (.aload_n 0, 1) := by decide +kernel
theorem dX8_readsOn_121 : decode cX8_readsOn 121 = .ok (.getfield 62, 3) := by decide +kernel
theorem dX8_readsOn_124 : decode cX8_readsOn 124 = .ok (.aload_n 0, 1) := by decide +kernel
theorem dX8_readsOn_125 : decode cX8_readsOn 125 = .ok (.getfield 151, 3) := by decide +kernel
theorem dX8_readsOn_128 : decode cX8_readsOn 128 = .ok (.iload_n 1, 1) := by decide +kernel
theorem dX8_readsOn_129 : decode cX8_readsOn 129 = .ok (.iastore, 1) := by decide +kernel
theorem dX8_readsOn_130 : decode cX8_readsOn 130 = .ok (.aload_n 0, 1) := by decide +kernel
theorem dX8_readsOn_131 : decode cX8_readsOn 131 = .ok (.getfield 65, 3) := by decide +kernel
theorem dX8_readsOn_134 : decode cX8_readsOn 134 = .ok (.aload_n 0, 1) := by decide +kernel
theorem dX8_readsOn_135 : decode cX8_readsOn 135 = .ok (.getfield 151, 3) := by decide +kernel
theorem dX8_readsOn_138 : decode cX8_readsOn 138 = .ok (.iconst 0, 1) := by decide +kernel
theorem dX8_readsOn_139 : decode cX8_readsOn 139 = .ok (.iastore, 1) := by decide +kernel
theorem dX8_readsOn_140 : decode cX8_readsOn 140 = .ok (.aload_n 0, 1) := by decide +kernel
theorem dX8_readsOn_141 : decode cX8_readsOn 141 = .ok (.dup, 1) := by decide +kernel
theorem dX8_readsOn_142 : decode cX8_readsOn 142 = .ok (.getfield 140, 3) := by decide +kernel
theorem dX8_readsOn_145 : decode cX8_readsOn 145 = .ok (.iconst 1, 1) := by decide +kernel
theorem dX8_readsOn_146 : decode cX8_readsOn 146 = .ok (.iadd, 1) := by decide +kernel
theorem dX8_readsOn_147 : decode cX8_readsOn 147 = .ok (.putfield 140, 3) := by decide +kernel
theorem dX8_readsOn_150 : decode cX8_readsOn 150 = .ok (.iconst 0, 1) := by decide +kernel
theorem dX8_readsOn_151 : decode cX8_readsOn 151 = .ok (.ireturn, 1) := by decide +kernel
theorem dX8_readsOn_152 : decode cX8_readsOn 152 = .ok (.aload_n 0, 1) := by decide +kernel
theorem dX8_readsOn_153 : decode cX8_readsOn 153 = .ok (.getfield 151, 3) := by decide +kernel
theorem dX8_readsOn_156 : decode cX8_readsOn 156 = .ok (.ifCond .ne 5, 3) := by decide +kernel
theorem dX8_readsOn_159 : decode cX8_readsOn 159 = .ok (.iconst (-1), 1) := by decide +kernel
theorem dX8_readsOn_160 : decode cX8_readsOn 160 = .ok (.ireturn, 1) := by decide +kernel
theorem dX8_readsOn_161 : decode cX8_readsOn 161 = .ok (.aload_n 0, 1) := by decide +kernel
theorem dX8_readsOn_162 : decode cX8_readsOn 162 = .ok (.invokevirtual 212, 3) := by decide +kernel
theorem dX8_readsOn_165 : decode cX8_readsOn 165 = .ok (.aload_n 0, 1) := by decide +kernel
theorem dX8_readsOn_166 : decode cX8_readsOn 166 = .ok (.dup, 1) := by decide +kernel
theorem dX8_readsOn_167 : decode cX8_readsOn 167 = .ok (.getfield 140, 3) := by decide +kernel
theorem dX8_readsOn_170 : decode cX8_readsOn 170 = .ok (.iconst 1, 1) := by decide +kernel
theorem dX8_readsOn_171 : decode cX8_readsOn 171 = .ok (.iadd, 1) := by decide +kernel
theorem dX8_readsOn_172 : decode cX8_readsOn 172 = .ok (.putfield 140, 3) := by decide +kernel
theorem dX8_readsOn_175 : decode cX8_readsOn 175 = .ok (.iconst 1, 1) := by decide +kernel
theorem dX8_readsOn_176 : decode cX8_readsOn 176 = .ok (.ireturn, 1) := by decide +kernel
theorem dX8_readsOn_177 : decode cX8_readsOn 177 = .ok (.iconst (-1), 1) := by decide +kernel
theorem dX8_readsOn_178 : decode cX8_readsOn 178 = .ok (.ireturn, 1) := by decide +kernel
theorem dX8_readsSum_0 : decode cX8_readsSum 0 = .ok (.iconst 0, 1) := by decide +kernel
theorem dX8_readsSum_1 : decode cX8_readsSum 1 = .ok (.istore_n 1, 1) := by decide +kernel
theorem dX8_readsSum_2 : decode cX8_readsSum 2 = .ok (.aload_n 0, 1) := by decide +kernel
theorem dX8_readsSum_3 : decode cX8_readsSum 3 = .ok (.iconst 0, 1) := by decide +kernel
theorem dX8_readsSum_4 : decode cX8_readsSum 4 = .ok (.putfield 151, 3) := by decide +kernel
theorem dX8_readsSum_7 : decode cX8_readsSum 7 = .ok (.aload_n 0, 1) := by decide +kernel
theorem dX8_readsSum_8 : decode cX8_readsSum 8 = .ok (.iconst 0, 1) := by decide +kernel
theorem dX8_readsSum_9 : decode cX8_readsSum 9 = .ok (.invokevirtual 205, 3) := by decide +kernel
theorem dX8_readsSum_12 : decode cX8_readsSum 12 = .ok (.iload_n 1, 1) := by decide +kernel
theorem dX8_readsSum_13 : decode cX8_readsSum 13 = .ok (.iconst (-1), 1) := by decide +kernel
theorem dX8_readsSum_14 : decode cX8_readsSum 14 = .ok (.if_icmp .eq 100, 3) := by decide +kernel
theorem dX8_readsSum_17 : decode cX8_readsSum 17 = .ok (.aload_n 0, 1) := by decide +kernel
theorem dX8_readsSum_18 : decode cX8_readsSum 18 = .ok (.invokevirtual 215, 3) := by decide +kernel
theorem dX8_readsSum_21 : decode cX8_readsSum 21 = .ok (.istore_n 2, 1) := by decide +kernel
theorem dX8_readsSum_22 : decode cX8_readsSum 22 = .ok (.iload_n 1, 1) := by decide +kernel
theorem dX8_readsSum_23 : decode cX8_readsSum 23 = .ok (.iconst 1, 1) := by decide +kernel
theorem dX8_readsSum_24 : decode cX8_readsSum 24 = .ok (.if_icmp .eq 8, 3) := by decide +kernel
theorem dX8_readsSum_27 : decode cX8_readsSum 27 = .ok (.iload_n 1, 1) := by decide +kernel
theorem dX8_readsSum_28 : decode cX8_readsSum 28 = .ok (.iconst 2, 1) := by decide +kernel
theorem dX8_readsSum_29 : decode cX8_readsSum 29 = .ok (.if_icmp .ne 7, 3) := by decide +kernel
theorem dX8_readsSum_32 : decode cX8_readsSum 32 = .ok (.iconst 1, 1) := by decide +kernel
theorem dX8_readsSum_33 : decode cX8_readsSum 33 = .ok (.goto 4, 3) := by decide +kernel
theorem dX8_readsSum_36 : decode cX8_readsSum 36 = .ok (.iconst 0, 1) := by decide +kernel
theorem dX8_readsSum_37 : decode cX8_readsSum 37 = .ok (.istore_n 3, 1) := by decide +kernel
theorem dX8_readsSum_38 : decode cX8_readsSum 38 = .ok (.iload_n 3, 1) := by decide +kernel
theorem dX8_readsSum_39 : decode cX8_readsSum 39 = .ok (.ifCond .eq 27, 3) := by decide +kernel
theorem dX8_readsSum_42 : decode cX8_readsSum 42 = .ok (.aload_n 0, 1) := by decide +kernel
theorem dX8_readsSum_43 : decode cX8_readsSum 43 = .ok (.getfield 151, 3) := by decide +kernel
theorem dX8_readsSum_46 : decode cX8_readsSum 46 = .ok (.ifCond .ne 20, 3) := by decide +kernel
theorem dX8_readsSum_49 : decode cX8_readsSum 49 = .ok (.iload_n 2, 1) := by decide +kernel
theorem dX8_readsSum_50 : decode cX8_readsSum 50 = .ok (.bipush 59, 2) := by decide +kernel
theorem dX8_readsSum_52 : decode cX8_readsSum 52 = .ok (.if_icmp .eq 8, 3) := by decide +kernel
theorem dX8_readsSum_55 : decode cX8_readsSum 55 = .ok (.iload_n 2, 1) := by decide +kernel
theorem dX8_readsSum_56 : decode cX8_readsSum 56 = .ok (.iconst (-1), 1) := by decide +kernel
theorem dX8_readsSum_57 : decode cX8_readsSum 57 = .ok (.if_icmp .ne 9, 3) := by decide +kernel
theorem dX8_readsSum_60 : decode cX8_readsSum 60 = .ok (.aload_n 0, 1) := by decide +kernel
theorem dX8_readsSum_61 : decode cX8_readsSum 61 = .ok (.invokevirtual 164, 3) := by decide +kernel
theorem dX8_readsSum_64 : decode cX8_readsSum 64 = .ok (.iload_n 1, 1) := by decide +kernel
theorem dX8_readsSum_65 : decode cX8_readsSum 65 = .ok (.ireturn, 1) := by decide +kernel
theorem dX8_readsSum_66 : decode cX8_readsSum 66 = .ok (.iload_n 1, 1) := by decide +kernel
theorem dX8_readsSum_67 : decode cX8_readsSum 67 = .ok (.ifCond .ne 11, 3) := by decide +kernel
theorem dX8_readsSum_70 : decode cX8_readsSum 70 = .ok (.aload_n 0, 1) := by decide +kernel
theorem dX8_readsSum_71 : decode cX8_readsSum 71 = .ok (.iload_n 2, 1) := by decide +kernel
theorem dX8_readsSum_72 : decode cX8_readsSum 72 = .ok (.invokevirtual 218, 3) := by decide +kernel
theorem dX8_readsSum_75 : decode cX8_readsSum 75 = .ok (.goto 35, 3) := by decide +kernel
theorem dX8_readsSum_78 : decode cX8_readsSum 78 = .ok (.iload_n 1, 1) := by decide +kernel
theorem dX8_readsSum_79 : decode cX8_readsSum 79 = .ok (.iconst 3, 1) := by decide +kernel
theorem dX8_readsSum_80 : decode cX8_readsSum 80 = .ok (.if_icmp .ne 11, 3) := by decide +kernel
theorem dX8_readsSum_83 : decode cX8_readsSum 83 = .ok (.aload_n 0, 1) := by decide +kernel
theorem dX8_readsSum_84 : decode cX8_readsSum 84 = .ok (.iload_n 2, 1) := by decide +kernel
theorem dX8_readsSum_85 : decode cX8_readsSum 85 = .ok (.invokevirtual 202, 3) := by decide +kernel
theorem dX8_readsSum_88 : decode cX8_readsSum 88 = .ok (.goto 22, 3) := by decide +kernel
theorem dX8_readsSum_91 : decode cX8_readsSum 91 = .ok (.iload_n 1, 1) := by decide +kernel
theorem dX8_readsSum_92 : decode cX8_readsSum 92 = .ok (.iconst 4, 1) := by decide +kernel
theorem dX8_readsSum_93 : decode cX8_readsSum 93 = .ok (.if_icmp .ne 11, 3) := by decide +kernel
theorem dX8_readsSum_96 : decode cX8_readsSum 96 = .ok (.aload_n 0, 1) := by decide +kernel
theorem dX8_readsSum_97 : decode cX8_readsSum 97 = .ok (.iload_n 2, 1) := by decide +kernel
theorem dX8_readsSum_98 : decode cX8_readsSum 98 = .ok (.invokevirtual 221, 3) := by decide +kernel
theorem dX8_readsSum_101 : decode cX8_readsSum 101 = .ok (.goto 9, 3) := by decide +kernel
theorem dX8_readsSum_104 : decode cX8_readsSum 104 = .ok (.aload_n 0, 1) := by decide +kernel
theorem dX8_readsSum_105 : decode cX8_readsSum 105 = .ok (.iload_n 2, 1) := by decide +kernel
theorem dX8_readsSum_106 : decode cX8_readsSum 106 = .ok (.iload_n 1, 1) := by decide +kernel
theorem dX8_readsSum_107 : decode cX8_readsSum 107 = .ok (.invokevirtual 224, 3) := by decide +kernel
theorem dX8_readsSum_110 : decode cX8_readsSum 110 = .ok (.istore_n 1, 1) := by decide +kernel
theorem dX8_readsSum_111 : decode cX8_readsSum 111 = .ok (.goto (-99), 3) := by decide +kernel
theorem dX8_readsSum_114 : decode cX8_readsSum 114 = .ok (.iconst (-1), 1) := by decide +kernel
theorem dX8_readsSum_115 : decode cX8_readsSum 115 = .ok (.ireturn, 1) := by decide +kernel
theorem dX8_reads_0 : decode cX8_reads 0 = .ok (.aload_n 0, 1) := by decide +kernel
theorem dX8_reads_1 : decode cX8_reads 1 = .ok (.iconst 0, 1) := by decide +kernel
theorem dX8_reads_2 : decode cX8_reads 2 = .ok (.putfield 140, 3) := by decide +kernel
theorem dX8_reads_5 : decode cX8_reads 5 = .ok (.aload_n 0, 1) := by decide +kernel
theorem dX8_reads_6 : decode cX8_reads 6 = .ok (.iconst 0, 1) := by decide +kernel
theorem dX8_reads_7 : decode cX8_reads 7 = .ok (.putfield 154, 3) := by decide +kernel
theorem dX8_reads_10 : decode cX8_reads 10 = .ok (.aload_n 0, 1) := by decide +kernel
theorem dX8_reads_11 : decode cX8_reads 11 = .ok (.invokevirtual 227, 3) := by decide +kernel
theorem dX8_reads_14 : decode cX8_reads 14 = .ok (.iconst (-1), 1) := by decide +kernel
theorem dX8_reads_15 : decode cX8_reads 15 = .ok (.if_icmp .eq 12, 3) := by decide +kernel
theorem dX8_reads_18 : decode cX8_reads 18 = .ok (.aload_n 0, 1) := by decide +kernel
theorem dX8_reads_19 : decode cX8_reads 19 = .ok (.invokevirtual 215, 3) := by decide +kernel
theorem dX8_reads_22 : decode cX8_reads 22 = .ok (.bipush 59, 2) := by decide +kernel
theorem dX8_reads_24 : decode cX8_reads 24 = .ok (.if_icmp .eq 5, 3) := by decide +kernel
theorem dX8_reads_27 : decode cX8_reads 27 = .ok (.iconst 0, 1) := by decide +kernel
theorem dX8_reads_28 : decode cX8_reads 28 = .ok (.ireturn, 1) := by decide +kernel
theorem dX8_reads_29 : decode cX8_reads 29 = .ok (.aload_n 0, 1) := by decide +kernel
theorem dX8_reads_30 : decode cX8_reads 30 = .ok (.getfield 53, 3) := by decide +kernel
theorem dX8_reads_33 : decode cX8_reads 33 = .ok (.iconst 0, 1) := by decide +kernel
theorem dX8_reads_34 : decode cX8_reads 34 = .ok (.aload_n 0, 1) := by decide +kernel
theorem dX8_reads_35 : decode cX8_reads 35 = .ok (.getfield 71, 3) := by decide +kernel
theorem dX8_reads_38 : decode cX8_reads 38 = .ok (.iconst 0, 1) := by decide +kernel
theorem dX8_reads_39 : decode cX8_reads 39 = .ok (.bipush 9, 2) := by decide +kernel
theorem dX8_reads_41 : decode cX8_reads 41 = .ok (.invokestatic 112, 3) := by decide +kernel
theorem dX8_reads_44 : decode cX8_reads 44 = .ok (.aload_n 0, 1) := by decide +kernel
theorem dX8_reads_45 : decode cX8_reads 45 = .ok (.dup, 1) := by decide +kernel
theorem dX8_reads_46 : decode cX8_reads 46 = .ok (.getfield 140, 3) := by decide +kernel
theorem dX8_reads_49 : decode cX8_reads 49 = .ok (.iconst 1, 1) := by decide +kernel
theorem dX8_reads_50 : decode cX8_reads 50 = .ok (.iadd, 1) := by decide +kernel
theorem dX8_reads_51 : decode cX8_reads 51 = .ok (.putfield 140, 3) := by decide +kernel
theorem dX8_reads_54 : decode cX8_reads 54 = .ok (.aload_n 0, 1) := by decide +kernel
theorem dX8_reads_55 : decode cX8_reads 55 = .ok (.invokevirtual 227, 3) := by decide +kernel
theorem dX8_reads_58 : decode cX8_reads 58 = .ok (.iconst (-1), 1) := by decide +kernel
theorem dX8_reads_59 : decode cX8_reads 59 = .ok (.if_icmp .eq 11, 3) := by decide +kernel
theorem dX8_reads_62 : decode cX8_reads 62 = .ok (.aload_n 0, 1) := by decide +kernel
theorem dX8_reads_63 : decode cX8_reads 63 = .ok (.invokevirtual 215, 3) := by decide +kernel
theorem dX8_reads_66 : decode cX8_reads 66 = .ok (.iconst (-1), 1) := by decide +kernel
theorem dX8_reads_67 : decode cX8_reads 67 = .ok (.if_icmp .eq 5, 3) := by decide +kernel
theorem dX8_reads_70 : decode cX8_reads 70 = .ok (.iconst 0, 1) := by decide +kernel
theorem dX8_reads_71 : decode cX8_reads 71 = .ok (.ireturn, 1) := by decide +kernel
theorem dX8_reads_72 : decode cX8_reads 72 = .ok (.aload_n 0, 1) := by decide +kernel
theorem dX8_reads_73 : decode cX8_reads 73 = .ok (.getfield 53, 3) := by decide +kernel
theorem dX8_reads_76 : decode cX8_reads 76 = .ok (.iconst 0, 1) := by decide +kernel
theorem dX8_reads_77 : decode cX8_reads 77 = .ok (.aload_n 0, 1) := by decide +kernel
theorem dX8_reads_78 : decode cX8_reads 78 = .ok (.getfield 74, 3) := by decide +kernel
theorem dX8_reads_81 : decode cX8_reads 81 = .ok (.iconst 0, 1) := by decide +kernel
theorem dX8_reads_82 : decode cX8_reads 82 = .ok (.bipush 9, 2) := by decide +kernel
theorem dX8_reads_84 : decode cX8_reads 84 = .ok (.invokestatic 112, 3) := by decide +kernel
theorem dX8_reads_87 : decode cX8_reads 87 = .ok (.aload_n 0, 1) := by decide +kernel
theorem dX8_reads_88 : decode cX8_reads 88 = .ok (.aload_n 0, 1) := by decide +kernel
theorem dX8_reads_89 : decode cX8_reads 89 = .ok (.getfield 154, 3) := by decide +kernel
theorem dX8_reads_92 : decode cX8_reads 92 = .ok (.ifCond .ne 23, 3) := by decide +kernel
theorem dX8_reads_95 : decode cX8_reads 95 = .ok (.aload_n 0, 1) := by decide +kernel
theorem dX8_reads_96 : decode cX8_reads 96 = .ok (.getfield 71, 3) := by decide +kernel
theorem dX8_reads_99 : decode cX8_reads 99 = .ok (.iconst 0, 1) := by decide +kernel
theorem dX8_reads_100 : decode cX8_reads 100 = .ok (.iaload, 1) := by decide +kernel
theorem dX8_reads_101 : decode cX8_reads 101 = .ok (.ifCond .eq 14, 3) := by decide +kernel
theorem dX8_reads_104 : decode cX8_reads 104 = .ok (.aload_n 0, 1) := by decide +kernel
theorem dX8_reads_105 : decode cX8_reads 105 = .ok (.getfield 74, 3) := by decide +kernel
theorem dX8_reads_108 : decode cX8_reads 108 = .ok (.iconst 0, 1) := by decide +kernel
theorem dX8_reads_109 : decode cX8_reads 109 = .ok (.invokestatic 167, 3) := by decide +kernel
theorem dX8_reads_112 : decode cX8_reads 112 = .ok (.ifCond .ne 7, 3) := by decide +kernel
theorem dX8_reads_115 : decode cX8_reads 115 = .ok (.iconst 1, 1) := by decide +kernel
theorem dX8_reads_116 : decode cX8_reads 116 = .ok (.goto 4, 3) := by decide +kernel
theorem dX8_reads_119 : decode cX8_reads 119 = .ok (.iconst 0, 1) := by decide +kernel
theorem dX8_reads_120 : decode cX8_reads 120 = .ok (.putfield 154, 3) := by decide +kernel
theorem dX8_reads_123 : decode cX8_reads 123 = .ok (.iconst 1, 1) := by decide +kernel
theorem dX8_reads_124 : decode cX8_reads 124 = .ok (.ireturn, 1) := by decide +kernel
theorem dX8_write_0 : decode cX8_write 0 = .ok (.iload_n 1, 1) := by decide +kernel
theorem dX8_write_1 : decode cX8_write 1 = .ok (.iconst 0, 1) := by decide +kernel
theorem dX8_write_2 : decode cX8_write 2 = .ok (.sipush 255, 3) := by decide +kernel
theorem dX8_write_5 : decode cX8_write 5 = .ok (.invokestatic 104, 3) := by decide +kernel
theorem dX8_write_8 : decode cX8_write 8 = .ok (.ifCond .ne 6, 3) := by decide +kernel
theorem dX8_write_11 : decode cX8_write 11 = .ok (.bipush (-3), 2) := by decide +kernel
theorem dX8_write_13 : decode cX8_write 13 = .ok (.ireturn, 1) := by decide +kernel
theorem dX8_write_14 : decode cX8_write 14 = .ok (.aload_n 0, 1) := by decide +kernel
theorem dX8_write_15 : decode cX8_write 15 = .ok (.getfield 144, 3) := by decide +kernel
theorem dX8_write_18 : decode cX8_write 18 = .ok (.bipush 120, 2) := by decide +kernel
theorem dX8_write_20 : decode cX8_write 20 = .ok (.if_icmp .ne 6, 3) := by decide +kernel
theorem dX8_write_23 : decode cX8_write 23 = .ok (.bipush (-5), 2) := by decide +kernel
theorem dX8_write_25 : decode cX8_write 25 = .ok (.ireturn, 1) := by decide +kernel
theorem dX8_write_26 : decode cX8_write 26 = .ok (.aload_n 0, 1) := by decide +kernel
theorem dX8_write_27 : decode cX8_write 27 = .ok (.getfield 29, 3) := by decide +kernel
theorem dX8_write_30 : decode cX8_write 30 = .ok (.aload_n 0, 1) := by decide +kernel
theorem dX8_write_31 : decode cX8_write 31 = .ok (.getfield 144, 3) := by decide +kernel
theorem dX8_write_34 : decode cX8_write 34 = .ok (.iload_n 1, 1) := by decide +kernel
theorem dX8_write_35 : decode cX8_write 35 = .ok (.iastore, 1) := by decide +kernel
theorem dX8_write_36 : decode cX8_write 36 = .ok (.aload_n 0, 1) := by decide +kernel
theorem dX8_write_37 : decode cX8_write 37 = .ok (.dup, 1) := by decide +kernel
theorem dX8_write_38 : decode cX8_write 38 = .ok (.getfield 144, 3) := by decide +kernel
theorem dX8_write_41 : decode cX8_write 41 = .ok (.iconst 1, 1) := by decide +kernel
theorem dX8_write_42 : decode cX8_write 42 = .ok (.iadd, 1) := by decide +kernel
theorem dX8_write_43 : decode cX8_write 43 = .ok (.putfield 144, 3) := by decide +kernel
theorem dX8_write_46 : decode cX8_write 46 = .ok (.aload_n 0, 1) := by decide +kernel
theorem dX8_write_47 : decode cX8_write 47 = .ok (.getfield 144, 3) := by decide +kernel
theorem dX8_write_50 : decode cX8_write 50 = .ok (.ireturn, 1) := by decide +kernel
theorem dX8_erase_0 : decode cX8_erase 0 = .ok (.aload_n 0, 1) := by decide +kernel
theorem dX8_erase_1 : decode cX8_erase 1 = .ok (.getfield 144, 3) := by decide +kernel
theorem dX8_erase_4 : decode cX8_erase 4 = .ok (.istore_n 1, 1) := by decide +kernel
theorem dX8_erase_5 : decode cX8_erase 5 = .ok (.aload_n 0, 1) := by decide +kernel
theorem dX8_erase_6 : decode cX8_erase 6 = .ok (.iconst 0, 1) := by decide +kernel
theorem dX8_erase_7 : decode cX8_erase 7 = .ok (.putfield 144, 3) := by decide +kernel
theorem dX8_erase_10 : decode cX8_erase 10 = .ok (.iload_n 1, 1) := by decide +kernel
theorem dX8_erase_11 : decode cX8_erase 11 = .ok (.ireturn, 1) := by decide +kernel
theorem dX8_fault_0 : decode cX8_fault 0 = .ok (.aload_n 0, 1) := by decide +kernel
theorem dX8_fault_1 : decode cX8_fault 1 = .ok (.invokevirtual 230, 3) := by decide +kernel
theorem dX8_fault_4 : decode cX8_fault 4 = .ok (.ifCond .eq 7, 3) := by decide +kernel
theorem dX8_fault_7 : decode cX8_fault 7 = .ok (.iconst (-1), 1) := by decide +kernel
theorem dX8_fault_8 : decode cX8_fault 8 = .ok (.goto 7, 3) := by decide +kernel
theorem dX8_fault_11 : decode cX8_fault 11 = .ok (.aload_n 0, 1) := by decide +kernel
theorem dX8_fault_12 : decode cX8_fault 12 = .ok (.getfield 140, 3) := by decide +kernel
theorem dX8_fault_15 : decode cX8_fault 15 = .ok (.ireturn, 1) := by decide +kernel
theorem dX8_becomes_0 : decode cX8_becomes 0 = .ok (.aload_n 2, 1) := by decide +kernel
theorem dX8_becomes_1 : decode cX8_becomes 1 = .ok (.iconst 0, 1) := by decide +kernel
theorem dX8_becomes_2 : decode cX8_becomes 2 = .ok (.aload_n 0, 1) := by decide +kernel
theorem dX8_becomes_3 : decode cX8_becomes 3 = .ok (.getfield 7, 3) := by decide +kernel
theorem dX8_becomes_6 : decode cX8_becomes 6 = .ok (.bipush 9, 2) := by decide +kernel
theorem dX8_becomes_8 : decode cX8_becomes 8 = .ok (.iload_n 1, 1) := by decide +kernel
theorem dX8_becomes_9 : decode cX8_becomes 9 = .ok (.imul, 1) := by decide +kernel
theorem dX8_becomes_10 : decode cX8_becomes 10 = .ok (.bipush 9, 2) := by decide +kernel
theorem dX8_becomes_12 : decode cX8_becomes 12 = .ok (.invokestatic 112, 3) := by decide +kernel
theorem dX8_becomes_15 : decode cX8_becomes 15 = .ok (.aload_n 3, 1) := by decide +kernel
theorem dX8_becomes_16 : decode cX8_becomes 16 = .ok (.iconst 0, 1) := by decide +kernel
theorem dX8_becomes_17 : decode cX8_becomes 17 = .ok (.aload_n 0, 1) := by decide +kernel
theorem dX8_becomes_18 : decode cX8_becomes 18 = .ok (.getfield 13, 3) := by decide +kernel
theorem dX8_becomes_21 : decode cX8_becomes 21 = .ok (.bipush 9, 2) := by decide +kernel
theorem dX8_becomes_23 : decode cX8_becomes 23 = .ok (.iload_n 1, 1) := by decide +kernel
theorem dX8_becomes_24 : decode cX8_becomes 24 = .ok (.imul, 1) := by decide +kernel
theorem dX8_becomes_25 : decode cX8_becomes 25 = .ok (.bipush 9, 2) := by decide +kernel
theorem dX8_becomes_27 : decode cX8_becomes 27 = .ok (.invokestatic 112, 3) := by decide +kernel
theorem dX8_becomes_30 : decode cX8_becomes 30 = .ok (.aload_n 0, 1) := by decide +kernel
theorem dX8_becomes_31 : decode cX8_becomes 31 = .ok (.getfield 13, 3) := by decide +kernel
theorem dX8_becomes_34 : decode cX8_becomes 34 = .ok (.bipush 9, 2) := by decide +kernel
theorem dX8_becomes_36 : decode cX8_becomes 36 = .ok (.iload_n 1, 1) := by decide +kernel
theorem dX8_becomes_37 : decode cX8_becomes 37 = .ok (.imul, 1) := by decide +kernel
theorem dX8_becomes_38 : decode cX8_becomes 38 = .ok (.iconst 1, 1) := by decide +kernel
theorem dX8_becomes_39 : decode cX8_becomes 39 = .ok (.iadd, 1) := by decide +kernel
theorem dX8_becomes_40 : decode cX8_becomes 40 = .ok (.iaload, 1) := by decide +kernel
theorem dX8_becomes_41 : decode cX8_becomes 41 = .ok (.ireturn, 1) := by decide +kernel
theorem dX8_read_0 : decode cX8_read 0 = .ok (.iload_n 1, 1) := by decide +kernel
theorem dX8_read_1 : decode cX8_read 1 = .ok (.invokestatic 234, 3) := by decide +kernel
theorem dX8_read_4 : decode cX8_read 4 = .ok (.ifCond .ne 6, 3) := by decide +kernel
theorem dX8_read_7 : decode cX8_read 7 = .ok (.bipush (-2), 2) := by decide +kernel
theorem dX8_read_9 : decode cX8_read 9 = .ok (.ireturn, 1) := by decide +kernel
theorem dX8_read_10 : decode cX8_read 10 = .ok (.aload_n 0, 1) := by decide +kernel
theorem dX8_read_11 : decode cX8_read 11 = .ok (.invokevirtual 230, 3) := by decide +kernel
theorem dX8_read_14 : decode cX8_read 14 = .ok (.ifCond .ne 6, 3) := by decide +kernel
theorem dX8_read_17 : decode cX8_read 17 = .ok (.bipush (-4), 2) := by decide +kernel
theorem dX8_read_19 : decode cX8_read 19 = .ok (.ireturn, 1) := by decide +kernel
theorem dX8_read_20 : decode cX8_read 20 = .ok (.aload_n 0, 1) := by decide +kernel
theorem dX8_read_21 : decode cX8_read 21 = .ok (.getfield 154, 3) := by decide +kernel
theorem dX8_read_24 : decode cX8_read 24 = .ok (.ifCond .eq 6, 3) := by decide +kernel
theorem dX8_read_27 : decode cX8_read 27 = .ok (.bipush (-6), 2) := by decide +kernel
theorem dX8_read_29 : decode cX8_read 29 = .ok (.ireturn, 1) := by decide +kernel
theorem dX8_read_30 : decode cX8_read 30 = .ok (.aload_n 0, 1) := by decide +kernel
theorem dX8_read_31 : decode cX8_read 31 = .ok (.iconst 0, 1) := by decide +kernel
theorem dX8_read_32 : decode cX8_read 32 = .ok (.putfield 144, 3) := by decide +kernel
theorem dX8_read_35 : decode cX8_read 35 = .ok (.aload_n 0, 1) := by decide +kernel
theorem dX8_read_36 : decode cX8_read 36 = .ok (.iload_n 1, 1) := by decide +kernel
theorem dX8_read_37 : decode cX8_read 37 = .ok (.aload_n 0, 1) := by decide +kernel
theorem dX8_read_38 : decode cX8_read 38 = .ok (.getfield 71, 3) := by decide +kernel
theorem dX8_read_41 : decode cX8_read 41 = .ok (.aload_n 0, 1) := by decide +kernel
theorem dX8_read_42 : decode cX8_read 42 = .ok (.getfield 74, 3) := by decide +kernel
theorem dX8_read_45 : decode cX8_read 45 = .ok (.invokevirtual 237, 3) := by decide +kernel
theorem dX8_read_48 : decode cX8_read 48 = .ok (.ireturn, 1) := by decide +kernel
theorem dX8_compose_0 : decode cX8_compose 0 = .ok (.iload_n 1, 1) := by decide +kernel
theorem dX8_compose_1 : decode cX8_compose 1 = .ok (.invokestatic 234, 3) := by decide +kernel
theorem dX8_compose_4 : decode cX8_compose 4 = .ok (.ifCond .eq 17, 3) := by decide +kernel
theorem dX8_compose_7 : decode cX8_compose 7 = .ok (.iload_n 2, 1) := by decide +kernel
theorem dX8_compose_8 : decode cX8_compose 8 = .ok (.invokestatic 234, 3) := by decide +kernel
theorem dX8_compose_11 : decode cX8_compose 11 = .ok (.ifCond .eq 10, 3) := by decide +kernel
theorem dX8_compose_14 : decode cX8_compose 14 = .ok (.iload_n 3, 1) := by decide +kernel
theorem dX8_compose_15 : decode cX8_compose 15 = .ok (.invokestatic 234, 3) := by decide +kernel
theorem dX8_compose_18 : decode cX8_compose 18 = .ok (.ifCond .ne 6, 3) := by decide +kernel
theorem dX8_compose_21 : decode cX8_compose 21 = .ok (.bipush (-2), 2) := by decide +kernel
theorem dX8_compose_23 : decode cX8_compose 23 = .ok (.ireturn, 1) := by decide +kernel
theorem dX8_compose_24 : decode cX8_compose 24 = .ok (.aload_n 0, 1) := by decide +kernel
theorem dX8_compose_25 : decode cX8_compose 25 = .ok (.aload_n 0, 1) := by decide +kernel
theorem dX8_compose_26 : decode cX8_compose 26 = .ok (.getfield 7, 3) := by decide +kernel
theorem dX8_compose_29 : decode cX8_compose 29 = .ok (.bipush 9, 2) := by decide +kernel
theorem dX8_compose_31 : decode cX8_compose 31 = .ok (.iload_n 2, 1) := by decide +kernel
theorem dX8_compose_32 : decode cX8_compose 32 = .ok (.imul, 1) := by decide +kernel
theorem dX8_compose_33 : decode cX8_compose 33 = .ok (.aload_n 0, 1) := by decide +kernel
theorem dX8_compose_34 : decode cX8_compose 34 = .ok (.getfield 13, 3) := by decide +kernel
theorem dX8_compose_37 : decode cX8_compose 37 = .ok (.bipush 9, 2) := by decide +kernel
theorem dX8_compose_39 : decode cX8_compose 39 = .ok (.iload_n 3, 1) := by decide +kernel
theorem dX8_compose_40 : decode cX8_compose 40 = .ok (.imul, 1) := by decide +kernel
theorem dX8_compose_41 : decode cX8_compose 41 = .ok (.aload_n 0, 1) := by decide +kernel
theorem dX8_compose_42 : decode cX8_compose 42 = .ok (.getfield 77, 3) := by decide +kernel
theorem dX8_compose_45 : decode cX8_compose 45 = .ok (.invokevirtual 137, 3) := by decide +kernel
theorem dX8_compose_48 : decode cX8_compose 48 = .ok (.aload_n 0, 1) := by decide +kernel
theorem dX8_compose_49 : decode cX8_compose 49 = .ok (.aload_n 0, 1) := by decide +kernel
theorem dX8_compose_50 : decode cX8_compose 50 = .ok (.getfield 77, 3) := by decide +kernel
theorem dX8_compose_53 : decode cX8_compose 53 = .ok (.iconst 0, 1) := by decide +kernel
theorem dX8_compose_54 : decode cX8_compose 54 = .ok (.aload_n 0, 1) := by decide +kernel
theorem dX8_compose_55 : decode cX8_compose 55 = .ok (.getfield 7, 3) := by decide +kernel
theorem dX8_compose_58 : decode cX8_compose 58 = .ok (.bipush 9, 2) := by decide +kernel
theorem dX8_compose_60 : decode cX8_compose 60 = .ok (.iload_n 3, 1) := by decide +kernel
theorem dX8_compose_61 : decode cX8_compose 61 = .ok (.imul, 1) := by decide +kernel
theorem dX8_compose_62 : decode cX8_compose 62 = .ok (.aload_n 0, 1) := by decide +kernel
theorem dX8_compose_63 : decode cX8_compose 63 = .ok (.getfield 77, 3) := by decide +kernel
theorem dX8_compose_66 : decode cX8_compose 66 = .ok (.invokevirtual 133, 3) := by decide +kernel
theorem dX8_compose_69 : decode cX8_compose 69 = .ok (.aload_n 0, 1) := by decide +kernel
theorem dX8_compose_70 : decode cX8_compose 70 = .ok (.aload_n 0, 1) := by decide +kernel
theorem dX8_compose_71 : decode cX8_compose 71 = .ok (.getfield 13, 3) := by decide +kernel
theorem dX8_compose_74 : decode cX8_compose 74 = .ok (.bipush 9, 2) := by decide +kernel
theorem dX8_compose_76 : decode cX8_compose 76 = .ok (.iload_n 2, 1) := by decide +kernel
theorem dX8_compose_77 : decode cX8_compose 77 = .ok (.imul, 1) := by decide +kernel
theorem dX8_compose_78 : decode cX8_compose 78 = .ok (.aload_n 0, 1) := by decide +kernel
theorem dX8_compose_79 : decode cX8_compose 79 = .ok (.getfield 13, 3) := by decide +kernel
theorem dX8_compose_82 : decode cX8_compose 82 = .ok (.bipush 9, 2) := by decide +kernel
theorem dX8_compose_84 : decode cX8_compose 84 = .ok (.iload_n 3, 1) := by decide +kernel
theorem dX8_compose_85 : decode cX8_compose 85 = .ok (.imul, 1) := by decide +kernel
theorem dX8_compose_86 : decode cX8_compose 86 = .ok (.aload_n 0, 1) := by decide +kernel
theorem dX8_compose_87 : decode cX8_compose 87 = .ok (.getfield 80, 3) := by decide +kernel
theorem dX8_compose_90 : decode cX8_compose 90 = .ok (.invokevirtual 137, 3) := by decide +kernel
theorem dX8_compose_93 : decode cX8_compose 93 = .ok (.aload_n 0, 1) := by decide +kernel
theorem dX8_compose_94 : decode cX8_compose 94 = .ok (.iload_n 1, 1) := by decide +kernel
theorem dX8_compose_95 : decode cX8_compose 95 = .ok (.aload_n 0, 1) := by decide +kernel
theorem dX8_compose_96 : decode cX8_compose 96 = .ok (.getfield 77, 3) := by decide +kernel
theorem dX8_compose_99 : decode cX8_compose 99 = .ok (.aload_n 0, 1) := by decide +kernel
theorem dX8_compose_100 : decode cX8_compose 100 = .ok (.getfield 80, 3) := by decide +kernel
theorem dX8_compose_103 : decode cX8_compose 103 = .ok (.invokevirtual 237, 3) := by decide +kernel
theorem dX8_compose_106 : decode cX8_compose 106 = .ok (.ireturn, 1) := by decide +kernel
theorem dX8_laysOne_0 : decode cX8_laysOne 0 = .ok (.iconst 0, 1) := by decide +kernel
theorem dX8_laysOne_1 : decode cX8_laysOne 1 = .ok (.istore_n 1, 1) := by decide +kernel
theorem dX8_laysOne_2 : decode cX8_laysOne 2 = .ok (.iload_n 1, 1) := by decide +kernel
theorem dX8_laysOne_3 : decode cX8_laysOne 3 = .ok (.bipush 9, 2) := by decide +kernel
theorem dX8_laysOne_5 : decode cX8_laysOne 5 = .ok (.if_icmp .ge 24, 3) := by decide +kernel
theorem dX8_laysOne_8 : decode cX8_laysOne 8 = .ok (.aload_n 0, 1) := by decide +kernel
theorem dX8_laysOne_9 : decode cX8_laysOne 9 = .ok (.getfield 83, 3) := by decide +kernel
theorem dX8_laysOne_12 : decode cX8_laysOne 12 = .ok (.iload_n 1, 1) := by decide +kernel
theorem dX8_laysOne_13 : decode cX8_laysOne 13 = .ok (.iload_n 1, 1) := by decide +kernel
theorem dX8_laysOne_14 : decode cX8_laysOne 14 = .ok (.ifCond .ne 7, 3) := by decide +kernel
theorem dX8_laysOne_17 : decode cX8_laysOne 17 = .ok (.iconst 1, 1) := by decide +kernel
theorem dX8_laysOne_18 : decode cX8_laysOne 18 = .ok (.goto 4, 3) := by decide +kernel
theorem dX8_laysOne_21 : decode cX8_laysOne 21 = .ok (.iconst 0, 1) := by decide +kernel
theorem dX8_laysOne_22 : decode cX8_laysOne 22 = .ok (.iastore, 1) := by decide +kernel
theorem dX8_laysOne_23 : decode cX8_laysOne 23 = .ok (.iinc 1 1, 3) := by decide +kernel
theorem dX8_laysOne_26 : decode cX8_laysOne 26 = .ok (.goto (-24), 3) := by decide +kernel
theorem dX8_laysOne_29 : decode cX8_laysOne 29 = .ok (.return_, 1) := by decide +kernel
theorem dX8_invert_0 : decode cX8_invert 0 = .ok (.iload_n 1, 1) := by decide +kernel
theorem dX8_invert_1 : decode cX8_invert 1 = .ok (.invokestatic 234, 3) := by decide +kernel
theorem dX8_invert_4 : decode cX8_invert 4 = .ok (.ifCond .eq 10, 3) := by decide +kernel
theorem dX8_invert_7 : decode cX8_invert 7 = .ok (.iload_n 2, 1) := by decide +kernel
theorem dX8_invert_8 : decode cX8_invert 8 = .ok (.invokestatic 234, 3) := by decide +kernel
theorem dX8_invert_11 : decode cX8_invert 11 = .ok (.ifCond .ne 6, 3) := by decide +kernel
theorem dX8_invert_14 : decode cX8_invert 14 = .ok (.bipush (-2), 2) := by decide +kernel
theorem dX8_invert_16 : decode cX8_invert 16 = .ok (.ireturn, 1) := by decide +kernel
theorem dX8_invert_17 : decode cX8_invert 17 = .ok (.aload_n 0, 1) := by decide +kernel
theorem dX8_invert_18 : decode cX8_invert 18 = .ok (.aload_n 0, 1) := by decide +kernel
theorem dX8_invert_19 : decode cX8_invert 19 = .ok (.getfield 13, 3) := by decide +kernel
theorem dX8_invert_22 : decode cX8_invert 22 = .ok (.bipush 9, 2) := by decide +kernel
theorem dX8_invert_24 : decode cX8_invert 24 = .ok (.iload_n 2, 1) := by decide +kernel
theorem dX8_invert_25 : decode cX8_invert 25 = .ok (.imul, 1) := by decide +kernel
theorem dX8_invert_26 : decode cX8_invert 26 = .ok (.aload_n 0, 1) := by decide +kernel
theorem dX8_invert_27 : decode cX8_invert 27 = .ok (.getfield 80, 3) := by decide +kernel
theorem dX8_invert_30 : decode cX8_invert 30 = .ok (.invokevirtual 171, 3) := by decide +kernel
theorem dX8_invert_33 : decode cX8_invert 33 = .ok (.aload_n 0, 1) := by decide +kernel
theorem dX8_invert_34 : decode cX8_invert 34 = .ok (.aload_n 0, 1) := by decide +kernel
theorem dX8_invert_35 : decode cX8_invert 35 = .ok (.getfield 7, 3) := by decide +kernel
theorem dX8_invert_38 : decode cX8_invert 38 = .ok (.bipush 9, 2) := by decide +kernel
theorem dX8_invert_40 : decode cX8_invert 40 = .ok (.iload_n 2, 1) := by decide +kernel
theorem dX8_invert_41 : decode cX8_invert 41 = .ok (.imul, 1) := by decide +kernel
theorem dX8_invert_42 : decode cX8_invert 42 = .ok (.aload_n 0, 1) := by decide +kernel
theorem dX8_invert_43 : decode cX8_invert 43 = .ok (.getfield 80, 3) := by decide +kernel
theorem dX8_invert_46 : decode cX8_invert 46 = .ok (.iconst 0, 1) := by decide +kernel
theorem dX8_invert_47 : decode cX8_invert 47 = .ok (.aload_n 0, 1) := by decide +kernel
theorem dX8_invert_48 : decode cX8_invert 48 = .ok (.getfield 77, 3) := by decide +kernel
theorem dX8_invert_51 : decode cX8_invert 51 = .ok (.invokevirtual 137, 3) := by decide +kernel
theorem dX8_invert_54 : decode cX8_invert 54 = .ok (.aload_n 0, 1) := by decide +kernel
theorem dX8_invert_55 : decode cX8_invert 55 = .ok (.invokevirtual 241, 3) := by decide +kernel
theorem dX8_invert_58 : decode cX8_invert 58 = .ok (.aload_n 0, 1) := by decide +kernel
theorem dX8_invert_59 : decode cX8_invert 59 = .ok (.aload_n 0, 1) := by decide +kernel
theorem dX8_invert_60 : decode cX8_invert 60 = .ok (.getfield 83, 3) := by decide +kernel
theorem dX8_invert_63 : decode cX8_invert 63 = .ok (.iconst 0, 1) := by decide +kernel
theorem dX8_invert_64 : decode cX8_invert 64 = .ok (.aload_n 0, 1) := by decide +kernel
theorem dX8_invert_65 : decode cX8_invert 65 = .ok (.getfield 77, 3) := by decide +kernel
theorem dX8_invert_68 : decode cX8_invert 68 = .ok (.iconst 0, 1) := by decide +kernel
theorem dX8_invert_69 : decode cX8_invert 69 = .ok (.aload_n 0, 1) := by decide +kernel
theorem dX8_invert_70 : decode cX8_invert 70 = .ok (.getfield 77, 3) := by decide +kernel
theorem dX8_invert_73 : decode cX8_invert 73 = .ok (.invokevirtual 158, 3) := by decide +kernel
theorem dX8_invert_76 : decode cX8_invert 76 = .ok (.aload_n 0, 1) := by decide +kernel
theorem dX8_invert_77 : decode cX8_invert 77 = .ok (.iload_n 1, 1) := by decide +kernel
theorem dX8_invert_78 : decode cX8_invert 78 = .ok (.aload_n 0, 1) := by decide +kernel
theorem dX8_invert_79 : decode cX8_invert 79 = .ok (.getfield 77, 3) := by decide +kernel
theorem dX8_invert_82 : decode cX8_invert 82 = .ok (.aload_n 0, 1) := by decide +kernel
theorem dX8_invert_83 : decode cX8_invert 83 = .ok (.getfield 80, 3) := by decide +kernel
theorem dX8_invert_86 : decode cX8_invert 86 = .ok (.invokevirtual 237, 3) := by decide +kernel
theorem dX8_invert_89 : decode cX8_invert 89 = .ok (.ireturn, 1) := by decide +kernel
theorem dX8_copiesRow_0 : decode cX8_copiesRow 0 = .ok (.aload_n 0, 1) := by decide +kernel
theorem dX8_copiesRow_1 : decode cX8_copiesRow 1 = .ok (.getfield 7, 3) := by decide +kernel
theorem dX8_copiesRow_4 : decode cX8_copiesRow 4 = .ok (.bipush 9, 2) := by decide +kernel
theorem dX8_copiesRow_6 : decode cX8_copiesRow 6 = .ok (.iload_n 1, 1) := by decide +kernel
theorem dX8_copiesRow_7 : decode cX8_copiesRow 7 = .ok (.imul, 1) := by decide +kernel
theorem dX8_copiesRow_8 : decode cX8_copiesRow 8 = .ok (.aload_n 0, 1) := by decide +kernel
theorem dX8_copiesRow_9 : decode cX8_copiesRow 9 = .ok (.getfield 77, 3) := by decide +kernel
theorem dX8_copiesRow_12 : decode cX8_copiesRow 12 = .ok (.iconst 0, 1) := by decide +kernel
theorem dX8_copiesRow_13 : decode cX8_copiesRow 13 = .ok (.bipush 9, 2) := by decide +kernel
theorem dX8_copiesRow_15 : decode cX8_copiesRow 15 = .ok (.invokestatic 112, 3) := by decide +kernel
theorem dX8_copiesRow_18 : decode cX8_copiesRow 18 = .ok (.aload_n 0, 1) := by decide +kernel
theorem dX8_copiesRow_19 : decode cX8_copiesRow 19 = .ok (.getfield 13, 3) := by decide +kernel
theorem dX8_copiesRow_22 : decode cX8_copiesRow 22 = .ok (.bipush 9, 2) := by decide +kernel
theorem dX8_copiesRow_24 : decode cX8_copiesRow 24 = .ok (.iload_n 1, 1) := by decide +kernel
theorem dX8_copiesRow_25 : decode cX8_copiesRow 25 = .ok (.imul, 1) := by decide +kernel
theorem dX8_copiesRow_26 : decode cX8_copiesRow 26 = .ok (.aload_n 0, 1) := by decide +kernel
theorem dX8_copiesRow_27 : decode cX8_copiesRow 27 = .ok (.getfield 80, 3) := by decide +kernel
theorem dX8_copiesRow_30 : decode cX8_copiesRow 30 = .ok (.iconst 0, 1) := by decide +kernel
theorem dX8_copiesRow_31 : decode cX8_copiesRow 31 = .ok (.bipush 9, 2) := by decide +kernel
theorem dX8_copiesRow_33 : decode cX8_copiesRow 33 = .ok (.invokestatic 112, 3) := by decide +kernel
theorem dX8_copiesRow_36 : decode cX8_copiesRow 36 = .ok (.return_, 1) := by decide +kernel
theorem dX8_part_0 : decode cX8_part 0 = .ok (.iload_n 1, 1) := by decide +kernel
theorem dX8_part_1 : decode cX8_part 1 = .ok (.invokestatic 234, 3) := by decide +kernel
theorem dX8_part_4 : decode cX8_part 4 = .ok (.ifCond .eq 10, 3) := by decide +kernel
theorem dX8_part_7 : decode cX8_part 7 = .ok (.iload_n 2, 1) := by decide +kernel
theorem dX8_part_8 : decode cX8_part 8 = .ok (.invokestatic 234, 3) := by decide +kernel
theorem dX8_part_11 : decode cX8_part 11 = .ok (.ifCond .ne 6, 3) := by decide +kernel
theorem dX8_part_14 : decode cX8_part 14 = .ok (.bipush (-2), 2) := by decide +kernel
theorem dX8_part_16 : decode cX8_part 16 = .ok (.ireturn, 1) := by decide +kernel
theorem dX8_part_17 : decode cX8_part 17 = .ok (.iload_n 3, 1) := by decide +kernel
theorem dX8_part_18 : decode cX8_part 18 = .ok (.iconst 0, 1) := by decide +kernel
theorem dX8_part_19 : decode cX8_part 19 = .ok (.iconst 1, 1) := by decide +kernel
theorem dX8_part_20 : decode cX8_part 20 = .ok (.invokestatic 104, 3) := by decide +kernel
theorem dX8_part_23 : decode cX8_part 23 = .ok (.ifCond .ne 6, 3) := by decide +kernel
theorem dX8_part_26 : decode cX8_part 26 = .ok (.bipush (-3), 2) := by decide +kernel
theorem dX8_part_28 : decode cX8_part 28 = .ok (.ireturn, 1) := by decide +kernel
theorem dX8_part_29 : decode cX8_part 29 = .ok (.aload_n 0, 1) := by decide +kernel
theorem dX8_part_30 : decode cX8_part 30 = .ok (.iload_n 2, 1) := by decide +kernel
theorem dX8_part_31 : decode cX8_part 31 = .ok (.invokevirtual 244, 3) := by decide +kernel
theorem dX8_part_34 : decode cX8_part 34 = .ok (.iconst 0, 1) := by decide +kernel
theorem dX8_part_35 : decode cX8_part 35 = .ok (.istore 4, 2) := by decide +kernel
theorem dX8_part_37 : decode cX8_part 37 = .ok (.iload 4, 2) := by decide +kernel
theorem dX8_part_39 : decode cX8_part 39 = .ok (.bipush 9, 2) := by decide +kernel
theorem dX8_part_41 : decode cX8_part 41 = .ok (.if_icmp .ge 51, 3) := by decide +kernel
theorem dX8_part_44 : decode cX8_part 44 = .ok (.iload_n 3, 1) := by decide +kernel
theorem dX8_part_45 : decode cX8_part 45 = .ok (.ifCond .ne 23, 3) := by decide +kernel
theorem dX8_part_48 : decode cX8_part 48 = .ok (.aload_n 0, 1) := by decide +kernel
theorem dX8_part_49 : decode cX8_part 49 = .ok (.getfield 77, 3) := by decide +kernel
theorem dX8_part_52 : decode cX8_part 52 = .ok (.iload 4, 2) := by decide +kernel
theorem dX8_part_54 : decode cX8_part 54 = .ok (.iload 4, 2) := by decide +kernel
theorem dX8_part_56 : decode cX8_part 56 = .ok (.ifCond .ne 7, 3) := by decide +kernel
theorem dX8_part_59 : decode cX8_part 59 = .ok (.iconst 1, 1) := by decide +kernel
theorem dX8_part_60 : decode cX8_part 60 = .ok (.goto 4, 3) := by decide +kernel
theorem dX8_part_63 : decode cX8_part 63 = .ok (.iconst 0, 1) := by decide +kernel
theorem dX8_part_64 : decode cX8_part 64 = .ok (.iastore, 1) := by decide +kernel
theorem dX8_part_65 : decode cX8_part 65 = .ok (.goto 21, 3) := by decide +kernel
theorem dX8_part_68 : decode cX8_part 68 = .ok (.aload_n 0, 1) := by decide +kernel
theorem dX8_part_69 : decode cX8_part 69 = .ok (.getfield 80, 3) := by decide +kernel
theorem dX8_part_72 : decode cX8_part 72 = .ok (.iload 4, 2) := by decide +kernel
theorem dX8_part_74 : decode cX8_part 74 = .ok (.iload 4, 2) := by decide +kernel
theorem dX8_part_76 : decode cX8_part 76 = .ok (.iconst 1, 1) := by decide +kernel
theorem dX8_part_77 : decode cX8_part 77 = .ok (.if_icmp .ne 7, 3) := by decide +kernel
theorem dX8_part_80 : decode cX8_part 80 = .ok (.iconst 1, 1) := by decide +kernel
theorem dX8_part_81 : decode cX8_part 81 = .ok (.goto 4, 3) := by decide +kernel
theorem dX8_part_84 : decode cX8_part 84 = .ok (.iconst 0, 1) := by decide +kernel
theorem dX8_part_85 : decode cX8_part 85 = .ok (.iastore, 1) := by decide +kernel
theorem dX8_part_86 : decode cX8_part 86 = .ok (.iinc 4 1, 3) := by decide +kernel
theorem dX8_part_89 : decode cX8_part 89 = .ok (.goto (-52), 3) := by decide +kernel
theorem dX8_part_92 : decode cX8_part 92 = .ok (.aload_n 0, 1) := by decide +kernel
theorem dX8_part_93 : decode cX8_part 93 = .ok (.iload_n 1, 1) := by decide +kernel
theorem dX8_part_94 : decode cX8_part 94 = .ok (.aload_n 0, 1) := by decide +kernel
theorem dX8_part_95 : decode cX8_part 95 = .ok (.getfield 77, 3) := by decide +kernel
theorem dX8_part_98 : decode cX8_part 98 = .ok (.aload_n 0, 1) := by decide +kernel
theorem dX8_part_99 : decode cX8_part 99 = .ok (.getfield 80, 3) := by decide +kernel
theorem dX8_part_102 : decode cX8_part 102 = .ok (.invokevirtual 237, 3) := by decide +kernel
theorem dX8_part_105 : decode cX8_part 105 = .ok (.ireturn, 1) := by decide +kernel
theorem dX8_move_0 : decode cX8_move 0 = .ok (.iload_n 1, 1) := by decide +kernel
theorem dX8_move_1 : decode cX8_move 1 = .ok (.invokestatic 234, 3) := by decide +kernel
theorem dX8_move_4 : decode cX8_move 4 = .ok (.ifCond .eq 10, 3) := by decide +kernel
theorem dX8_move_7 : decode cX8_move 7 = .ok (.iload_n 2, 1) := by decide +kernel
theorem dX8_move_8 : decode cX8_move 8 = .ok (.invokestatic 234, 3) := by decide +kernel
theorem dX8_move_11 : decode cX8_move 11 = .ok (.ifCond .ne 6, 3) := by decide +kernel
theorem dX8_move_14 : decode cX8_move 14 = .ok (.bipush (-2), 2) := by decide +kernel
theorem dX8_move_16 : decode cX8_move 16 = .ok (.ireturn, 1) := by decide +kernel
theorem dX8_move_17 : decode cX8_move 17 = .ok (.iload_n 3, 1) := by decide +kernel
theorem dX8_move_18 : decode cX8_move 18 = .ok (.invokestatic 247, 3) := by decide +kernel
theorem dX8_move_21 : decode cX8_move 21 = .ok (.ifCond .ne 6, 3) := by decide +kernel
theorem dX8_move_24 : decode cX8_move 24 = .ok (.bipush (-3), 2) := by decide +kernel
theorem dX8_move_26 : decode cX8_move 26 = .ok (.ireturn, 1) := by decide +kernel
theorem dX8_move_27 : decode cX8_move 27 = .ok (.aload_n 0, 1) := by decide +kernel
theorem dX8_move_28 : decode cX8_move 28 = .ok (.iload_n 2, 1) := by decide +kernel
theorem dX8_move_29 : decode cX8_move 29 = .ok (.invokevirtual 244, 3) := by decide +kernel
theorem dX8_move_32 : decode cX8_move 32 = .ok (.aload_n 0, 1) := by decide +kernel
theorem dX8_move_33 : decode cX8_move 33 = .ok (.iconst 0, 1) := by decide +kernel
theorem dX8_move_34 : decode cX8_move 34 = .ok (.iconst 0, 1) := by decide +kernel
theorem dX8_move_35 : decode cX8_move 35 = .ok (.iload_n 3, 1) := by decide +kernel
theorem dX8_move_36 : decode cX8_move 36 = .ok (.invokestatic 130, 3) := by decide +kernel
theorem dX8_move_39 : decode cX8_move 39 = .ok (.invokevirtual 192, 3) := by decide +kernel
theorem dX8_move_42 : decode cX8_move 42 = .ok (.aload_n 0, 1) := by decide +kernel
theorem dX8_move_43 : decode cX8_move 43 = .ok (.bipush 101, 2) := by decide +kernel
theorem dX8_move_45 : decode cX8_move 45 = .ok (.aload_n 0, 1) := by decide +kernel
theorem dX8_move_46 : decode cX8_move 46 = .ok (.getfield 50, 3) := by decide +kernel
theorem dX8_move_49 : decode cX8_move 49 = .ok (.invokevirtual 178, 3) := by decide +kernel
theorem dX8_move_52 : decode cX8_move 52 = .ok (.aload_n 0, 1) := by decide +kernel
theorem dX8_move_53 : decode cX8_move 53 = .ok (.aload_n 0, 1) := by decide +kernel
theorem dX8_move_54 : decode cX8_move 54 = .ok (.getfield 77, 3) := by decide +kernel
theorem dX8_move_57 : decode cX8_move 57 = .ok (.iconst 0, 1) := by decide +kernel
theorem dX8_move_58 : decode cX8_move 58 = .ok (.aload_n 0, 1) := by decide +kernel
theorem dX8_move_59 : decode cX8_move 59 = .ok (.getfield 50, 3) := by decide +kernel
theorem dX8_move_62 : decode cX8_move 62 = .ok (.iconst 0, 1) := by decide +kernel
theorem dX8_move_63 : decode cX8_move 63 = .ok (.aload_n 0, 1) := by decide +kernel
theorem dX8_move_64 : decode cX8_move 64 = .ok (.getfield 77, 3) := by decide +kernel
theorem dX8_move_67 : decode cX8_move 67 = .ok (.invokevirtual 133, 3) := by decide +kernel
theorem dX8_move_70 : decode cX8_move 70 = .ok (.aload_n 0, 1) := by decide +kernel
theorem dX8_move_71 : decode cX8_move 71 = .ok (.iload_n 1, 1) := by decide +kernel
theorem dX8_move_72 : decode cX8_move 72 = .ok (.aload_n 0, 1) := by decide +kernel
theorem dX8_move_73 : decode cX8_move 73 = .ok (.getfield 77, 3) := by decide +kernel
theorem dX8_move_76 : decode cX8_move 76 = .ok (.aload_n 0, 1) := by decide +kernel
theorem dX8_move_77 : decode cX8_move 77 = .ok (.getfield 80, 3) := by decide +kernel
theorem dX8_move_80 : decode cX8_move 80 = .ok (.invokevirtual 237, 3) := by decide +kernel
theorem dX8_move_83 : decode cX8_move 83 = .ok (.ireturn, 1) := by decide +kernel
theorem dX8_stretch_0 : decode cX8_stretch 0 = .ok (.iload_n 1, 1) := by decide +kernel
theorem dX8_stretch_1 : decode cX8_stretch 1 = .ok (.invokestatic 234, 3) := by decide +kernel
theorem dX8_stretch_4 : decode cX8_stretch 4 = .ok (.ifCond .eq 10, 3) := by decide +kernel
theorem dX8_stretch_7 : decode cX8_stretch 7 = .ok (.iload_n 2, 1) := by decide +kernel
theorem dX8_stretch_8 : decode cX8_stretch 8 = .ok (.invokestatic 234, 3) := by decide +kernel
theorem dX8_stretch_11 : decode cX8_stretch 11 = .ok (.ifCond .ne 6, 3) := by decide +kernel
theorem dX8_stretch_14 : decode cX8_stretch 14 = .ok (.bipush (-2), 2) := by decide +kernel
theorem dX8_stretch_16 : decode cX8_stretch 16 = .ok (.ireturn, 1) := by decide +kernel
theorem dX8_stretch_17 : decode cX8_stretch 17 = .ok (.iload_n 3, 1) := by decide +kernel
theorem dX8_stretch_18 : decode cX8_stretch 18 = .ok (.iconst 1, 1) := by decide +kernel
theorem dX8_stretch_19 : decode cX8_stretch 19 = .ok (.sipush 9972, 3) := by decide +kernel
theorem dX8_stretch_22 : decode cX8_stretch 22 = .ok (.invokestatic 104, 3) := by decide +kernel
theorem dX8_stretch_25 : decode cX8_stretch 25 = .ok (.ifCond .ne 6, 3) := by decide +kernel
theorem dX8_stretch_28 : decode cX8_stretch 28 = .ok (.bipush (-3), 2) := by decide +kernel
theorem dX8_stretch_30 : decode cX8_stretch 30 = .ok (.ireturn, 1) := by decide +kernel
theorem dX8_stretch_31 : decode cX8_stretch 31 = .ok (.aload_n 0, 1) := by decide +kernel
theorem dX8_stretch_32 : decode cX8_stretch 32 = .ok (.iload_n 2, 1) := by decide +kernel
theorem dX8_stretch_33 : decode cX8_stretch 33 = .ok (.invokevirtual 244, 3) := by decide +kernel
theorem dX8_stretch_36 : decode cX8_stretch 36 = .ok (.iconst 1, 1) := by decide +kernel
theorem dX8_stretch_37 : decode cX8_stretch 37 = .ok (.istore 4, 2) := by decide +kernel
theorem dX8_stretch_39 : decode cX8_stretch 39 = .ok (.iconst 0, 1) := by decide +kernel
theorem dX8_stretch_40 : decode cX8_stretch 40 = .ok (.istore 5, 2) := by decide +kernel
theorem dX8_stretch_42 : decode cX8_stretch 42 = .ok (.iload 5, 2) := by decide +kernel
theorem dX8_stretch_44 : decode cX8_stretch 44 = .ok (.bipush 9, 2) := by decide +kernel
theorem dX8_stretch_46 : decode cX8_stretch 46 = .ok (.if_icmp .ge 58, 3) := by decide +kernel
theorem dX8_stretch_49 : decode cX8_stretch 49 = .ok (.aload_n 0, 1) := by decide +kernel
theorem dX8_stretch_50 : decode cX8_stretch 50 = .ok (.getfield 77, 3) := by decide +kernel
theorem dX8_stretch_53 : decode cX8_stretch 53 = .ok (.iload 5, 2) := by decide +kernel
theorem dX8_stretch_55 : decode cX8_stretch 55 = .ok (.aload_n 0, 1) := by decide +kernel
theorem dX8_stretch_56 : decode cX8_stretch 56 = .ok (.getfield 77, 3) := by decide +kernel
theorem dX8_stretch_59 : decode cX8_stretch 59 = .ok (.iload 5, 2) := by decide +kernel
theorem dX8_stretch_61 : decode cX8_stretch 61 = .ok (.iaload, 1) := by decide +kernel
theorem dX8_stretch_62 : decode cX8_stretch 62 = .ok (.iload 4, 2) := by decide +kernel
theorem dX8_stretch_64 : decode cX8_stretch 64 = .ok (.invokestatic 108, 3) := by decide +kernel
theorem dX8_stretch_67 : decode cX8_stretch 67 = .ok (.iastore, 1) := by decide +kernel
theorem dX8_stretch_68 : decode cX8_stretch 68 = .ok (.aload_n 0, 1) := by decide +kernel
theorem dX8_stretch_69 : decode cX8_stretch 69 = .ok (.getfield 80, 3) := by decide +kernel
theorem dX8_stretch_72 : decode cX8_stretch 72 = .ok (.iload 5, 2) := by decide +kernel
theorem dX8_stretch_74 : decode cX8_stretch 74 = .ok (.aload_n 0, 1) := by decide +kernel
theorem dX8_stretch_75 : decode cX8_stretch 75 = .ok (.getfield 80, 3) := by decide +kernel
theorem dX8_stretch_78 : decode cX8_stretch 78 = .ok (.iload 5, 2) := by decide +kernel
theorem dX8_stretch_80 : decode cX8_stretch 80 = .ok (.iaload, 1) := by decide +kernel
theorem dX8_stretch_81 : decode cX8_stretch 81 = .ok (.iload 4, 2) := by decide +kernel
theorem dX8_stretch_83 : decode cX8_stretch 83 = .ok (.invokestatic 108, 3) := by decide +kernel
theorem dX8_stretch_86 : decode cX8_stretch 86 = .ok (.iastore, 1) := by decide +kernel
theorem dX8_stretch_87 : decode cX8_stretch 87 = .ok (.iload 4, 2) := by decide +kernel
theorem dX8_stretch_89 : decode cX8_stretch 89 = .ok (.iload_n 3, 1) := by decide +kernel
theorem dX8_stretch_90 : decode cX8_stretch 90 = .ok (.invokestatic 126, 3) := by decide +kernel
theorem dX8_stretch_93 : decode cX8_stretch 93 = .ok (.invokestatic 108, 3) := by decide +kernel
theorem dX8_stretch_96 : decode cX8_stretch 96 = .ok (.istore 4, 2) := by decide +kernel
theorem dX8_stretch_98 : decode cX8_stretch 98 = .ok (.iinc 5 1, 3) := by decide +kernel
theorem dX8_stretch_101 : decode cX8_stretch 101 = .ok (.goto (-59), 3) := by decide +kernel
theorem dX8_stretch_104 : decode cX8_stretch 104 = .ok (.aload_n 0, 1) := by decide +kernel
theorem dX8_stretch_105 : decode cX8_stretch 105 = .ok (.iload_n 1, 1) := by decide +kernel
theorem dX8_stretch_106 : decode cX8_stretch 106 = .ok (.aload_n 0, 1) := by decide +kernel
theorem dX8_stretch_107 : decode cX8_stretch 107 = .ok (.getfield 77, 3) := by decide +kernel
theorem dX8_stretch_110 : decode cX8_stretch 110 = .ok (.aload_n 0, 1) := by decide +kernel
theorem dX8_stretch_111 : decode cX8_stretch 111 = .ok (.getfield 80, 3) := by decide +kernel
theorem dX8_stretch_114 : decode cX8_stretch 114 = .ok (.invokevirtual 237, 3) := by decide +kernel
theorem dX8_stretch_117 : decode cX8_stretch 117 = .ok (.ireturn, 1) := by decide +kernel
theorem dX8_series_0 : decode cX8_series 0 = .ok (.iload_n 1, 1) := by decide +kernel
theorem dX8_series_1 : decode cX8_series 1 = .ok (.invokestatic 234, 3) := by decide +kernel
theorem dX8_series_4 : decode cX8_series 4 = .ok (.ifCond .ne 6, 3) := by decide +kernel
theorem dX8_series_7 : decode cX8_series 7 = .ok (.bipush (-2), 2) := by decide +kernel
theorem dX8_series_9 : decode cX8_series 9 = .ok (.ireturn, 1) := by decide +kernel
theorem dX8_series_10 : decode cX8_series 10 = .ok (.iload_n 2, 1) := by decide +kernel
theorem dX8_series_11 : decode cX8_series 11 = .ok (.iconst 0, 1) := by decide +kernel
theorem dX8_series_12 : decode cX8_series 12 = .ok (.iconst 3, 1) := by decide +kernel
theorem dX8_series_13 : decode cX8_series 13 = .ok (.invokestatic 104, 3) := by decide +kernel
theorem dX8_series_16 : decode cX8_series 16 = .ok (.ifCond .eq 10, 3) := by decide +kernel
theorem dX8_series_19 : decode cX8_series 19 = .ok (.iload_n 3, 1) := by decide +kernel
theorem dX8_series_20 : decode cX8_series 20 = .ok (.invokestatic 250, 3) := by decide +kernel
theorem dX8_series_23 : decode cX8_series 23 = .ok (.ifCond .ne 6, 3) := by decide +kernel
theorem dX8_series_26 : decode cX8_series 26 = .ok (.bipush (-3), 2) := by decide +kernel
theorem dX8_series_28 : decode cX8_series 28 = .ok (.ireturn, 1) := by decide +kernel
theorem dX8_series_29 : decode cX8_series 29 = .ok (.iload_n 2, 1) := by decide +kernel
theorem dX8_series_30 : decode cX8_series 30 = .ok (.iconst 2, 1) := by decide +kernel
theorem dX8_series_31 : decode cX8_series 31 = .ok (.if_icmp .ge 33, 3) := by decide +kernel
theorem dX8_series_34 : decode cX8_series 34 = .ok (.iload_n 2, 1) := by decide +kernel
theorem dX8_series_35 : decode cX8_series 35 = .ok (.ifCond .ne 17, 3) := by decide +kernel
theorem dX8_series_38 : decode cX8_series 38 = .ok (.aload_n 0, 1) := by decide +kernel
theorem dX8_series_39 : decode cX8_series 39 = .ok (.getfield 7, 3) := by decide +kernel
theorem dX8_series_42 : decode cX8_series 42 = .ok (.bipush 9, 2) := by decide +kernel
theorem dX8_series_44 : decode cX8_series 44 = .ok (.iload_n 1, 1) := by decide +kernel
theorem dX8_series_45 : decode cX8_series 45 = .ok (.imul, 1) := by decide +kernel
theorem dX8_series_46 : decode cX8_series 46 = .ok (.iload_n 3, 1) := by decide +kernel
theorem dX8_series_47 : decode cX8_series 47 = .ok (.iadd, 1) := by decide +kernel
theorem dX8_series_48 : decode cX8_series 48 = .ok (.iaload, 1) := by decide +kernel
theorem dX8_series_49 : decode cX8_series 49 = .ok (.goto 14, 3) := by decide +kernel
theorem dX8_series_52 : decode cX8_series 52 = .ok (.aload_n 0, 1) := by decide +kernel
theorem dX8_series_53 : decode cX8_series 53 = .ok (.getfield 13, 3) := by decide +kernel
theorem dX8_series_56 : decode cX8_series 56 = .ok (.bipush 9, 2) := by decide +kernel
theorem dX8_series_58 : decode cX8_series 58 = .ok (.iload_n 1, 1) := by decide +kernel
theorem dX8_series_59 : decode cX8_series 59 = .ok (.imul, 1) := by decide +kernel
theorem dX8_series_60 : decode cX8_series 60 = .ok (.iload_n 3, 1) := by decide +kernel
theorem dX8_series_61 : decode cX8_series 61 = .ok (.iadd, 1) := by decide +kernel
theorem dX8_series_62 : decode cX8_series 62 = .ok (.iaload, 1) := by decide +kernel
theorem dX8_series_63 : decode cX8_series 63 = .ok (.ireturn, 1) := by decide +kernel
theorem dX8_series_64 : decode cX8_series 64 = .ok (.aload_n 0, 1) := by decide +kernel
theorem dX8_series_65 : decode cX8_series 65 = .ok (.invokevirtual 241, 3) := by decide +kernel
theorem dX8_series_68 : decode cX8_series 68 = .ok (.iload_n 2, 1) := by decide +kernel
theorem dX8_series_69 : decode cX8_series 69 = .ok (.iconst 2, 1) := by decide +kernel
theorem dX8_series_70 : decode cX8_series 70 = .ok (.if_icmp .ne 31, 3) := by decide +kernel
theorem dX8_series_73 : decode cX8_series 73 = .ok (.aload_n 0, 1) := by decide +kernel
theorem dX8_series_74 : decode cX8_series 74 = .ok (.aload_n 0, 1) := by decide +kernel
theorem dX8_series_75 : decode cX8_series 75 = .ok (.getfield 83, 3) := by decide +kernel
theorem dX8_series_78 : decode cX8_series 78 = .ok (.iconst 0, 1) := by decide +kernel
theorem dX8_series_79 : decode cX8_series 79 = .ok (.aload_n 0, 1) := by decide +kernel
theorem dX8_series_80 : decode cX8_series 80 = .ok (.getfield 7, 3) := by decide +kernel
theorem dX8_series_83 : decode cX8_series 83 = .ok (.bipush 9, 2) := by decide +kernel
theorem dX8_series_85 : decode cX8_series 85 = .ok (.iload_n 1, 1) := by decide +kernel
theorem dX8_series_86 : decode cX8_series 86 = .ok (.imul, 1) := by decide +kernel
theorem dX8_series_87 : decode cX8_series 87 = .ok (.aload_n 0, 1) := by decide +kernel
theorem dX8_series_88 : decode cX8_series 88 = .ok (.getfield 77, 3) := by decide +kernel
theorem dX8_series_91 : decode cX8_series 91 = .ok (.invokevirtual 158, 3) := by decide +kernel
theorem dX8_series_94 : decode cX8_series 94 = .ok (.aload_n 0, 1) := by decide +kernel
theorem dX8_series_95 : decode cX8_series 95 = .ok (.getfield 77, 3) := by decide +kernel
theorem dX8_series_98 : decode cX8_series 98 = .ok (.iload_n 3, 1) := by decide +kernel
theorem dX8_series_99 : decode cX8_series 99 = .ok (.iaload, 1) := by decide +kernel
theorem dX8_series_100 : decode cX8_series 100 = .ok (.ireturn, 1) := by decide +kernel
theorem dX8_series_101 : decode cX8_series 101 = .ok (.aload_n 0, 1) := by decide +kernel
theorem dX8_series_102 : decode cX8_series 102 = .ok (.aload_n 0, 1) := by decide +kernel
theorem dX8_series_103 : decode cX8_series 103 = .ok (.getfield 13, 3) := by decide +kernel
theorem dX8_series_106 : decode cX8_series 106 = .ok (.bipush 9, 2) := by decide +kernel
theorem dX8_series_108 : decode cX8_series 108 = .ok (.iload_n 1, 1) := by decide +kernel
theorem dX8_series_109 : decode cX8_series 109 = .ok (.imul, 1) := by decide +kernel
theorem dX8_series_110 : decode cX8_series 110 = .ok (.aload_n 0, 1) := by decide +kernel
theorem dX8_series_111 : decode cX8_series 111 = .ok (.getfield 80, 3) := by decide +kernel
theorem dX8_series_114 : decode cX8_series 114 = .ok (.invokevirtual 171, 3) := by decide +kernel
theorem dX8_series_117 : decode cX8_series 117 = .ok (.aload_n 0, 1) := by decide +kernel
theorem dX8_series_118 : decode cX8_series 118 = .ok (.getfield 80, 3) := by decide +kernel
theorem dX8_series_121 : decode cX8_series 121 = .ok (.iload_n 3, 1) := by decide +kernel
theorem dX8_series_122 : decode cX8_series 122 = .ok (.iaload, 1) := by decide +kernel
theorem dX8_series_123 : decode cX8_series 123 = .ok (.ireturn, 1) := by decide +kernel
theorem dX8_falls_0 : decode cX8_falls 0 = .ok (.iconst 1, 1) := by decide +kernel
theorem dX8_falls_1 : decode cX8_falls 1 = .ok (.istore_n 2, 1) := by decide +kernel
theorem dX8_falls_2 : decode cX8_falls 2 = .ok (.iconst 1, 1) := by decide +kernel
theorem dX8_falls_3 : decode cX8_falls 3 = .ok (.istore_n 3, 1) := by decide +kernel
theorem dX8_falls_4 : decode cX8_falls 4 = .ok (.iload_n 3, 1) := by decide +kernel
theorem dX8_falls_5 : decode cX8_falls 5 = .ok (.iload_n 1, 1) := by decide +kernel
theorem dX8_falls_6 : decode cX8_falls 6 = .ok (.if_icmp .gt 17, 3) := by decide +kernel
theorem dX8_falls_9 : decode cX8_falls 9 = .ok (.iload_n 2, 1) := by decide +kernel
theorem dX8_falls_10 : decode cX8_falls 10 = .ok (.iload_n 0, 1) := by decide +kernel
theorem dX8_falls_11 : decode cX8_falls 11 = .ok (.iload_n 3, 1) := by decide +kernel
theorem dX8_falls_12 : decode cX8_falls 12 = .ok (.iadd, 1) := by decide +kernel
theorem dX8_falls_13 : decode cX8_falls 13 = .ok (.invokestatic 108, 3) := by decide +kernel
theorem dX8_falls_16 : decode cX8_falls 16 = .ok (.istore_n 2, 1) := by decide +kernel
theorem dX8_falls_17 : decode cX8_falls 17 = .ok (.iinc 3 1, 3) := by decide +kernel
theorem dX8_falls_20 : decode cX8_falls 20 = .ok (.goto (-16), 3) := by decide +kernel
theorem dX8_falls_23 : decode cX8_falls 23 = .ok (.iload_n 2, 1) := by decide +kernel
theorem dX8_falls_24 : decode cX8_falls 24 = .ok (.ireturn, 1) := by decide +kernel
theorem dX8_solves_0 : decode cX8_solves 0 = .ok (.bipush 9, 2) := by decide +kernel
theorem dX8_solves_2 : decode cX8_solves 2 = .ok (.iload_n 1, 1) := by decide +kernel
theorem dX8_solves_3 : decode cX8_solves 3 = .ok (.imul, 1) := by decide +kernel
theorem dX8_solves_4 : decode cX8_solves 4 = .ok (.istore 4, 2) := by decide +kernel
theorem dX8_solves_6 : decode cX8_solves 6 = .ok (.bipush 7, 2) := by decide +kernel
theorem dX8_solves_8 : decode cX8_solves 8 = .ok (.istore 5, 2) := by decide +kernel
theorem dX8_solves_10 : decode cX8_solves 10 = .ok (.iload 5, 2) := by decide +kernel
theorem dX8_solves_12 : decode cX8_solves 12 = .ok (.ifCond .lt 101, 3) := by decide +kernel
theorem dX8_solves_15 : decode cX8_solves 15 = .ok (.aload_n 2, 1) := by decide +kernel
theorem dX8_solves_16 : decode cX8_solves 16 = .ok (.iload 5, 2) := by decide +kernel
theorem dX8_solves_18 : decode cX8_solves 18 = .ok (.iaload, 1) := by decide +kernel
theorem dX8_solves_19 : decode cX8_solves 19 = .ok (.istore 6, 2) := by decide +kernel
theorem dX8_solves_21 : decode cX8_solves 21 = .ok (.iconst 2, 1) := by decide +kernel
theorem dX8_solves_22 : decode cX8_solves 22 = .ok (.istore 7, 2) := by decide +kernel
theorem dX8_solves_24 : decode cX8_solves 24 = .ok (.iload 5, 2) := by decide +kernel
theorem dX8_solves_26 : decode cX8_solves 26 = .ok (.iload 7, 2) := by decide +kernel
theorem dX8_solves_28 : decode cX8_solves 28 = .ok (.iadd, 1) := by decide +kernel
theorem dX8_solves_29 : decode cX8_solves 29 = .ok (.bipush 9, 2) := by decide +kernel
theorem dX8_solves_31 : decode cX8_solves 31 = .ok (.if_icmp .ge 46, 3) := by decide +kernel
theorem dX8_solves_34 : decode cX8_solves 34 = .ok (.iload 6, 2) := by decide +kernel
theorem dX8_solves_36 : decode cX8_solves 36 = .ok (.aload_n 0, 1) := by decide +kernel
theorem dX8_solves_37 : decode cX8_solves 37 = .ok (.getfield 13, 3) := by decide +kernel
theorem dX8_solves_40 : decode cX8_solves 40 = .ok (.iload 4, 2) := by decide +kernel
theorem dX8_solves_42 : decode cX8_solves 42 = .ok (.iload 7, 2) := by decide +kernel
theorem dX8_solves_44 : decode cX8_solves 44 = .ok (.iadd, 1) := by decide +kernel
theorem dX8_solves_45 : decode cX8_solves 45 = .ok (.iaload, 1) := by decide +kernel
theorem dX8_solves_46 : decode cX8_solves 46 = .ok (.iload 5, 2) := by decide +kernel
theorem dX8_solves_48 : decode cX8_solves 48 = .ok (.iload 7, 2) := by decide +kernel
theorem dX8_solves_50 : decode cX8_solves 50 = .ok (.invokestatic 253, 3) := by decide +kernel
theorem dX8_solves_53 : decode cX8_solves 53 = .ok (.aload_n 3, 1) := by decide +kernel
theorem dX8_solves_54 : decode cX8_solves 54 = .ok (.iload 5, 2) := by decide +kernel
theorem dX8_solves_56 : decode cX8_solves 56 = .ok (.iload 7, 2) := by decide +kernel
theorem dX8_solves_58 : decode cX8_solves 58 = .ok (.iadd, 1) := by decide +kernel
theorem dX8_solves_59 : decode cX8_solves 59 = .ok (.iaload, 1) := by decide +kernel
theorem dX8_solves_60 : decode cX8_solves 60 = .ok (.invokestatic 108, 3) := by decide +kernel
theorem dX8_solves_63 : decode cX8_solves 63 = .ok (.invokestatic 108, 3) := by decide +kernel
theorem dX8_solves_66 : decode cX8_solves 66 = .ok (.invokestatic 130, 3) := by decide +kernel
theorem dX8_solves_69 : decode cX8_solves 69 = .ok (.istore 6, 2) := by decide +kernel
theorem dX8_solves_71 : decode cX8_solves 71 = .ok (.iinc 7 1, 3) := by decide +kernel
theorem dX8_solves_74 : decode cX8_solves 74 = .ok (.goto (-50), 3) := by decide +kernel
theorem dX8_solves_77 : decode cX8_solves 77 = .ok (.aload_n 3, 1) := by decide +kernel
theorem dX8_solves_78 : decode cX8_solves 78 = .ok (.iload 5, 2) := by decide +kernel
theorem dX8_solves_80 : decode cX8_solves 80 = .ok (.iconst 1, 1) := by decide +kernel
theorem dX8_solves_81 : decode cX8_solves 81 = .ok (.iadd, 1) := by decide +kernel
theorem dX8_solves_82 : decode cX8_solves 82 = .ok (.iload 6, 2) := by decide +kernel
theorem dX8_solves_84 : decode cX8_solves 84 = .ok (.aload_n 0, 1) := by decide +kernel
theorem dX8_solves_85 : decode cX8_solves 85 = .ok (.getfield 13, 3) := by decide +kernel
theorem dX8_solves_88 : decode cX8_solves 88 = .ok (.iload 4, 2) := by decide +kernel
theorem dX8_solves_90 : decode cX8_solves 90 = .ok (.iconst 1, 1) := by decide +kernel
theorem dX8_solves_91 : decode cX8_solves 91 = .ok (.iadd, 1) := by decide +kernel
theorem dX8_solves_92 : decode cX8_solves 92 = .ok (.iaload, 1) := by decide +kernel
theorem dX8_solves_93 : decode cX8_solves 93 = .ok (.iload 5, 2) := by decide +kernel
theorem dX8_solves_95 : decode cX8_solves 95 = .ok (.iconst 1, 1) := by decide +kernel
theorem dX8_solves_96 : decode cX8_solves 96 = .ok (.iadd, 1) := by decide +kernel
theorem dX8_solves_97 : decode cX8_solves 97 = .ok (.invokestatic 108, 3) := by decide +kernel
theorem dX8_solves_100 : decode cX8_solves 100 = .ok (.invokestatic 126, 3) := by decide +kernel
theorem dX8_solves_103 : decode cX8_solves 103 = .ok (.invokestatic 108, 3) := by decide +kernel
theorem dX8_solves_106 : decode cX8_solves 106 = .ok (.iastore, 1) := by decide +kernel
theorem dX8_solves_107 : decode cX8_solves 107 = .ok (.iinc 5 (-1), 3) := by decide +kernel
theorem dX8_solves_110 : decode cX8_solves 110 = .ok (.goto (-100), 3) := by decide +kernel
theorem dX8_solves_113 : decode cX8_solves 113 = .ok (.return_, 1) := by decide +kernel
theorem dX8_laysRow_0 : decode cX8_laysRow 0 = .ok (.bipush 9, 2) := by decide +kernel
theorem dX8_laysRow_2 : decode cX8_laysRow 2 = .ok (.iload_n 1, 1) := by decide +kernel
theorem dX8_laysRow_3 : decode cX8_laysRow 3 = .ok (.imul, 1) := by decide +kernel
theorem dX8_laysRow_4 : decode cX8_laysRow 4 = .ok (.istore_n 3, 1) := by decide +kernel
theorem dX8_laysRow_5 : decode cX8_laysRow 5 = .ok (.iconst 0, 1) := by decide +kernel
theorem dX8_laysRow_6 : decode cX8_laysRow 6 = .ok (.istore 4, 2) := by decide +kernel
theorem dX8_laysRow_8 : decode cX8_laysRow 8 = .ok (.iload 4, 2) := by decide +kernel
theorem dX8_laysRow_10 : decode cX8_laysRow 10 = .ok (.bipush 9, 2) := by decide +kernel
theorem dX8_laysRow_12 : decode cX8_laysRow 12 = .ok (.if_icmp .ge 179, 3) := by decide +kernel
theorem dX8_laysRow_15 : decode cX8_laysRow 15 = .ok (.iconst 0, 1) := by decide +kernel
theorem dX8_laysRow_16 : decode cX8_laysRow 16 = .ok (.istore 5, 2) := by decide +kernel
theorem dX8_laysRow_18 : decode cX8_laysRow 18 = .ok (.iload 5, 2) := by decide +kernel
theorem dX8_laysRow_20 : decode cX8_laysRow 20 = .ok (.bipush 9, 2) := by decide +kernel
theorem dX8_laysRow_22 : decode cX8_laysRow 22 = .ok (.if_icmp .ge 51, 3) := by decide +kernel
theorem dX8_laysRow_25 : decode cX8_laysRow 25 = .ok (.aload_n 0, 1) := by decide +kernel
theorem dX8_laysRow_26 : decode cX8_laysRow 26 = .ok (.getfield 92, 3) := by decide +kernel
theorem dX8_laysRow_29 : decode cX8_laysRow 29 = .ok (.iload 5, 2) := by decide +kernel
theorem dX8_laysRow_31 : decode cX8_laysRow 31 = .ok (.iload 4, 2) := by decide +kernel
theorem dX8_laysRow_33 : decode cX8_laysRow 33 = .ok (.ifCond .ne 7, 3) := by decide +kernel
theorem dX8_laysRow_36 : decode cX8_laysRow 36 = .ok (.iconst 0, 1) := by decide +kernel
theorem dX8_laysRow_37 : decode cX8_laysRow 37 = .ok (.goto 21, 3) := by decide +kernel
theorem dX8_laysRow_40 : decode cX8_laysRow 40 = .ok (.iload 4, 2) := by decide +kernel
theorem dX8_laysRow_42 : decode cX8_laysRow 42 = .ok (.aload_n 2, 1) := by decide +kernel
theorem dX8_laysRow_43 : decode cX8_laysRow 43 = .ok (.bipush 9, 2) := by decide +kernel
theorem dX8_laysRow_45 : decode cX8_laysRow 45 = .ok (.iload 4, 2) := by decide +kernel
theorem dX8_laysRow_47 : decode cX8_laysRow 47 = .ok (.imul, 1) := by decide +kernel
theorem dX8_laysRow_48 : decode cX8_laysRow 48 = .ok (.bipush 9, 2) := by decide +kernel
theorem dX8_laysRow_50 : decode cX8_laysRow 50 = .ok (.isub, 1) := by decide +kernel
theorem dX8_laysRow_51 : decode cX8_laysRow 51 = .ok (.iload 5, 2) := by decide +kernel
theorem dX8_laysRow_53 : decode cX8_laysRow 53 = .ok (.iadd, 1) := by decide +kernel
theorem dX8_laysRow_54 : decode cX8_laysRow 54 = .ok (.iaload, 1) := by decide +kernel
theorem dX8_laysRow_55 : decode cX8_laysRow 55 = .ok (.invokestatic 108, 3) := by decide +kernel
theorem dX8_laysRow_58 : decode cX8_laysRow 58 = .ok (.iastore, 1) := by decide +kernel
theorem dX8_laysRow_59 : decode cX8_laysRow 59 = .ok (.aload_n 0, 1) := by decide +kernel
theorem dX8_laysRow_60 : decode cX8_laysRow 60 = .ok (.getfield 95, 3) := by decide +kernel
theorem dX8_laysRow_63 : decode cX8_laysRow 63 = .ok (.iload 5, 2) := by decide +kernel
theorem dX8_laysRow_65 : decode cX8_laysRow 65 = .ok (.iconst 0, 1) := by decide +kernel
theorem dX8_laysRow_66 : decode cX8_laysRow 66 = .ok (.iastore, 1) := by decide +kernel
theorem dX8_laysRow_67 : decode cX8_laysRow 67 = .ok (.iinc 5 1, 3) := by decide +kernel
theorem dX8_laysRow_70 : decode cX8_laysRow 70 = .ok (.goto (-52), 3) := by decide +kernel
theorem dX8_laysRow_73 : decode cX8_laysRow 73 = .ok (.aload_n 0, 1) := by decide +kernel
theorem dX8_laysRow_74 : decode cX8_laysRow 74 = .ok (.iload_n 1, 1) := by decide +kernel
theorem dX8_laysRow_75 : decode cX8_laysRow 75 = .ok (.aload_n 0, 1) := by decide +kernel
theorem dX8_laysRow_76 : decode cX8_laysRow 76 = .ok (.getfield 92, 3) := by decide +kernel
theorem dX8_laysRow_79 : decode cX8_laysRow 79 = .ok (.aload_n 0, 1) := by decide +kernel
theorem dX8_laysRow_80 : decode cX8_laysRow 80 = .ok (.getfield 95, 3) := by decide +kernel
theorem dX8_laysRow_83 : decode cX8_laysRow 83 = .ok (.invokevirtual 256, 3) := by decide +kernel
theorem dX8_laysRow_86 : decode cX8_laysRow 86 = .ok (.iload 4, 2) := by decide +kernel
theorem dX8_laysRow_88 : decode cX8_laysRow 88 = .ok (.ifCond .ne 7, 3) := by decide +kernel
theorem dX8_laysRow_91 : decode cX8_laysRow 91 = .ok (.iconst 1, 1) := by decide +kernel
theorem dX8_laysRow_92 : decode cX8_laysRow 92 = .ok (.goto 4, 3) := by decide +kernel
theorem dX8_laysRow_95 : decode cX8_laysRow 95 = .ok (.iconst 0, 1) := by decide +kernel
theorem dX8_laysRow_96 : decode cX8_laysRow 96 = .ok (.istore 5, 2) := by decide +kernel
theorem dX8_laysRow_98 : decode cX8_laysRow 98 = .ok (.iconst 1, 1) := by decide +kernel
theorem dX8_laysRow_99 : decode cX8_laysRow 99 = .ok (.istore 6, 2) := by decide +kernel
theorem dX8_laysRow_101 : decode cX8_laysRow 101 = .ok (.iload 6, 2) := by decide +kernel
theorem dX8_laysRow_103 : decode cX8_laysRow 103 = .ok (.bipush 9, 2) := by decide +kernel
theorem dX8_laysRow_105 : decode cX8_laysRow 105 = .ok (.if_icmp .ge 44, 3) := by decide +kernel
theorem dX8_laysRow_108 : decode cX8_laysRow 108 = .ok (.iload 5, 2) := by decide +kernel
theorem dX8_laysRow_110 : decode cX8_laysRow 110 = .ok (.aload_n 0, 1) := by decide +kernel
theorem dX8_laysRow_111 : decode cX8_laysRow 111 = .ok (.getfield 7, 3) := by decide +kernel
theorem dX8_laysRow_114 : decode cX8_laysRow 114 = .ok (.iload_n 3, 1) := by decide +kernel
theorem dX8_laysRow_115 : decode cX8_laysRow 115 = .ok (.iload 6, 2) := by decide +kernel
theorem dX8_laysRow_117 : decode cX8_laysRow 117 = .ok (.iadd, 1) := by decide +kernel
theorem dX8_laysRow_118 : decode cX8_laysRow 118 = .ok (.iaload, 1) := by decide +kernel
theorem dX8_laysRow_119 : decode cX8_laysRow 119 = .ok (.iconst 0, 1) := by decide +kernel
theorem dX8_laysRow_120 : decode cX8_laysRow 120 = .ok (.iload 6, 2) := by decide +kernel
theorem dX8_laysRow_122 : decode cX8_laysRow 122 = .ok (.invokestatic 253, 3) := by decide +kernel
theorem dX8_laysRow_125 : decode cX8_laysRow 125 = .ok (.aload_n 0, 1) := by decide +kernel
theorem dX8_laysRow_126 : decode cX8_laysRow 126 = .ok (.getfield 95, 3) := by decide +kernel
theorem dX8_laysRow_129 : decode cX8_laysRow 129 = .ok (.iload 6, 2) := by decide +kernel
theorem dX8_laysRow_131 : decode cX8_laysRow 131 = .ok (.iaload, 1) := by decide +kernel
theorem dX8_laysRow_132 : decode cX8_laysRow 132 = .ok (.invokestatic 108, 3) := by decide +kernel
theorem dX8_laysRow_135 : decode cX8_laysRow 135 = .ok (.invokestatic 108, 3) := by decide +kernel
theorem dX8_laysRow_138 : decode cX8_laysRow 138 = .ok (.invokestatic 130, 3) := by decide +kernel
theorem dX8_laysRow_141 : decode cX8_laysRow 141 = .ok (.istore 5, 2) := by decide +kernel
theorem dX8_laysRow_143 : decode cX8_laysRow 143 = .ok (.iinc 6 1, 3) := by decide +kernel
theorem dX8_laysRow_146 : decode cX8_laysRow 146 = .ok (.goto (-45), 3) := by decide +kernel
theorem dX8_laysRow_149 : decode cX8_laysRow 149 = .ok (.aload_n 0, 1) := by decide +kernel
theorem dX8_laysRow_150 : decode cX8_laysRow 150 = .ok (.getfield 95, 3) := by decide +kernel
theorem dX8_laysRow_153 : decode cX8_laysRow 153 = .ok (.iconst 0, 1) := by decide +kernel
theorem dX8_laysRow_154 : decode cX8_laysRow 154 = .ok (.iload 5, 2) := by decide +kernel
theorem dX8_laysRow_156 : decode cX8_laysRow 156 = .ok (.aload_n 0, 1) := by decide +kernel
theorem dX8_laysRow_157 : decode cX8_laysRow 157 = .ok (.getfield 7, 3) := by decide +kernel
theorem dX8_laysRow_160 : decode cX8_laysRow 160 = .ok (.iload_n 3, 1) := by decide +kernel
theorem dX8_laysRow_161 : decode cX8_laysRow 161 = .ok (.iaload, 1) := by decide +kernel
theorem dX8_laysRow_162 : decode cX8_laysRow 162 = .ok (.invokestatic 126, 3) := by decide +kernel
theorem dX8_laysRow_165 : decode cX8_laysRow 165 = .ok (.invokestatic 108, 3) := by decide +kernel
theorem dX8_laysRow_168 : decode cX8_laysRow 168 = .ok (.iastore, 1) := by decide +kernel
theorem dX8_laysRow_169 : decode cX8_laysRow 169 = .ok (.aload_n 0, 1) := by decide +kernel
theorem dX8_laysRow_170 : decode cX8_laysRow 170 = .ok (.getfield 95, 3) := by decide +kernel
theorem dX8_laysRow_173 : decode cX8_laysRow 173 = .ok (.iconst 0, 1) := by decide +kernel
theorem dX8_laysRow_174 : decode cX8_laysRow 174 = .ok (.aload_n 2, 1) := by decide +kernel
theorem dX8_laysRow_175 : decode cX8_laysRow 175 = .ok (.bipush 9, 2) := by decide +kernel
theorem dX8_laysRow_177 : decode cX8_laysRow 177 = .ok (.iload 4, 2) := by decide +kernel
theorem dX8_laysRow_179 : decode cX8_laysRow 179 = .ok (.imul, 1) := by decide +kernel
theorem dX8_laysRow_180 : decode cX8_laysRow 180 = .ok (.bipush 9, 2) := by decide +kernel
theorem dX8_laysRow_182 : decode cX8_laysRow 182 = .ok (.invokestatic 112, 3) := by decide +kernel
theorem dX8_laysRow_185 : decode cX8_laysRow 185 = .ok (.iinc 4 1, 3) := by decide +kernel
theorem dX8_laysRow_188 : decode cX8_laysRow 188 = .ok (.goto (-180), 3) := by decide +kernel
theorem dX8_laysRow_191 : decode cX8_laysRow 191 = .ok (.return_, 1) := by decide +kernel
theorem dX8_polynomial_0 : decode cX8_polynomial 0 = .ok (.iload_n 1, 1) := by decide +kernel
theorem dX8_polynomial_1 : decode cX8_polynomial 1 = .ok (.invokestatic 234, 3) := by decide +kernel
theorem dX8_polynomial_4 : decode cX8_polynomial 4 = .ok (.ifCond .ne 6, 3) := by decide +kernel
theorem dX8_polynomial_7 : decode cX8_polynomial 7 = .ok (.bipush (-2), 2) := by decide +kernel
theorem dX8_polynomial_9 : decode cX8_polynomial 9 = .ok (.ireturn, 1) := by decide +kernel
theorem dX8_polynomial_10 : decode cX8_polynomial 10 = .ok (.iload_n 2, 1) := by decide +kernel
theorem dX8_polynomial_11 : decode cX8_polynomial 11 = .ok (.invokestatic 250, 3) := by decide +kernel
theorem dX8_polynomial_14 : decode cX8_polynomial 14 = .ok (.ifCond .eq 10, 3) := by decide +kernel
theorem dX8_polynomial_17 : decode cX8_polynomial 17 = .ok (.iload_n 3, 1) := by decide +kernel
theorem dX8_polynomial_18 : decode cX8_polynomial 18 = .ok (.invokestatic 250, 3) := by decide +kernel
theorem dX8_polynomial_21 : decode cX8_polynomial 21 = .ok (.ifCond .ne 6, 3) := by decide +kernel
theorem dX8_polynomial_24 : decode cX8_polynomial 24 = .ok (.bipush (-3), 2) := by decide +kernel
theorem dX8_polynomial_26 : decode cX8_polynomial 26 = .ok (.ireturn, 1) := by decide +kernel
theorem dX8_polynomial_27 : decode cX8_polynomial 27 = .ok (.aload_n 0, 1) := by decide +kernel
theorem dX8_polynomial_28 : decode cX8_polynomial 28 = .ok (.iload_n 1, 1) := by decide +kernel
theorem dX8_polynomial_29 : decode cX8_polynomial 29 = .ok (.aload_n 0, 1) := by decide +kernel
theorem dX8_polynomial_30 : decode cX8_polynomial 30 = .ok (.getfield 86, 3) := by decide +kernel
theorem dX8_polynomial_33 : decode cX8_polynomial 33 = .ok (.invokevirtual 260, 3) := by decide +kernel
theorem dX8_polynomial_36 : decode cX8_polynomial 36 = .ok (.aload_n 0, 1) := by decide +kernel
theorem dX8_polynomial_37 : decode cX8_polynomial 37 = .ok (.getfield 86, 3) := by decide +kernel
theorem dX8_polynomial_40 : decode cX8_polynomial 40 = .ok (.bipush 9, 2) := by decide +kernel
theorem dX8_polynomial_42 : decode cX8_polynomial 42 = .ok (.iload_n 2, 1) := by decide +kernel
theorem dX8_polynomial_43 : decode cX8_polynomial 43 = .ok (.imul, 1) := by decide +kernel
theorem dX8_polynomial_44 : decode cX8_polynomial 44 = .ok (.iload_n 3, 1) := by decide +kernel
theorem dX8_polynomial_45 : decode cX8_polynomial 45 = .ok (.iadd, 1) := by decide +kernel
theorem dX8_polynomial_46 : decode cX8_polynomial 46 = .ok (.iaload, 1) := by decide +kernel
theorem dX8_polynomial_47 : decode cX8_polynomial 47 = .ok (.ireturn, 1) := by decide +kernel
theorem dX8_valueOf_0 : decode cX8_valueOf 0 = .ok (.iconst 0, 1) := by decide +kernel
theorem dX8_valueOf_1 : decode cX8_valueOf 1 = .ok (.istore_n 3, 1) := by decide +kernel
theorem dX8_valueOf_2 : decode cX8_valueOf 2 = .ok (.bipush 8, 2) := by decide +kernel
theorem dX8_valueOf_4 : decode cX8_valueOf 4 = .ok (.istore 4, 2) := by decide +kernel
theorem dX8_valueOf_6 : decode cX8_valueOf 6 = .ok (.iload 4, 2) := by decide +kernel
theorem dX8_valueOf_8 : decode cX8_valueOf 8 = .ok (.ifCond .lt 24, 3) := by decide +kernel
theorem dX8_valueOf_11 : decode cX8_valueOf 11 = .ok (.iload_n 3, 1) := by decide +kernel
theorem dX8_valueOf_12 : decode cX8_valueOf 12 = .ok (.iload_n 2, 1) := by decide +kernel
theorem dX8_valueOf_13 : decode cX8_valueOf 13 = .ok (.invokestatic 108, 3) := by decide +kernel
theorem dX8_valueOf_16 : decode cX8_valueOf 16 = .ok (.aload_n 0, 1) := by decide +kernel
theorem dX8_valueOf_17 : decode cX8_valueOf 17 = .ok (.iload_n 1, 1) := by decide +kernel
theorem dX8_valueOf_18 : decode cX8_valueOf 18 = .ok (.iload 4, 2) := by decide +kernel
theorem dX8_valueOf_20 : decode cX8_valueOf 20 = .ok (.iadd, 1) := by decide +kernel
theorem dX8_valueOf_21 : decode cX8_valueOf 21 = .ok (.iaload, 1) := by decide +kernel
theorem dX8_valueOf_22 : decode cX8_valueOf 22 = .ok (.invokestatic 119, 3) := by decide +kernel
theorem dX8_valueOf_25 : decode cX8_valueOf 25 = .ok (.istore_n 3, 1) := by decide +kernel
theorem dX8_valueOf_26 : decode cX8_valueOf 26 = .ok (.iinc 4 (-1), 3) := by decide +kernel
theorem dX8_valueOf_29 : decode cX8_valueOf 29 = .ok (.goto (-23), 3) := by decide +kernel
theorem dX8_valueOf_32 : decode cX8_valueOf 32 = .ok (.iload_n 3, 1) := by decide +kernel
theorem dX8_valueOf_33 : decode cX8_valueOf 33 = .ok (.ireturn, 1) := by decide +kernel
theorem dX8_value_0 : decode cX8_value 0 = .ok (.iload_n 1, 1) := by decide +kernel
theorem dX8_value_1 : decode cX8_value 1 = .ok (.invokestatic 234, 3) := by decide +kernel
theorem dX8_value_4 : decode cX8_value 4 = .ok (.ifCond .ne 6, 3) := by decide +kernel
theorem dX8_value_7 : decode cX8_value 7 = .ok (.bipush (-2), 2) := by decide +kernel
theorem dX8_value_9 : decode cX8_value 9 = .ok (.ireturn, 1) := by decide +kernel
theorem dX8_value_10 : decode cX8_value 10 = .ok (.iload_n 2, 1) := by decide +kernel
theorem dX8_value_11 : decode cX8_value 11 = .ok (.invokestatic 250, 3) := by decide +kernel
theorem dX8_value_14 : decode cX8_value 14 = .ok (.ifCond .eq 10, 3) := by decide +kernel
theorem dX8_value_17 : decode cX8_value 17 = .ok (.iload_n 3, 1) := by decide +kernel
theorem dX8_value_18 : decode cX8_value 18 = .ok (.invokestatic 247, 3) := by decide +kernel
theorem dX8_value_21 : decode cX8_value 21 = .ok (.ifCond .ne 6, 3) := by decide +kernel
theorem dX8_value_24 : decode cX8_value 24 = .ok (.bipush (-3), 2) := by decide +kernel
theorem dX8_value_26 : decode cX8_value 26 = .ok (.ireturn, 1) := by decide +kernel
theorem dX8_value_27 : decode cX8_value 27 = .ok (.aload_n 0, 1) := by decide +kernel
theorem dX8_value_28 : decode cX8_value 28 = .ok (.iload_n 1, 1) := by decide +kernel
theorem dX8_value_29 : decode cX8_value 29 = .ok (.aload_n 0, 1) := by decide +kernel
theorem dX8_value_30 : decode cX8_value 30 = .ok (.getfield 86, 3) := by decide +kernel
theorem dX8_value_33 : decode cX8_value 33 = .ok (.invokevirtual 260, 3) := by decide +kernel
theorem dX8_value_36 : decode cX8_value 36 = .ok (.aload_n 0, 1) := by decide +kernel
theorem dX8_value_37 : decode cX8_value 37 = .ok (.getfield 86, 3) := by decide +kernel
theorem dX8_value_40 : decode cX8_value 40 = .ok (.bipush 9, 2) := by decide +kernel
theorem dX8_value_42 : decode cX8_value 42 = .ok (.iload_n 2, 1) := by decide +kernel
theorem dX8_value_43 : decode cX8_value 43 = .ok (.imul, 1) := by decide +kernel
theorem dX8_value_44 : decode cX8_value 44 = .ok (.iload_n 3, 1) := by decide +kernel
theorem dX8_value_45 : decode cX8_value 45 = .ok (.invokestatic 263, 3) := by decide +kernel
theorem dX8_value_48 : decode cX8_value 48 = .ok (.ireturn, 1) := by decide +kernel
theorem dX8_takesApart_0 : decode cX8_takesApart 0 = .ok (.aload_n 1, 1) := by decide +kernel
theorem dX8_takesApart_1 : decode cX8_takesApart 1 = .ok (.iload_n 2, 1) := by decide +kernel
theorem dX8_takesApart_2 : decode cX8_takesApart 2 = .ok (.aload_n 0, 1) := by decide +kernel
theorem dX8_takesApart_3 : decode cX8_takesApart 3 = .ok (.getfield 98, 3) := by decide +kernel
theorem dX8_takesApart_6 : decode cX8_takesApart 6 = .ok (.iconst 0, 1) := by decide +kernel
theorem dX8_takesApart_7 : decode cX8_takesApart 7 = .ok (.bipush 9, 2) := by decide +kernel
theorem dX8_takesApart_9 : decode cX8_takesApart 9 = .ok (.invokestatic 112, 3) := by decide +kernel
theorem dX8_takesApart_12 : decode cX8_takesApart 12 = .ok (.bipush 8, 2) := by decide +kernel
theorem dX8_takesApart_14 : decode cX8_takesApart 14 = .ok (.istore 4, 2) := by decide +kernel
theorem dX8_takesApart_16 : decode cX8_takesApart 16 = .ok (.iload 4, 2) := by decide +kernel
theorem dX8_takesApart_18 : decode cX8_takesApart 18 = .ok (.ifCond .lt 92, 3) := by decide +kernel
theorem dX8_takesApart_21 : decode cX8_takesApart 21 = .ok (.aload_n 0, 1) := by decide +kernel
theorem dX8_takesApart_22 : decode cX8_takesApart 22 = .ok (.getfield 101, 3) := by decide +kernel
theorem dX8_takesApart_25 : decode cX8_takesApart 25 = .ok (.iload 4, 2) := by decide +kernel
theorem dX8_takesApart_27 : decode cX8_takesApart 27 = .ok (.aload_n 0, 1) := by decide +kernel
theorem dX8_takesApart_28 : decode cX8_takesApart 28 = .ok (.getfield 98, 3) := by decide +kernel
theorem dX8_takesApart_31 : decode cX8_takesApart 31 = .ok (.iload 4, 2) := by decide +kernel
theorem dX8_takesApart_33 : decode cX8_takesApart 33 = .ok (.iaload, 1) := by decide +kernel
theorem dX8_takesApart_34 : decode cX8_takesApart 34 = .ok (.aload_n 3, 1) := by decide +kernel
theorem dX8_takesApart_35 : decode cX8_takesApart 35 = .ok (.bipush 9, 2) := by decide +kernel
theorem dX8_takesApart_37 : decode cX8_takesApart 37 = .ok (.iload 4, 2) := by decide +kernel
theorem dX8_takesApart_39 : decode cX8_takesApart 39 = .ok (.imul, 1) := by decide +kernel
theorem dX8_takesApart_40 : decode cX8_takesApart 40 = .ok (.iload 4, 2) := by decide +kernel
theorem dX8_takesApart_42 : decode cX8_takesApart 42 = .ok (.iadd, 1) := by decide +kernel
theorem dX8_takesApart_43 : decode cX8_takesApart 43 = .ok (.iaload, 1) := by decide +kernel
theorem dX8_takesApart_44 : decode cX8_takesApart 44 = .ok (.invokestatic 126, 3) := by decide +kernel
theorem dX8_takesApart_47 : decode cX8_takesApart 47 = .ok (.invokestatic 108, 3) := by decide +kernel
theorem dX8_takesApart_50 : decode cX8_takesApart 50 = .ok (.iastore, 1) := by decide +kernel
theorem dX8_takesApart_51 : decode cX8_takesApart 51 = .ok (.iconst 0, 1) := by decide +kernel
theorem dX8_takesApart_52 : decode cX8_takesApart 52 = .ok (.istore 5, 2) := by decide +kernel
theorem dX8_takesApart_54 : decode cX8_takesApart 54 = .ok (.iload 5, 2) := by decide +kernel
theorem dX8_takesApart_56 : decode cX8_takesApart 56 = .ok (.iload 4, 2) := by decide +kernel
theorem dX8_takesApart_58 : decode cX8_takesApart 58 = .ok (.if_icmp .gt 46, 3) := by decide +kernel
theorem dX8_takesApart_61 : decode cX8_takesApart 61 = .ok (.aload_n 0, 1) := by decide +kernel
theorem dX8_takesApart_62 : decode cX8_takesApart 62 = .ok (.getfield 98, 3) := by decide +kernel
theorem dX8_takesApart_65 : decode cX8_takesApart 65 = .ok (.iload 5, 2) := by decide +kernel
theorem dX8_takesApart_67 : decode cX8_takesApart 67 = .ok (.aload_n 0, 1) := by decide +kernel
theorem dX8_takesApart_68 : decode cX8_takesApart 68 = .ok (.getfield 98, 3) := by decide +kernel
theorem dX8_takesApart_71 : decode cX8_takesApart 71 = .ok (.iload 5, 2) := by decide +kernel
theorem dX8_takesApart_73 : decode cX8_takesApart 73 = .ok (.iaload, 1) := by decide +kernel
theorem dX8_takesApart_74 : decode cX8_takesApart 74 = .ok (.aload_n 0, 1) := by decide +kernel
theorem dX8_takesApart_75 : decode cX8_takesApart 75 = .ok (.getfield 101, 3) := by decide +kernel
theorem dX8_takesApart_78 : decode cX8_takesApart 78 = .ok (.iload 4, 2) := by decide +kernel
theorem dX8_takesApart_80 : decode cX8_takesApart 80 = .ok (.iaload, 1) := by decide +kernel
theorem dX8_takesApart_81 : decode cX8_takesApart 81 = .ok (.aload_n 3, 1) := by decide +kernel
theorem dX8_takesApart_82 : decode cX8_takesApart 82 = .ok (.bipush 9, 2) := by decide +kernel
theorem dX8_takesApart_84 : decode cX8_takesApart 84 = .ok (.iload 4, 2) := by decide +kernel
theorem dX8_takesApart_86 : decode cX8_takesApart 86 = .ok (.imul, 1) := by decide +kernel
theorem dX8_takesApart_87 : decode cX8_takesApart 87 = .ok (.iload 5, 2) := by decide +kernel
theorem dX8_takesApart_89 : decode cX8_takesApart 89 = .ok (.iadd, 1) := by decide +kernel
theorem dX8_takesApart_90 : decode cX8_takesApart 90 = .ok (.iaload, 1) := by decide +kernel
theorem dX8_takesApart_91 : decode cX8_takesApart 91 = .ok (.invokestatic 108, 3) := by decide +kernel
theorem dX8_takesApart_94 : decode cX8_takesApart 94 = .ok (.invokestatic 130, 3) := by decide +kernel
theorem dX8_takesApart_97 : decode cX8_takesApart 97 = .ok (.iastore, 1) := by decide +kernel
theorem dX8_takesApart_98 : decode cX8_takesApart 98 = .ok (.iinc 5 1, 3) := by decide +kernel
theorem dX8_takesApart_101 : decode cX8_takesApart 101 = .ok (.goto (-47), 3) := by decide +kernel
theorem dX8_takesApart_104 : decode cX8_takesApart 104 = .ok (.iinc 4 (-1), 3) := by decide +kernel
theorem dX8_takesApart_107 : decode cX8_takesApart 107 = .ok (.goto (-91), 3) := by decide +kernel
theorem dX8_takesApart_110 : decode cX8_takesApart 110 = .ok (.return_, 1) := by decide +kernel
theorem dX8_joins_0 : decode cX8_joins 0 = .ok (.iconst 0, 1) := by decide +kernel
theorem dX8_joins_1 : decode cX8_joins 1 = .ok (.istore_n 3, 1) := by decide +kernel
theorem dX8_joins_2 : decode cX8_joins 2 = .ok (.iload_n 3, 1) := by decide +kernel
theorem dX8_joins_3 : decode cX8_joins 3 = .ok (.bipush 9, 2) := by decide +kernel
theorem dX8_joins_5 : decode cX8_joins 5 = .ok (.if_icmp .ge 59, 3) := by decide +kernel
theorem dX8_joins_8 : decode cX8_joins 8 = .ok (.iconst 0, 1) := by decide +kernel
theorem dX8_joins_9 : decode cX8_joins 9 = .ok (.istore 4, 2) := by decide +kernel
theorem dX8_joins_11 : decode cX8_joins 11 = .ok (.iconst 0, 1) := by decide +kernel
theorem dX8_joins_12 : decode cX8_joins 12 = .ok (.istore 5, 2) := by decide +kernel
theorem dX8_joins_14 : decode cX8_joins 14 = .ok (.iload 5, 2) := by decide +kernel
theorem dX8_joins_16 : decode cX8_joins 16 = .ok (.bipush 9, 2) := by decide +kernel
theorem dX8_joins_18 : decode cX8_joins 18 = .ok (.if_icmp .ge 35, 3) := by decide +kernel
theorem dX8_joins_21 : decode cX8_joins 21 = .ok (.iload 4, 2) := by decide +kernel
theorem dX8_joins_23 : decode cX8_joins 23 = .ok (.aload_n 0, 1) := by decide +kernel
theorem dX8_joins_24 : decode cX8_joins 24 = .ok (.getfield 101, 3) := by decide +kernel
theorem dX8_joins_27 : decode cX8_joins 27 = .ok (.iload 5, 2) := by decide +kernel
theorem dX8_joins_29 : decode cX8_joins 29 = .ok (.iaload, 1) := by decide +kernel
theorem dX8_joins_30 : decode cX8_joins 30 = .ok (.aload_n 1, 1) := by decide +kernel
theorem dX8_joins_31 : decode cX8_joins 31 = .ok (.bipush 9, 2) := by decide +kernel
theorem dX8_joins_33 : decode cX8_joins 33 = .ok (.iload 5, 2) := by decide +kernel
theorem dX8_joins_35 : decode cX8_joins 35 = .ok (.imul, 1) := by decide +kernel
theorem dX8_joins_36 : decode cX8_joins 36 = .ok (.iload_n 3, 1) := by decide +kernel
theorem dX8_joins_37 : decode cX8_joins 37 = .ok (.iadd, 1) := by decide +kernel
theorem dX8_joins_38 : decode cX8_joins 38 = .ok (.iaload, 1) := by decide +kernel
theorem dX8_joins_39 : decode cX8_joins 39 = .ok (.invokestatic 108, 3) := by decide +kernel
theorem dX8_joins_42 : decode cX8_joins 42 = .ok (.invokestatic 119, 3) := by decide +kernel
theorem dX8_joins_45 : decode cX8_joins 45 = .ok (.istore 4, 2) := by decide +kernel
theorem dX8_joins_47 : decode cX8_joins 47 = .ok (.iinc 5 1, 3) := by decide +kernel
theorem dX8_joins_50 : decode cX8_joins 50 = .ok (.goto (-36), 3) := by decide +kernel
theorem dX8_joins_53 : decode cX8_joins 53 = .ok (.aload_n 2, 1) := by decide +kernel
theorem dX8_joins_54 : decode cX8_joins 54 = .ok (.iload_n 3, 1) := by decide +kernel
theorem dX8_joins_55 : decode cX8_joins 55 = .ok (.iload 4, 2) := by decide +kernel
theorem dX8_joins_57 : decode cX8_joins 57 = .ok (.iastore, 1) := by decide +kernel
theorem dX8_joins_58 : decode cX8_joins 58 = .ok (.iinc 3 1, 3) := by decide +kernel
theorem dX8_joins_61 : decode cX8_joins 61 = .ok (.goto (-59), 3) := by decide +kernel
theorem dX8_joins_64 : decode cX8_joins 64 = .ok (.return_, 1) := by decide +kernel
theorem dX8_connect_0 : decode cX8_connect 0 = .ok (.iload_n 1, 1) := by decide +kernel
theorem dX8_connect_1 : decode cX8_connect 1 = .ok (.invokestatic 234, 3) := by decide +kernel
theorem dX8_connect_4 : decode cX8_connect 4 = .ok (.ifCond .eq 10, 3) := by decide +kernel
theorem dX8_connect_7 : decode cX8_connect 7 = .ok (.iload_n 2, 1) := by decide +kernel
theorem dX8_connect_8 : decode cX8_connect 8 = .ok (.invokestatic 234, 3) := by decide +kernel
theorem dX8_connect_11 : decode cX8_connect 11 = .ok (.ifCond .ne 6, 3) := by decide +kernel
theorem dX8_connect_14 : decode cX8_connect 14 = .ok (.bipush (-2), 2) := by decide +kernel
theorem dX8_connect_16 : decode cX8_connect 16 = .ok (.ireturn, 1) := by decide +kernel
theorem dX8_connect_17 : decode cX8_connect 17 = .ok (.iload_n 3, 1) := by decide +kernel
theorem dX8_connect_18 : decode cX8_connect 18 = .ok (.invokestatic 250, 3) := by decide +kernel
theorem dX8_connect_21 : decode cX8_connect 21 = .ok (.ifCond .eq 11, 3) := by decide +kernel
theorem dX8_connect_24 : decode cX8_connect 24 = .ok (.iload 4, 2) := by decide +kernel
theorem dX8_connect_26 : decode cX8_connect 26 = .ok (.invokestatic 250, 3) := by decide +kernel
theorem dX8_connect_29 : decode cX8_connect 29 = .ok (.ifCond .ne 6, 3) := by decide +kernel
theorem dX8_connect_32 : decode cX8_connect 32 = .ok (.bipush (-3), 2) := by decide +kernel
theorem dX8_connect_34 : decode cX8_connect 34 = .ok (.ireturn, 1) := by decide +kernel
theorem dX8_connect_35 : decode cX8_connect 35 = .ok (.aload_n 0, 1) := by decide +kernel
theorem dX8_connect_36 : decode cX8_connect 36 = .ok (.iload_n 1, 1) := by decide +kernel
theorem dX8_connect_37 : decode cX8_connect 37 = .ok (.aload_n 0, 1) := by decide +kernel
theorem dX8_connect_38 : decode cX8_connect 38 = .ok (.getfield 86, 3) := by decide +kernel
theorem dX8_connect_41 : decode cX8_connect 41 = .ok (.invokevirtual 260, 3) := by decide +kernel
theorem dX8_connect_44 : decode cX8_connect 44 = .ok (.aload_n 0, 1) := by decide +kernel
theorem dX8_connect_45 : decode cX8_connect 45 = .ok (.iload_n 2, 1) := by decide +kernel
theorem dX8_connect_46 : decode cX8_connect 46 = .ok (.aload_n 0, 1) := by decide +kernel
theorem dX8_connect_47 : decode cX8_connect 47 = .ok (.getfield 89, 3) := by decide +kernel
theorem dX8_connect_50 : decode cX8_connect 50 = .ok (.invokevirtual 260, 3) := by decide +kernel
theorem dX8_connect_53 : decode cX8_connect 53 = .ok (.aload_n 0, 1) := by decide +kernel
theorem dX8_connect_54 : decode cX8_connect 54 = .ok (.aload_n 0, 1) := by decide +kernel
theorem dX8_connect_55 : decode cX8_connect 55 = .ok (.getfield 86, 3) := by decide +kernel
theorem dX8_connect_58 : decode cX8_connect 58 = .ok (.bipush 9, 2) := by decide +kernel
theorem dX8_connect_60 : decode cX8_connect 60 = .ok (.iload_n 3, 1) := by decide +kernel
theorem dX8_connect_61 : decode cX8_connect 61 = .ok (.imul, 1) := by decide +kernel
theorem dX8_connect_62 : decode cX8_connect 62 = .ok (.aload_n 0, 1) := by decide +kernel
theorem dX8_connect_63 : decode cX8_connect 63 = .ok (.getfield 89, 3) := by decide +kernel
theorem dX8_connect_66 : decode cX8_connect 66 = .ok (.invokevirtual 267, 3) := by decide +kernel
theorem dX8_connect_69 : decode cX8_connect 69 = .ok (.aload_n 0, 1) := by decide +kernel
theorem dX8_connect_70 : decode cX8_connect 70 = .ok (.getfield 101, 3) := by decide +kernel
theorem dX8_connect_73 : decode cX8_connect 73 = .ok (.iload 4, 2) := by decide +kernel
theorem dX8_connect_75 : decode cX8_connect 75 = .ok (.iaload, 1) := by decide +kernel
theorem dX8_connect_76 : decode cX8_connect 76 = .ok (.ireturn, 1) := by decide +kernel
theorem dX8_differ_0 : decode cX8_differ 0 = .ok (.iload_n 1, 1) := by decide +kernel
theorem dX8_differ_1 : decode cX8_differ 1 = .ok (.invokestatic 234, 3) := by decide +kernel
theorem dX8_differ_4 : decode cX8_differ 4 = .ok (.ifCond .eq 10, 3) := by decide +kernel
theorem dX8_differ_7 : decode cX8_differ 7 = .ok (.iload_n 2, 1) := by decide +kernel
theorem dX8_differ_8 : decode cX8_differ 8 = .ok (.invokestatic 234, 3) := by decide +kernel
theorem dX8_differ_11 : decode cX8_differ 11 = .ok (.ifCond .ne 6, 3) := by decide +kernel
theorem dX8_differ_14 : decode cX8_differ 14 = .ok (.bipush (-2), 2) := by decide +kernel
theorem dX8_differ_16 : decode cX8_differ 16 = .ok (.ireturn, 1) := by decide +kernel
theorem dX8_differ_17 : decode cX8_differ 17 = .ok (.aload_n 0, 1) := by decide +kernel
theorem dX8_differ_18 : decode cX8_differ 18 = .ok (.iload_n 1, 1) := by decide +kernel
theorem dX8_differ_19 : decode cX8_differ 19 = .ok (.aload_n 0, 1) := by decide +kernel
theorem dX8_differ_20 : decode cX8_differ 20 = .ok (.getfield 86, 3) := by decide +kernel
theorem dX8_differ_23 : decode cX8_differ 23 = .ok (.invokevirtual 260, 3) := by decide +kernel
theorem dX8_differ_26 : decode cX8_differ 26 = .ok (.aload_n 0, 1) := by decide +kernel
theorem dX8_differ_27 : decode cX8_differ 27 = .ok (.iload_n 2, 1) := by decide +kernel
theorem dX8_differ_28 : decode cX8_differ 28 = .ok (.aload_n 0, 1) := by decide +kernel
theorem dX8_differ_29 : decode cX8_differ 29 = .ok (.getfield 89, 3) := by decide +kernel
theorem dX8_differ_32 : decode cX8_differ 32 = .ok (.invokevirtual 260, 3) := by decide +kernel
theorem dX8_differ_35 : decode cX8_differ 35 = .ok (.iconst 0, 1) := by decide +kernel
theorem dX8_differ_36 : decode cX8_differ 36 = .ok (.istore_n 3, 1) := by decide +kernel
theorem dX8_differ_37 : decode cX8_differ 37 = .ok (.iload_n 3, 1) := by decide +kernel
theorem dX8_differ_38 : decode cX8_differ 38 = .ok (.bipush 81, 2) := by decide +kernel
theorem dX8_differ_40 : decode cX8_differ 40 = .ok (.if_icmp .ge 29, 3) := by decide +kernel
theorem dX8_differ_43 : decode cX8_differ 43 = .ok (.aload_n 0, 1) := by decide +kernel
theorem dX8_differ_44 : decode cX8_differ 44 = .ok (.getfield 86, 3) := by decide +kernel
theorem dX8_differ_47 : decode cX8_differ 47 = .ok (.iload_n 3, 1) := by decide +kernel
theorem dX8_differ_48 : decode cX8_differ 48 = .ok (.iaload, 1) := by decide +kernel
theorem dX8_differ_49 : decode cX8_differ 49 = .ok (.aload_n 0, 1) := by decide +kernel
theorem dX8_differ_50 : decode cX8_differ 50 = .ok (.getfield 89, 3) := by decide +kernel
theorem dX8_differ_53 : decode cX8_differ 53 = .ok (.iload_n 3, 1) := by decide +kernel
theorem dX8_differ_54 : decode cX8_differ 54 = .ok (.iaload, 1) := by decide +kernel
theorem dX8_differ_55 : decode cX8_differ 55 = .ok (.if_icmp .eq 8, 3) := by decide +kernel
theorem dX8_differ_58 : decode cX8_differ 58 = .ok (.iload_n 3, 1) := by decide +kernel
theorem dX8_differ_59 : decode cX8_differ 59 = .ok (.bipush 9, 2) := by decide +kernel
theorem dX8_differ_61 : decode cX8_differ 61 = .ok (.idiv, 1) := by decide +kernel
theorem dX8_differ_62 : decode cX8_differ 62 = .ok (.ireturn, 1) := by decide +kernel
theorem dX8_differ_63 : decode cX8_differ 63 = .ok (.iinc 3 1, 3) := by decide +kernel
theorem dX8_differ_66 : decode cX8_differ 66 = .ok (.goto (-29), 3) := by decide +kernel
theorem dX8_differ_69 : decode cX8_differ 69 = .ok (.iconst (-1), 1) := by decide +kernel
theorem dX8_differ_70 : decode cX8_differ 70 = .ok (.ireturn, 1) := by decide +kernel
theorem dX8_notes_0 : decode cX8_notes 0 = .ok (.aload_n 0, 1) := by decide +kernel
theorem dX8_notes_1 : decode cX8_notes 1 = .ok (.getfield 270, 3) := by decide +kernel
theorem dX8_notes_4 : decode cX8_notes 4 = .ok (.bipush 8, 2) := by decide +kernel
theorem dX8_notes_6 : decode cX8_notes 6 = .ok (.if_icmp .ne 29, 3) := by decide +kernel
theorem dX8_notes_9 : decode cX8_notes 9 = .ok (.aload_n 0, 1) := by decide +kernel
theorem dX8_notes_10 : decode cX8_notes 10 = .ok (.getfield 19, 3) := by decide +kernel
theorem dX8_notes_13 : decode cX8_notes 13 = .ok (.bipush 9, 2) := by decide +kernel
theorem dX8_notes_15 : decode cX8_notes 15 = .ok (.aload_n 0, 1) := by decide +kernel
theorem dX8_notes_16 : decode cX8_notes 16 = .ok (.getfield 19, 3) := by decide +kernel
theorem dX8_notes_19 : decode cX8_notes 19 = .ok (.iconst 0, 1) := by decide +kernel
theorem dX8_notes_20 : decode cX8_notes 20 = .ok (.bipush 63, 2) := by decide +kernel
theorem dX8_notes_22 : decode cX8_notes 22 = .ok (.invokestatic 112, 3) := by decide +kernel
theorem dX8_notes_25 : decode cX8_notes 25 = .ok (.aload_n 0, 1) := by decide +kernel
theorem dX8_notes_26 : decode cX8_notes 26 = .ok (.dup, 1) := by decide +kernel
theorem dX8_notes_27 : decode cX8_notes 27 = .ok (.getfield 270, 3) := by decide +kernel
theorem dX8_notes_30 : decode cX8_notes 30 = .ok (.iconst 1, 1) := by decide +kernel
theorem dX8_notes_31 : decode cX8_notes 31 = .ok (.isub, 1) := by decide +kernel
theorem dX8_notes_32 : decode cX8_notes 32 = .ok (.putfield 270, 3) := by decide +kernel
theorem dX8_notes_35 : decode cX8_notes 35 = .ok (.aload_n 0, 1) := by decide +kernel
theorem dX8_notes_36 : decode cX8_notes 36 = .ok (.getfield 16, 3) := by decide +kernel
theorem dX8_notes_39 : decode cX8_notes 39 = .ok (.iconst 0, 1) := by decide +kernel
theorem dX8_notes_40 : decode cX8_notes 40 = .ok (.aload_n 0, 1) := by decide +kernel
theorem dX8_notes_41 : decode cX8_notes 41 = .ok (.getfield 19, 3) := by decide +kernel
theorem dX8_notes_44 : decode cX8_notes 44 = .ok (.bipush 9, 2) := by decide +kernel
theorem dX8_notes_46 : decode cX8_notes 46 = .ok (.aload_n 0, 1) := by decide +kernel
theorem dX8_notes_47 : decode cX8_notes 47 = .ok (.getfield 270, 3) := by decide +kernel
theorem dX8_notes_50 : decode cX8_notes 50 = .ok (.imul, 1) := by decide +kernel
theorem dX8_notes_51 : decode cX8_notes 51 = .ok (.bipush 9, 2) := by decide +kernel
theorem dX8_notes_53 : decode cX8_notes 53 = .ok (.invokestatic 112, 3) := by decide +kernel
theorem dX8_notes_56 : decode cX8_notes 56 = .ok (.aload_n 0, 1) := by decide +kernel
theorem dX8_notes_57 : decode cX8_notes 57 = .ok (.dup, 1) := by decide +kernel
theorem dX8_notes_58 : decode cX8_notes 58 = .ok (.getfield 270, 3) := by decide +kernel
theorem dX8_notes_61 : decode cX8_notes 61 = .ok (.iconst 1, 1) := by decide +kernel
theorem dX8_notes_62 : decode cX8_notes 62 = .ok (.iadd, 1) := by decide +kernel
theorem dX8_notes_63 : decode cX8_notes 63 = .ok (.putfield 270, 3) := by decide +kernel
theorem dX8_notes_66 : decode cX8_notes 66 = .ok (.return_, 1) := by decide +kernel
theorem dX8_take_0 : decode cX8_take 0 = .ok (.iload_n 1, 1) := by decide +kernel
theorem dX8_take_1 : decode cX8_take 1 = .ok (.invokestatic 234, 3) := by decide +kernel
theorem dX8_take_4 : decode cX8_take 4 = .ok (.ifCond .ne 6, 3) := by decide +kernel
theorem dX8_take_7 : decode cX8_take 7 = .ok (.bipush (-2), 2) := by decide +kernel
theorem dX8_take_9 : decode cX8_take 9 = .ok (.ireturn, 1) := by decide +kernel
theorem dX8_take_10 : decode cX8_take 10 = .ok (.iload_n 2, 1) := by decide +kernel
theorem dX8_take_11 : decode cX8_take 11 = .ok (.invokestatic 250, 3) := by decide +kernel
theorem dX8_take_14 : decode cX8_take 14 = .ok (.ifCond .ne 6, 3) := by decide +kernel
theorem dX8_take_17 : decode cX8_take 17 = .ok (.bipush (-3), 2) := by decide +kernel
theorem dX8_take_19 : decode cX8_take 19 = .ok (.ireturn, 1) := by decide +kernel
theorem dX8_take_20 : decode cX8_take 20 = .ok (.aload_n 0, 1) := by decide +kernel
theorem dX8_take_21 : decode cX8_take 21 = .ok (.iload_n 1, 1) := by decide +kernel
theorem dX8_take_22 : decode cX8_take 22 = .ok (.aload_n 0, 1) := by decide +kernel
theorem dX8_take_23 : decode cX8_take 23 = .ok (.getfield 86, 3) := by decide +kernel
theorem dX8_take_26 : decode cX8_take 26 = .ok (.invokevirtual 260, 3) := by decide +kernel
theorem dX8_take_29 : decode cX8_take 29 = .ok (.aload_n 0, 1) := by decide +kernel
theorem dX8_take_30 : decode cX8_take 30 = .ok (.invokevirtual 273, 3) := by decide +kernel
theorem dX8_take_33 : decode cX8_take 33 = .ok (.aload_n 0, 1) := by decide +kernel
theorem dX8_take_34 : decode cX8_take 34 = .ok (.getfield 86, 3) := by decide +kernel
theorem dX8_take_37 : decode cX8_take 37 = .ok (.bipush 9, 2) := by decide +kernel
theorem dX8_take_39 : decode cX8_take 39 = .ok (.iload_n 2, 1) := by decide +kernel
theorem dX8_take_40 : decode cX8_take 40 = .ok (.imul, 1) := by decide +kernel
theorem dX8_take_41 : decode cX8_take 41 = .ok (.aload_n 0, 1) := by decide +kernel
theorem dX8_take_42 : decode cX8_take 42 = .ok (.getfield 16, 3) := by decide +kernel
theorem dX8_take_45 : decode cX8_take 45 = .ok (.iconst 0, 1) := by decide +kernel
theorem dX8_take_46 : decode cX8_take 46 = .ok (.bipush 9, 2) := by decide +kernel
theorem dX8_take_48 : decode cX8_take 48 = .ok (.invokestatic 112, 3) := by decide +kernel
theorem dX8_take_51 : decode cX8_take 51 = .ok (.aload_n 0, 1) := by decide +kernel
theorem dX8_take_52 : decode cX8_take 52 = .ok (.getfield 16, 3) := by decide +kernel
theorem dX8_take_55 : decode cX8_take 55 = .ok (.iload_n 2, 1) := by decide +kernel
theorem dX8_take_56 : decode cX8_take 56 = .ok (.iaload, 1) := by decide +kernel
theorem dX8_take_57 : decode cX8_take 57 = .ok (.ireturn, 1) := by decide +kernel
theorem dX8_put_0 : decode cX8_put 0 = .ok (.iload_n 1, 1) := by decide +kernel
theorem dX8_put_1 : decode cX8_put 1 = .ok (.invokestatic 250, 3) := by decide +kernel
theorem dX8_put_4 : decode cX8_put 4 = .ok (.ifCond .eq 10, 3) := by decide +kernel
theorem dX8_put_7 : decode cX8_put 7 = .ok (.iload_n 2, 1) := by decide +kernel
theorem dX8_put_8 : decode cX8_put 8 = .ok (.invokestatic 247, 3) := by decide +kernel
theorem dX8_put_11 : decode cX8_put 11 = .ok (.ifCond .ne 6, 3) := by decide +kernel
theorem dX8_put_14 : decode cX8_put 14 = .ok (.bipush (-3), 2) := by decide +kernel
theorem dX8_put_16 : decode cX8_put 16 = .ok (.ireturn, 1) := by decide +kernel
theorem dX8_put_17 : decode cX8_put 17 = .ok (.aload_n 0, 1) := by decide +kernel
theorem dX8_put_18 : decode cX8_put 18 = .ok (.getfield 16, 3) := by decide +kernel
theorem dX8_put_21 : decode cX8_put 21 = .ok (.iload_n 1, 1) := by decide +kernel
theorem dX8_put_22 : decode cX8_put 22 = .ok (.iaload, 1) := by decide +kernel
theorem dX8_put_23 : decode cX8_put 23 = .ok (.istore_n 3, 1) := by decide +kernel
theorem dX8_put_24 : decode cX8_put 24 = .ok (.aload_n 0, 1) := by decide +kernel
theorem dX8_put_25 : decode cX8_put 25 = .ok (.invokevirtual 273, 3) := by decide +kernel
theorem dX8_put_28 : decode cX8_put 28 = .ok (.aload_n 0, 1) := by decide +kernel
theorem dX8_put_29 : decode cX8_put 29 = .ok (.getfield 16, 3) := by decide +kernel
theorem dX8_put_32 : decode cX8_put 32 = .ok (.iload_n 1, 1) := by decide +kernel
theorem dX8_put_33 : decode cX8_put 33 = .ok (.iload_n 2, 1) := by decide +kernel
theorem dX8_put_34 : decode cX8_put 34 = .ok (.iastore, 1) := by decide +kernel
theorem dX8_put_35 : decode cX8_put 35 = .ok (.iload_n 3, 1) := by decide +kernel
theorem dX8_put_36 : decode cX8_put 36 = .ok (.ireturn, 1) := by decide +kernel
theorem dX8_plus_0 : decode cX8_plus 0 = .ok (.iload_n 1, 1) := by decide +kernel
theorem dX8_plus_1 : decode cX8_plus 1 = .ok (.invokestatic 234, 3) := by decide +kernel
theorem dX8_plus_4 : decode cX8_plus 4 = .ok (.ifCond .ne 6, 3) := by decide +kernel
theorem dX8_plus_7 : decode cX8_plus 7 = .ok (.bipush (-2), 2) := by decide +kernel
theorem dX8_plus_9 : decode cX8_plus 9 = .ok (.ireturn, 1) := by decide +kernel
theorem dX8_plus_10 : decode cX8_plus 10 = .ok (.iload_n 2, 1) := by decide +kernel
theorem dX8_plus_11 : decode cX8_plus 11 = .ok (.invokestatic 250, 3) := by decide +kernel
theorem dX8_plus_14 : decode cX8_plus 14 = .ok (.ifCond .eq 10, 3) := by decide +kernel
theorem dX8_plus_17 : decode cX8_plus 17 = .ok (.iload_n 3, 1) := by decide +kernel
theorem dX8_plus_18 : decode cX8_plus 18 = .ok (.invokestatic 247, 3) := by decide +kernel
theorem dX8_plus_21 : decode cX8_plus 21 = .ok (.ifCond .ne 6, 3) := by decide +kernel
theorem dX8_plus_24 : decode cX8_plus 24 = .ok (.bipush (-3), 2) := by decide +kernel
theorem dX8_plus_26 : decode cX8_plus 26 = .ok (.ireturn, 1) := by decide +kernel
theorem dX8_plus_27 : decode cX8_plus 27 = .ok (.aload_n 0, 1) := by decide +kernel
theorem dX8_plus_28 : decode cX8_plus 28 = .ok (.iload_n 1, 1) := by decide +kernel
theorem dX8_plus_29 : decode cX8_plus 29 = .ok (.aload_n 0, 1) := by decide +kernel
theorem dX8_plus_30 : decode cX8_plus 30 = .ok (.getfield 86, 3) := by decide +kernel
theorem dX8_plus_33 : decode cX8_plus 33 = .ok (.invokevirtual 260, 3) := by decide +kernel
theorem dX8_plus_36 : decode cX8_plus 36 = .ok (.aload_n 0, 1) := by decide +kernel
theorem dX8_plus_37 : decode cX8_plus 37 = .ok (.invokevirtual 273, 3) := by decide +kernel
theorem dX8_plus_40 : decode cX8_plus 40 = .ok (.iconst 0, 1) := by decide +kernel
theorem dX8_plus_41 : decode cX8_plus 41 = .ok (.istore 4, 2) := by decide +kernel
theorem dX8_plus_43 : decode cX8_plus 43 = .ok (.iload 4, 2) := by decide +kernel
theorem dX8_plus_45 : decode cX8_plus 45 = .ok (.bipush 9, 2) := by decide +kernel
theorem dX8_plus_47 : decode cX8_plus 47 = .ok (.if_icmp .ge 42, 3) := by decide +kernel
theorem dX8_plus_50 : decode cX8_plus 50 = .ok (.aload_n 0, 1) := by decide +kernel
theorem dX8_plus_51 : decode cX8_plus 51 = .ok (.getfield 16, 3) := by decide +kernel
theorem dX8_plus_54 : decode cX8_plus 54 = .ok (.iload 4, 2) := by decide +kernel
theorem dX8_plus_56 : decode cX8_plus 56 = .ok (.aload_n 0, 1) := by decide +kernel
theorem dX8_plus_57 : decode cX8_plus 57 = .ok (.getfield 16, 3) := by decide +kernel
theorem dX8_plus_60 : decode cX8_plus 60 = .ok (.iload 4, 2) := by decide +kernel
theorem dX8_plus_62 : decode cX8_plus 62 = .ok (.iaload, 1) := by decide +kernel
theorem dX8_plus_63 : decode cX8_plus 63 = .ok (.iload_n 3, 1) := by decide +kernel
theorem dX8_plus_64 : decode cX8_plus 64 = .ok (.aload_n 0, 1) := by decide +kernel
theorem dX8_plus_65 : decode cX8_plus 65 = .ok (.getfield 86, 3) := by decide +kernel
theorem dX8_plus_68 : decode cX8_plus 68 = .ok (.bipush 9, 2) := by decide +kernel
theorem dX8_plus_70 : decode cX8_plus 70 = .ok (.iload_n 2, 1) := by decide +kernel
theorem dX8_plus_71 : decode cX8_plus 71 = .ok (.imul, 1) := by decide +kernel
theorem dX8_plus_72 : decode cX8_plus 72 = .ok (.iload 4, 2) := by decide +kernel
theorem dX8_plus_74 : decode cX8_plus 74 = .ok (.iadd, 1) := by decide +kernel
theorem dX8_plus_75 : decode cX8_plus 75 = .ok (.iaload, 1) := by decide +kernel
theorem dX8_plus_76 : decode cX8_plus 76 = .ok (.invokestatic 108, 3) := by decide +kernel
theorem dX8_plus_79 : decode cX8_plus 79 = .ok (.invokestatic 119, 3) := by decide +kernel
theorem dX8_plus_82 : decode cX8_plus 82 = .ok (.iastore, 1) := by decide +kernel
theorem dX8_plus_83 : decode cX8_plus 83 = .ok (.iinc 4 1, 3) := by decide +kernel
theorem dX8_plus_86 : decode cX8_plus 86 = .ok (.goto (-43), 3) := by decide +kernel
theorem dX8_plus_89 : decode cX8_plus 89 = .ok (.aload_n 0, 1) := by decide +kernel
theorem dX8_plus_90 : decode cX8_plus 90 = .ok (.getfield 16, 3) := by decide +kernel
theorem dX8_plus_93 : decode cX8_plus 93 = .ok (.iconst 0, 1) := by decide +kernel
theorem dX8_plus_94 : decode cX8_plus 94 = .ok (.iaload, 1) := by decide +kernel
theorem dX8_plus_95 : decode cX8_plus 95 = .ok (.ireturn, 1) := by decide +kernel
theorem dX8_act_0 : decode cX8_act 0 = .ok (.iload_n 1, 1) := by decide +kernel
theorem dX8_act_1 : decode cX8_act 1 = .ok (.invokestatic 234, 3) := by decide +kernel
theorem dX8_act_4 : decode cX8_act 4 = .ok (.ifCond .ne 6, 3) := by decide +kernel
theorem dX8_act_7 : decode cX8_act 7 = .ok (.bipush (-2), 2) := by decide +kernel
theorem dX8_act_9 : decode cX8_act 9 = .ok (.ireturn, 1) := by decide +kernel
theorem dX8_act_10 : decode cX8_act 10 = .ok (.iload_n 2, 1) := by decide +kernel
theorem dX8_act_11 : decode cX8_act 11 = .ok (.iconst 0, 1) := by decide +kernel
theorem dX8_act_12 : decode cX8_act 12 = .ok (.iconst 2, 1) := by decide +kernel
theorem dX8_act_13 : decode cX8_act 13 = .ok (.invokestatic 104, 3) := by decide +kernel
theorem dX8_act_16 : decode cX8_act 16 = .ok (.ifCond .ne 6, 3) := by decide +kernel
theorem dX8_act_19 : decode cX8_act 19 = .ok (.bipush (-3), 2) := by decide +kernel
theorem dX8_act_21 : decode cX8_act 21 = .ok (.ireturn, 1) := by decide +kernel
theorem dX8_act_22 : decode cX8_act 22 = .ok (.aload_n 0, 1) := by decide +kernel
theorem dX8_act_23 : decode cX8_act 23 = .ok (.invokevirtual 241, 3) := by decide +kernel
theorem dX8_act_26 : decode cX8_act 26 = .ok (.iload_n 2, 1) := by decide +kernel
theorem dX8_act_27 : decode cX8_act 27 = .ok (.iconst 1, 1) := by decide +kernel
theorem dX8_act_28 : decode cX8_act 28 = .ok (.if_icmp .ne 10, 3) := by decide +kernel
theorem dX8_act_31 : decode cX8_act 31 = .ok (.aload_n 0, 1) := by decide +kernel
theorem dX8_act_32 : decode cX8_act 32 = .ok (.getfield 13, 3) := by decide +kernel
theorem dX8_act_35 : decode cX8_act 35 = .ok (.goto 7, 3) := by decide +kernel
theorem dX8_act_38 : decode cX8_act 38 = .ok (.aload_n 0, 1) := by decide +kernel
theorem dX8_act_39 : decode cX8_act 39 = .ok (.getfield 7, 3) := by decide +kernel
theorem dX8_act_42 : decode cX8_act 42 = .ok (.bipush 9, 2) := by decide +kernel
theorem dX8_act_44 : decode cX8_act 44 = .ok (.iload_n 1, 1) := by decide +kernel
theorem dX8_act_45 : decode cX8_act 45 = .ok (.imul, 1) := by decide +kernel
theorem dX8_act_46 : decode cX8_act 46 = .ok (.aload_n 0, 1) := by decide +kernel
theorem dX8_act_47 : decode cX8_act 47 = .ok (.getfield 77, 3) := by decide +kernel
theorem dX8_act_50 : decode cX8_act 50 = .ok (.iconst 0, 1) := by decide +kernel
theorem dX8_act_51 : decode cX8_act 51 = .ok (.bipush 9, 2) := by decide +kernel
theorem dX8_act_53 : decode cX8_act 53 = .ok (.invokestatic 112, 3) := by decide +kernel
theorem dX8_act_56 : decode cX8_act 56 = .ok (.iload_n 2, 1) := by decide +kernel
theorem dX8_act_57 : decode cX8_act 57 = .ok (.iconst 2, 1) := by decide +kernel
theorem dX8_act_58 : decode cX8_act 58 = .ok (.if_icmp .ne 21, 3) := by decide +kernel
theorem dX8_act_61 : decode cX8_act 61 = .ok (.aload_n 0, 1) := by decide +kernel
theorem dX8_act_62 : decode cX8_act 62 = .ok (.aload_n 0, 1) := by decide +kernel
theorem dX8_act_63 : decode cX8_act 63 = .ok (.getfield 83, 3) := by decide +kernel
theorem dX8_act_66 : decode cX8_act 66 = .ok (.iconst 0, 1) := by decide +kernel
theorem dX8_act_67 : decode cX8_act 67 = .ok (.aload_n 0, 1) := by decide +kernel
theorem dX8_act_68 : decode cX8_act 68 = .ok (.getfield 77, 3) := by decide +kernel
theorem dX8_act_71 : decode cX8_act 71 = .ok (.iconst 0, 1) := by decide +kernel
theorem dX8_act_72 : decode cX8_act 72 = .ok (.aload_n 0, 1) := by decide +kernel
theorem dX8_act_73 : decode cX8_act 73 = .ok (.getfield 77, 3) := by decide +kernel
theorem dX8_act_76 : decode cX8_act 76 = .ok (.invokevirtual 158, 3) := by decide +kernel
theorem dX8_act_79 : decode cX8_act 79 = .ok (.aload_n 0, 1) := by decide +kernel
theorem dX8_act_80 : decode cX8_act 80 = .ok (.invokevirtual 273, 3) := by decide +kernel
theorem dX8_act_83 : decode cX8_act 83 = .ok (.iconst 0, 1) := by decide +kernel
theorem dX8_act_84 : decode cX8_act 84 = .ok (.istore_n 3, 1) := by decide +kernel
theorem dX8_act_85 : decode cX8_act 85 = .ok (.iload_n 3, 1) := by decide +kernel
theorem dX8_act_86 : decode cX8_act 86 = .ok (.bipush 9, 2) := by decide +kernel
theorem dX8_act_88 : decode cX8_act 88 = .ok (.if_icmp .ge 73, 3) := by decide +kernel
theorem dX8_act_91 : decode cX8_act 91 = .ok (.iconst 0, 1) := by decide +kernel
theorem dX8_act_92 : decode cX8_act 92 = .ok (.istore 4, 2) := by decide +kernel
theorem dX8_act_94 : decode cX8_act 94 = .ok (.iconst 0, 1) := by decide +kernel
theorem dX8_act_95 : decode cX8_act 95 = .ok (.istore 5, 2) := by decide +kernel
theorem dX8_act_97 : decode cX8_act 97 = .ok (.iload_n 3, 1) := by decide +kernel
theorem dX8_act_98 : decode cX8_act 98 = .ok (.iload 5, 2) := by decide +kernel
theorem dX8_act_100 : decode cX8_act 100 = .ok (.iadd, 1) := by decide +kernel
theorem dX8_act_101 : decode cX8_act 101 = .ok (.bipush 9, 2) := by decide +kernel
theorem dX8_act_103 : decode cX8_act 103 = .ok (.if_icmp .ge 44, 3) := by decide +kernel
theorem dX8_act_106 : decode cX8_act 106 = .ok (.iload 4, 2) := by decide +kernel
theorem dX8_act_108 : decode cX8_act 108 = .ok (.aload_n 0, 1) := by decide +kernel
theorem dX8_act_109 : decode cX8_act 109 = .ok (.getfield 77, 3) := by decide +kernel
theorem dX8_act_112 : decode cX8_act 112 = .ok (.iload 5, 2) := by decide +kernel
theorem dX8_act_114 : decode cX8_act 114 = .ok (.iaload, 1) := by decide +kernel
theorem dX8_act_115 : decode cX8_act 115 = .ok (.iload_n 3, 1) := by decide +kernel
theorem dX8_act_116 : decode cX8_act 116 = .ok (.iload 5, 2) := by decide +kernel
theorem dX8_act_118 : decode cX8_act 118 = .ok (.invokestatic 253, 3) := by decide +kernel
theorem dX8_act_121 : decode cX8_act 121 = .ok (.aload_n 0, 1) := by decide +kernel
theorem dX8_act_122 : decode cX8_act 122 = .ok (.getfield 16, 3) := by decide +kernel
theorem dX8_act_125 : decode cX8_act 125 = .ok (.iload_n 3, 1) := by decide +kernel
theorem dX8_act_126 : decode cX8_act 126 = .ok (.iload 5, 2) := by decide +kernel
theorem dX8_act_128 : decode cX8_act 128 = .ok (.iadd, 1) := by decide +kernel
theorem dX8_act_129 : decode cX8_act 129 = .ok (.iaload, 1) := by decide +kernel
theorem dX8_act_130 : decode cX8_act 130 = .ok (.invokestatic 108, 3) := by decide +kernel
theorem dX8_act_133 : decode cX8_act 133 = .ok (.invokestatic 108, 3) := by decide +kernel
theorem dX8_act_136 : decode cX8_act 136 = .ok (.invokestatic 119, 3) := by decide +kernel
theorem dX8_act_139 : decode cX8_act 139 = .ok (.istore 4, 2) := by decide +kernel
theorem dX8_act_141 : decode cX8_act 141 = .ok (.iinc 5 1, 3) := by decide +kernel
theorem dX8_act_144 : decode cX8_act 144 = .ok (.goto (-47), 3) := by decide +kernel
theorem dX8_act_147 : decode cX8_act 147 = .ok (.aload_n 0, 1) := by decide +kernel
theorem dX8_act_148 : decode cX8_act 148 = .ok (.getfield 16, 3) := by decide +kernel
theorem dX8_act_151 : decode cX8_act 151 = .ok (.iload_n 3, 1) := by decide +kernel
theorem dX8_act_152 : decode cX8_act 152 = .ok (.iload 4, 2) := by decide +kernel
theorem dX8_act_154 : decode cX8_act 154 = .ok (.iastore, 1) := by decide +kernel
theorem dX8_act_155 : decode cX8_act 155 = .ok (.iinc 3 1, 3) := by decide +kernel
theorem dX8_act_158 : decode cX8_act 158 = .ok (.goto (-73), 3) := by decide +kernel
theorem dX8_act_161 : decode cX8_act 161 = .ok (.aload_n 0, 1) := by decide +kernel
theorem dX8_act_162 : decode cX8_act 162 = .ok (.getfield 16, 3) := by decide +kernel
theorem dX8_act_165 : decode cX8_act 165 = .ok (.iconst 0, 1) := by decide +kernel
theorem dX8_act_166 : decode cX8_act 166 = .ok (.iaload, 1) := by decide +kernel
theorem dX8_act_167 : decode cX8_act 167 = .ok (.ireturn, 1) := by decide +kernel
theorem dX8_raise_0 : decode cX8_raise 0 = .ok (.iload_n 1, 1) := by decide +kernel
theorem dX8_raise_1 : decode cX8_raise 1 = .ok (.invokestatic 234, 3) := by decide +kernel
theorem dX8_raise_4 : decode cX8_raise 4 = .ok (.ifCond .ne 6, 3) := by decide +kernel
theorem dX8_raise_7 : decode cX8_raise 7 = .ok (.bipush (-2), 2) := by decide +kernel
theorem dX8_raise_9 : decode cX8_raise 9 = .ok (.ireturn, 1) := by decide +kernel
theorem dX8_raise_10 : decode cX8_raise 10 = .ok (.aload_n 0, 1) := by decide +kernel
theorem dX8_raise_11 : decode cX8_raise 11 = .ok (.getfield 16, 3) := by decide +kernel
theorem dX8_raise_14 : decode cX8_raise 14 = .ok (.bipush 8, 2) := by decide +kernel
theorem dX8_raise_16 : decode cX8_raise 16 = .ok (.iaload, 1) := by decide +kernel
theorem dX8_raise_17 : decode cX8_raise 17 = .ok (.ifCond .eq 6, 3) := by decide +kernel
theorem dX8_raise_20 : decode cX8_raise 20 = .ok (.bipush (-4), 2) := by decide +kernel
theorem dX8_raise_22 : decode cX8_raise 22 = .ok (.ireturn, 1) := by decide +kernel
theorem dX8_raise_23 : decode cX8_raise 23 = .ok (.aload_n 0, 1) := by decide +kernel
theorem dX8_raise_24 : decode cX8_raise 24 = .ok (.invokevirtual 273, 3) := by decide +kernel
theorem dX8_raise_27 : decode cX8_raise 27 = .ok (.aload_n 0, 1) := by decide +kernel
theorem dX8_raise_28 : decode cX8_raise 28 = .ok (.iload_n 1, 1) := by decide +kernel
theorem dX8_raise_29 : decode cX8_raise 29 = .ok (.aload_n 0, 1) := by decide +kernel
theorem dX8_raise_30 : decode cX8_raise 30 = .ok (.getfield 16, 3) := by decide +kernel
theorem dX8_raise_33 : decode cX8_raise 33 = .ok (.aload_n 0, 1) := by decide +kernel
theorem dX8_raise_34 : decode cX8_raise 34 = .ok (.getfield 95, 3) := by decide +kernel
theorem dX8_raise_37 : decode cX8_raise 37 = .ok (.invokevirtual 256, 3) := by decide +kernel
theorem dX8_raise_40 : decode cX8_raise 40 = .ok (.aload_n 0, 1) := by decide +kernel
theorem dX8_raise_41 : decode cX8_raise 41 = .ok (.getfield 95, 3) := by decide +kernel
theorem dX8_raise_44 : decode cX8_raise 44 = .ok (.iconst 1, 1) := by decide +kernel
theorem dX8_raise_45 : decode cX8_raise 45 = .ok (.aload_n 0, 1) := by decide +kernel
theorem dX8_raise_46 : decode cX8_raise 46 = .ok (.getfield 16, 3) := by decide +kernel
theorem dX8_raise_49 : decode cX8_raise 49 = .ok (.iconst 1, 1) := by decide +kernel
theorem dX8_raise_50 : decode cX8_raise 50 = .ok (.bipush 8, 2) := by decide +kernel
theorem dX8_raise_52 : decode cX8_raise 52 = .ok (.invokestatic 112, 3) := by decide +kernel
theorem dX8_raise_55 : decode cX8_raise 55 = .ok (.aload_n 0, 1) := by decide +kernel
theorem dX8_raise_56 : decode cX8_raise 56 = .ok (.getfield 16, 3) := by decide +kernel
theorem dX8_raise_59 : decode cX8_raise 59 = .ok (.iconst 0, 1) := by decide +kernel
theorem dX8_raise_60 : decode cX8_raise 60 = .ok (.iconst 0, 1) := by decide +kernel
theorem dX8_raise_61 : decode cX8_raise 61 = .ok (.iastore, 1) := by decide +kernel
theorem dX8_raise_62 : decode cX8_raise 62 = .ok (.aload_n 0, 1) := by decide +kernel
theorem dX8_raise_63 : decode cX8_raise 63 = .ok (.getfield 16, 3) := by decide +kernel
theorem dX8_raise_66 : decode cX8_raise 66 = .ok (.iconst 0, 1) := by decide +kernel
theorem dX8_raise_67 : decode cX8_raise 67 = .ok (.iconst 1, 1) := by decide +kernel
theorem dX8_raise_68 : decode cX8_raise 68 = .ok (.invokestatic 263, 3) := by decide +kernel
theorem dX8_raise_71 : decode cX8_raise 71 = .ok (.ireturn, 1) := by decide +kernel
theorem dX8_shift_0 : decode cX8_shift 0 = .ok (.iload_n 1, 1) := by decide +kernel
theorem dX8_shift_1 : decode cX8_shift 1 = .ok (.invokestatic 247, 3) := by decide +kernel
theorem dX8_shift_4 : decode cX8_shift 4 = .ok (.ifCond .ne 6, 3) := by decide +kernel
theorem dX8_shift_7 : decode cX8_shift 7 = .ok (.bipush (-3), 2) := by decide +kernel
theorem dX8_shift_9 : decode cX8_shift 9 = .ok (.ireturn, 1) := by decide +kernel
theorem dX8_shift_10 : decode cX8_shift 10 = .ok (.aload_n 0, 1) := by decide +kernel
theorem dX8_shift_11 : decode cX8_shift 11 = .ok (.invokevirtual 273, 3) := by decide +kernel
theorem dX8_shift_14 : decode cX8_shift 14 = .ok (.iconst 0, 1) := by decide +kernel
theorem dX8_shift_15 : decode cX8_shift 15 = .ok (.istore_n 2, 1) := by decide +kernel
theorem dX8_shift_16 : decode cX8_shift 16 = .ok (.iload_n 2, 1) := by decide +kernel
theorem dX8_shift_17 : decode cX8_shift 17 = .ok (.bipush 9, 2) := by decide +kernel
theorem dX8_shift_19 : decode cX8_shift 19 = .ok (.if_icmp .ge 50, 3) := by decide +kernel
theorem dX8_shift_22 : decode cX8_shift 22 = .ok (.bipush 7, 2) := by decide +kernel
theorem dX8_shift_24 : decode cX8_shift 24 = .ok (.istore_n 3, 1) := by decide +kernel
theorem dX8_shift_25 : decode cX8_shift 25 = .ok (.iload_n 3, 1) := by decide +kernel
theorem dX8_shift_26 : decode cX8_shift 26 = .ok (.iload_n 2, 1) := by decide +kernel
theorem dX8_shift_27 : decode cX8_shift 27 = .ok (.if_icmp .lt 36, 3) := by decide +kernel
theorem dX8_shift_30 : decode cX8_shift 30 = .ok (.aload_n 0, 1) := by decide +kernel
theorem dX8_shift_31 : decode cX8_shift 31 = .ok (.getfield 16, 3) := by decide +kernel
theorem dX8_shift_34 : decode cX8_shift 34 = .ok (.iload_n 3, 1) := by decide +kernel
theorem dX8_shift_35 : decode cX8_shift 35 = .ok (.aload_n 0, 1) := by decide +kernel
theorem dX8_shift_36 : decode cX8_shift 36 = .ok (.getfield 16, 3) := by decide +kernel
theorem dX8_shift_39 : decode cX8_shift 39 = .ok (.iload_n 3, 1) := by decide +kernel
theorem dX8_shift_40 : decode cX8_shift 40 = .ok (.iaload, 1) := by decide +kernel
theorem dX8_shift_41 : decode cX8_shift 41 = .ok (.iload_n 1, 1) := by decide +kernel
theorem dX8_shift_42 : decode cX8_shift 42 = .ok (.aload_n 0, 1) := by decide +kernel
theorem dX8_shift_43 : decode cX8_shift 43 = .ok (.getfield 16, 3) := by decide +kernel
theorem dX8_shift_46 : decode cX8_shift 46 = .ok (.iload_n 3, 1) := by decide +kernel
theorem dX8_shift_47 : decode cX8_shift 47 = .ok (.iconst 1, 1) := by decide +kernel
theorem dX8_shift_48 : decode cX8_shift 48 = .ok (.iadd, 1) := by decide +kernel
theorem dX8_shift_49 : decode cX8_shift 49 = .ok (.iaload, 1) := by decide +kernel
theorem dX8_shift_50 : decode cX8_shift 50 = .ok (.invokestatic 108, 3) := by decide +kernel
theorem dX8_shift_53 : decode cX8_shift 53 = .ok (.invokestatic 119, 3) := by decide +kernel
theorem dX8_shift_56 : decode cX8_shift 56 = .ok (.iastore, 1) := by decide +kernel
theorem dX8_shift_57 : decode cX8_shift 57 = .ok (.iinc 3 (-1), 3) := by decide +kernel
theorem dX8_shift_60 : decode cX8_shift 60 = .ok (.goto (-35), 3) := by decide +kernel
theorem dX8_shift_63 : decode cX8_shift 63 = .ok (.iinc 2 1, 3) := by decide +kernel
theorem dX8_shift_66 : decode cX8_shift 66 = .ok (.goto (-50), 3) := by decide +kernel
theorem dX8_shift_69 : decode cX8_shift 69 = .ok (.aload_n 0, 1) := by decide +kernel
theorem dX8_shift_70 : decode cX8_shift 70 = .ok (.getfield 16, 3) := by decide +kernel
theorem dX8_shift_73 : decode cX8_shift 73 = .ok (.iconst 0, 1) := by decide +kernel
theorem dX8_shift_74 : decode cX8_shift 74 = .ok (.iaload, 1) := by decide +kernel
theorem dX8_shift_75 : decode cX8_shift 75 = .ok (.ireturn, 1) := by decide +kernel
theorem dX8_times_0 : decode cX8_times 0 = .ok (.aload_n 0, 1) := by decide +kernel
theorem dX8_times_1 : decode cX8_times 1 = .ok (.getfield 16, 3) := by decide +kernel
theorem dX8_times_4 : decode cX8_times 4 = .ok (.bipush 8, 2) := by decide +kernel
theorem dX8_times_6 : decode cX8_times 6 = .ok (.iaload, 1) := by decide +kernel
theorem dX8_times_7 : decode cX8_times 7 = .ok (.ifCond .eq 6, 3) := by decide +kernel
theorem dX8_times_10 : decode cX8_times 10 = .ok (.bipush (-4), 2) := by decide +kernel
theorem dX8_times_12 : decode cX8_times 12 = .ok (.ireturn, 1) := by decide +kernel
theorem dX8_times_13 : decode cX8_times 13 = .ok (.aload_n 0, 1) := by decide +kernel
theorem dX8_times_14 : decode cX8_times 14 = .ok (.invokevirtual 273, 3) := by decide +kernel
theorem dX8_times_17 : decode cX8_times 17 = .ok (.bipush 8, 2) := by decide +kernel
theorem dX8_times_19 : decode cX8_times 19 = .ok (.istore_n 1, 1) := by decide +kernel
theorem dX8_times_20 : decode cX8_times 20 = .ok (.iload_n 1, 1) := by decide +kernel
theorem dX8_times_21 : decode cX8_times 21 = .ok (.ifCond .le 23, 3) := by decide +kernel
theorem dX8_times_24 : decode cX8_times 24 = .ok (.aload_n 0, 1) := by decide +kernel
theorem dX8_times_25 : decode cX8_times 25 = .ok (.getfield 16, 3) := by decide +kernel
theorem dX8_times_28 : decode cX8_times 28 = .ok (.iload_n 1, 1) := by decide +kernel
theorem dX8_times_29 : decode cX8_times 29 = .ok (.aload_n 0, 1) := by decide +kernel
theorem dX8_times_30 : decode cX8_times 30 = .ok (.getfield 16, 3) := by decide +kernel
theorem dX8_times_33 : decode cX8_times 33 = .ok (.iload_n 1, 1) := by decide +kernel
theorem dX8_times_34 : decode cX8_times 34 = .ok (.iconst 1, 1) := by decide +kernel
theorem dX8_times_35 : decode cX8_times 35 = .ok (.isub, 1) := by decide +kernel
theorem dX8_times_36 : decode cX8_times 36 = .ok (.iaload, 1) := by decide +kernel
theorem dX8_times_37 : decode cX8_times 37 = .ok (.iastore, 1) := by decide +kernel
theorem dX8_times_38 : decode cX8_times 38 = .ok (.iinc 1 (-1), 3) := by decide +kernel
theorem dX8_times_41 : decode cX8_times 41 = .ok (.goto (-21), 3) := by decide +kernel
theorem dX8_times_44 : decode cX8_times 44 = .ok (.aload_n 0, 1) := by decide +kernel
theorem dX8_times_45 : decode cX8_times 45 = .ok (.getfield 16, 3) := by decide +kernel
theorem dX8_times_48 : decode cX8_times 48 = .ok (.iconst 0, 1) := by decide +kernel
theorem dX8_times_49 : decode cX8_times 49 = .ok (.iconst 0, 1) := by decide +kernel
theorem dX8_times_50 : decode cX8_times 50 = .ok (.iastore, 1) := by decide +kernel
theorem dX8_times_51 : decode cX8_times 51 = .ok (.aload_n 0, 1) := by decide +kernel
theorem dX8_times_52 : decode cX8_times 52 = .ok (.getfield 16, 3) := by decide +kernel
theorem dX8_times_55 : decode cX8_times 55 = .ok (.iconst 0, 1) := by decide +kernel
theorem dX8_times_56 : decode cX8_times 56 = .ok (.iconst 1, 1) := by decide +kernel
theorem dX8_times_57 : decode cX8_times 57 = .ok (.invokestatic 263, 3) := by decide +kernel
theorem dX8_times_60 : decode cX8_times 60 = .ok (.ireturn, 1) := by decide +kernel
theorem dX8_swap_0 : decode cX8_swap 0 = .ok (.iload_n 1, 1) := by decide +kernel
theorem dX8_swap_1 : decode cX8_swap 1 = .ok (.invokestatic 234, 3) := by decide +kernel
theorem dX8_swap_4 : decode cX8_swap 4 = .ok (.ifCond .eq 10, 3) := by decide +kernel
theorem dX8_swap_7 : decode cX8_swap 7 = .ok (.iload_n 2, 1) := by decide +kernel
theorem dX8_swap_8 : decode cX8_swap 8 = .ok (.invokestatic 234, 3) := by decide +kernel
theorem dX8_swap_11 : decode cX8_swap 11 = .ok (.ifCond .ne 6, 3) := by decide +kernel
theorem dX8_swap_14 : decode cX8_swap 14 = .ok (.bipush (-2), 2) := by decide +kernel
theorem dX8_swap_16 : decode cX8_swap 16 = .ok (.ireturn, 1) := by decide +kernel
theorem dX8_swap_17 : decode cX8_swap 17 = .ok (.aload_n 0, 1) := by decide +kernel
theorem dX8_swap_18 : decode cX8_swap 18 = .ok (.iload_n 1, 1) := by decide +kernel
theorem dX8_swap_19 : decode cX8_swap 19 = .ok (.aload_n 0, 1) := by decide +kernel
theorem dX8_swap_20 : decode cX8_swap 20 = .ok (.getfield 86, 3) := by decide +kernel
theorem dX8_swap_23 : decode cX8_swap 23 = .ok (.invokevirtual 260, 3) := by decide +kernel
theorem dX8_swap_26 : decode cX8_swap 26 = .ok (.aload_n 0, 1) := by decide +kernel
theorem dX8_swap_27 : decode cX8_swap 27 = .ok (.iload_n 2, 1) := by decide +kernel
theorem dX8_swap_28 : decode cX8_swap 28 = .ok (.aload_n 0, 1) := by decide +kernel
theorem dX8_swap_29 : decode cX8_swap 29 = .ok (.getfield 89, 3) := by decide +kernel
theorem dX8_swap_32 : decode cX8_swap 32 = .ok (.invokevirtual 260, 3) := by decide +kernel
theorem dX8_swap_35 : decode cX8_swap 35 = .ok (.aload_n 0, 1) := by decide +kernel
theorem dX8_swap_36 : decode cX8_swap 36 = .ok (.invokevirtual 273, 3) := by decide +kernel
theorem dX8_swap_39 : decode cX8_swap 39 = .ok (.aload_n 0, 1) := by decide +kernel
theorem dX8_swap_40 : decode cX8_swap 40 = .ok (.aload_n 0, 1) := by decide +kernel
theorem dX8_swap_41 : decode cX8_swap 41 = .ok (.getfield 16, 3) := by decide +kernel
theorem dX8_swap_44 : decode cX8_swap 44 = .ok (.iconst 0, 1) := by decide +kernel
theorem dX8_swap_45 : decode cX8_swap 45 = .ok (.aload_n 0, 1) := by decide +kernel
theorem dX8_swap_46 : decode cX8_swap 46 = .ok (.getfield 86, 3) := by decide +kernel
theorem dX8_swap_49 : decode cX8_swap 49 = .ok (.invokevirtual 267, 3) := by decide +kernel
theorem dX8_swap_52 : decode cX8_swap 52 = .ok (.aload_n 0, 1) := by decide +kernel
theorem dX8_swap_53 : decode cX8_swap 53 = .ok (.aload_n 0, 1) := by decide +kernel
theorem dX8_swap_54 : decode cX8_swap 54 = .ok (.getfield 89, 3) := by decide +kernel
theorem dX8_swap_57 : decode cX8_swap 57 = .ok (.aload_n 0, 1) := by decide +kernel
theorem dX8_swap_58 : decode cX8_swap 58 = .ok (.getfield 16, 3) := by decide +kernel
theorem dX8_swap_61 : decode cX8_swap 61 = .ok (.invokevirtual 276, 3) := by decide +kernel
theorem dX8_swap_64 : decode cX8_swap 64 = .ok (.aload_n 0, 1) := by decide +kernel
theorem dX8_swap_65 : decode cX8_swap 65 = .ok (.getfield 16, 3) := by decide +kernel
theorem dX8_swap_68 : decode cX8_swap 68 = .ok (.iconst 0, 1) := by decide +kernel
theorem dX8_swap_69 : decode cX8_swap 69 = .ok (.iaload, 1) := by decide +kernel
theorem dX8_swap_70 : decode cX8_swap 70 = .ok (.ireturn, 1) := by decide +kernel
theorem dX8_climb_0 : decode cX8_climb 0 = .ok (.iload_n 1, 1) := by decide +kernel
theorem dX8_climb_1 : decode cX8_climb 1 = .ok (.invokestatic 234, 3) := by decide +kernel
theorem dX8_climb_4 : decode cX8_climb 4 = .ok (.ifCond .ne 6, 3) := by decide +kernel
theorem dX8_climb_7 : decode cX8_climb 7 = .ok (.bipush (-2), 2) := by decide +kernel
theorem dX8_climb_9 : decode cX8_climb 9 = .ok (.ireturn, 1) := by decide +kernel
theorem dX8_climb_10 : decode cX8_climb 10 = .ok (.aload_n 0, 1) := by decide +kernel
theorem dX8_climb_11 : decode cX8_climb 11 = .ok (.getfield 16, 3) := by decide +kernel
theorem dX8_climb_14 : decode cX8_climb 14 = .ok (.bipush 8, 2) := by decide +kernel
theorem dX8_climb_16 : decode cX8_climb 16 = .ok (.iaload, 1) := by decide +kernel
theorem dX8_climb_17 : decode cX8_climb 17 = .ok (.ifCond .eq 6, 3) := by decide +kernel
theorem dX8_climb_20 : decode cX8_climb 20 = .ok (.bipush (-4), 2) := by decide +kernel
theorem dX8_climb_22 : decode cX8_climb 22 = .ok (.ireturn, 1) := by decide +kernel
theorem dX8_climb_23 : decode cX8_climb 23 = .ok (.aload_n 0, 1) := by decide +kernel
theorem dX8_climb_24 : decode cX8_climb 24 = .ok (.iload_n 1, 1) := by decide +kernel
theorem dX8_climb_25 : decode cX8_climb 25 = .ok (.aload_n 0, 1) := by decide +kernel
theorem dX8_climb_26 : decode cX8_climb 26 = .ok (.getfield 86, 3) := by decide +kernel
theorem dX8_climb_29 : decode cX8_climb 29 = .ok (.invokevirtual 260, 3) := by decide +kernel
theorem dX8_climb_32 : decode cX8_climb 32 = .ok (.aload_n 0, 1) := by decide +kernel
theorem dX8_climb_33 : decode cX8_climb 33 = .ok (.invokevirtual 273, 3) := by decide +kernel
theorem dX8_climb_36 : decode cX8_climb 36 = .ok (.aload_n 0, 1) := by decide +kernel
theorem dX8_climb_37 : decode cX8_climb 37 = .ok (.aload_n 0, 1) := by decide +kernel
theorem dX8_climb_38 : decode cX8_climb 38 = .ok (.getfield 16, 3) := by decide +kernel
theorem dX8_climb_41 : decode cX8_climb 41 = .ok (.iconst 0, 1) := by decide +kernel
theorem dX8_climb_42 : decode cX8_climb 42 = .ok (.aload_n 0, 1) := by decide +kernel
theorem dX8_climb_43 : decode cX8_climb 43 = .ok (.getfield 86, 3) := by decide +kernel
theorem dX8_climb_46 : decode cX8_climb 46 = .ok (.invokevirtual 267, 3) := by decide +kernel
theorem dX8_climb_49 : decode cX8_climb 49 = .ok (.bipush 8, 2) := by decide +kernel
theorem dX8_climb_51 : decode cX8_climb 51 = .ok (.istore_n 2, 1) := by decide +kernel
theorem dX8_climb_52 : decode cX8_climb 52 = .ok (.iload_n 2, 1) := by decide +kernel
theorem dX8_climb_53 : decode cX8_climb 53 = .ok (.ifCond .le 23, 3) := by decide +kernel
theorem dX8_climb_56 : decode cX8_climb 56 = .ok (.aload_n 0, 1) := by decide +kernel
theorem dX8_climb_57 : decode cX8_climb 57 = .ok (.getfield 101, 3) := by decide +kernel
theorem dX8_climb_60 : decode cX8_climb 60 = .ok (.iload_n 2, 1) := by decide +kernel
theorem dX8_climb_61 : decode cX8_climb 61 = .ok (.aload_n 0, 1) := by decide +kernel
theorem dX8_climb_62 : decode cX8_climb 62 = .ok (.getfield 101, 3) := by decide +kernel
theorem dX8_climb_65 : decode cX8_climb 65 = .ok (.iload_n 2, 1) := by decide +kernel
theorem dX8_climb_66 : decode cX8_climb 66 = .ok (.iconst 1, 1) := by decide +kernel
theorem dX8_climb_67 : decode cX8_climb 67 = .ok (.isub, 1) := by decide +kernel
theorem dX8_climb_68 : decode cX8_climb 68 = .ok (.iaload, 1) := by decide +kernel
theorem dX8_climb_69 : decode cX8_climb 69 = .ok (.iastore, 1) := by decide +kernel
theorem dX8_climb_70 : decode cX8_climb 70 = .ok (.iinc 2 (-1), 3) := by decide +kernel
theorem dX8_climb_73 : decode cX8_climb 73 = .ok (.goto (-21), 3) := by decide +kernel
theorem dX8_climb_76 : decode cX8_climb 76 = .ok (.aload_n 0, 1) := by decide +kernel
theorem dX8_climb_77 : decode cX8_climb 77 = .ok (.getfield 101, 3) := by decide +kernel
theorem dX8_climb_80 : decode cX8_climb 80 = .ok (.iconst 0, 1) := by decide +kernel
theorem dX8_climb_81 : decode cX8_climb 81 = .ok (.iconst 0, 1) := by decide +kernel
theorem dX8_climb_82 : decode cX8_climb 82 = .ok (.iastore, 1) := by decide +kernel
theorem dX8_climb_83 : decode cX8_climb 83 = .ok (.aload_n 0, 1) := by decide +kernel
theorem dX8_climb_84 : decode cX8_climb 84 = .ok (.aload_n 0, 1) := by decide +kernel
theorem dX8_climb_85 : decode cX8_climb 85 = .ok (.getfield 86, 3) := by decide +kernel
theorem dX8_climb_88 : decode cX8_climb 88 = .ok (.aload_n 0, 1) := by decide +kernel
theorem dX8_climb_89 : decode cX8_climb 89 = .ok (.getfield 16, 3) := by decide +kernel
theorem dX8_climb_92 : decode cX8_climb 92 = .ok (.invokevirtual 276, 3) := by decide +kernel
theorem dX8_climb_95 : decode cX8_climb 95 = .ok (.aload_n 0, 1) := by decide +kernel
theorem dX8_climb_96 : decode cX8_climb 96 = .ok (.getfield 16, 3) := by decide +kernel
theorem dX8_climb_99 : decode cX8_climb 99 = .ok (.iconst 0, 1) := by decide +kernel
theorem dX8_climb_100 : decode cX8_climb 100 = .ok (.iaload, 1) := by decide +kernel
theorem dX8_climb_101 : decode cX8_climb 101 = .ok (.ireturn, 1) := by decide +kernel
theorem dX8_weigh_0 : decode cX8_weigh 0 = .ok (.iload_n 1, 1) := by decide +kernel
theorem dX8_weigh_1 : decode cX8_weigh 1 = .ok (.invokestatic 234, 3) := by decide +kernel
theorem dX8_weigh_4 : decode cX8_weigh 4 = .ok (.ifCond .ne 6, 3) := by decide +kernel
theorem dX8_weigh_7 : decode cX8_weigh 7 = .ok (.bipush (-2), 2) := by decide +kernel
theorem dX8_weigh_9 : decode cX8_weigh 9 = .ok (.ireturn, 1) := by decide +kernel
theorem dX8_weigh_10 : decode cX8_weigh 10 = .ok (.aload_n 0, 1) := by decide +kernel
theorem dX8_weigh_11 : decode cX8_weigh 11 = .ok (.iload_n 1, 1) := by decide +kernel
theorem dX8_weigh_12 : decode cX8_weigh 12 = .ok (.aload_n 0, 1) := by decide +kernel
theorem dX8_weigh_13 : decode cX8_weigh 13 = .ok (.getfield 86, 3) := by decide +kernel
theorem dX8_weigh_16 : decode cX8_weigh 16 = .ok (.invokevirtual 260, 3) := by decide +kernel
theorem dX8_weigh_19 : decode cX8_weigh 19 = .ok (.aload_n 0, 1) := by decide +kernel
theorem dX8_weigh_20 : decode cX8_weigh 20 = .ok (.invokevirtual 273, 3) := by decide +kernel
theorem dX8_weigh_23 : decode cX8_weigh 23 = .ok (.aload_n 0, 1) := by decide +kernel
theorem dX8_weigh_24 : decode cX8_weigh 24 = .ok (.aload_n 0, 1) := by decide +kernel
theorem dX8_weigh_25 : decode cX8_weigh 25 = .ok (.getfield 16, 3) := by decide +kernel
theorem dX8_weigh_28 : decode cX8_weigh 28 = .ok (.iconst 0, 1) := by decide +kernel
theorem dX8_weigh_29 : decode cX8_weigh 29 = .ok (.aload_n 0, 1) := by decide +kernel
theorem dX8_weigh_30 : decode cX8_weigh 30 = .ok (.getfield 86, 3) := by decide +kernel
theorem dX8_weigh_33 : decode cX8_weigh 33 = .ok (.invokevirtual 267, 3) := by decide +kernel
theorem dX8_weigh_36 : decode cX8_weigh 36 = .ok (.iconst 0, 1) := by decide +kernel
theorem dX8_weigh_37 : decode cX8_weigh 37 = .ok (.istore_n 2, 1) := by decide +kernel
theorem dX8_weigh_38 : decode cX8_weigh 38 = .ok (.iload_n 2, 1) := by decide +kernel
theorem dX8_weigh_39 : decode cX8_weigh 39 = .ok (.bipush 9, 2) := by decide +kernel
theorem dX8_weigh_41 : decode cX8_weigh 41 = .ok (.if_icmp .ge 25, 3) := by decide +kernel
theorem dX8_weigh_44 : decode cX8_weigh 44 = .ok (.aload_n 0, 1) := by decide +kernel
theorem dX8_weigh_45 : decode cX8_weigh 45 = .ok (.getfield 101, 3) := by decide +kernel
theorem dX8_weigh_48 : decode cX8_weigh 48 = .ok (.iload_n 2, 1) := by decide +kernel
theorem dX8_weigh_49 : decode cX8_weigh 49 = .ok (.iload_n 2, 1) := by decide +kernel
theorem dX8_weigh_50 : decode cX8_weigh 50 = .ok (.aload_n 0, 1) := by decide +kernel
theorem dX8_weigh_51 : decode cX8_weigh 51 = .ok (.getfield 101, 3) := by decide +kernel
theorem dX8_weigh_54 : decode cX8_weigh 54 = .ok (.iload_n 2, 1) := by decide +kernel
theorem dX8_weigh_55 : decode cX8_weigh 55 = .ok (.iaload, 1) := by decide +kernel
theorem dX8_weigh_56 : decode cX8_weigh 56 = .ok (.invokestatic 108, 3) := by decide +kernel
theorem dX8_weigh_59 : decode cX8_weigh 59 = .ok (.iastore, 1) := by decide +kernel
theorem dX8_weigh_60 : decode cX8_weigh 60 = .ok (.iinc 2 1, 3) := by decide +kernel
theorem dX8_weigh_63 : decode cX8_weigh 63 = .ok (.goto (-25), 3) := by decide +kernel
theorem dX8_weigh_66 : decode cX8_weigh 66 = .ok (.aload_n 0, 1) := by decide +kernel
theorem dX8_weigh_67 : decode cX8_weigh 67 = .ok (.aload_n 0, 1) := by decide +kernel
theorem dX8_weigh_68 : decode cX8_weigh 68 = .ok (.getfield 86, 3) := by decide +kernel
theorem dX8_weigh_71 : decode cX8_weigh 71 = .ok (.aload_n 0, 1) := by decide +kernel
theorem dX8_weigh_72 : decode cX8_weigh 72 = .ok (.getfield 16, 3) := by decide +kernel
theorem dX8_weigh_75 : decode cX8_weigh 75 = .ok (.invokevirtual 276, 3) := by decide +kernel
theorem dX8_weigh_78 : decode cX8_weigh 78 = .ok (.aload_n 0, 1) := by decide +kernel
theorem dX8_weigh_79 : decode cX8_weigh 79 = .ok (.getfield 16, 3) := by decide +kernel
theorem dX8_weigh_82 : decode cX8_weigh 82 = .ok (.iconst 0, 1) := by decide +kernel
theorem dX8_weigh_83 : decode cX8_weigh 83 = .ok (.iaload, 1) := by decide +kernel
theorem dX8_weigh_84 : decode cX8_weigh 84 = .ok (.ireturn, 1) := by decide +kernel
theorem dX8_undo_0 : decode cX8_undo 0 = .ok (.aload_n 0, 1) := by decide +kernel
theorem dX8_undo_1 : decode cX8_undo 1 = .ok (.getfield 270, 3) := by decide +kernel
theorem dX8_undo_4 : decode cX8_undo 4 = .ok (.ifCond .ne 6, 3) := by decide +kernel
theorem dX8_undo_7 : decode cX8_undo 7 = .ok (.bipush (-4), 2) := by decide +kernel
theorem dX8_undo_9 : decode cX8_undo 9 = .ok (.ireturn, 1) := by decide +kernel
theorem dX8_undo_10 : decode cX8_undo 10 = .ok (.aload_n 0, 1) := by decide +kernel
theorem dX8_undo_11 : decode cX8_undo 11 = .ok (.dup, 1) := by decide +kernel
theorem dX8_undo_12 : decode cX8_undo 12 = .ok (.getfield 270, 3) := by decide +kernel
theorem dX8_undo_15 : decode cX8_undo 15 = .ok (.iconst 1, 1) := by decide +kernel
theorem dX8_undo_16 : decode cX8_undo 16 = .ok (.isub, 1) := by decide +kernel
theorem dX8_undo_17 : decode cX8_undo 17 = .ok (.putfield 270, 3) := by decide +kernel
theorem dX8_undo_20 : decode cX8_undo 20 = .ok (.aload_n 0, 1) := by decide +kernel
theorem dX8_undo_21 : decode cX8_undo 21 = .ok (.getfield 19, 3) := by decide +kernel
theorem dX8_undo_24 : decode cX8_undo 24 = .ok (.bipush 9, 2) := by decide +kernel
theorem dX8_undo_26 : decode cX8_undo 26 = .ok (.aload_n 0, 1) := by decide +kernel
theorem dX8_undo_27 : decode cX8_undo 27 = .ok (.getfield 270, 3) := by decide +kernel
theorem dX8_undo_30 : decode cX8_undo 30 = .ok (.imul, 1) := by decide +kernel
theorem dX8_undo_31 : decode cX8_undo 31 = .ok (.aload_n 0, 1) := by decide +kernel
theorem dX8_undo_32 : decode cX8_undo 32 = .ok (.getfield 16, 3) := by decide +kernel
theorem dX8_undo_35 : decode cX8_undo 35 = .ok (.iconst 0, 1) := by decide +kernel
theorem dX8_undo_36 : decode cX8_undo 36 = .ok (.bipush 9, 2) := by decide +kernel
theorem dX8_undo_38 : decode cX8_undo 38 = .ok (.invokestatic 112, 3) := by decide +kernel
theorem dX8_undo_41 : decode cX8_undo 41 = .ok (.aload_n 0, 1) := by decide +kernel
theorem dX8_undo_42 : decode cX8_undo 42 = .ok (.getfield 270, 3) := by decide +kernel
theorem dX8_undo_45 : decode cX8_undo 45 = .ok (.ireturn, 1) := by decide +kernel
theorem dX8_hand_0 : decode cX8_hand 0 = .ok (.iload_n 1, 1) := by decide +kernel
theorem dX8_hand_1 : decode cX8_hand 1 = .ok (.invokestatic 250, 3) := by decide +kernel
theorem dX8_hand_4 : decode cX8_hand 4 = .ok (.ifCond .eq 12, 3) := by decide +kernel
theorem dX8_hand_7 : decode cX8_hand 7 = .ok (.aload_n 0, 1) := by decide +kernel
theorem dX8_hand_8 : decode cX8_hand 8 = .ok (.getfield 16, 3) := by decide +kernel
theorem dX8_hand_11 : decode cX8_hand 11 = .ok (.iload_n 1, 1) := by decide +kernel
theorem dX8_hand_12 : decode cX8_hand 12 = .ok (.iaload, 1) := by decide +kernel
theorem dX8_hand_13 : decode cX8_hand 13 = .ok (.goto 5, 3) := by decide +kernel
theorem dX8_hand_16 : decode cX8_hand 16 = .ok (.bipush (-3), 2) := by decide +kernel
theorem dX8_hand_18 : decode cX8_hand 18 = .ok (.ireturn, 1) := by decide +kernel
theorem dX8_at_0 : decode cX8_at 0 = .ok (.iload_n 1, 1) := by decide +kernel
theorem dX8_at_1 : decode cX8_at 1 = .ok (.invokestatic 247, 3) := by decide +kernel
theorem dX8_at_4 : decode cX8_at 4 = .ok (.ifCond .eq 15, 3) := by decide +kernel
theorem dX8_at_7 : decode cX8_at 7 = .ok (.aload_n 0, 1) := by decide +kernel
theorem dX8_at_8 : decode cX8_at 8 = .ok (.getfield 16, 3) := by decide +kernel
theorem dX8_at_11 : decode cX8_at 11 = .ok (.iconst 0, 1) := by decide +kernel
theorem dX8_at_12 : decode cX8_at 12 = .ok (.iload_n 1, 1) := by decide +kernel
theorem dX8_at_13 : decode cX8_at 13 = .ok (.invokestatic 263, 3) := by decide +kernel
theorem dX8_at_16 : decode cX8_at 16 = .ok (.goto 5, 3) := by decide +kernel
theorem dX8_at_19 : decode cX8_at 19 = .ok (.bipush (-3), 2) := by decide +kernel
theorem dX8_at_21 : decode cX8_at 21 = .ok (.ireturn, 1) := by decide +kernel
theorem dX8_expand_0 : decode cX8_expand 0 = .ok (.iload_n 1, 1) := by decide +kernel
theorem dX8_expand_1 : decode cX8_expand 1 = .ok (.invokestatic 234, 3) := by decide +kernel
theorem dX8_expand_4 : decode cX8_expand 4 = .ok (.ifCond .ne 6, 3) := by decide +kernel
theorem dX8_expand_7 : decode cX8_expand 7 = .ok (.bipush (-2), 2) := by decide +kernel
theorem dX8_expand_9 : decode cX8_expand 9 = .ok (.ireturn, 1) := by decide +kernel
theorem dX8_expand_10 : decode cX8_expand 10 = .ok (.iload_n 2, 1) := by decide +kernel
theorem dX8_expand_11 : decode cX8_expand 11 = .ok (.invokestatic 250, 3) := by decide +kernel
theorem dX8_expand_14 : decode cX8_expand 14 = .ok (.ifCond .ne 6, 3) := by decide +kernel
theorem dX8_expand_17 : decode cX8_expand 17 = .ok (.bipush (-3), 2) := by decide +kernel
theorem dX8_expand_19 : decode cX8_expand 19 = .ok (.ireturn, 1) := by decide +kernel
theorem dX8_expand_20 : decode cX8_expand 20 = .ok (.aload_n 0, 1) := by decide +kernel
theorem dX8_expand_21 : decode cX8_expand 21 = .ok (.iload_n 1, 1) := by decide +kernel
theorem dX8_expand_22 : decode cX8_expand 22 = .ok (.aload_n 0, 1) := by decide +kernel
theorem dX8_expand_23 : decode cX8_expand 23 = .ok (.getfield 86, 3) := by decide +kernel
theorem dX8_expand_26 : decode cX8_expand 26 = .ok (.invokevirtual 260, 3) := by decide +kernel
theorem dX8_expand_29 : decode cX8_expand 29 = .ok (.aload_n 0, 1) := by decide +kernel
theorem dX8_expand_30 : decode cX8_expand 30 = .ok (.aload_n 0, 1) := by decide +kernel
theorem dX8_expand_31 : decode cX8_expand 31 = .ok (.getfield 16, 3) := by decide +kernel
theorem dX8_expand_34 : decode cX8_expand 34 = .ok (.iconst 0, 1) := by decide +kernel
theorem dX8_expand_35 : decode cX8_expand 35 = .ok (.aload_n 0, 1) := by decide +kernel
theorem dX8_expand_36 : decode cX8_expand 36 = .ok (.getfield 86, 3) := by decide +kernel
theorem dX8_expand_39 : decode cX8_expand 39 = .ok (.invokevirtual 267, 3) := by decide +kernel
theorem dX8_expand_42 : decode cX8_expand 42 = .ok (.aload_n 0, 1) := by decide +kernel
theorem dX8_expand_43 : decode cX8_expand 43 = .ok (.getfield 101, 3) := by decide +kernel
theorem dX8_expand_46 : decode cX8_expand 46 = .ok (.iload_n 2, 1) := by decide +kernel
theorem dX8_expand_47 : decode cX8_expand 47 = .ok (.iaload, 1) := by decide +kernel
theorem dX8_expand_48 : decode cX8_expand 48 = .ok (.ireturn, 1) := by decide +kernel
theorem dX8_sum_0 : decode cX8_sum 0 = .ok (.iload_n 1, 1) := by decide +kernel
theorem dX8_sum_1 : decode cX8_sum 1 = .ok (.iconst 0, 1) := by decide +kernel
theorem dX8_sum_2 : decode cX8_sum 2 = .ok (.sipush 500, 3) := by decide +kernel
theorem dX8_sum_5 : decode cX8_sum 5 = .ok (.invokestatic 104, 3) := by decide +kernel
theorem dX8_sum_8 : decode cX8_sum 8 = .ok (.ifCond .ne 6, 3) := by decide +kernel
theorem dX8_sum_11 : decode cX8_sum 11 = .ok (.bipush (-3), 2) := by decide +kernel
theorem dX8_sum_13 : decode cX8_sum 13 = .ok (.ireturn, 1) := by decide +kernel
theorem dX8_sum_14 : decode cX8_sum 14 = .ok (.iconst 0, 1) := by decide +kernel
theorem dX8_sum_15 : decode cX8_sum 15 = .ok (.istore_n 2, 1) := by decide +kernel
theorem dX8_sum_16 : decode cX8_sum 16 = .ok (.iconst 0, 1) := by decide +kernel
theorem dX8_sum_17 : decode cX8_sum 17 = .ok (.istore_n 3, 1) := by decide +kernel
theorem dX8_sum_18 : decode cX8_sum 18 = .ok (.iload_n 3, 1) := by decide +kernel
theorem dX8_sum_19 : decode cX8_sum 19 = .ok (.iload_n 1, 1) := by decide +kernel
theorem dX8_sum_20 : decode cX8_sum 20 = .ok (.if_icmp .ge 23, 3) := by decide +kernel
theorem dX8_sum_23 : decode cX8_sum 23 = .ok (.iload_n 2, 1) := by decide +kernel
theorem dX8_sum_24 : decode cX8_sum 24 = .ok (.aload_n 0, 1) := by decide +kernel
theorem dX8_sum_25 : decode cX8_sum 25 = .ok (.getfield 16, 3) := by decide +kernel
theorem dX8_sum_28 : decode cX8_sum 28 = .ok (.iconst 0, 1) := by decide +kernel
theorem dX8_sum_29 : decode cX8_sum 29 = .ok (.iload_n 3, 1) := by decide +kernel
theorem dX8_sum_30 : decode cX8_sum 30 = .ok (.invokestatic 263, 3) := by decide +kernel
theorem dX8_sum_33 : decode cX8_sum 33 = .ok (.invokestatic 119, 3) := by decide +kernel
theorem dX8_sum_36 : decode cX8_sum 36 = .ok (.istore_n 2, 1) := by decide +kernel
theorem dX8_sum_37 : decode cX8_sum 37 = .ok (.iinc 3 1, 3) := by decide +kernel
theorem dX8_sum_40 : decode cX8_sum 40 = .ok (.goto (-22), 3) := by decide +kernel
theorem dX8_sum_43 : decode cX8_sum 43 = .ok (.iload_n 2, 1) := by decide +kernel
theorem dX8_sum_44 : decode cX8_sum 44 = .ok (.ireturn, 1) := by decide +kernel
theorem dX8_many_0 : decode cX8_many 0 = .ok (.iconst 0, 1) := by decide +kernel
theorem dX8_many_1 : decode cX8_many 1 = .ok (.istore_n 1, 1) := by decide +kernel
theorem dX8_many_2 : decode cX8_many 2 = .ok (.iconst 0, 1) := by decide +kernel
theorem dX8_many_3 : decode cX8_many 3 = .ok (.istore_n 2, 1) := by decide +kernel
theorem dX8_many_4 : decode cX8_many 4 = .ok (.iload_n 2, 1) := by decide +kernel
theorem dX8_many_5 : decode cX8_many 5 = .ok (.bipush 9, 2) := by decide +kernel
theorem dX8_many_7 : decode cX8_many 7 = .ok (.if_icmp .ge 26, 3) := by decide +kernel
theorem dX8_many_10 : decode cX8_many 10 = .ok (.iload_n 1, 1) := by decide +kernel
theorem dX8_many_11 : decode cX8_many 11 = .ok (.aload_n 0, 1) := by decide +kernel
theorem dX8_many_12 : decode cX8_many 12 = .ok (.getfield 16, 3) := by decide +kernel
theorem dX8_many_15 : decode cX8_many 15 = .ok (.iload_n 2, 1) := by decide +kernel
theorem dX8_many_16 : decode cX8_many 16 = .ok (.iaload, 1) := by decide +kernel
theorem dX8_many_17 : decode cX8_many 17 = .ok (.ifCond .ne 7, 3) := by decide +kernel
theorem dX8_many_20 : decode cX8_many 20 = .ok (.iconst 0, 1) := by decide +kernel
theorem dX8_many_21 : decode cX8_many 21 = .ok (.goto 4, 3) := by decide +kernel
theorem dX8_many_24 : decode cX8_many 24 = .ok (.iconst 1, 1) := by decide +kernel
theorem dX8_many_25 : decode cX8_many 25 = .ok (.iadd, 1) := by decide +kernel
theorem dX8_many_26 : decode cX8_many 26 = .ok (.istore_n 1, 1) := by decide +kernel
theorem dX8_many_27 : decode cX8_many 27 = .ok (.iinc 2 1, 3) := by decide +kernel
theorem dX8_many_30 : decode cX8_many 30 = .ok (.goto (-26), 3) := by decide +kernel
theorem dX8_many_33 : decode cX8_many 33 = .ok (.iload_n 1, 1) := by decide +kernel
theorem dX8_many_34 : decode cX8_many 34 = .ok (.ireturn, 1) := by decide +kernel
theorem dX8_keep_0 : decode cX8_keep 0 = .ok (.iload_n 1, 1) := by decide +kernel
theorem dX8_keep_1 : decode cX8_keep 1 = .ok (.iconst 0, 1) := by decide +kernel
theorem dX8_keep_2 : decode cX8_keep 2 = .ok (.iconst 1, 1) := by decide +kernel
theorem dX8_keep_3 : decode cX8_keep 3 = .ok (.invokestatic 104, 3) := by decide +kernel
theorem dX8_keep_6 : decode cX8_keep 6 = .ok (.ifCond .ne 6, 3) := by decide +kernel
theorem dX8_keep_9 : decode cX8_keep 9 = .ok (.bipush (-3), 2) := by decide +kernel
theorem dX8_keep_11 : decode cX8_keep 11 = .ok (.ireturn, 1) := by decide +kernel
theorem dX8_keep_12 : decode cX8_keep 12 = .ok (.aload_n 0, 1) := by decide +kernel
theorem dX8_keep_13 : decode cX8_keep 13 = .ok (.getfield 25, 3) := by decide +kernel
theorem dX8_keep_16 : decode cX8_keep 16 = .ok (.iload_n 1, 1) := by decide +kernel
theorem dX8_keep_17 : decode cX8_keep 17 = .ok (.iconst 1, 1) := by decide +kernel
theorem dX8_keep_18 : decode cX8_keep 18 = .ok (.bastore, 1) := by decide +kernel
theorem dX8_keep_19 : decode cX8_keep 19 = .ok (.aload_n 0, 1) := by decide +kernel
theorem dX8_keep_20 : decode cX8_keep 20 = .ok (.getfield 7, 3) := by decide +kernel
theorem dX8_keep_23 : decode cX8_keep 23 = .ok (.iconst 0, 1) := by decide +kernel
theorem dX8_keep_24 : decode cX8_keep 24 = .ok (.aload_n 0, 1) := by decide +kernel
theorem dX8_keep_25 : decode cX8_keep 25 = .ok (.getfield 22, 3) := by decide +kernel
theorem dX8_keep_28 : decode cX8_keep 28 = .ok (.bipush 81, 2) := by decide +kernel
theorem dX8_keep_30 : decode cX8_keep 30 = .ok (.iload_n 1, 1) := by decide +kernel
theorem dX8_keep_31 : decode cX8_keep 31 = .ok (.imul, 1) := by decide +kernel
theorem dX8_keep_32 : decode cX8_keep 32 = .ok (.bipush 36, 2) := by decide +kernel
theorem dX8_keep_34 : decode cX8_keep 34 = .ok (.invokestatic 112, 3) := by decide +kernel
theorem dX8_keep_37 : decode cX8_keep 37 = .ok (.aload_n 0, 1) := by decide +kernel
theorem dX8_keep_38 : decode cX8_keep 38 = .ok (.getfield 13, 3) := by decide +kernel
theorem dX8_keep_41 : decode cX8_keep 41 = .ok (.iconst 0, 1) := by decide +kernel
theorem dX8_keep_42 : decode cX8_keep 42 = .ok (.aload_n 0, 1) := by decide +kernel
theorem dX8_keep_43 : decode cX8_keep 43 = .ok (.getfield 22, 3) := by decide +kernel
theorem dX8_keep_46 : decode cX8_keep 46 = .ok (.bipush 81, 2) := by decide +kernel
theorem dX8_keep_48 : decode cX8_keep 48 = .ok (.iload_n 1, 1) := by decide +kernel
theorem dX8_keep_49 : decode cX8_keep 49 = .ok (.imul, 1) := by decide +kernel
theorem dX8_keep_50 : decode cX8_keep 50 = .ok (.bipush 36, 2) := by decide +kernel
theorem dX8_keep_52 : decode cX8_keep 52 = .ok (.iadd, 1) := by decide +kernel
theorem dX8_keep_53 : decode cX8_keep 53 = .ok (.bipush 36, 2) := by decide +kernel
theorem dX8_keep_55 : decode cX8_keep 55 = .ok (.invokestatic 112, 3) := by decide +kernel
theorem dX8_keep_58 : decode cX8_keep 58 = .ok (.aload_n 0, 1) := by decide +kernel
theorem dX8_keep_59 : decode cX8_keep 59 = .ok (.getfield 16, 3) := by decide +kernel
theorem dX8_keep_62 : decode cX8_keep 62 = .ok (.iconst 0, 1) := by decide +kernel
theorem dX8_keep_63 : decode cX8_keep 63 = .ok (.aload_n 0, 1) := by decide +kernel
theorem dX8_keep_64 : decode cX8_keep 64 = .ok (.getfield 22, 3) := by decide +kernel
theorem dX8_keep_67 : decode cX8_keep 67 = .ok (.bipush 81, 2) := by decide +kernel
theorem dX8_keep_69 : decode cX8_keep 69 = .ok (.iload_n 1, 1) := by decide +kernel
theorem dX8_keep_70 : decode cX8_keep 70 = .ok (.imul, 1) := by decide +kernel
theorem dX8_keep_71 : decode cX8_keep 71 = .ok (.bipush 72, 2) := by decide +kernel
theorem dX8_keep_73 : decode cX8_keep 73 = .ok (.iadd, 1) := by decide +kernel
theorem dX8_keep_74 : decode cX8_keep 74 = .ok (.bipush 9, 2) := by decide +kernel
theorem dX8_keep_76 : decode cX8_keep 76 = .ok (.invokestatic 112, 3) := by decide +kernel
theorem dX8_keep_79 : decode cX8_keep 79 = .ok (.aload_n 0, 1) := by decide +kernel
theorem dX8_keep_80 : decode cX8_keep 80 = .ok (.invokevirtual 280, 3) := by decide +kernel
theorem dX8_keep_83 : decode cX8_keep 83 = .ok (.ireturn, 1) := by decide +kernel
theorem dX8_back_0 : decode cX8_back 0 = .ok (.iload_n 1, 1) := by decide +kernel
theorem dX8_back_1 : decode cX8_back 1 = .ok (.iconst 0, 1) := by decide +kernel
theorem dX8_back_2 : decode cX8_back 2 = .ok (.iconst 1, 1) := by decide +kernel
theorem dX8_back_3 : decode cX8_back 3 = .ok (.invokestatic 104, 3) := by decide +kernel
theorem dX8_back_6 : decode cX8_back 6 = .ok (.ifCond .ne 6, 3) := by decide +kernel
theorem dX8_back_9 : decode cX8_back 9 = .ok (.bipush (-3), 2) := by decide +kernel
theorem dX8_back_11 : decode cX8_back 11 = .ok (.ireturn, 1) := by decide +kernel
theorem dX8_back_12 : decode cX8_back 12 = .ok (.aload_n 0, 1) := by decide +kernel
theorem dX8_back_13 : decode cX8_back 13 = .ok (.getfield 25, 3) := by decide +kernel
theorem dX8_back_16 : decode cX8_back 16 = .ok (.iload_n 1, 1) := by decide +kernel
theorem dX8_back_17 : decode cX8_back 17 = .ok (.baload, 1) := by decide +kernel
theorem dX8_back_18 : decode cX8_back 18 = .ok (.ifCond .ne 6, 3) := by decide +kernel
theorem dX8_back_21 : decode cX8_back 21 = .ok (.bipush (-4), 2) := by decide +kernel
theorem dX8_back_23 : decode cX8_back 23 = .ok (.ireturn, 1) := by decide +kernel
theorem dX8_back_24 : decode cX8_back 24 = .ok (.aload_n 0, 1) := by decide +kernel
theorem dX8_back_25 : decode cX8_back 25 = .ok (.getfield 22, 3) := by decide +kernel
theorem dX8_back_28 : decode cX8_back 28 = .ok (.bipush 81, 2) := by decide +kernel
theorem dX8_back_30 : decode cX8_back 30 = .ok (.iload_n 1, 1) := by decide +kernel
theorem dX8_back_31 : decode cX8_back 31 = .ok (.imul, 1) := by decide +kernel
theorem dX8_back_32 : decode cX8_back 32 = .ok (.aload_n 0, 1) := by decide +kernel
theorem dX8_back_33 : decode cX8_back 33 = .ok (.getfield 7, 3) := by decide +kernel
theorem dX8_back_36 : decode cX8_back 36 = .ok (.iconst 0, 1) := by decide +kernel
theorem dX8_back_37 : decode cX8_back 37 = .ok (.bipush 36, 2) := by decide +kernel
theorem dX8_back_39 : decode cX8_back 39 = .ok (.invokestatic 112, 3) := by decide +kernel
theorem dX8_back_42 : decode cX8_back 42 = .ok (.aload_n 0, 1) := by decide +kernel
theorem dX8_back_43 : decode cX8_back 43 = .ok (.getfield 22, 3) := by decide +kernel
theorem dX8_back_46 : decode cX8_back 46 = .ok (.bipush 81, 2) := by decide +kernel
theorem dX8_back_48 : decode cX8_back 48 = .ok (.iload_n 1, 1) := by decide +kernel
theorem dX8_back_49 : decode cX8_back 49 = .ok (.imul, 1) := by decide +kernel
theorem dX8_back_50 : decode cX8_back 50 = .ok (.bipush 36, 2) := by decide +kernel
theorem dX8_back_52 : decode cX8_back 52 = .ok (.iadd, 1) := by decide +kernel
theorem dX8_back_53 : decode cX8_back 53 = .ok (.aload_n 0, 1) := by decide +kernel
theorem dX8_back_54 : decode cX8_back 54 = .ok (.getfield 13, 3) := by decide +kernel
theorem dX8_back_57 : decode cX8_back 57 = .ok (.iconst 0, 1) := by decide +kernel
theorem dX8_back_58 : decode cX8_back 58 = .ok (.bipush 36, 2) := by decide +kernel
theorem dX8_back_60 : decode cX8_back 60 = .ok (.invokestatic 112, 3) := by decide +kernel
theorem dX8_back_63 : decode cX8_back 63 = .ok (.aload_n 0, 1) := by decide +kernel
theorem dX8_back_64 : decode cX8_back 64 = .ok (.getfield 22, 3) := by decide +kernel
theorem dX8_back_67 : decode cX8_back 67 = .ok (.bipush 81, 2) := by decide +kernel
theorem dX8_back_69 : decode cX8_back 69 = .ok (.iload_n 1, 1) := by decide +kernel
theorem dX8_back_70 : decode cX8_back 70 = .ok (.imul, 1) := by decide +kernel
theorem dX8_back_71 : decode cX8_back 71 = .ok (.bipush 72, 2) := by decide +kernel
theorem dX8_back_73 : decode cX8_back 73 = .ok (.iadd, 1) := by decide +kernel
theorem dX8_back_74 : decode cX8_back 74 = .ok (.aload_n 0, 1) := by decide +kernel
theorem dX8_back_75 : decode cX8_back 75 = .ok (.getfield 16, 3) := by decide +kernel
theorem dX8_back_78 : decode cX8_back 78 = .ok (.iconst 0, 1) := by decide +kernel
theorem dX8_back_79 : decode cX8_back 79 = .ok (.bipush 9, 2) := by decide +kernel
theorem dX8_back_81 : decode cX8_back 81 = .ok (.invokestatic 112, 3) := by decide +kernel
theorem dX8_back_84 : decode cX8_back 84 = .ok (.aload_n 0, 1) := by decide +kernel
theorem dX8_back_85 : decode cX8_back 85 = .ok (.iconst 0, 1) := by decide +kernel
theorem dX8_back_86 : decode cX8_back 86 = .ok (.putfield 270, 3) := by decide +kernel
theorem dX8_back_89 : decode cX8_back 89 = .ok (.aload_n 0, 1) := by decide +kernel
theorem dX8_back_90 : decode cX8_back 90 = .ok (.invokevirtual 280, 3) := by decide +kernel
theorem dX8_back_93 : decode cX8_back 93 = .ok (.ireturn, 1) := by decide +kernel
theorem dX8_leastOf_0 : decode cX8_leastOf 0 = .ok (.iconst 2, 1) := by decide +kernel
theorem dX8_leastOf_1 : decode cX8_leastOf 1 = .ok (.istore_n 2, 1) := by decide +kernel
theorem dX8_leastOf_2 : decode cX8_leastOf 2 = .ok (.iload_n 2, 1) := by decide +kernel
theorem dX8_leastOf_3 : decode cX8_leastOf 3 = .ok (.bipush 9, 2) := by decide +kernel
theorem dX8_leastOf_5 : decode cX8_leastOf 5 = .ok (.if_icmp .ge 25, 3) := by decide +kernel
theorem dX8_leastOf_8 : decode cX8_leastOf 8 = .ok (.aload_n 0, 1) := by decide +kernel
theorem dX8_leastOf_9 : decode cX8_leastOf 9 = .ok (.getfield 13, 3) := by decide +kernel
theorem dX8_leastOf_12 : decode cX8_leastOf 12 = .ok (.bipush 9, 2) := by decide +kernel
theorem dX8_leastOf_14 : decode cX8_leastOf 14 = .ok (.iload_n 1, 1) := by decide +kernel
theorem dX8_leastOf_15 : decode cX8_leastOf 15 = .ok (.imul, 1) := by decide +kernel
theorem dX8_leastOf_16 : decode cX8_leastOf 16 = .ok (.iload_n 2, 1) := by decide +kernel
theorem dX8_leastOf_17 : decode cX8_leastOf 17 = .ok (.iadd, 1) := by decide +kernel
theorem dX8_leastOf_18 : decode cX8_leastOf 18 = .ok (.iaload, 1) := by decide +kernel
theorem dX8_leastOf_19 : decode cX8_leastOf 19 = .ok (.ifCond .eq 5, 3) := by decide +kernel
theorem dX8_leastOf_22 : decode cX8_leastOf 22 = .ok (.iload_n 2, 1) := by decide +kernel
theorem dX8_leastOf_23 : decode cX8_leastOf 23 = .ok (.ireturn, 1) := by decide +kernel
theorem dX8_leastOf_24 : decode cX8_leastOf 24 = .ok (.iinc 2 1, 3) := by decide +kernel
theorem dX8_leastOf_27 : decode cX8_leastOf 27 = .ok (.goto (-25), 3) := by decide +kernel
theorem dX8_leastOf_30 : decode cX8_leastOf 30 = .ok (.iconst (-1), 1) := by decide +kernel
theorem dX8_leastOf_31 : decode cX8_leastOf 31 = .ok (.ireturn, 1) := by decide +kernel
theorem dX8_degree_0 : decode cX8_degree 0 = .ok (.bipush 8, 2) := by decide +kernel
theorem dX8_degree_2 : decode cX8_degree 2 = .ok (.istore_n 1, 1) := by decide +kernel
theorem dX8_degree_3 : decode cX8_degree 3 = .ok (.iload_n 1, 1) := by decide +kernel
theorem dX8_degree_4 : decode cX8_degree 4 = .ok (.ifCond .lt 18, 3) := by decide +kernel
theorem dX8_degree_7 : decode cX8_degree 7 = .ok (.aload_n 0, 1) := by decide +kernel
theorem dX8_degree_8 : decode cX8_degree 8 = .ok (.getfield 16, 3) := by decide +kernel
theorem dX8_degree_11 : decode cX8_degree 11 = .ok (.iload_n 1, 1) := by decide +kernel
theorem dX8_degree_12 : decode cX8_degree 12 = .ok (.iaload, 1) := by decide +kernel
theorem dX8_degree_13 : decode cX8_degree 13 = .ok (.ifCond .ne 9, 3) := by decide +kernel
theorem dX8_degree_16 : decode cX8_degree 16 = .ok (.iinc 1 (-1), 3) := by decide +kernel
theorem dX8_degree_19 : decode cX8_degree 19 = .ok (.goto (-16), 3) := by decide +kernel
theorem dX8_degree_22 : decode cX8_degree 22 = .ok (.iload_n 1, 1) := by decide +kernel
theorem dX8_degree_23 : decode cX8_degree 23 = .ok (.ireturn, 1) := by decide +kernel
theorem dX8_count_0 : decode cX8_count 0 = .ok (.iload_n 1, 1) := by decide +kernel
theorem dX8_count_1 : decode cX8_count 1 = .ok (.iconst 0, 1) := by decide +kernel
theorem dX8_count_2 : decode cX8_count 2 = .ok (.bipush 6, 2) := by decide +kernel
theorem dX8_count_4 : decode cX8_count 4 = .ok (.invokestatic 104, 3) := by decide +kernel
theorem dX8_count_7 : decode cX8_count 7 = .ok (.ifCond .ne 6, 3) := by decide +kernel
theorem dX8_count_10 : decode cX8_count 10 = .ok (.bipush (-3), 2) := by decide +kernel
theorem dX8_count_12 : decode cX8_count 12 = .ok (.ireturn, 1) := by decide +kernel
theorem dX8_count_13 : decode cX8_count 13 = .ok (.iload_n 1, 1) := by decide +kernel
theorem dX8_count_14 : decode cX8_count 14 = .ok (.ifCond .ne 10, 3) := by decide +kernel
theorem dX8_count_17 : decode cX8_count 17 = .ok (.aload_n 0, 1) := by decide +kernel
theorem dX8_count_18 : decode cX8_count 18 = .ok (.invokevirtual 283, 3) := by decide +kernel
theorem dX8_count_21 : decode cX8_count 21 = .ok (.goto 34, 3) := by decide +kernel
theorem dX8_count_24 : decode cX8_count 24 = .ok (.iload_n 1, 1) := by decide +kernel
theorem dX8_count_25 : decode cX8_count 25 = .ok (.iconst 1, 1) := by decide +kernel
theorem dX8_count_26 : decode cX8_count 26 = .ok (.if_icmp .ne 10, 3) := by decide +kernel
theorem dX8_count_29 : decode cX8_count 29 = .ok (.aload_n 0, 1) := by decide +kernel
theorem dX8_count_30 : decode cX8_count 30 = .ok (.getfield 270, 3) := by decide +kernel
theorem dX8_count_33 : decode cX8_count 33 = .ok (.goto 22, 3) := by decide +kernel
theorem dX8_count_36 : decode cX8_count 36 = .ok (.iload_n 1, 1) := by decide +kernel
theorem dX8_count_37 : decode cX8_count 37 = .ok (.iconst 2, 1) := by decide +kernel
theorem dX8_count_38 : decode cX8_count 38 = .ok (.if_icmp .ne 10, 3) := by decide +kernel
theorem dX8_count_41 : decode cX8_count 41 = .ok (.aload_n 0, 1) := by decide +kernel
theorem dX8_count_42 : decode cX8_count 42 = .ok (.getfield 144, 3) := by decide +kernel
theorem dX8_count_45 : decode cX8_count 45 = .ok (.goto 10, 3) := by decide +kernel
theorem dX8_count_48 : decode cX8_count 48 = .ok (.aload_n 0, 1) := by decide +kernel
theorem dX8_count_49 : decode cX8_count 49 = .ok (.iload_n 1, 1) := by decide +kernel
theorem dX8_count_50 : decode cX8_count 50 = .ok (.iconst 3, 1) := by decide +kernel
theorem dX8_count_51 : decode cX8_count 51 = .ok (.isub, 1) := by decide +kernel
theorem dX8_count_52 : decode cX8_count 52 = .ok (.invokevirtual 286, 3) := by decide +kernel
theorem dX8_count_55 : decode cX8_count 55 = .ok (.ireturn, 1) := by decide +kernel
