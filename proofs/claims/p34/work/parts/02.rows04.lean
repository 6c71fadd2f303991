theorem dL_is_179 : decode cL_is 179 = .ok (.if_icmp .ne 7, 3) := by decide +kernel
theorem dL_is_182 : decode cL_is 182 = .ok (.iconst 1, 1) := by decide +kernel
theorem dL_is_183 : decode cL_is 183 = .ok (.goto 4, 3) := by decide +kernel
theorem dL_is_186 : decode cL_is 186 = .ok (.iconst 0, 1) := by decide +kernel
theorem dL_is_187 : decode cL_is 187 = .ok (.ireturn, 1) := by decide +kernel
theorem dL_law_0 : decode cL_law 0 = .ok (.new 16, 3) := by decide +kernel
theorem dL_law_3 : decode cL_law 3 = .ok (.dup, 1) := by decide +kernel
theorem dL_law_4 : decode cL_law 4 = .ok (.invokespecial 86, 3) := by decide +kernel
theorem dL_law_7 : decode cL_law 7 = .ok (.astore_n 1, 1) := by decide +kernel
theorem dL_law_8 : decode cL_law 8 = .ok (.bipush 51, 2) := by decide +kernel
theorem dL_law_10 : decode cL_law 10 = .ok (.newarray .int, 2) := by decide +kernel
theorem dL_law_12 : decode cL_law 12 = .ok (.astore_n 2, 1) := by decide +kernel
theorem dL_law_13 : decode cL_law 13 = .ok (.aload_n 0, 1) := by decide +kernel
theorem dL_law_14 : decode cL_law 14 = .ok (.aload_n 2, 1) := by decide +kernel
theorem dL_law_15 : decode cL_law 15 = .ok (.invokestatic 87, 3) := by decide +kernel
theorem dL_law_18 : decode cL_law 18 = .ok (.aload_n 1, 1) := by decide +kernel
theorem dL_law_19 : decode cL_law 19 = .ok (.aload_n 2, 1) := by decide +kernel
theorem dL_law_20 : decode cL_law 20 = .ok (.invokestatic 91, 3) := by decide +kernel
theorem dL_law_23 : decode cL_law 23 = .ok (.ifCond .eq 15, 3) := by decide +kernel
theorem dL_law_26 : decode cL_law 26 = .ok (.aload_n 1, 1) := by decide +kernel
theorem dL_law_27 : decode cL_law 27 = .ok (.aload_n 2, 1) := by decide +kernel
theorem dL_law_28 : decode cL_law 28 = .ok (.invokestatic 95, 3) := by decide +kernel
theorem dL_law_31 : decode cL_law 31 = .ok (.ifCond .eq 7, 3) := by decide +kernel
theorem dL_law_34 : decode cL_law 34 = .ok (.iconst 1, 1) := by decide +kernel
theorem dL_law_35 : decode cL_law 35 = .ok (.goto 4, 3) := by decide +kernel
theorem dL_law_38 : decode cL_law 38 = .ok (.iconst 0, 1) := by decide +kernel
theorem dL_law_39 : decode cL_law 39 = .ok (.istore_n 3, 1) := by decide +kernel
theorem dL_law_40 : decode cL_law 40 = .ok (.iconst 0, 1) := by decide +kernel
theorem dL_law_41 : decode cL_law 41 = .ok (.istore 4, 2) := by decide +kernel
theorem dL_law_43 : decode cL_law 43 = .ok (.iload 4, 2) := by decide +kernel
theorem dL_law_45 : decode cL_law 45 = .ok (.iconst 5, 1) := by decide +kernel
theorem dL_law_46 : decode cL_law 46 = .ok (.if_icmp .ge 58, 3) := by decide +kernel
theorem dL_law_49 : decode cL_law 49 = .ok (.iload_n 3, 1) := by decide +kernel
theorem dL_law_50 : decode cL_law 50 = .ok (.ifCond .eq 54, 3) := by decide +kernel
theorem dL_law_53 : decode cL_law 53 = .ok (.aload_n 1, 1) := by decide +kernel
theorem dL_law_54 : decode cL_law 54 = .ok (.aload_n 2, 1) := by decide +kernel
theorem dL_law_55 : decode cL_law 55 = .ok (.aload_n 0, 1) := by decide +kernel
theorem dL_law_56 : decode cL_law 56 = .ok (.bipush 8, 2) := by decide +kernel
theorem dL_law_58 : decode cL_law 58 = .ok (.iload 4, 2) := by decide +kernel
theorem dL_law_60 : decode cL_law 60 = .ok (.iconst 4, 1) := by decide +kernel
theorem dL_law_61 : decode cL_law 61 = .ok (.irem, 1) := by decide +kernel
theorem dL_law_62 : decode cL_law 62 = .ok (.iadd, 1) := by decide +kernel
theorem dL_law_63 : decode cL_law 63 = .ok (.invokestatic 9, 3) := by decide +kernel
theorem dL_law_66 : decode cL_law 66 = .ok (.bipush 9, 2) := by decide +kernel
theorem dL_law_68 : decode cL_law 68 = .ok (.iload 4, 2) := by decide +kernel
theorem dL_law_70 : decode cL_law 70 = .ok (.iconst 4, 1) := by decide +kernel
theorem dL_law_71 : decode cL_law 71 = .ok (.idiv, 1) := by decide +kernel
theorem dL_law_72 : decode cL_law 72 = .ok (.iadd, 1) := by decide +kernel
theorem dL_law_73 : decode cL_law 73 = .ok (.ishr, 1) := by decide +kernel
theorem dL_law_74 : decode cL_law 74 = .ok (.sipush 4095, 3) := by decide +kernel
theorem dL_law_77 : decode cL_law 77 = .ok (.iand, 1) := by decide +kernel
theorem dL_law_78 : decode cL_law 78 = .ok (.invokestatic 98, 3) := by decide +kernel
theorem dL_law_81 : decode cL_law 81 = .ok (.ifCond .lt 15, 3) := by decide +kernel
theorem dL_law_84 : decode cL_law 84 = .ok (.aload_n 1, 1) := by decide +kernel
theorem dL_law_85 : decode cL_law 85 = .ok (.aload_n 2, 1) := by decide +kernel
theorem dL_law_86 : decode cL_law 86 = .ok (.invokestatic 95, 3) := by decide +kernel
theorem dL_law_89 : decode cL_law 89 = .ok (.ifCond .eq 7, 3) := by decide +kernel
theorem dL_law_92 : decode cL_law 92 = .ok (.iconst 1, 1) := by decide +kernel
theorem dL_law_93 : decode cL_law 93 = .ok (.goto 4, 3) := by decide +kernel
theorem dL_law_96 : decode cL_law 96 = .ok (.iconst 0, 1) := by decide +kernel
theorem dL_law_97 : decode cL_law 97 = .ok (.istore_n 3, 1) := by decide +kernel
theorem dL_law_98 : decode cL_law 98 = .ok (.iinc 4 1, 3) := by decide +kernel
theorem dL_law_101 : decode cL_law 101 = .ok (.goto (-58), 3) := by decide +kernel
theorem dL_law_104 : decode cL_law 104 = .ok (.iload_n 3, 1) := by decide +kernel
theorem dL_law_105 : decode cL_law 105 = .ok (.ifCond .eq 64, 3) := by decide +kernel
theorem dL_law_108 : decode cL_law 108 = .ok (.aload_n 1, 1) := by decide +kernel
theorem dL_law_109 : decode cL_law 109 = .ok (.invokevirtual 102, 3) := by decide +kernel
theorem dL_law_112 : decode cL_law 112 = .ok (.iconst 1, 1) := by decide +kernel
theorem dL_law_113 : decode cL_law 113 = .ok (.if_icmp .ne 56, 3) := by decide +kernel
theorem dL_law_116 : decode cL_law 116 = .ok (.aload_n 1, 1) := by decide +kernel
theorem dL_law_117 : decode cL_law 117 = .ok (.aload_n 0, 1) := by decide +kernel
theorem dL_law_118 : decode cL_law 118 = .ok (.aload_n 2, 1) := by decide +kernel
theorem dL_law_119 : decode cL_law 119 = .ok (.invokestatic 105, 3) := by decide +kernel
theorem dL_law_122 : decode cL_law 122 = .ok (.ifCond .eq 47, 3) := by decide +kernel
theorem dL_law_125 : decode cL_law 125 = .ok (.aload_n 1, 1) := by decide +kernel
theorem dL_law_126 : decode cL_law 126 = .ok (.aload_n 2, 1) := by decide +kernel
theorem dL_law_127 : decode cL_law 127 = .ok (.invokestatic 109, 3) := by decide +kernel
theorem dL_law_130 : decode cL_law 130 = .ok (.ifCond .eq 39, 3) := by decide +kernel
theorem dL_law_133 : decode cL_law 133 = .ok (.aload_n 1, 1) := by decide +kernel
theorem dL_law_134 : decode cL_law 134 = .ok (.aload_n 2, 1) := by decide +kernel
theorem dL_law_135 : decode cL_law 135 = .ok (.invokestatic 112, 3) := by decide +kernel
theorem dL_law_138 : decode cL_law 138 = .ok (.ifCond .eq 31, 3) := by decide +kernel
theorem dL_law_141 : decode cL_law 141 = .ok (.aload_n 1, 1) := by decide +kernel
theorem dL_law_142 : decode cL_law 142 = .ok (.aload_n 2, 1) := by decide +kernel
theorem dL_law_143 : decode cL_law 143 = .ok (.invokestatic 115, 3) := by decide +kernel
theorem dL_law_146 : decode cL_law 146 = .ok (.ifCond .eq 23, 3) := by decide +kernel
theorem dL_law_149 : decode cL_law 149 = .ok (.aload_n 1, 1) := by decide +kernel
theorem dL_law_150 : decode cL_law 150 = .ok (.invokevirtual 118, 3) := by decide +kernel
theorem dL_law_153 : decode cL_law 153 = .ok (.iconst 1, 1) := by decide +kernel
theorem dL_law_154 : decode cL_law 154 = .ok (.if_icmp .ne 15, 3) := by decide +kernel
theorem dL_law_157 : decode cL_law 157 = .ok (.aload_n 1, 1) := by decide +kernel
theorem dL_law_158 : decode cL_law 158 = .ok (.aload_n 2, 1) := by decide +kernel
theorem dL_law_159 : decode cL_law 159 = .ok (.invokestatic 121, 3) := by decide +kernel
theorem dL_law_162 : decode cL_law 162 = .ok (.ifCond .eq 7, 3) := by decide +kernel
theorem dL_law_165 : decode cL_law 165 = .ok (.iconst 1, 1) := by decide +kernel
theorem dL_law_166 : decode cL_law 166 = .ok (.goto 4, 3) := by decide +kernel
theorem dL_law_169 : decode cL_law 169 = .ok (.iconst 0, 1) := by decide +kernel
theorem dL_law_170 : decode cL_law 170 = .ok (.istore_n 3, 1) := by decide +kernel
theorem dL_law_171 : decode cL_law 171 = .ok (.aload_n 0, 1) := by decide +kernel
theorem dL_law_172 : decode cL_law 172 = .ok (.bipush 14, 2) := by decide +kernel
theorem dL_law_174 : decode cL_law 174 = .ok (.invokestatic 9, 3) := by decide +kernel
theorem dL_law_177 : decode cL_law 177 = .ok (.istore 4, 2) := by decide +kernel
theorem dL_law_179 : decode cL_law 179 = .ok (.iload_n 3, 1) := by decide +kernel
theorem dL_law_180 : decode cL_law 180 = .ok (.ifCond .eq 21, 3) := by decide +kernel
theorem dL_law_183 : decode cL_law 183 = .ok (.aload_n 1, 1) := by decide +kernel
theorem dL_law_184 : decode cL_law 184 = .ok (.iload 4, 2) := by decide +kernel
theorem dL_law_186 : decode cL_law 186 = .ok (.invokevirtual 124, 3) := by decide +kernel
theorem dL_law_189 : decode cL_law 189 = .ok (.ifCond .lt 12, 3) := by decide +kernel
theorem dL_law_192 : decode cL_law 192 = .ok (.aload_n 1, 1) := by decide +kernel
theorem dL_law_193 : decode cL_law 193 = .ok (.bipush 9, 2) := by decide +kernel
theorem dL_law_195 : decode cL_law 195 = .ok (.invokevirtual 127, 3) := by decide +kernel
theorem dL_law_198 : decode cL_law 198 = .ok (.goto 4, 3) := by decide +kernel
theorem dL_law_201 : decode cL_law 201 = .ok (.iconst 0, 1) := by decide +kernel
theorem dL_law_202 : decode cL_law 202 = .ok (.istore 5, 2) := by decide +kernel
theorem dL_law_204 : decode cL_law 204 = .ok (.aload_n 1, 1) := by decide +kernel
theorem dL_law_205 : decode cL_law 205 = .ok (.bipush 73, 2) := by decide +kernel
theorem dL_law_207 : decode cL_law 207 = .ok (.invokevirtual 84, 3) := by decide +kernel
theorem dL_law_210 : decode cL_law 210 = .ok (.istore 6, 2) := by decide +kernel
theorem dL_law_212 : decode cL_law 212 = .ok (.iload_n 3, 1) := by decide +kernel
theorem dL_law_213 : decode cL_law 213 = .ok (.ifCond .eq 56, 3) := by decide +kernel
theorem dL_law_216 : decode cL_law 216 = .ok (.aload_n 1, 1) := by decide +kernel
theorem dL_law_217 : decode cL_law 217 = .ok (.invokevirtual 118, 3) := by decide +kernel
theorem dL_law_220 : decode cL_law 220 = .ok (.iconst 1, 1) := by decide +kernel
theorem dL_law_221 : decode cL_law 221 = .ok (.if_icmp .ne 48, 3) := by decide +kernel
theorem dL_law_224 : decode cL_law 224 = .ok (.aload_n 1, 1) := by decide +kernel
theorem dL_law_225 : decode cL_law 225 = .ok (.iload 4, 2) := by decide +kernel
theorem dL_law_227 : decode cL_law 227 = .ok (.invokevirtual 124, 3) := by decide +kernel
theorem dL_law_230 : decode cL_law 230 = .ok (.ifCond .lt 39, 3) := by decide +kernel
theorem dL_law_233 : decode cL_law 233 = .ok (.aload_n 1, 1) := by decide +kernel
theorem dL_law_234 : decode cL_law 234 = .ok (.bipush 9, 2) := by decide +kernel
theorem dL_law_236 : decode cL_law 236 = .ok (.invokevirtual 127, 3) := by decide +kernel
theorem dL_law_239 : decode cL_law 239 = .ok (.iload 5, 2) := by decide +kernel
theorem dL_law_241 : decode cL_law 241 = .ok (.if_icmp .ne 28, 3) := by decide +kernel
theorem dL_law_244 : decode cL_law 244 = .ok (.aload_n 1, 1) := by decide +kernel
theorem dL_law_245 : decode cL_law 245 = .ok (.bipush 73, 2) := by decide +kernel
theorem dL_law_247 : decode cL_law 247 = .ok (.invokevirtual 84, 3) := by decide +kernel
theorem dL_law_250 : decode cL_law 250 = .ok (.iload 6, 2) := by decide +kernel
theorem dL_law_252 : decode cL_law 252 = .ok (.if_icmp .ne 17, 3) := by decide +kernel
theorem dL_law_255 : decode cL_law 255 = .ok (.aload_n 1, 1) := by decide +kernel
theorem dL_law_256 : decode cL_law 256 = .ok (.iconst 4, 1) := by decide +kernel
theorem dL_law_257 : decode cL_law 257 = .ok (.invokevirtual 76, 3) := by decide +kernel
theorem dL_law_260 : decode cL_law 260 = .ok (.bipush 8, 2) := by decide +kernel
theorem dL_law_262 : decode cL_law 262 = .ok (.if_icmp .ne 7, 3) := by decide +kernel
theorem dL_law_265 : decode cL_law 265 = .ok (.iconst 1, 1) := by decide +kernel
theorem dL_law_266 : decode cL_law 266 = .ok (.goto 4, 3) := by decide +kernel
theorem dL_law_269 : decode cL_law 269 = .ok (.iconst 0, 1) := by decide +kernel
theorem dL_law_270 : decode cL_law 270 = .ok (.istore_n 3, 1) := by decide +kernel
theorem dL_law_271 : decode cL_law 271 = .ok (.bipush 7, 2) := by decide +kernel
theorem dL_law_273 : decode cL_law 273 = .ok (.istore 7, 2) := by decide +kernel
theorem dL_law_275 : decode cL_law 275 = .ok (.iload 7, 2) := by decide +kernel
theorem dL_law_277 : decode cL_law 277 = .ok (.ifCond .lt 28, 3) := by decide +kernel
theorem dL_law_280 : decode cL_law 280 = .ok (.iload_n 3, 1) := by decide +kernel
theorem dL_law_281 : decode cL_law 281 = .ok (.ifCond .eq 24, 3) := by decide +kernel
theorem dL_law_284 : decode cL_law 284 = .ok (.aload_n 1, 1) := by decide +kernel
theorem dL_law_285 : decode cL_law 285 = .ok (.invokevirtual 130, 3) := by decide +kernel
theorem dL_law_288 : decode cL_law 288 = .ok (.iload 7, 2) := by decide +kernel
theorem dL_law_290 : decode cL_law 290 = .ok (.if_icmp .ne 7, 3) := by decide +kernel
theorem dL_law_293 : decode cL_law 293 = .ok (.iconst 1, 1) := by decide +kernel
theorem dL_law_294 : decode cL_law 294 = .ok (.goto 4, 3) := by decide +kernel
theorem dL_law_297 : decode cL_law 297 = .ok (.iconst 0, 1) := by decide +kernel
theorem dL_law_298 : decode cL_law 298 = .ok (.istore_n 3, 1) := by decide +kernel
theorem dL_law_299 : decode cL_law 299 = .ok (.iinc 7 (-1), 3) := by decide +kernel
theorem dL_law_302 : decode cL_law 302 = .ok (.goto (-27), 3) := by decide +kernel
theorem dL_law_305 : decode cL_law 305 = .ok (.iload_n 3, 1) := by decide +kernel
theorem dL_law_306 : decode cL_law 306 = .ok (.ifCond .eq 32, 3) := by decide +kernel
theorem dL_law_309 : decode cL_law 309 = .ok (.aload_n 1, 1) := by decide +kernel
theorem dL_law_310 : decode cL_law 310 = .ok (.invokevirtual 130, 3) := by decide +kernel
theorem dL_law_313 : decode cL_law 313 = .ok (.ldc 133, 2) := by decide +kernel
theorem dL_law_315 : decode cL_law 315 = .ok (.if_icmp .ne 23, 3) := by decide +kernel
theorem dL_law_318 : decode cL_law 318 = .ok (.aload_n 1, 1) := by decide +kernel
theorem dL_law_319 : decode cL_law 319 = .ok (.invokevirtual 118, 3) := by decide +kernel
theorem dL_law_322 : decode cL_law 322 = .ok (.iconst 1, 1) := by decide +kernel
theorem dL_law_323 : decode cL_law 323 = .ok (.if_icmp .ne 15, 3) := by decide +kernel
theorem dL_law_326 : decode cL_law 326 = .ok (.aload_n 1, 1) := by decide +kernel
theorem dL_law_327 : decode cL_law 327 = .ok (.aload_n 2, 1) := by decide +kernel
theorem dL_law_328 : decode cL_law 328 = .ok (.invokestatic 121, 3) := by decide +kernel
theorem dL_law_331 : decode cL_law 331 = .ok (.ifCond .eq 7, 3) := by decide +kernel
theorem dL_law_334 : decode cL_law 334 = .ok (.iconst 1, 1) := by decide +kernel
theorem dL_law_335 : decode cL_law 335 = .ok (.goto 4, 3) := by decide +kernel
theorem dL_law_338 : decode cL_law 338 = .ok (.iconst 0, 1) := by decide +kernel
theorem dL_law_339 : decode cL_law 339 = .ok (.ireturn, 1) := by decide +kernel
set_option maxRecDepth 20000 in
theorem ggL_stands_X10_count : GoodIn wsL_stands wsX10_count := goodIn_r _ [6, 7, 8, 9, 10, 11, 12, 13, 14, 15, 16, 17, 18, 19, 20, 21, 22, 23, 24, 25, 26, 27, 28, 29, 30, 31, 32, 33, 34, 35, 36, 37, 38, 39, 40, 41, 42, 43, 44, 45, 46, 47, 48, 49, 50, 51, 52, 53, 54, 55, 56, 57, 58, 59, 60, 61, 62, 63, 64, 117, 118, 119, 120, 121, 122, 123, 124, 125, 126, 127, 128, 129, 130, 131, 132, 133, 134, 135] (by decide +kernel) (by decide +kernel)
set_option maxRecDepth 20000 in
theorem gL_stands_X10_count : GoodIn wsL_stands (wsV RL 76 RX10 yX10_count wsX10_count) := goodIn_app (goodIn_of _ (by decide +kernel)) ggL_stands_X10_count
set_option maxRecDepth 20000 in
theorem ggL_stands_X10_hold : GoodIn wsL_stands wsX10_hold := goodIn_r _ [68, 14, 7, 8, 69, 70, 5, 71, 72, 73, 74, 32, 75, 60, 76, 44, 45, 46, 47, 77, 49, 50, 51, 35, 36, 37, 38, 78, 53, 54, 55, 117, 118, 119, 120, 121, 122, 123, 124, 125, 126, 127, 128, 129, 130, 131] (by decide +kernel) (by decide +kernel)
set_option maxRecDepth 20000 in
theorem gL_stands_X10_hold : GoodIn wsL_stands (wsV RL 84 RX10 yX10_hold wsX10_hold) := goodIn_app (goodIn_of _ (by decide +kernel)) ggL_stands_X10_hold
set_option maxRecDepth 20000 in
theorem ggL_stands_X10_range : GoodIn wsL_stands wsX10_range := goodIn_r _ [82, 14, 11, 7, 8, 12, 83, 84, 5, 85, 69, 70, 71, 86, 87, 88, 18, 89, 20, 21, 22, 23, 24, 25, 26, 27, 28, 29, 30, 31, 32, 33, 34, 35, 36, 37, 38, 39, 40, 41, 42, 43, 44, 45, 46, 47, 48, 49, 50, 51, 52, 53, 54, 55, 56, 57, 58, 59, 60, 90, 91, 92, 93, 94, 95, 96, 97, 117, 118, 119, 120, 121, 122, 123, 124, 125, 126, 132, 133, 134, 135, 127, 128, 129, 130, 131] (by decide +kernel) (by decide +kernel)
set_option maxRecDepth 20000 in
theorem gL_stands_X10_range : GoodIn wsL_stands (wsV RL 134 RX10 yX10_range wsX10_range) := goodIn_app (goodIn_of _ (by decide +kernel)) ggL_stands_X10_range
set_option maxRecDepth 20000 in
theorem ggL_stands_L_value : GoodIn wsL_stands wsL_value := goodIn_r _ [101] (by decide +kernel) (by decide +kernel)
set_option maxRecDepth 20000 in
theorem gL_stands_L_value : GoodIn wsL_stands (va_wsS RL 137 yL_value wsL_value) := goodIn_app (goodIn_of _ (by decide +kernel)) ggL_stands_L_value
set_option maxRecDepth 20000 in
theorem ggL_stands_X10_apart : GoodIn wsL_stands wsX10_apart := goodIn_r _ [105, 14, 11, 7, 8, 12, 83, 84, 5, 85, 69, 70, 71, 106, 107, 108, 18, 109, 20, 21, 22, 23, 24, 25, 26, 27, 28, 29, 30, 31, 32, 33, 34, 35, 36, 37, 38, 39, 40, 41, 42, 43, 44, 45, 46, 47, 48, 49, 50, 51, 52, 53, 54, 55, 56, 57, 58, 59, 60, 90, 110, 111, 112, 113, 114, 115, 116, 91, 92, 93, 94, 95, 96, 97, 117, 118, 119, 120, 121, 122, 123, 124, 125, 126, 132, 133, 134, 135, 127, 128, 129, 130, 131] (by decide +kernel) (by decide +kernel)
set_option maxRecDepth 20000 in
theorem gL_stands_X10_apart : GoodIn wsL_stands (wsV RL 140 RX10 yX10_apart wsX10_apart) := goodIn_app (goodIn_of _ (by decide +kernel)) ggL_stands_X10_apart
theorem dL_stands_0 : decode cL_stands 0 = .ok (.aload_n 0, 1) := by decide +kernel
theorem dL_stands_1 : decode cL_stands 1 = .ok (.iconst 2, 1) := by decide +kernel
theorem dL_stands_2 : decode cL_stands 2 = .ok (.invokevirtual 76, 3) := by decide +kernel
theorem dL_stands_5 : decode cL_stands 5 = .ok (.istore_n 2, 1) := by decide +kernel
theorem dL_stands_6 : decode cL_stands 6 = .ok (.aload_n 0, 1) := by decide +kernel
theorem dL_stands_7 : decode cL_stands 7 = .ok (.iconst 3, 1) := by decide +kernel
theorem dL_stands_8 : decode cL_stands 8 = .ok (.invokevirtual 76, 3) := by decide +kernel
theorem dL_stands_11 : decode cL_stands 11 = .ok (.istore_n 3, 1) := by decide +kernel
theorem dL_stands_12 : decode cL_stands 12 = .ok (.iconst 1, 1) := by decide +kernel
theorem dL_stands_13 : decode cL_stands 13 = .ok (.aload_n 0, 1) := by decide +kernel
theorem dL_stands_14 : decode cL_stands 14 = .ok (.iconst 0, 1) := by decide +kernel
theorem dL_stands_15 : decode cL_stands 15 = .ok (.invokevirtual 76, 3) := by decide +kernel
theorem dL_stands_18 : decode cL_stands 18 = .ok (.ishl, 1) := by decide +kernel
theorem dL_stands_19 : decode cL_stands 19 = .ok (.iconst 1, 1) := by decide +kernel
theorem dL_stands_20 : decode cL_stands 20 = .ok (.isub, 1) := by decide +kernel
theorem dL_stands_21 : decode cL_stands 21 = .ok (.istore 4, 2) := by decide +kernel
theorem dL_stands_23 : decode cL_stands 23 = .ok (.iload_n 2, 1) := by decide +kernel
theorem dL_stands_24 : decode cL_stands 24 = .ok (.ifCond .lt 73, 3) := by decide +kernel
theorem dL_stands_27 : decode cL_stands 27 = .ok (.aload_n 0, 1) := by decide +kernel
theorem dL_stands_28 : decode cL_stands 28 = .ok (.iconst 0, 1) := by decide +kernel
theorem dL_stands_29 : decode cL_stands 29 = .ok (.invokevirtual 76, 3) := by decide +kernel
theorem dL_stands_32 : decode cL_stands 32 = .ok (.aload_n 1, 1) := by decide +kernel
theorem dL_stands_33 : decode cL_stands 33 = .ok (.iconst 0, 1) := by decide +kernel
theorem dL_stands_34 : decode cL_stands 34 = .ok (.iaload, 1) := by decide +kernel
theorem dL_stands_35 : decode cL_stands 35 = .ok (.if_icmp .ne 62, 3) := by decide +kernel
theorem dL_stands_38 : decode cL_stands 38 = .ok (.aload_n 0, 1) := by decide +kernel
theorem dL_stands_39 : decode cL_stands 39 = .ok (.iconst 1, 1) := by decide +kernel
theorem dL_stands_40 : decode cL_stands 40 = .ok (.invokevirtual 76, 3) := by decide +kernel
theorem dL_stands_43 : decode cL_stands 43 = .ok (.aload_n 1, 1) := by decide +kernel
theorem dL_stands_44 : decode cL_stands 44 = .ok (.iconst 1, 1) := by decide +kernel
theorem dL_stands_45 : decode cL_stands 45 = .ok (.iaload, 1) := by decide +kernel
theorem dL_stands_46 : decode cL_stands 46 = .ok (.if_icmp .ne 51, 3) := by decide +kernel
theorem dL_stands_49 : decode cL_stands 49 = .ok (.iload_n 2, 1) := by decide +kernel
theorem dL_stands_50 : decode cL_stands 50 = .ok (.ifCond .le 7, 3) := by decide +kernel
theorem dL_stands_53 : decode cL_stands 53 = .ok (.iconst 1, 1) := by decide +kernel
theorem dL_stands_54 : decode cL_stands 54 = .ok (.goto 4, 3) := by decide +kernel
theorem dL_stands_57 : decode cL_stands 57 = .ok (.iconst 0, 1) := by decide +kernel
theorem dL_stands_58 : decode cL_stands 58 = .ok (.iload_n 3, 1) := by decide +kernel
theorem dL_stands_59 : decode cL_stands 59 = .ok (.ifCond .lt 7, 3) := by decide +kernel
theorem dL_stands_62 : decode cL_stands 62 = .ok (.iconst 1, 1) := by decide +kernel
theorem dL_stands_63 : decode cL_stands 63 = .ok (.goto 4, 3) := by decide +kernel
theorem dL_stands_66 : decode cL_stands 66 = .ok (.iconst 0, 1) := by decide +kernel
theorem dL_stands_67 : decode cL_stands 67 = .ok (.if_icmp .ne 30, 3) := by decide +kernel
theorem dL_stands_70 : decode cL_stands 70 = .ok (.iload_n 3, 1) := by decide +kernel
theorem dL_stands_71 : decode cL_stands 71 = .ok (.ifCond .ge 12, 3) := by decide +kernel
theorem dL_stands_74 : decode cL_stands 74 = .ok (.iload_n 3, 1) := by decide +kernel
theorem dL_stands_75 : decode cL_stands 75 = .ok (.ldc 133, 2) := by decide +kernel
theorem dL_stands_77 : decode cL_stands 77 = .ok (.if_icmp .ne 20, 3) := by decide +kernel
theorem dL_stands_80 : decode cL_stands 80 = .ok (.goto 13, 3) := by decide +kernel
theorem dL_stands_83 : decode cL_stands 83 = .ok (.aload_n 0, 1) := by decide +kernel
theorem dL_stands_84 : decode cL_stands 84 = .ok (.iload_n 3, 1) := by decide +kernel
theorem dL_stands_85 : decode cL_stands 85 = .ok (.invokevirtual 84, 3) := by decide +kernel
theorem dL_stands_88 : decode cL_stands 88 = .ok (.iload 4, 2) := by decide +kernel
theorem dL_stands_90 : decode cL_stands 90 = .ok (.if_icmp .ne 7, 3) := by decide +kernel
theorem dL_stands_93 : decode cL_stands 93 = .ok (.iconst 1, 1) := by decide +kernel
theorem dL_stands_94 : decode cL_stands 94 = .ok (.goto 4, 3) := by decide +kernel
theorem dL_stands_97 : decode cL_stands 97 = .ok (.iconst 0, 1) := by decide +kernel
theorem dL_stands_98 : decode cL_stands 98 = .ok (.istore 5, 2) := by decide +kernel
theorem dL_stands_100 : decode cL_stands 100 = .ok (.iconst 0, 1) := by decide +kernel
theorem dL_stands_101 : decode cL_stands 101 = .ok (.istore 6, 2) := by decide +kernel
theorem dL_stands_103 : decode cL_stands 103 = .ok (.iload 6, 2) := by decide +kernel
theorem dL_stands_105 : decode cL_stands 105 = .ok (.iconst 4, 1) := by decide +kernel
theorem dL_stands_106 : decode cL_stands 106 = .ok (.if_icmp .ge 287, 3) := by decide +kernel
theorem dL_stands_109 : decode cL_stands 109 = .ok (.iload 5, 2) := by decide +kernel
theorem dL_stands_111 : decode cL_stands 111 = .ok (.ifCond .eq 282, 3) := by decide +kernel
theorem dL_stands_114 : decode cL_stands 114 = .ok (.aload_n 0, 1) := by decide +kernel
theorem dL_stands_115 : decode cL_stands 115 = .ok (.iload 6, 2) := by decide +kernel
theorem dL_stands_117 : decode cL_stands 117 = .ok (.iconst 0, 1) := by decide +kernel
theorem dL_stands_118 : decode cL_stands 118 = .ok (.invokevirtual 134, 3) := by decide +kernel
theorem dL_stands_121 : decode cL_stands 121 = .ok (.istore 7, 2) := by decide +kernel
theorem dL_stands_123 : decode cL_stands 123 = .ok (.aload_n 0, 1) := by decide +kernel
theorem dL_stands_124 : decode cL_stands 124 = .ok (.iload 6, 2) := by decide +kernel
theorem dL_stands_126 : decode cL_stands 126 = .ok (.iconst 1, 1) := by decide +kernel
theorem dL_stands_127 : decode cL_stands 127 = .ok (.invokevirtual 134, 3) := by decide +kernel
theorem dL_stands_130 : decode cL_stands 130 = .ok (.istore 8, 2) := by decide +kernel
theorem dL_stands_132 : decode cL_stands 132 = .ok (.aload_n 0, 1) := by decide +kernel
theorem dL_stands_133 : decode cL_stands 133 = .ok (.iload 6, 2) := by decide +kernel
theorem dL_stands_135 : decode cL_stands 135 = .ok (.iconst 2, 1) := by decide +kernel
theorem dL_stands_136 : decode cL_stands 136 = .ok (.invokevirtual 134, 3) := by decide +kernel
theorem dL_stands_139 : decode cL_stands 139 = .ok (.istore 9, 2) := by decide +kernel
theorem dL_stands_141 : decode cL_stands 141 = .ok (.iload_n 2, 1) := by decide +kernel
theorem dL_stands_142 : decode cL_stands 142 = .ok (.ifCond .ne 30, 3) := by decide +kernel
theorem dL_stands_145 : decode cL_stands 145 = .ok (.iload 7, 2) := by decide +kernel
theorem dL_stands_147 : decode cL_stands 147 = .ok (.ldc 133, 2) := by decide +kernel
theorem dL_stands_149 : decode cL_stands 149 = .ok (.if_icmp .ne 19, 3) := by decide +kernel
theorem dL_stands_152 : decode cL_stands 152 = .ok (.iload 8, 2) := by decide +kernel
theorem dL_stands_154 : decode cL_stands 154 = .ok (.ldc 133, 2) := by decide +kernel
theorem dL_stands_156 : decode cL_stands 156 = .ok (.if_icmp .ne 12, 3) := by decide +kernel
theorem dL_stands_159 : decode cL_stands 159 = .ok (.iload 9, 2) := by decide +kernel
theorem dL_stands_161 : decode cL_stands 161 = .ok (.ifCond .ne 7, 3) := by decide +kernel
theorem dL_stands_164 : decode cL_stands 164 = .ok (.iconst 1, 1) := by decide +kernel
theorem dL_stands_165 : decode cL_stands 165 = .ok (.goto 85, 3) := by decide +kernel
theorem dL_stands_168 : decode cL_stands 168 = .ok (.iconst 0, 1) := by decide +kernel
theorem dL_stands_169 : decode cL_stands 169 = .ok (.goto 81, 3) := by decide +kernel
theorem dL_stands_172 : decode cL_stands 172 = .ok (.iload 7, 2) := by decide +kernel
theorem dL_stands_174 : decode cL_stands 174 = .ok (.ifCond .lt 75, 3) := by decide +kernel
theorem dL_stands_177 : decode cL_stands 177 = .ok (.iload 7, 2) := by decide +kernel
theorem dL_stands_179 : decode cL_stands 179 = .ok (.iload 8, 2) := by decide +kernel
theorem dL_stands_181 : decode cL_stands 181 = .ok (.if_icmp .gt 68, 3) := by decide +kernel
theorem dL_stands_184 : decode cL_stands 184 = .ok (.iload 8, 2) := by decide +kernel
theorem dL_stands_186 : decode cL_stands 186 = .ok (.aload_n 1, 1) := by decide +kernel
theorem dL_stands_187 : decode cL_stands 187 = .ok (.iconst 1, 1) := by decide +kernel
theorem dL_stands_188 : decode cL_stands 188 = .ok (.iaload, 1) := by decide +kernel
theorem dL_stands_189 : decode cL_stands 189 = .ok (.if_icmp .gt 60, 3) := by decide +kernel
theorem dL_stands_192 : decode cL_stands 192 = .ok (.iload 9, 2) := by decide +kernel
theorem dL_stands_194 : decode cL_stands 194 = .ok (.iload 7, 2) := by decide +kernel
theorem dL_stands_196 : decode cL_stands 196 = .ok (.ishr, 1) := by decide +kernel
theorem dL_stands_197 : decode cL_stands 197 = .ok (.iconst 1, 1) := by decide +kernel
theorem dL_stands_198 : decode cL_stands 198 = .ok (.iand, 1) := by decide +kernel
theorem dL_stands_199 : decode cL_stands 199 = .ok (.iconst 1, 1) := by decide +kernel
theorem dL_stands_200 : decode cL_stands 200 = .ok (.if_icmp .ne 49, 3) := by decide +kernel
theorem dL_stands_203 : decode cL_stands 203 = .ok (.iload 9, 2) := by decide +kernel
theorem dL_stands_205 : decode cL_stands 205 = .ok (.iload 8, 2) := by decide +kernel
theorem dL_stands_207 : decode cL_stands 207 = .ok (.ishr, 1) := by decide +kernel
theorem dL_stands_208 : decode cL_stands 208 = .ok (.iconst 1, 1) := by decide +kernel
theorem dL_stands_209 : decode cL_stands 209 = .ok (.iand, 1) := by decide +kernel
theorem dL_stands_210 : decode cL_stands 210 = .ok (.iconst 1, 1) := by decide +kernel
theorem dL_stands_211 : decode cL_stands 211 = .ok (.if_icmp .ne 38, 3) := by decide +kernel
theorem dL_stands_214 : decode cL_stands 214 = .ok (.iload 9, 2) := by decide +kernel
theorem dL_stands_216 : decode cL_stands 216 = .ok (.iconst 2, 1) := by decide +kernel
theorem dL_stands_217 : decode cL_stands 217 = .ok (.iload 8, 2) := by decide +kernel
theorem dL_stands_219 : decode cL_stands 219 = .ok (.ishl, 1) := by decide +kernel
theorem dL_stands_220 : decode cL_stands 220 = .ok (.if_icmp .ge 29, 3) := by decide +kernel
theorem dL_stands_223 : decode cL_stands 223 = .ok (.iload_n 3, 1) := by decide +kernel
theorem dL_stands_224 : decode cL_stands 224 = .ok (.iload 6, 2) := by decide +kernel
theorem dL_stands_226 : decode cL_stands 226 = .ok (.invokestatic 137, 3) := by decide +kernel
theorem dL_stands_229 : decode cL_stands 229 = .ok (.iload 7, 2) := by decide +kernel
theorem dL_stands_231 : decode cL_stands 231 = .ok (.if_icmp .lt 18, 3) := by decide +kernel
theorem dL_stands_234 : decode cL_stands 234 = .ok (.iload_n 3, 1) := by decide +kernel
theorem dL_stands_235 : decode cL_stands 235 = .ok (.iload 6, 2) := by decide +kernel
theorem dL_stands_237 : decode cL_stands 237 = .ok (.invokestatic 137, 3) := by decide +kernel
theorem dL_stands_240 : decode cL_stands 240 = .ok (.iload 8, 2) := by decide +kernel
theorem dL_stands_242 : decode cL_stands 242 = .ok (.if_icmp .gt 7, 3) := by decide +kernel
theorem dL_stands_245 : decode cL_stands 245 = .ok (.iconst 1, 1) := by decide +kernel
theorem dL_stands_246 : decode cL_stands 246 = .ok (.goto 4, 3) := by decide +kernel
theorem dL_stands_249 : decode cL_stands 249 = .ok (.iconst 0, 1) := by decide +kernel
theorem dL_stands_250 : decode cL_stands 250 = .ok (.istore 5, 2) := by decide +kernel
theorem dL_stands_252 : decode cL_stands 252 = .ok (.iload 6, 2) := by decide +kernel
theorem dL_stands_254 : decode cL_stands 254 = .ok (.iconst 1, 1) := by decide +kernel
theorem dL_stands_255 : decode cL_stands 255 = .ok (.iadd, 1) := by decide +kernel
theorem dL_stands_256 : decode cL_stands 256 = .ok (.iconst 4, 1) := by decide +kernel
theorem dL_stands_257 : decode cL_stands 257 = .ok (.irem, 1) := by decide +kernel
theorem dL_stands_258 : decode cL_stands 258 = .ok (.istore 10, 2) := by decide +kernel
theorem dL_stands_260 : decode cL_stands 260 = .ok (.aload_n 0, 1) := by decide +kernel
theorem dL_stands_261 : decode cL_stands 261 = .ok (.iload 6, 2) := by decide +kernel
theorem dL_stands_263 : decode cL_stands 263 = .ok (.iload 10, 2) := by decide +kernel
theorem dL_stands_265 : decode cL_stands 265 = .ok (.iconst 0, 1) := by decide +kernel
theorem dL_stands_266 : decode cL_stands 266 = .ok (.invokevirtual 140, 3) := by decide +kernel
theorem dL_stands_269 : decode cL_stands 269 = .ok (.istore 11, 2) := by decide +kernel
theorem dL_stands_271 : decode cL_stands 271 = .ok (.aload_n 0, 1) := by decide +kernel
theorem dL_stands_272 : decode cL_stands 272 = .ok (.iload 6, 2) := by decide +kernel
theorem dL_stands_274 : decode cL_stands 274 = .ok (.iload 10, 2) := by decide +kernel
theorem dL_stands_276 : decode cL_stands 276 = .ok (.iconst 1, 1) := by decide +kernel
theorem dL_stands_277 : decode cL_stands 277 = .ok (.invokevirtual 140, 3) := by decide +kernel
theorem dL_stands_280 : decode cL_stands 280 = .ok (.istore 12, 2) := by decide +kernel
theorem dL_stands_282 : decode cL_stands 282 = .ok (.aload_n 0, 1) := by decide +kernel
theorem dL_stands_283 : decode cL_stands 283 = .ok (.iload 6, 2) := by decide +kernel
theorem dL_stands_285 : decode cL_stands 285 = .ok (.iload 10, 2) := by decide +kernel
theorem dL_stands_287 : decode cL_stands 287 = .ok (.iconst 2, 1) := by decide +kernel
theorem dL_stands_288 : decode cL_stands 288 = .ok (.invokevirtual 140, 3) := by decide +kernel
theorem dL_stands_291 : decode cL_stands 291 = .ok (.istore 13, 2) := by decide +kernel
theorem dL_stands_293 : decode cL_stands 293 = .ok (.iload 5, 2) := by decide +kernel
theorem dL_stands_295 : decode cL_stands 295 = .ok (.ifCond .eq 89, 3) := by decide +kernel
theorem dL_stands_298 : decode cL_stands 298 = .ok (.iload_n 2, 1) := by decide +kernel
theorem dL_stands_299 : decode cL_stands 299 = .ok (.ifCond .ne 11, 3) := by decide +kernel
theorem dL_stands_302 : decode cL_stands 302 = .ok (.iload 13, 2) := by decide +kernel
theorem dL_stands_304 : decode cL_stands 304 = .ok (.ifCond .ne 80, 3) := by decide +kernel
theorem dL_stands_307 : decode cL_stands 307 = .ok (.goto 73, 3) := by decide +kernel
theorem dL_stands_310 : decode cL_stands 310 = .ok (.iload 11, 2) := by decide +kernel
theorem dL_stands_312 : decode cL_stands 312 = .ok (.iload 12, 2) := by decide +kernel
theorem dL_stands_314 : decode cL_stands 314 = .ok (.if_icmp .gt 70, 3) := by decide +kernel
theorem dL_stands_317 : decode cL_stands 317 = .ok (.iload 13, 2) := by decide +kernel
theorem dL_stands_319 : decode cL_stands 319 = .ok (.ifCond .le 65, 3) := by decide +kernel
theorem dL_stands_322 : decode cL_stands 322 = .ok (.iload 13, 2) := by decide +kernel
theorem dL_stands_324 : decode cL_stands 324 = .ok (.iload 12, 2) := by decide +kernel
theorem dL_stands_326 : decode cL_stands 326 = .ok (.iload 11, 2) := by decide +kernel
theorem dL_stands_328 : decode cL_stands 328 = .ok (.isub, 1) := by decide +kernel
theorem dL_stands_329 : decode cL_stands 329 = .ok (.iconst 1, 1) := by decide +kernel
theorem dL_stands_330 : decode cL_stands 330 = .ok (.iadd, 1) := by decide +kernel
theorem dL_stands_331 : decode cL_stands 331 = .ok (.if_icmp .gt 53, 3) := by decide +kernel
theorem dL_stands_334 : decode cL_stands 334 = .ok (.aload_n 0, 1) := by decide +kernel
theorem dL_stands_335 : decode cL_stands 335 = .ok (.iload 10, 2) := by decide +kernel
theorem dL_stands_337 : decode cL_stands 337 = .ok (.iload 6, 2) := by decide +kernel
theorem dL_stands_339 : decode cL_stands 339 = .ok (.iconst 0, 1) := by decide +kernel
theorem dL_stands_340 : decode cL_stands 340 = .ok (.invokevirtual 140, 3) := by decide +kernel
theorem dL_stands_343 : decode cL_stands 343 = .ok (.iconst 0, 1) := by decide +kernel
theorem dL_stands_344 : decode cL_stands 344 = .ok (.iload 12, 2) := by decide +kernel
theorem dL_stands_346 : decode cL_stands 346 = .ok (.isub, 1) := by decide +kernel
theorem dL_stands_347 : decode cL_stands 347 = .ok (.if_icmp .ne 37, 3) := by decide +kernel
theorem dL_stands_350 : decode cL_stands 350 = .ok (.aload_n 0, 1) := by decide +kernel
theorem dL_stands_351 : decode cL_stands 351 = .ok (.iload 10, 2) := by decide +kernel
theorem dL_stands_353 : decode cL_stands 353 = .ok (.iload 6, 2) := by decide +kernel
theorem dL_stands_355 : decode cL_stands 355 = .ok (.iconst 1, 1) := by decide +kernel
theorem dL_stands_356 : decode cL_stands 356 = .ok (.invokevirtual 140, 3) := by decide +kernel
theorem dL_stands_359 : decode cL_stands 359 = .ok (.iconst 0, 1) := by decide +kernel
theorem dL_stands_360 : decode cL_stands 360 = .ok (.iload 11, 2) := by decide +kernel
theorem dL_stands_362 : decode cL_stands 362 = .ok (.isub, 1) := by decide +kernel
theorem dL_stands_363 : decode cL_stands 363 = .ok (.if_icmp .ne 21, 3) := by decide +kernel
theorem dL_stands_366 : decode cL_stands 366 = .ok (.aload_n 0, 1) := by decide +kernel
theorem dL_stands_367 : decode cL_stands 367 = .ok (.iload 10, 2) := by decide +kernel
theorem dL_stands_369 : decode cL_stands 369 = .ok (.iload 6, 2) := by decide +kernel
theorem dL_stands_371 : decode cL_stands 371 = .ok (.iconst 2, 1) := by decide +kernel
theorem dL_stands_372 : decode cL_stands 372 = .ok (.invokevirtual 140, 3) := by decide +kernel
theorem dL_stands_375 : decode cL_stands 375 = .ok (.iload 13, 2) := by decide +kernel
theorem dL_stands_377 : decode cL_stands 377 = .ok (.if_icmp .ne 7, 3) := by decide +kernel
theorem dL_stands_380 : decode cL_stands 380 = .ok (.iconst 1, 1) := by decide +kernel
theorem dL_stands_381 : decode cL_stands 381 = .ok (.goto 4, 3) := by decide +kernel
theorem dL_stands_384 : decode cL_stands 384 = .ok (.iconst 0, 1) := by decide +kernel
theorem dL_stands_385 : decode cL_stands 385 = .ok (.istore 5, 2) := by decide +kernel
theorem dL_stands_387 : decode cL_stands 387 = .ok (.iinc 6 1, 3) := by decide +kernel
theorem dL_stands_390 : decode cL_stands 390 = .ok (.goto (-287), 3) := by decide +kernel
theorem dL_stands_393 : decode cL_stands 393 = .ok (.iload 5, 2) := by decide +kernel
theorem dL_stands_395 : decode cL_stands 395 = .ok (.ireturn, 1) := by decide +kernel
set_option maxRecDepth 20000 in
theorem ggL_shadowed_L_cell : GoodIn wsL_shadowed wsL_cell := goodIn_r _ [4, 5, 6] (by decide +kernel) (by decide +kernel)
set_option maxRecDepth 20000 in
theorem gL_shadowed_L_cell : GoodIn wsL_shadowed (va_wsS RL 9 yL_cell wsL_cell) := goodIn_app (goodIn_of _ (by decide +kernel)) ggL_shadowed_L_cell
set_option maxRecDepth 20000 in
theorem ggL_shadowed_X10_deep : GoodIn wsL_shadowed wsX10_deep := goodIn_r _ [11, 12, 13, 14, 15, 16, 17, 10, 18, 19, 20, 21, 22, 23, 24, 25, 26, 27, 28, 29, 30, 31, 32, 33, 34, 35, 36, 37, 38, 39, 40, 41, 42, 43, 44, 45, 46, 47, 48, 49, 50, 51, 52, 53, 54, 55, 56, 57, 58, 59, 60, 61, 62, 63, 64, 65, 66, 67, 68, 69, 70, 71, 72, 73, 74, 75, 76, 77, 78, 79, 80, 81, 82, 83, 84, 85, 86, 87, 88, 89, 90, 91, 92, 93, 94, 95, 96, 97, 98, 99, 100, 101, 102, 103, 104, 105, 106, 107, 108, 109, 110, 111, 112, 113, 114, 115, 116, 117, 155, 156, 157, 158, 159, 160, 161, 162, 163, 164, 165, 166, 167, 168, 169, 170, 171, 172, 173, 174] (by decide +kernel) (by decide +kernel)
set_option maxRecDepth 20000 in
theorem gL_shadowed_X10_deep : GoodIn wsL_shadowed (wsV RL 143 RX10 yX10_deep wsX10_deep) := goodIn_app (goodIn_of _ (by decide +kernel)) ggL_shadowed_X10_deep
set_option maxRecDepth 20000 in
theorem ggL_shadowed_X10_row : GoodIn wsL_shadowed wsX10_row := goodIn_r _ [121, 12, 13, 14, 15, 122, 16, 17, 10, 18, 19, 20, 21, 123, 124, 125, 25, 126, 28, 27, 29, 30, 31, 32, 33, 34, 35, 36, 37, 38, 39, 40, 41, 42, 43, 44, 45, 46, 47, 48, 49, 50, 51, 52, 53, 54, 55, 56, 57, 58, 59, 60, 61, 62, 63, 64, 65, 66, 67, 68, 69, 70, 71, 72, 73, 74, 75, 76, 77, 78, 79, 80, 81, 82, 83, 84, 85, 86, 87, 127, 155, 156, 157, 158, 159, 160, 161, 162, 163, 164, 168, 169, 165, 166, 167, 170, 171, 172, 173, 174] (by decide +kernel) (by decide +kernel)
set_option maxRecDepth 20000 in
theorem gL_shadowed_X10_row : GoodIn wsL_shadowed (wsV RL 146 RX10 yX10_row wsX10_row) := goodIn_app (goodIn_of _ (by decide +kernel)) ggL_shadowed_X10_row
set_option maxRecDepth 20000 in
theorem ggL_shadowed_L_next : GoodIn wsL_shadowed wsL_next := goodIn_r _ [130] (by decide +kernel) (by decide +kernel)
set_option maxRecDepth 20000 in
theorem gL_shadowed_L_next : GoodIn wsL_shadowed (va_wsS RL 40 yL_next wsL_next) := goodIn_app (goodIn_of _ (by decide +kernel)) ggL_shadowed_L_next
set_option maxRecDepth 20000 in
theorem ggL_shadowed_X10_hold : GoodIn wsL_shadowed wsX10_hold := goodIn_r _ [134, 12, 14, 15, 19, 20, 10, 21, 135, 136, 137, 40, 138, 139, 140, 38, 39, 41, 42, 141, 142, 143, 144, 97, 89, 90, 91, 145, 146, 147, 148, 155, 156, 157, 158, 159, 160, 161, 162, 163, 164, 170, 171, 172, 173, 174] (by decide +kernel) (by decide +kernel)
set_option maxRecDepth 20000 in
theorem gL_shadowed_X10_hold : GoodIn wsL_shadowed (wsV RL 84 RX10 yX10_hold wsX10_hold) := goodIn_app (goodIn_of _ (by decide +kernel)) ggL_shadowed_X10_hold
set_option maxRecDepth 20000 in
theorem ggL_shadowed_L_all : GoodIn wsL_shadowed wsL_all := goodIn_r _ [151] (by decide +kernel) (by decide +kernel)
set_option maxRecDepth 20000 in
theorem gL_shadowed_L_all : GoodIn wsL_shadowed (va_wsS RL 66 yL_all wsL_all) := goodIn_app (goodIn_of _ (by decide +kernel)) ggL_shadowed_L_all
set_option maxRecDepth 20000 in
theorem ggL_shadowed_L_value : GoodIn wsL_shadowed wsL_value := goodIn_r _ [154] (by decide +kernel) (by decide +kernel)
set_option maxRecDepth 20000 in
theorem gL_shadowed_L_value : GoodIn wsL_shadowed (va_wsS RL 137 yL_value wsL_value) := goodIn_app (goodIn_of _ (by decide +kernel)) ggL_shadowed_L_value
theorem dL_shadowed_0 : decode cL_shadowed 0 = .ok (.aload_n 1, 1) := by decide +kernel
theorem dL_shadowed_1 : decode cL_shadowed 1 = .ok (.bipush 13, 2) := by decide +kernel
theorem dL_shadowed_3 : decode cL_shadowed 3 = .ok (.invokestatic 9, 3) := by decide +kernel
theorem dL_shadowed_6 : decode cL_shadowed 6 = .ok (.iconst 3, 1) := by decide +kernel
theorem dL_shadowed_7 : decode cL_shadowed 7 = .ok (.iand, 1) := by decide +kernel
theorem dL_shadowed_8 : decode cL_shadowed 8 = .ok (.istore_n 3, 1) := by decide +kernel
theorem dL_shadowed_9 : decode cL_shadowed 9 = .ok (.aload_n 2, 1) := by decide +kernel
theorem dL_shadowed_10 : decode cL_shadowed 10 = .ok (.iconst 1, 1) := by decide +kernel
theorem dL_shadowed_11 : decode cL_shadowed 11 = .ok (.iaload, 1) := by decide +kernel
theorem dL_shadowed_12 : decode cL_shadowed 12 = .ok (.iconst 1, 1) := by decide +kernel
theorem dL_shadowed_13 : decode cL_shadowed 13 = .ok (.iadd, 1) := by decide +kernel
theorem dL_shadowed_14 : decode cL_shadowed 14 = .ok (.aload_n 2, 1) := by decide +kernel
theorem dL_shadowed_15 : decode cL_shadowed 15 = .ok (.iconst 1, 1) := by decide +kernel
theorem dL_shadowed_16 : decode cL_shadowed 16 = .ok (.iaload, 1) := by decide +kernel
theorem dL_shadowed_17 : decode cL_shadowed 17 = .ok (.iconst 1, 1) := by decide +kernel
theorem dL_shadowed_18 : decode cL_shadowed 18 = .ok (.iadd, 1) := by decide +kernel
theorem dL_shadowed_19 : decode cL_shadowed 19 = .ok (.imul, 1) := by decide +kernel
theorem dL_shadowed_20 : decode cL_shadowed 20 = .ok (.aload_n 2, 1) := by decide +kernel
theorem dL_shadowed_21 : decode cL_shadowed 21 = .ok (.iconst 1, 1) := by decide +kernel
theorem dL_shadowed_22 : decode cL_shadowed 22 = .ok (.iaload, 1) := by decide +kernel
theorem dL_shadowed_23 : decode cL_shadowed 23 = .ok (.iconst 1, 1) := by decide +kernel
theorem dL_shadowed_24 : decode cL_shadowed 24 = .ok (.iadd, 1) := by decide +kernel
theorem dL_shadowed_25 : decode cL_shadowed 25 = .ok (.imul, 1) := by decide +kernel
theorem dL_shadowed_26 : decode cL_shadowed 26 = .ok (.istore 4, 2) := by decide +kernel
theorem dL_shadowed_28 : decode cL_shadowed 28 = .ok (.aload_n 0, 1) := by decide +kernel
theorem dL_shadowed_29 : decode cL_shadowed 29 = .ok (.iload_n 3, 1) := by decide +kernel
theorem dL_shadowed_30 : decode cL_shadowed 30 = .ok (.iconst 0, 1) := by decide +kernel
theorem dL_shadowed_31 : decode cL_shadowed 31 = .ok (.invokevirtual 143, 3) := by decide +kernel
theorem dL_shadowed_34 : decode cL_shadowed 34 = .ok (.istore 5, 2) := by decide +kernel
theorem dL_shadowed_36 : decode cL_shadowed 36 = .ok (.aload_n 0, 1) := by decide +kernel
theorem dL_shadowed_37 : decode cL_shadowed 37 = .ok (.iload_n 3, 1) := by decide +kernel
theorem dL_shadowed_38 : decode cL_shadowed 38 = .ok (.iconst 1, 1) := by decide +kernel
theorem dL_shadowed_39 : decode cL_shadowed 39 = .ok (.invokevirtual 143, 3) := by decide +kernel
theorem dL_shadowed_42 : decode cL_shadowed 42 = .ok (.istore 6, 2) := by decide +kernel
theorem dL_shadowed_44 : decode cL_shadowed 44 = .ok (.aload_n 0, 1) := by decide +kernel
theorem dL_shadowed_45 : decode cL_shadowed 45 = .ok (.iload_n 3, 1) := by decide +kernel
theorem dL_shadowed_46 : decode cL_shadowed 46 = .ok (.iconst 2, 1) := by decide +kernel
theorem dL_shadowed_47 : decode cL_shadowed 47 = .ok (.invokevirtual 143, 3) := by decide +kernel
theorem dL_shadowed_50 : decode cL_shadowed 50 = .ok (.istore 7, 2) := by decide +kernel
theorem dL_shadowed_52 : decode cL_shadowed 52 = .ok (.aload_n 0, 1) := by decide +kernel
theorem dL_shadowed_53 : decode cL_shadowed 53 = .ok (.iload_n 3, 1) := by decide +kernel
theorem dL_shadowed_54 : decode cL_shadowed 54 = .ok (.iconst 3, 1) := by decide +kernel
theorem dL_shadowed_55 : decode cL_shadowed 55 = .ok (.invokevirtual 143, 3) := by decide +kernel
theorem dL_shadowed_58 : decode cL_shadowed 58 = .ok (.istore 8, 2) := by decide +kernel
theorem dL_shadowed_60 : decode cL_shadowed 60 = .ok (.aload_n 0, 1) := by decide +kernel
theorem dL_shadowed_61 : decode cL_shadowed 61 = .ok (.iload_n 3, 1) := by decide +kernel
theorem dL_shadowed_62 : decode cL_shadowed 62 = .ok (.iconst 4, 1) := by decide +kernel
theorem dL_shadowed_63 : decode cL_shadowed 63 = .ok (.invokevirtual 143, 3) := by decide +kernel
theorem dL_shadowed_66 : decode cL_shadowed 66 = .ok (.istore 9, 2) := by decide +kernel
theorem dL_shadowed_68 : decode cL_shadowed 68 = .ok (.iload 5, 2) := by decide +kernel
theorem dL_shadowed_70 : decode cL_shadowed 70 = .ok (.iload 4, 2) := by decide +kernel
theorem dL_shadowed_72 : decode cL_shadowed 72 = .ok (.if_icmp .gt 51, 3) := by decide +kernel
theorem dL_shadowed_75 : decode cL_shadowed 75 = .ok (.iload 6, 2) := by decide +kernel
theorem dL_shadowed_77 : decode cL_shadowed 77 = .ok (.ifCond .lt 46, 3) := by decide +kernel
theorem dL_shadowed_80 : decode cL_shadowed 80 = .ok (.iload 6, 2) := by decide +kernel
theorem dL_shadowed_82 : decode cL_shadowed 82 = .ok (.iload 7, 2) := by decide +kernel
theorem dL_shadowed_84 : decode cL_shadowed 84 = .ok (.if_icmp .gt 39, 3) := by decide +kernel
theorem dL_shadowed_87 : decode cL_shadowed 87 = .ok (.iload 7, 2) := by decide +kernel
theorem dL_shadowed_89 : decode cL_shadowed 89 = .ok (.iload 5, 2) := by decide +kernel
theorem dL_shadowed_91 : decode cL_shadowed 91 = .ok (.if_icmp .gt 32, 3) := by decide +kernel
theorem dL_shadowed_94 : decode cL_shadowed 94 = .ok (.iload 8, 2) := by decide +kernel
theorem dL_shadowed_96 : decode cL_shadowed 96 = .ok (.iload 5, 2) := by decide +kernel
theorem dL_shadowed_98 : decode cL_shadowed 98 = .ok (.iload 6, 2) := by decide +kernel
theorem dL_shadowed_100 : decode cL_shadowed 100 = .ok (.isub, 1) := by decide +kernel
theorem dL_shadowed_101 : decode cL_shadowed 101 = .ok (.if_icmp .ne 22, 3) := by decide +kernel
theorem dL_shadowed_104 : decode cL_shadowed 104 = .ok (.iload 9, 2) := by decide +kernel
theorem dL_shadowed_106 : decode cL_shadowed 106 = .ok (.iload 7, 2) := by decide +kernel
theorem dL_shadowed_108 : decode cL_shadowed 108 = .ok (.iload 6, 2) := by decide +kernel
theorem dL_shadowed_110 : decode cL_shadowed 110 = .ok (.isub, 1) := by decide +kernel
theorem dL_shadowed_111 : decode cL_shadowed 111 = .ok (.if_icmp .ne 12, 3) := by decide +kernel
theorem dL_shadowed_114 : decode cL_shadowed 114 = .ok (.iload 9, 2) := by decide +kernel
theorem dL_shadowed_116 : decode cL_shadowed 116 = .ok (.ifCond .lt 7, 3) := by decide +kernel
theorem dL_shadowed_119 : decode cL_shadowed 119 = .ok (.iconst 1, 1) := by decide +kernel
theorem dL_shadowed_120 : decode cL_shadowed 120 = .ok (.goto 4, 3) := by decide +kernel
theorem dL_shadowed_123 : decode cL_shadowed 123 = .ok (.iconst 0, 1) := by decide +kernel
theorem dL_shadowed_124 : decode cL_shadowed 124 = .ok (.istore 10, 2) := by decide +kernel
theorem dL_shadowed_126 : decode cL_shadowed 126 = .ok (.aload_n 0, 1) := by decide +kernel
theorem dL_shadowed_127 : decode cL_shadowed 127 = .ok (.iload_n 3, 1) := by decide +kernel
theorem dL_shadowed_128 : decode cL_shadowed 128 = .ok (.iconst 0, 1) := by decide +kernel
theorem dL_shadowed_129 : decode cL_shadowed 129 = .ok (.iconst (-1), 1) := by decide +kernel
theorem dL_shadowed_130 : decode cL_shadowed 130 = .ok (.iconst 0, 1) := by decide +kernel
theorem dL_shadowed_131 : decode cL_shadowed 131 = .ok (.invokevirtual 146, 3) := by decide +kernel
theorem dL_shadowed_134 : decode cL_shadowed 134 = .ok (.istore 11, 2) := by decide +kernel
theorem dL_shadowed_136 : decode cL_shadowed 136 = .ok (.iload 10, 2) := by decide +kernel
theorem dL_shadowed_138 : decode cL_shadowed 138 = .ok (.ifCond .eq 25, 3) := by decide +kernel
theorem dL_shadowed_141 : decode cL_shadowed 141 = .ok (.iload 11, 2) := by decide +kernel
theorem dL_shadowed_143 : decode cL_shadowed 143 = .ok (.ifCond .le 20, 3) := by decide +kernel
theorem dL_shadowed_146 : decode cL_shadowed 146 = .ok (.aload_n 0, 1) := by decide +kernel
theorem dL_shadowed_147 : decode cL_shadowed 147 = .ok (.iload_n 3, 1) := by decide +kernel
theorem dL_shadowed_148 : decode cL_shadowed 148 = .ok (.iconst 1, 1) := by decide +kernel
theorem dL_shadowed_149 : decode cL_shadowed 149 = .ok (.iconst (-1), 1) := by decide +kernel
theorem dL_shadowed_150 : decode cL_shadowed 150 = .ok (.iconst 0, 1) := by decide +kernel
theorem dL_shadowed_151 : decode cL_shadowed 151 = .ok (.invokevirtual 146, 3) := by decide +kernel
theorem dL_shadowed_154 : decode cL_shadowed 154 = .ok (.iload 11, 2) := by decide +kernel
theorem dL_shadowed_156 : decode cL_shadowed 156 = .ok (.if_icmp .ne 7, 3) := by decide +kernel
theorem dL_shadowed_159 : decode cL_shadowed 159 = .ok (.iconst 1, 1) := by decide +kernel
theorem dL_shadowed_160 : decode cL_shadowed 160 = .ok (.goto 4, 3) := by decide +kernel
theorem dL_shadowed_163 : decode cL_shadowed 163 = .ok (.iconst 0, 1) := by decide +kernel
theorem dL_shadowed_164 : decode cL_shadowed 164 = .ok (.istore 10, 2) := by decide +kernel
theorem dL_shadowed_166 : decode cL_shadowed 166 = .ok (.iconst 0, 1) := by decide +kernel
theorem dL_shadowed_167 : decode cL_shadowed 167 = .ok (.istore 12, 2) := by decide +kernel
theorem dL_shadowed_169 : decode cL_shadowed 169 = .ok (.aload_n 2, 1) := by decide +kernel
theorem dL_shadowed_170 : decode cL_shadowed 170 = .ok (.iconst (-1), 1) := by decide +kernel
theorem dL_shadowed_171 : decode cL_shadowed 171 = .ok (.invokestatic 40, 3) := by decide +kernel
theorem dL_shadowed_174 : decode cL_shadowed 174 = .ok (.istore 13, 2) := by decide +kernel
theorem dL_shadowed_176 : decode cL_shadowed 176 = .ok (.iload 13, 2) := by decide +kernel
theorem dL_shadowed_178 : decode cL_shadowed 178 = .ok (.sipush 4096, 3) := by decide +kernel
theorem dL_shadowed_181 : decode cL_shadowed 181 = .ok (.if_icmp .ge 156, 3) := by decide +kernel
theorem dL_shadowed_184 : decode cL_shadowed 184 = .ok (.iload 10, 2) := by decide +kernel
theorem dL_shadowed_186 : decode cL_shadowed 186 = .ok (.ifCond .eq 151, 3) := by decide +kernel
theorem dL_shadowed_189 : decode cL_shadowed 189 = .ok (.iload 12, 2) := by decide +kernel
theorem dL_shadowed_191 : decode cL_shadowed 191 = .ok (.iconst 4, 1) := by decide +kernel
theorem dL_shadowed_192 : decode cL_shadowed 192 = .ok (.if_icmp .ge 145, 3) := by decide +kernel
theorem dL_shadowed_195 : decode cL_shadowed 195 = .ok (.aload_n 0, 1) := by decide +kernel
theorem dL_shadowed_196 : decode cL_shadowed 196 = .ok (.iload 13, 2) := by decide +kernel
theorem dL_shadowed_198 : decode cL_shadowed 198 = .ok (.invokevirtual 84, 3) := by decide +kernel
theorem dL_shadowed_201 : decode cL_shadowed 201 = .ok (.aload_n 2, 1) := by decide +kernel
theorem dL_shadowed_202 : decode cL_shadowed 202 = .ok (.invokestatic 66, 3) := by decide +kernel
theorem dL_shadowed_205 : decode cL_shadowed 205 = .ok (.if_icmp .ne 121, 3) := by decide +kernel
theorem dL_shadowed_208 : decode cL_shadowed 208 = .ok (.iinc 12 1, 3) := by decide +kernel
theorem dL_shadowed_211 : decode cL_shadowed 211 = .ok (.iconst 0, 1) := by decide +kernel
theorem dL_shadowed_212 : decode cL_shadowed 212 = .ok (.istore 14, 2) := by decide +kernel
theorem dL_shadowed_214 : decode cL_shadowed 214 = .ok (.iload 14, 2) := by decide +kernel
theorem dL_shadowed_216 : decode cL_shadowed 216 = .ok (.iload 11, 2) := by decide +kernel
theorem dL_shadowed_218 : decode cL_shadowed 218 = .ok (.if_icmp .ge 108, 3) := by decide +kernel
theorem dL_shadowed_221 : decode cL_shadowed 221 = .ok (.iload 10, 2) := by decide +kernel
theorem dL_shadowed_223 : decode cL_shadowed 223 = .ok (.ifCond .eq 103, 3) := by decide +kernel
theorem dL_shadowed_226 : decode cL_shadowed 226 = .ok (.aload_n 0, 1) := by decide +kernel
theorem dL_shadowed_227 : decode cL_shadowed 227 = .ok (.iload_n 3, 1) := by decide +kernel
theorem dL_shadowed_228 : decode cL_shadowed 228 = .ok (.iconst 0, 1) := by decide +kernel
theorem dL_shadowed_229 : decode cL_shadowed 229 = .ok (.iload 14, 2) := by decide +kernel
theorem dL_shadowed_231 : decode cL_shadowed 231 = .ok (.iconst 4, 1) := by decide +kernel
theorem dL_shadowed_232 : decode cL_shadowed 232 = .ok (.invokevirtual 146, 3) := by decide +kernel
theorem dL_shadowed_235 : decode cL_shadowed 235 = .ok (.istore 15, 2) := by decide +kernel
theorem dL_shadowed_237 : decode cL_shadowed 237 = .ok (.iconst 0, 1) := by decide +kernel
theorem dL_shadowed_238 : decode cL_shadowed 238 = .ok (.istore 16, 2) := by decide +kernel
theorem dL_shadowed_240 : decode cL_shadowed 240 = .ok (.iload 16, 2) := by decide +kernel
theorem dL_shadowed_242 : decode cL_shadowed 242 = .ok (.iconst 4, 1) := by decide +kernel
theorem dL_shadowed_243 : decode cL_shadowed 243 = .ok (.if_icmp .ge 32, 3) := by decide +kernel
theorem dL_shadowed_246 : decode cL_shadowed 246 = .ok (.iload 15, 2) := by decide +kernel
theorem dL_shadowed_248 : decode cL_shadowed 248 = .ok (.aload_n 0, 1) := by decide +kernel
theorem dL_shadowed_249 : decode cL_shadowed 249 = .ok (.iload_n 3, 1) := by decide +kernel
theorem dL_shadowed_250 : decode cL_shadowed 250 = .ok (.iconst 0, 1) := by decide +kernel
theorem dL_shadowed_251 : decode cL_shadowed 251 = .ok (.iload 14, 2) := by decide +kernel
theorem dL_shadowed_253 : decode cL_shadowed 253 = .ok (.iload 16, 2) := by decide +kernel
theorem dL_shadowed_255 : decode cL_shadowed 255 = .ok (.invokevirtual 146, 3) := by decide +kernel
theorem dL_shadowed_258 : decode cL_shadowed 258 = .ok (.iload 13, 2) := by decide +kernel
theorem dL_shadowed_260 : decode cL_shadowed 260 = .ok (.iload 16, 2) := by decide +kernel
theorem dL_shadowed_262 : decode cL_shadowed 262 = .ok (.invokestatic 137, 3) := by decide +kernel
theorem dL_shadowed_265 : decode cL_shadowed 265 = .ok (.imul, 1) := by decide +kernel
theorem dL_shadowed_266 : decode cL_shadowed 266 = .ok (.iadd, 1) := by decide +kernel
theorem dL_shadowed_267 : decode cL_shadowed 267 = .ok (.istore 15, 2) := by decide +kernel
theorem dL_shadowed_269 : decode cL_shadowed 269 = .ok (.iinc 16 1, 3) := by decide +kernel
theorem dL_shadowed_272 : decode cL_shadowed 272 = .ok (.goto (-32), 3) := by decide +kernel
theorem dL_shadowed_275 : decode cL_shadowed 275 = .ok (.iload 15, 2) := by decide +kernel
theorem dL_shadowed_277 : decode cL_shadowed 277 = .ok (.ifCond .lt 40, 3) := by decide +kernel
theorem dL_shadowed_280 : decode cL_shadowed 280 = .ok (.aload_n 0, 1) := by decide +kernel
theorem dL_shadowed_281 : decode cL_shadowed 281 = .ok (.iload_n 3, 1) := by decide +kernel
theorem dL_shadowed_282 : decode cL_shadowed 282 = .ok (.iconst 0, 1) := by decide +kernel
theorem dL_shadowed_283 : decode cL_shadowed 283 = .ok (.iload 14, 2) := by decide +kernel
theorem dL_shadowed_285 : decode cL_shadowed 285 = .ok (.iload_n 3, 1) := by decide +kernel
theorem dL_shadowed_286 : decode cL_shadowed 286 = .ok (.invokevirtual 146, 3) := by decide +kernel
theorem dL_shadowed_289 : decode cL_shadowed 289 = .ok (.ifCond .ne 28, 3) := by decide +kernel
theorem dL_shadowed_292 : decode cL_shadowed 292 = .ok (.aload_n 0, 1) := by decide +kernel
theorem dL_shadowed_293 : decode cL_shadowed 293 = .ok (.iload_n 3, 1) := by decide +kernel
theorem dL_shadowed_294 : decode cL_shadowed 294 = .ok (.iconst 1, 1) := by decide +kernel
theorem dL_shadowed_295 : decode cL_shadowed 295 = .ok (.iload 14, 2) := by decide +kernel
theorem dL_shadowed_297 : decode cL_shadowed 297 = .ok (.iconst 4, 1) := by decide +kernel
theorem dL_shadowed_298 : decode cL_shadowed 298 = .ok (.invokevirtual 146, 3) := by decide +kernel
theorem dL_shadowed_301 : decode cL_shadowed 301 = .ok (.aload_n 0, 1) := by decide +kernel
theorem dL_shadowed_302 : decode cL_shadowed 302 = .ok (.iload_n 3, 1) := by decide +kernel
theorem dL_shadowed_303 : decode cL_shadowed 303 = .ok (.iconst 0, 1) := by decide +kernel
theorem dL_shadowed_304 : decode cL_shadowed 304 = .ok (.iload 14, 2) := by decide +kernel
theorem dL_shadowed_306 : decode cL_shadowed 306 = .ok (.iconst 4, 1) := by decide +kernel
theorem dL_shadowed_307 : decode cL_shadowed 307 = .ok (.invokevirtual 146, 3) := by decide +kernel
theorem dL_shadowed_310 : decode cL_shadowed 310 = .ok (.if_icmp .gt 7, 3) := by decide +kernel
theorem dL_shadowed_313 : decode cL_shadowed 313 = .ok (.iconst 1, 1) := by decide +kernel
theorem dL_shadowed_314 : decode cL_shadowed 314 = .ok (.goto 4, 3) := by decide +kernel
theorem dL_shadowed_317 : decode cL_shadowed 317 = .ok (.iconst 0, 1) := by decide +kernel
theorem dL_shadowed_318 : decode cL_shadowed 318 = .ok (.istore 10, 2) := by decide +kernel
theorem dL_shadowed_320 : decode cL_shadowed 320 = .ok (.iinc 14 1, 3) := by decide +kernel
theorem dL_shadowed_323 : decode cL_shadowed 323 = .ok (.goto (-109), 3) := by decide +kernel
theorem dL_shadowed_326 : decode cL_shadowed 326 = .ok (.aload_n 2, 1) := by decide +kernel
theorem dL_shadowed_327 : decode cL_shadowed 327 = .ok (.iload 13, 2) := by decide +kernel
theorem dL_shadowed_329 : decode cL_shadowed 329 = .ok (.invokestatic 40, 3) := by decide +kernel
theorem dL_shadowed_332 : decode cL_shadowed 332 = .ok (.istore 13, 2) := by decide +kernel
theorem dL_shadowed_334 : decode cL_shadowed 334 = .ok (.goto (-158), 3) := by decide +kernel
theorem dL_shadowed_337 : decode cL_shadowed 337 = .ok (.iload 10, 2) := by decide +kernel
theorem dL_shadowed_339 : decode cL_shadowed 339 = .ok (.ireturn, 1) := by decide +kernel
set_option maxRecDepth 20000 in
theorem ggL_left_X10_count : GoodIn wsL_left wsX10_count := goodIn_r _ [6, 7, 8, 9, 10, 11, 12, 13, 14, 15, 16, 17, 18, 19, 20, 21, 22, 23, 24, 25, 26, 27, 28, 29, 30, 31, 32, 33, 34, 35, 36, 37, 38, 39, 40, 41, 42, 43, 44, 45, 46, 47, 48, 49, 50, 51, 52, 53, 54, 55, 56, 57, 58, 59, 60, 61, 62, 63, 64, 185, 186, 187, 188, 189, 190, 191, 192, 193, 194, 195, 196, 197, 198, 199, 200, 201, 202, 203] (by decide +kernel) (by decide +kernel)
set_option maxRecDepth 20000 in
theorem gL_left_X10_count : GoodIn wsL_left (wsV RL 76 RX10 yX10_count wsX10_count) := goodIn_app (goodIn_of _ (by decide +kernel)) ggL_left_X10_count
set_option maxRecDepth 20000 in
theorem ggL_left_X10_spare : GoodIn wsL_left wsX10_spare := goodIn_r _ [68, 14, 7, 8, 9, 12, 11, 69, 70, 71, 5, 72, 73, 74, 75, 18, 76, 28, 77, 20, 21, 22, 23, 24, 25, 26, 27, 29, 30, 31, 32, 33, 34, 35, 36, 37, 38, 39, 40, 41, 42, 43, 44, 45, 46, 47, 48, 49, 50, 51, 52, 53, 54, 55, 56, 57, 58, 59, 60, 185, 186, 187, 188, 189, 190, 191, 192, 193, 194, 195, 196, 197, 198, 199, 200, 201, 202, 203] (by decide +kernel) (by decide +kernel)
set_option maxRecDepth 20000 in
theorem gL_left_X10_spare : GoodIn wsL_left (wsV RL 150 RX10 yX10_spare wsX10_spare) := goodIn_app (goodIn_of _ (by decide +kernel)) ggL_left_X10_spare
set_option maxRecDepth 20000 in
theorem ggL_left_X10_core : GoodIn wsL_left wsX10_core := goodIn_r _ [81, 11, 7, 8, 12, 82, 83, 84, 18, 85, 86, 20, 21, 22, 23, 24, 25, 26, 27, 28, 29, 30, 31, 32, 33, 34, 35, 36, 37, 38, 39, 40, 41, 42, 43, 44, 45, 46, 47, 48, 49, 50, 51, 52, 53, 54, 55, 56, 57, 58, 59, 60, 87, 88, 89, 90, 91, 92, 93, 94, 95, 96, 97, 98, 99, 100, 101, 185, 186, 187, 188, 189, 190, 191, 192, 193, 194, 200, 201, 202, 203, 195, 196, 197, 198, 199] (by decide +kernel) (by decide +kernel)
set_option maxRecDepth 20000 in
theorem gL_left_X10_core : GoodIn wsL_left (wsV RL 153 RX10 yX10_core wsX10_core) := goodIn_app (goodIn_of _ (by decide +kernel)) ggL_left_X10_core
set_option maxRecDepth 20000 in
theorem ggL_left_X10_drop : GoodIn wsL_left wsX10_drop := goodIn_r _ [105, 14, 7, 8, 9, 106, 107, 108, 5, 109, 70, 71, 72, 110, 111, 112, 113, 114, 115, 116, 117, 118, 119, 120, 121, 122, 123, 124, 32, 125, 47, 126, 60, 34, 127, 128, 129, 130, 131, 132, 185, 186, 187, 188, 189, 190, 191, 192, 193, 194, 195, 196, 197, 198, 199] (by decide +kernel) (by decide +kernel)
set_option maxRecDepth 20000 in
theorem gL_left_X10_drop : GoodIn wsL_left (wsV RL 51 RX10 yX10_drop wsX10_drop) := goodIn_app (goodIn_of _ (by decide +kernel)) ggL_left_X10_drop
set_option maxRecDepth 20000 in
theorem ggL_left_X10_restore : GoodIn wsL_left wsX10_restore := goodIn_r _ [136, 137, 12, 7, 138, 139, 140, 141, 113, 142, 121, 116, 117, 118, 119, 120, 115, 143, 144, 145, 32, 146, 47, 126, 60, 34, 127, 132, 185, 186, 187, 188, 189, 190, 191, 192, 193, 194, 195, 196, 197, 198, 199] (by decide +kernel) (by decide +kernel)
set_option maxRecDepth 20000 in
theorem gL_left_X10_restore : GoodIn wsL_left (wsV RL 118 RX10 yX10_restore wsX10_restore) := goodIn_app (goodIn_of _ (by decide +kernel)) ggL_left_X10_restore
set_option maxRecDepth 20000 in
theorem ggL_left_L_only : GoodIn wsL_left wsL_only := goodIn_r _ [150, 102, 103, 104, 5, 105, 14, 7, 8, 9, 106, 107, 108, 109, 70, 71, 72, 110, 111, 112, 113, 114, 115, 116, 117, 118, 119, 120, 121, 122, 123, 124, 32, 125, 47, 126, 60, 34, 127, 128, 129, 130, 131, 132, 2, 3, 4, 6, 10, 11, 12, 13, 15, 16, 17, 18, 19, 20, 21, 22, 23, 24, 25, 26, 27, 28, 29, 30, 31, 33, 35, 36, 37, 38, 39, 40, 41, 42, 43, 44, 45, 46, 48, 49, 50, 51, 52, 53, 54, 55, 56, 57, 58, 59, 61, 62, 63, 64, 185, 186, 187, 188, 189, 190, 191, 192, 193, 194, 195, 196, 197, 198, 199, 200, 201, 202, 203] (by decide +kernel) (by decide +kernel)
set_option maxRecDepth 20000 in
theorem gL_left_L_only : GoodIn wsL_left (va_wsS RL 156 yL_only wsL_only) := goodIn_app (goodIn_of _ (by decide +kernel)) ggL_left_L_only
set_option maxRecDepth 20000 in
theorem ggL_left_L_is : GoodIn wsL_left wsL_is := goodIn_r _ [153, 154, 2, 3, 4, 5, 6, 7, 8, 9, 10, 11, 12, 13, 14, 15, 16, 17, 18, 19, 20, 21, 22, 23, 24, 25, 26, 27, 28, 29, 30, 31, 32, 33, 34, 35, 36, 37, 38, 39, 40, 41, 42, 43, 44, 45, 46, 47, 48, 49, 50, 51, 52, 53, 54, 55, 56, 57, 58, 59, 60, 61, 62, 63, 64, 155, 156, 157, 158, 106, 107, 108, 109, 70, 71, 72, 159, 160, 161, 162, 163, 164, 165, 166, 149, 167, 168, 169, 170, 171, 172, 173, 174, 175, 176, 177, 178, 179, 180, 181, 182, 183, 184, 185, 186, 187, 188, 189, 190, 191, 192, 193, 194, 195, 196, 197, 198, 199, 200, 201, 202, 203] (by decide +kernel) (by decide +kernel)
set_option maxRecDepth 20000 in
theorem gL_left_L_is : GoodIn wsL_left (va_wsS RL 121 yL_is wsL_is) := goodIn_app (goodIn_of _ (by decide +kernel)) ggL_left_L_is
theorem dL_left_0 : decode cL_left 0 = .ok (.aload_n 0, 1) := by decide +kernel
theorem dL_left_1 : decode cL_left 1 = .ok (.iconst 2, 1) := by decide +kernel
theorem dL_left_2 : decode cL_left 2 = .ok (.invokevirtual 76, 3) := by decide +kernel
theorem dL_left_5 : decode cL_left 5 = .ok (.istore_n 2, 1) := by decide +kernel
theorem dL_left_6 : decode cL_left 6 = .ok (.aload_n 0, 1) := by decide +kernel
theorem dL_left_7 : decode cL_left 7 = .ok (.iconst 0, 1) := by decide +kernel
theorem dL_left_8 : decode cL_left 8 = .ok (.invokevirtual 150, 3) := by decide +kernel
theorem dL_left_11 : decode cL_left 11 = .ok (.istore_n 3, 1) := by decide +kernel
theorem dL_left_12 : decode cL_left 12 = .ok (.aload_n 0, 1) := by decide +kernel
theorem dL_left_13 : decode cL_left 13 = .ok (.iconst 1, 1) := by decide +kernel
theorem dL_left_14 : decode cL_left 14 = .ok (.invokevirtual 150, 3) := by decide +kernel
theorem dL_left_17 : decode cL_left 17 = .ok (.istore 4, 2) := by decide +kernel
theorem dL_left_19 : decode cL_left 19 = .ok (.aload_n 0, 1) := by decide +kernel
theorem dL_left_20 : decode cL_left 20 = .ok (.invokevirtual 153, 3) := by decide +kernel
theorem dL_left_23 : decode cL_left 23 = .ok (.istore 5, 2) := by decide +kernel
theorem dL_left_25 : decode cL_left 25 = .ok (.aload_n 1, 1) := by decide +kernel
theorem dL_left_26 : decode cL_left 26 = .ok (.iconst 0, 1) := by decide +kernel
theorem dL_left_27 : decode cL_left 27 = .ok (.iaload, 1) := by decide +kernel
theorem dL_left_28 : decode cL_left 28 = .ok (.ifCond .ne 24, 3) := by decide +kernel
theorem dL_left_31 : decode cL_left 31 = .ok (.iload_n 3, 1) := by decide +kernel
theorem dL_left_32 : decode cL_left 32 = .ok (.ldc 133, 2) := by decide +kernel
theorem dL_left_34 : decode cL_left 34 = .ok (.if_icmp .ne 14, 3) := by decide +kernel
theorem dL_left_37 : decode cL_left 37 = .ok (.iload 4, 2) := by decide +kernel
theorem dL_left_39 : decode cL_left 39 = .ok (.ldc 133, 2) := by decide +kernel
theorem dL_left_41 : decode cL_left 41 = .ok (.if_icmp .ne 7, 3) := by decide +kernel
theorem dL_left_44 : decode cL_left 44 = .ok (.iconst 1, 1) := by decide +kernel
theorem dL_left_45 : decode cL_left 45 = .ok (.goto 29, 3) := by decide +kernel
theorem dL_left_48 : decode cL_left 48 = .ok (.iconst 0, 1) := by decide +kernel
theorem dL_left_49 : decode cL_left 49 = .ok (.goto 25, 3) := by decide +kernel
theorem dL_left_52 : decode cL_left 52 = .ok (.iload_n 3, 1) := by decide +kernel
theorem dL_left_53 : decode cL_left 53 = .ok (.ifCond .lt 20, 3) := by decide +kernel
theorem dL_left_56 : decode cL_left 56 = .ok (.iload_n 3, 1) := by decide +kernel
theorem dL_left_57 : decode cL_left 57 = .ok (.aload_n 1, 1) := by decide +kernel
theorem dL_left_58 : decode cL_left 58 = .ok (.iconst 0, 1) := by decide +kernel
theorem dL_left_59 : decode cL_left 59 = .ok (.iaload, 1) := by decide +kernel
theorem dL_left_60 : decode cL_left 60 = .ok (.if_icmp .ge 13, 3) := by decide +kernel
theorem dL_left_63 : decode cL_left 63 = .ok (.iload 4, 2) := by decide +kernel
theorem dL_left_65 : decode cL_left 65 = .ok (.iload_n 2, 1) := by decide +kernel
theorem dL_left_66 : decode cL_left 66 = .ok (.if_icmp .lt 7, 3) := by decide +kernel
theorem dL_left_69 : decode cL_left 69 = .ok (.iconst 1, 1) := by decide +kernel
theorem dL_left_70 : decode cL_left 70 = .ok (.goto 4, 3) := by decide +kernel
theorem dL_left_73 : decode cL_left 73 = .ok (.iconst 0, 1) := by decide +kernel
theorem dL_left_74 : decode cL_left 74 = .ok (.istore 6, 2) := by decide +kernel
theorem dL_left_76 : decode cL_left 76 = .ok (.iconst 0, 1) := by decide +kernel
theorem dL_left_77 : decode cL_left 77 = .ok (.istore 7, 2) := by decide +kernel
theorem dL_left_79 : decode cL_left 79 = .ok (.iload 7, 2) := by decide +kernel
theorem dL_left_81 : decode cL_left 81 = .ok (.aload_n 1, 1) := by decide +kernel
theorem dL_left_82 : decode cL_left 82 = .ok (.iconst 0, 1) := by decide +kernel
theorem dL_left_83 : decode cL_left 83 = .ok (.iaload, 1) := by decide +kernel
theorem dL_left_84 : decode cL_left 84 = .ok (.if_icmp .ge 91, 3) := by decide +kernel
theorem dL_left_87 : decode cL_left 87 = .ok (.iload 6, 2) := by decide +kernel
theorem dL_left_89 : decode cL_left 89 = .ok (.ifCond .eq 86, 3) := by decide +kernel
theorem dL_left_92 : decode cL_left 92 = .ok (.aload_n 0, 1) := by decide +kernel
theorem dL_left_93 : decode cL_left 93 = .ok (.iload 7, 2) := by decide +kernel
theorem dL_left_95 : decode cL_left 95 = .ok (.invokevirtual 51, 3) := by decide +kernel
theorem dL_left_98 : decode cL_left 98 = .ok (.aload_n 1, 1) := by decide +kernel
theorem dL_left_99 : decode cL_left 99 = .ok (.iconst 0, 1) := by decide +kernel
theorem dL_left_100 : decode cL_left 100 = .ok (.iaload, 1) := by decide +kernel
theorem dL_left_101 : decode cL_left 101 = .ok (.iconst 1, 1) := by decide +kernel
theorem dL_left_102 : decode cL_left 102 = .ok (.isub, 1) := by decide +kernel
theorem dL_left_103 : decode cL_left 103 = .ok (.if_icmp .ne 63, 3) := by decide +kernel
theorem dL_left_106 : decode cL_left 106 = .ok (.iload 7, 2) := by decide +kernel
theorem dL_left_108 : decode cL_left 108 = .ok (.iload_n 3, 1) := by decide +kernel
theorem dL_left_109 : decode cL_left 109 = .ok (.if_icmp .ne 16, 3) := by decide +kernel
theorem dL_left_112 : decode cL_left 112 = .ok (.aload_n 0, 1) := by decide +kernel
theorem dL_left_113 : decode cL_left 113 = .ok (.iconst 2, 1) := by decide +kernel
theorem dL_left_114 : decode cL_left 114 = .ok (.invokevirtual 76, 3) := by decide +kernel
theorem dL_left_117 : decode cL_left 117 = .ok (.iload 4, 2) := by decide +kernel
theorem dL_left_119 : decode cL_left 119 = .ok (.if_icmp .ne 47, 3) := by decide +kernel
theorem dL_left_122 : decode cL_left 122 = .ok (.goto 32, 3) := by decide +kernel
theorem dL_left_125 : decode cL_left 125 = .ok (.iload 7, 2) := by decide +kernel
theorem dL_left_127 : decode cL_left 127 = .ok (.iload_n 3, 1) := by decide +kernel
theorem dL_left_128 : decode cL_left 128 = .ok (.if_icmp .ge 16, 3) := by decide +kernel
theorem dL_left_131 : decode cL_left 131 = .ok (.aload_n 0, 1) := by decide +kernel
theorem dL_left_132 : decode cL_left 132 = .ok (.iconst 2, 1) := by decide +kernel
theorem dL_left_133 : decode cL_left 133 = .ok (.invokevirtual 76, 3) := by decide +kernel
theorem dL_left_136 : decode cL_left 136 = .ok (.iload 4, 2) := by decide +kernel
theorem dL_left_138 : decode cL_left 138 = .ok (.if_icmp .ge 28, 3) := by decide +kernel
theorem dL_left_141 : decode cL_left 141 = .ok (.goto 13, 3) := by decide +kernel
theorem dL_left_144 : decode cL_left 144 = .ok (.aload_n 0, 1) := by decide +kernel
theorem dL_left_145 : decode cL_left 145 = .ok (.iconst 2, 1) := by decide +kernel
theorem dL_left_146 : decode cL_left 146 = .ok (.invokevirtual 76, 3) := by decide +kernel
theorem dL_left_149 : decode cL_left 149 = .ok (.iload 4, 2) := by decide +kernel
theorem dL_left_151 : decode cL_left 151 = .ok (.if_icmp .gt 15, 3) := by decide +kernel
theorem dL_left_154 : decode cL_left 154 = .ok (.aload_n 0, 1) := by decide +kernel
theorem dL_left_155 : decode cL_left 155 = .ok (.invokevirtual 118, 3) := by decide +kernel
theorem dL_left_158 : decode cL_left 158 = .ok (.iconst 1, 1) := by decide +kernel
theorem dL_left_159 : decode cL_left 159 = .ok (.if_icmp .ne 7, 3) := by decide +kernel
theorem dL_left_162 : decode cL_left 162 = .ok (.iconst 1, 1) := by decide +kernel
theorem dL_left_163 : decode cL_left 163 = .ok (.goto 4, 3) := by decide +kernel
theorem dL_left_166 : decode cL_left 166 = .ok (.iconst 0, 1) := by decide +kernel
theorem dL_left_167 : decode cL_left 167 = .ok (.istore 6, 2) := by decide +kernel
theorem dL_left_169 : decode cL_left 169 = .ok (.iinc 7 1, 3) := by decide +kernel
theorem dL_left_172 : decode cL_left 172 = .ok (.goto (-93), 3) := by decide +kernel
theorem dL_left_175 : decode cL_left 175 = .ok (.iload 6, 2) := by decide +kernel
theorem dL_left_177 : decode cL_left 177 = .ok (.ifCond .eq 36, 3) := by decide +kernel
theorem dL_left_180 : decode cL_left 180 = .ok (.iload_n 2, 1) := by decide +kernel
theorem dL_left_181 : decode cL_left 181 = .ok (.ifCond .le 13, 3) := by decide +kernel
theorem dL_left_184 : decode cL_left 184 = .ok (.iload 5, 2) := by decide +kernel
theorem dL_left_186 : decode cL_left 186 = .ok (.ldc 133, 2) := by decide +kernel
theorem dL_left_188 : decode cL_left 188 = .ok (.if_icmp .ne 25, 3) := by decide +kernel
theorem dL_left_191 : decode cL_left 191 = .ok (.goto 18, 3) := by decide +kernel
theorem dL_left_194 : decode cL_left 194 = .ok (.iload 5, 2) := by decide +kernel
theorem dL_left_196 : decode cL_left 196 = .ok (.ifCond .le 17, 3) := by decide +kernel
theorem dL_left_199 : decode cL_left 199 = .ok (.iload 5, 2) := by decide +kernel
theorem dL_left_201 : decode cL_left 201 = .ok (.iconst 1, 1) := by decide +kernel
theorem dL_left_202 : decode cL_left 202 = .ok (.aload_n 1, 1) := by decide +kernel
theorem dL_left_203 : decode cL_left 203 = .ok (.iconst 0, 1) := by decide +kernel
theorem dL_left_204 : decode cL_left 204 = .ok (.iaload, 1) := by decide +kernel
theorem dL_left_205 : decode cL_left 205 = .ok (.ishl, 1) := by decide +kernel
theorem dL_left_206 : decode cL_left 206 = .ok (.if_icmp .ge 7, 3) := by decide +kernel
theorem dL_left_209 : decode cL_left 209 = .ok (.iconst 1, 1) := by decide +kernel
theorem dL_left_210 : decode cL_left 210 = .ok (.goto 4, 3) := by decide +kernel
theorem dL_left_213 : decode cL_left 213 = .ok (.iconst 0, 1) := by decide +kernel
theorem dL_left_214 : decode cL_left 214 = .ok (.istore 6, 2) := by decide +kernel
theorem dL_left_216 : decode cL_left 216 = .ok (.iload 6, 2) := by decide +kernel
theorem dL_left_218 : decode cL_left 218 = .ok (.ifCond .eq 7, 3) := by decide +kernel
theorem dL_left_221 : decode cL_left 221 = .ok (.iload_n 2, 1) := by decide +kernel
theorem dL_left_222 : decode cL_left 222 = .ok (.ifCond .le 6, 3) := by decide +kernel
theorem dL_left_225 : decode cL_left 225 = .ok (.iload 6, 2) := by decide +kernel
theorem dL_left_227 : decode cL_left 227 = .ok (.ireturn, 1) := by decide +kernel
theorem dL_left_228 : decode cL_left 228 = .ok (.aload_n 0, 1) := by decide +kernel
theorem dL_left_229 : decode cL_left 229 = .ok (.aload_n 1, 1) := by decide +kernel
theorem dL_left_230 : decode cL_left 230 = .ok (.iload 5, 2) := by decide +kernel
theorem dL_left_232 : decode cL_left 232 = .ok (.invokestatic 156, 3) := by decide +kernel
theorem dL_left_235 : decode cL_left 235 = .ok (.ifCond .ne 15, 3) := by decide +kernel
theorem dL_left_238 : decode cL_left 238 = .ok (.aload_n 0, 1) := by decide +kernel
theorem dL_left_239 : decode cL_left 239 = .ok (.invokevirtual 118, 3) := by decide +kernel
theorem dL_left_242 : decode cL_left 242 = .ok (.iconst 1, 1) := by decide +kernel
theorem dL_left_243 : decode cL_left 243 = .ok (.if_icmp .ne 7, 3) := by decide +kernel
theorem dL_left_246 : decode cL_left 246 = .ok (.iconst 1, 1) := by decide +kernel
theorem dL_left_247 : decode cL_left 247 = .ok (.goto 4, 3) := by decide +kernel
theorem dL_left_250 : decode cL_left 250 = .ok (.iconst 0, 1) := by decide +kernel
theorem dL_left_251 : decode cL_left 251 = .ok (.istore 6, 2) := by decide +kernel
theorem dL_left_253 : decode cL_left 253 = .ok (.iconst 0, 1) := by decide +kernel
theorem dL_left_254 : decode cL_left 254 = .ok (.istore 7, 2) := by decide +kernel
theorem dL_left_256 : decode cL_left 256 = .ok (.iload 7, 2) := by decide +kernel
theorem dL_left_258 : decode cL_left 258 = .ok (.aload_n 1, 1) := by decide +kernel
theorem dL_left_259 : decode cL_left 259 = .ok (.iconst 0, 1) := by decide +kernel
theorem dL_left_260 : decode cL_left 260 = .ok (.iaload, 1) := by decide +kernel
theorem dL_left_261 : decode cL_left 261 = .ok (.if_icmp .ge 56, 3) := by decide +kernel
theorem dL_left_264 : decode cL_left 264 = .ok (.iload 6, 2) := by decide +kernel
theorem dL_left_266 : decode cL_left 266 = .ok (.ifCond .eq 51, 3) := by decide +kernel
theorem dL_left_269 : decode cL_left 269 = .ok (.iload 5, 2) := by decide +kernel
theorem dL_left_271 : decode cL_left 271 = .ok (.iload 7, 2) := by decide +kernel
theorem dL_left_273 : decode cL_left 273 = .ok (.ishr, 1) := by decide +kernel
theorem dL_left_274 : decode cL_left 274 = .ok (.iconst 1, 1) := by decide +kernel
theorem dL_left_275 : decode cL_left 275 = .ok (.iand, 1) := by decide +kernel
theorem dL_left_276 : decode cL_left 276 = .ok (.ifCond .eq 28, 3) := by decide +kernel
theorem dL_left_279 : decode cL_left 279 = .ok (.aload_n 0, 1) := by decide +kernel
theorem dL_left_280 : decode cL_left 280 = .ok (.aload_n 1, 1) := by decide +kernel
theorem dL_left_281 : decode cL_left 281 = .ok (.iload 5, 2) := by decide +kernel
theorem dL_left_283 : decode cL_left 283 = .ok (.iconst 1, 1) := by decide +kernel
theorem dL_left_284 : decode cL_left 284 = .ok (.iload 7, 2) := by decide +kernel
theorem dL_left_286 : decode cL_left 286 = .ok (.ishl, 1) := by decide +kernel
theorem dL_left_287 : decode cL_left 287 = .ok (.iconst (-1), 1) := by decide +kernel
theorem dL_left_288 : decode cL_left 288 = .ok (.ixor, 1) := by decide +kernel
theorem dL_left_289 : decode cL_left 289 = .ok (.iand, 1) := by decide +kernel
theorem dL_left_290 : decode cL_left 290 = .ok (.invokestatic 156, 3) := by decide +kernel
theorem dL_left_293 : decode cL_left 293 = .ok (.ifCond .le 15, 3) := by decide +kernel
theorem dL_left_296 : decode cL_left 296 = .ok (.aload_n 0, 1) := by decide +kernel
theorem dL_left_297 : decode cL_left 297 = .ok (.invokevirtual 118, 3) := by decide +kernel
theorem dL_left_300 : decode cL_left 300 = .ok (.iconst 1, 1) := by decide +kernel
theorem dL_left_301 : decode cL_left 301 = .ok (.if_icmp .ne 7, 3) := by decide +kernel
theorem dL_left_304 : decode cL_left 304 = .ok (.iconst 1, 1) := by decide +kernel
theorem dL_left_305 : decode cL_left 305 = .ok (.goto 4, 3) := by decide +kernel
theorem dL_left_308 : decode cL_left 308 = .ok (.iconst 0, 1) := by decide +kernel
theorem dL_left_309 : decode cL_left 309 = .ok (.istore 6, 2) := by decide +kernel
theorem dL_left_311 : decode cL_left 311 = .ok (.iinc 7 1, 3) := by decide +kernel
theorem dL_left_314 : decode cL_left 314 = .ok (.goto (-58), 3) := by decide +kernel
theorem dL_left_317 : decode cL_left 317 = .ok (.iload 6, 2) := by decide +kernel
theorem dL_left_319 : decode cL_left 319 = .ok (.ifCond .eq 15, 3) := by decide +kernel
theorem dL_left_322 : decode cL_left 322 = .ok (.aload_n 0, 1) := by decide +kernel
theorem dL_left_323 : decode cL_left 323 = .ok (.aload_n 1, 1) := by decide +kernel
theorem dL_left_324 : decode cL_left 324 = .ok (.invokestatic 121, 3) := by decide +kernel
theorem dL_left_327 : decode cL_left 327 = .ok (.ifCond .eq 7, 3) := by decide +kernel
theorem dL_left_330 : decode cL_left 330 = .ok (.iconst 1, 1) := by decide +kernel
theorem dL_left_331 : decode cL_left 331 = .ok (.goto 4, 3) := by decide +kernel
theorem dL_left_334 : decode cL_left 334 = .ok (.iconst 0, 1) := by decide +kernel
theorem dL_left_335 : decode cL_left 335 = .ok (.ireturn, 1) := by decide +kernel
set_option maxRecDepth 20000 in
theorem ggL_only_X10_drop : GoodIn wsL_only wsX10_drop := goodIn_r _ [5, 6, 7, 8, 9, 10, 11, 12, 4, 13, 14, 15, 16, 17, 18, 19, 20, 21, 22, 23, 24, 25, 26, 27, 28, 29, 30, 31, 32, 33, 34, 35, 36, 37, 38, 39, 40, 41, 42, 43, 98, 99, 100, 101, 102, 103, 104, 105, 106, 107, 108, 109, 110, 111, 112] (by decide +kernel) (by decide +kernel)
set_option maxRecDepth 20000 in
theorem gL_only_X10_drop : GoodIn wsL_only (wsV RL 51 RX10 yX10_drop wsX10_drop) := goodIn_app (goodIn_of _ (by decide +kernel)) ggL_only_X10_drop
set_option maxRecDepth 20000 in
theorem ggL_only_X10_count : GoodIn wsL_only wsX10_count := goodIn_r _ [47, 7, 8, 9, 48, 49, 50, 51, 6, 52, 53, 54, 55, 56, 57, 58, 59, 60, 61, 62, 63, 64, 65, 66, 67, 68, 32, 69, 37, 70, 71, 72, 73, 74, 75, 76, 77, 78, 79, 80, 81, 34, 82, 83, 84, 85, 86, 87, 88, 89, 90, 91, 92, 93, 36, 94, 95, 96, 97, 98, 99, 100, 101, 102, 103, 104, 105, 106, 107, 108, 109, 110, 111, 112, 113, 114, 115, 116] (by decide +kernel) (by decide +kernel)
set_option maxRecDepth 20000 in
theorem gL_only_X10_count : GoodIn wsL_only (wsV RL 76 RX10 yX10_count wsX10_count) := goodIn_app (goodIn_of _ (by decide +kernel)) ggL_only_X10_count
theorem dL_only_0 : decode cL_only 0 = .ok (.iconst 1, 1) := by decide +kernel
theorem dL_only_1 : decode cL_only 1 = .ok (.istore_n 3, 1) := by decide +kernel
theorem dL_only_2 : decode cL_only 2 = .ok (.aload_n 1, 1) := by decide +kernel
theorem dL_only_3 : decode cL_only 3 = .ok (.iconst 0, 1) := by decide +kernel
theorem dL_only_4 : decode cL_only 4 = .ok (.iaload, 1) := by decide +kernel
theorem dL_only_5 : decode cL_only 5 = .ok (.iconst 1, 1) := by decide +kernel
theorem dL_only_6 : decode cL_only 6 = .ok (.isub, 1) := by decide +kernel
theorem dL_only_7 : decode cL_only 7 = .ok (.istore 4, 2) := by decide +kernel
theorem dL_only_9 : decode cL_only 9 = .ok (.iload 4, 2) := by decide +kernel
theorem dL_only_11 : decode cL_only 11 = .ok (.ifCond .lt 38, 3) := by decide +kernel
theorem dL_only_14 : decode cL_only 14 = .ok (.iload_n 3, 1) := by decide +kernel
theorem dL_only_15 : decode cL_only 15 = .ok (.ifCond .eq 34, 3) := by decide +kernel
theorem dL_only_18 : decode cL_only 18 = .ok (.iload_n 2, 1) := by decide +kernel
theorem dL_only_19 : decode cL_only 19 = .ok (.iload 4, 2) := by decide +kernel
theorem dL_only_21 : decode cL_only 21 = .ok (.ishr, 1) := by decide +kernel
theorem dL_only_22 : decode cL_only 22 = .ok (.iconst 1, 1) := by decide +kernel
theorem dL_only_23 : decode cL_only 23 = .ok (.iand, 1) := by decide +kernel
theorem dL_only_24 : decode cL_only 24 = .ok (.iconst 1, 1) := by decide +kernel
theorem dL_only_25 : decode cL_only 25 = .ok (.if_icmp .eq 12, 3) := by decide +kernel
theorem dL_only_28 : decode cL_only 28 = .ok (.aload_n 0, 1) := by decide +kernel
theorem dL_only_29 : decode cL_only 29 = .ok (.iload 4, 2) := by decide +kernel
theorem dL_only_31 : decode cL_only 31 = .ok (.invokevirtual 51, 3) := by decide +kernel
theorem dL_only_34 : decode cL_only 34 = .ok (.ifCond .lt 7, 3) := by decide +kernel
theorem dL_only_37 : decode cL_only 37 = .ok (.iconst 1, 1) := by decide +kernel
theorem dL_only_38 : decode cL_only 38 = .ok (.goto 4, 3) := by decide +kernel
theorem dL_only_41 : decode cL_only 41 = .ok (.iconst 0, 1) := by decide +kernel
theorem dL_only_42 : decode cL_only 42 = .ok (.istore_n 3, 1) := by decide +kernel
theorem dL_only_43 : decode cL_only 43 = .ok (.iinc 4 (-1), 3) := by decide +kernel
theorem dL_only_46 : decode cL_only 46 = .ok (.goto (-37), 3) := by decide +kernel
theorem dL_only_49 : decode cL_only 49 = .ok (.iload_n 3, 1) := by decide +kernel
theorem dL_only_50 : decode cL_only 50 = .ok (.ifCond .eq 11, 3) := by decide +kernel
theorem dL_only_53 : decode cL_only 53 = .ok (.aload_n 0, 1) := by decide +kernel
theorem dL_only_54 : decode cL_only 54 = .ok (.iconst 2, 1) := by decide +kernel
theorem dL_only_55 : decode cL_only 55 = .ok (.invokevirtual 76, 3) := by decide +kernel
theorem dL_only_58 : decode cL_only 58 = .ok (.goto 4, 3) := by decide +kernel
theorem dL_only_61 : decode cL_only 61 = .ok (.iconst (-1), 1) := by decide +kernel
theorem dL_only_62 : decode cL_only 62 = .ok (.ireturn, 1) := by decide +kernel
set_option maxRecDepth 20000 in
theorem ggL_stretched_X10_count : GoodIn wsL_stretched wsX10_count := goodIn_r _ [6, 7, 8, 9, 10, 11, 12, 13, 14, 15, 16, 17, 18, 19, 20, 21, 22, 23, 24, 25, 26, 27, 28, 29, 30, 31, 32, 33, 34, 35, 36, 37, 38, 39, 40, 41, 42, 43, 44, 45, 46, 47, 48, 49, 50, 51, 52, 53, 54, 55, 56, 57, 58, 59, 60, 61, 62, 63, 64, 178, 179, 180, 181, 182, 183, 184, 185, 186, 187, 188, 189, 190, 191, 192, 193, 194, 195, 196] (by decide +kernel) (by decide +kernel)
set_option maxRecDepth 20000 in
theorem gL_stretched_X10_count : GoodIn wsL_stretched (wsV RL 76 RX10 yX10_count wsX10_count) := goodIn_app (goodIn_of _ (by decide +kernel)) ggL_stretched_X10_count
set_option maxRecDepth 20000 in
theorem ggL_stretched_X10_stretch : GoodIn wsL_stretched wsX10_stretch := goodIn_r _ [68, 14, 11, 7, 8, 69, 70, 71, 72, 12, 73, 74, 75, 5, 76, 9, 77, 78, 79, 80, 81, 82, 18, 83, 20, 21, 22, 23, 24, 25, 26, 27, 28, 29, 30, 31, 32, 33, 34, 35, 36, 37, 38, 39, 40, 41, 42, 43, 44, 45, 46, 47, 48, 49, 50, 51, 52, 53, 54, 55, 56, 57, 58, 59, 60, 84, 85, 86, 87, 88, 89, 90, 91, 92, 93, 94, 95, 96, 178, 179, 180, 181, 182, 183, 184, 185, 186, 187, 188, 189, 190, 191, 192, 193, 194, 195, 196] (by decide +kernel) (by decide +kernel)
set_option maxRecDepth 20000 in
theorem gL_stretched_X10_stretch : GoodIn wsL_stretched (wsV RL 159 RX10 yX10_stretch wsX10_stretch) := goodIn_app (goodIn_of _ (by decide +kernel)) ggL_stretched_X10_stretch
set_option maxRecDepth 20000 in
theorem ggL_stretched_X10_of : GoodIn wsL_stretched wsX10_of := goodIn_r _ [100, 14, 7, 8, 73, 74, 75, 5, 76, 9, 77, 78, 79, 101, 44, 45, 32, 46, 47, 178, 179, 180, 181, 182, 183, 184, 185, 186, 187, 188, 189, 190, 191, 192] (by decide +kernel) (by decide +kernel)
set_option maxRecDepth 20000 in
theorem gL_stretched_X10_of : GoodIn wsL_stretched (wsV RL 79 RX10 yX10_of wsX10_of) := goodIn_app (goodIn_of _ (by decide +kernel)) ggL_stretched_X10_of
set_option maxRecDepth 20000 in
theorem ggL_stretched_X10_change : GoodIn wsL_stretched wsX10_change := goodIn_r _ [105, 14, 73, 74, 75, 5, 76, 7, 8, 9, 77, 78, 79, 106, 107, 108, 109, 110, 101, 44, 45, 32, 46, 47, 111, 112, 113, 114, 115, 116, 117, 118, 119, 120, 121, 122, 123, 124, 125, 126, 127, 60, 34, 128, 129, 130, 131, 132, 133, 178, 179, 180, 181, 182, 183, 184, 185, 186, 187, 188, 189, 190, 191, 192] (by decide +kernel) (by decide +kernel)
set_option maxRecDepth 20000 in
theorem gL_stretched_X10_change : GoodIn wsL_stretched (wsV RL 55 RX10 yX10_change wsX10_change) := goodIn_app (goodIn_of _ (by decide +kernel)) ggL_stretched_X10_change
set_option maxRecDepth 20000 in
theorem ggL_stretched_X10_restore : GoodIn wsL_stretched wsX10_restore := goodIn_r _ [137, 138, 12, 7, 139, 140, 141, 142, 114, 143, 122, 117, 118, 119, 120, 121, 116, 144, 145, 146, 32, 147, 47, 127, 60, 34, 128, 133, 178, 179, 180, 181, 182, 183, 184, 185, 186, 187, 188, 189, 190, 191, 192] (by decide +kernel) (by decide +kernel)
set_option maxRecDepth 20000 in
theorem gL_stretched_X10_restore : GoodIn wsL_stretched (wsV RL 118 RX10 yX10_restore wsX10_restore) := goodIn_app (goodIn_of _ (by decide +kernel)) ggL_stretched_X10_restore
set_option maxRecDepth 20000 in
theorem ggL_stretched_L_is : GoodIn wsL_stretched wsL_is := goodIn_r _ [151, 152, 2, 3, 4, 5, 6, 7, 8, 9, 10, 11, 12, 13, 14, 15, 16, 17, 18, 19, 20, 21, 22, 23, 24, 25, 26, 27, 28, 29, 30, 31, 32, 33, 34, 35, 36, 37, 38, 39, 40, 41, 42, 43, 44, 45, 46, 47, 48, 49, 50, 51, 52, 53, 54, 55, 56, 57, 58, 59, 60, 61, 62, 63, 64, 97, 98, 99, 100, 73, 74, 75, 76, 77, 78, 79, 101, 153, 154, 155, 156, 157, 158, 159, 150, 160, 161, 162, 163, 164, 165, 166, 167, 168, 169, 170, 171, 172, 173, 174, 175, 176, 177, 178, 179, 180, 181, 182, 183, 184, 185, 186, 187, 188, 189, 190, 191, 192, 193, 194, 195, 196] (by decide +kernel) (by decide +kernel)
set_option maxRecDepth 20000 in
theorem gL_stretched_L_is : GoodIn wsL_stretched (va_wsS RL 121 yL_is wsL_is) := goodIn_app (goodIn_of _ (by decide +kernel)) ggL_stretched_L_is
theorem dL_stretched_0 : decode cL_stretched 0 = .ok (.aload_n 0, 1) := by decide +kernel
theorem dL_stretched_1 : decode cL_stretched 1 = .ok (.iconst 2, 1) := by decide +kernel
theorem dL_stretched_2 : decode cL_stretched 2 = .ok (.invokevirtual 76, 3) := by decide +kernel
theorem dL_stretched_5 : decode cL_stretched 5 = .ok (.istore_n 2, 1) := by decide +kernel
theorem dL_stretched_6 : decode cL_stretched 6 = .ok (.iconst 1, 1) := by decide +kernel
theorem dL_stretched_7 : decode cL_stretched 7 = .ok (.istore_n 3, 1) := by decide +kernel
theorem dL_stretched_8 : decode cL_stretched 8 = .ok (.iconst 0, 1) := by decide +kernel
theorem dL_stretched_9 : decode cL_stretched 9 = .ok (.istore 4, 2) := by decide +kernel
theorem dL_stretched_11 : decode cL_stretched 11 = .ok (.iload 4, 2) := by decide +kernel
theorem dL_stretched_13 : decode cL_stretched 13 = .ok (.aload_n 1, 1) := by decide +kernel
theorem dL_stretched_14 : decode cL_stretched 14 = .ok (.iconst 0, 1) := by decide +kernel
theorem dL_stretched_15 : decode cL_stretched 15 = .ok (.iaload, 1) := by decide +kernel
theorem dL_stretched_16 : decode cL_stretched 16 = .ok (.if_icmp .ge 225, 3) := by decide +kernel
theorem dL_stretched_19 : decode cL_stretched 19 = .ok (.iload_n 3, 1) := by decide +kernel
theorem dL_stretched_20 : decode cL_stretched 20 = .ok (.ifCond .eq 221, 3) := by decide +kernel
theorem dL_stretched_23 : decode cL_stretched 23 = .ok (.aload_n 0, 1) := by decide +kernel
theorem dL_stretched_24 : decode cL_stretched 24 = .ok (.iload 4, 2) := by decide +kernel
theorem dL_stretched_26 : decode cL_stretched 26 = .ok (.invokevirtual 159, 3) := by decide +kernel
theorem dL_stretched_29 : decode cL_stretched 29 = .ok (.istore 5, 2) := by decide +kernel
theorem dL_stretched_31 : decode cL_stretched 31 = .ok (.aload_n 0, 1) := by decide +kernel
theorem dL_stretched_32 : decode cL_stretched 32 = .ok (.iload 4, 2) := by decide +kernel
theorem dL_stretched_34 : decode cL_stretched 34 = .ok (.iconst 4, 1) := by decide +kernel
theorem dL_stretched_35 : decode cL_stretched 35 = .ok (.invokevirtual 79, 3) := by decide +kernel
theorem dL_stretched_38 : decode cL_stretched 38 = .ok (.istore 6, 2) := by decide +kernel
theorem dL_stretched_40 : decode cL_stretched 40 = .ok (.iload 5, 2) := by decide +kernel
theorem dL_stretched_42 : decode cL_stretched 42 = .ok (.ifCond .ge 10, 3) := by decide +kernel
theorem dL_stretched_45 : decode cL_stretched 45 = .ok (.iconst 0, 1) := by decide +kernel
theorem dL_stretched_46 : decode cL_stretched 46 = .ok (.iload 5, 2) := by decide +kernel
theorem dL_stretched_48 : decode cL_stretched 48 = .ok (.isub, 1) := by decide +kernel
theorem dL_stretched_49 : decode cL_stretched 49 = .ok (.goto 5, 3) := by decide +kernel
theorem dL_stretched_52 : decode cL_stretched 52 = .ok (.iload 5, 2) := by decide +kernel
theorem dL_stretched_54 : decode cL_stretched 54 = .ok (.istore 7, 2) := by decide +kernel
theorem dL_stretched_56 : decode cL_stretched 56 = .ok (.iload_n 2, 1) := by decide +kernel
theorem dL_stretched_57 : decode cL_stretched 57 = .ok (.ifCond .le 16, 3) := by decide +kernel
theorem dL_stretched_60 : decode cL_stretched 60 = .ok (.iload 5, 2) := by decide +kernel
theorem dL_stretched_62 : decode cL_stretched 62 = .ok (.ifCond .ne 7, 3) := by decide +kernel
theorem dL_stretched_65 : decode cL_stretched 65 = .ok (.iconst 1, 1) := by decide +kernel
theorem dL_stretched_66 : decode cL_stretched 66 = .ok (.goto 31, 3) := by decide +kernel
theorem dL_stretched_69 : decode cL_stretched 69 = .ok (.iconst 0, 1) := by decide +kernel
theorem dL_stretched_70 : decode cL_stretched 70 = .ok (.goto 27, 3) := by decide +kernel
theorem dL_stretched_73 : decode cL_stretched 73 = .ok (.iload 5, 2) := by decide +kernel
theorem dL_stretched_75 : decode cL_stretched 75 = .ok (.ifCond .eq 21, 3) := by decide +kernel
theorem dL_stretched_78 : decode cL_stretched 78 = .ok (.iload 5, 2) := by decide +kernel
theorem dL_stretched_80 : decode cL_stretched 80 = .ok (.ldc 133, 2) := by decide +kernel
theorem dL_stretched_82 : decode cL_stretched 82 = .ok (.if_icmp .eq 10, 3) := by decide +kernel
theorem dL_stretched_85 : decode cL_stretched 85 = .ok (.iload 7, 2) := by decide +kernel
theorem dL_stretched_87 : decode cL_stretched 87 = .ok (.bipush 100, 2) := by decide +kernel
theorem dL_stretched_89 : decode cL_stretched 89 = .ok (.if_icmp .ge 7, 3) := by decide +kernel
theorem dL_stretched_92 : decode cL_stretched 92 = .ok (.iconst 1, 1) := by decide +kernel
theorem dL_stretched_93 : decode cL_stretched 93 = .ok (.goto 4, 3) := by decide +kernel
theorem dL_stretched_96 : decode cL_stretched 96 = .ok (.iconst 0, 1) := by decide +kernel
theorem dL_stretched_97 : decode cL_stretched 97 = .ok (.istore_n 3, 1) := by decide +kernel
theorem dL_stretched_98 : decode cL_stretched 98 = .ok (.iload_n 3, 1) := by decide +kernel
theorem dL_stretched_99 : decode cL_stretched 99 = .ok (.ifCond .eq 136, 3) := by decide +kernel
theorem dL_stretched_102 : decode cL_stretched 102 = .ok (.iload_n 2, 1) := by decide +kernel
theorem dL_stretched_103 : decode cL_stretched 103 = .ok (.ifCond .ne 132, 3) := by decide +kernel
theorem dL_stretched_106 : decode cL_stretched 106 = .ok (.iload 5, 2) := by decide +kernel
theorem dL_stretched_108 : decode cL_stretched 108 = .ok (.bipush (-100), 2) := by decide +kernel
theorem dL_stretched_110 : decode cL_stretched 110 = .ok (.if_icmp .le 125, 3) := by decide +kernel
theorem dL_stretched_113 : decode cL_stretched 113 = .ok (.iload 6, 2) := by decide +kernel
theorem dL_stretched_115 : decode cL_stretched 115 = .ok (.iload 5, 2) := by decide +kernel
theorem dL_stretched_117 : decode cL_stretched 117 = .ok (.iadd, 1) := by decide +kernel
theorem dL_stretched_118 : decode cL_stretched 118 = .ok (.istore 8, 2) := by decide +kernel
theorem dL_stretched_120 : decode cL_stretched 120 = .ok (.iload 5, 2) := by decide +kernel
theorem dL_stretched_122 : decode cL_stretched 122 = .ok (.ifCond .le 10, 3) := by decide +kernel
theorem dL_stretched_125 : decode cL_stretched 125 = .ok (.iload 8, 2) := by decide +kernel
theorem dL_stretched_127 : decode cL_stretched 127 = .ok (.iconst 1, 1) := by decide +kernel
theorem dL_stretched_128 : decode cL_stretched 128 = .ok (.isub, 1) := by decide +kernel
theorem dL_stretched_129 : decode cL_stretched 129 = .ok (.goto 7, 3) := by decide +kernel
theorem dL_stretched_132 : decode cL_stretched 132 = .ok (.iload 8, 2) := by decide +kernel
theorem dL_stretched_134 : decode cL_stretched 134 = .ok (.iconst 1, 1) := by decide +kernel
theorem dL_stretched_135 : decode cL_stretched 135 = .ok (.iadd, 1) := by decide +kernel
theorem dL_stretched_136 : decode cL_stretched 136 = .ok (.istore 9, 2) := by decide +kernel
theorem dL_stretched_138 : decode cL_stretched 138 = .ok (.iload 8, 2) := by decide +kernel
theorem dL_stretched_140 : decode cL_stretched 140 = .ok (.bipush 99, 2) := by decide +kernel
theorem dL_stretched_142 : decode cL_stretched 142 = .ok (.if_icmp .gt 69, 3) := by decide +kernel
theorem dL_stretched_145 : decode cL_stretched 145 = .ok (.iload 8, 2) := by decide +kernel
theorem dL_stretched_147 : decode cL_stretched 147 = .ok (.bipush (-99), 2) := by decide +kernel
theorem dL_stretched_149 : decode cL_stretched 149 = .ok (.if_icmp .lt 62, 3) := by decide +kernel
theorem dL_stretched_152 : decode cL_stretched 152 = .ok (.aload_n 0, 1) := by decide +kernel
theorem dL_stretched_153 : decode cL_stretched 153 = .ok (.iload 4, 2) := by decide +kernel
theorem dL_stretched_155 : decode cL_stretched 155 = .ok (.iconst 4, 1) := by decide +kernel
theorem dL_stretched_156 : decode cL_stretched 156 = .ok (.iload 8, 2) := by decide +kernel
theorem dL_stretched_158 : decode cL_stretched 158 = .ok (.invokevirtual 55, 3) := by decide +kernel
theorem dL_stretched_161 : decode cL_stretched 161 = .ok (.iload 6, 2) := by decide +kernel
theorem dL_stretched_163 : decode cL_stretched 163 = .ok (.if_icmp .ne 52, 3) := by decide +kernel
theorem dL_stretched_166 : decode cL_stretched 166 = .ok (.aload_n 0, 1) := by decide +kernel
theorem dL_stretched_167 : decode cL_stretched 167 = .ok (.iconst 2, 1) := by decide +kernel
theorem dL_stretched_168 : decode cL_stretched 168 = .ok (.invokevirtual 76, 3) := by decide +kernel
theorem dL_stretched_171 : decode cL_stretched 171 = .ok (.ifCond .le 44, 3) := by decide +kernel
theorem dL_stretched_174 : decode cL_stretched 174 = .ok (.aload_n 0, 1) := by decide +kernel
theorem dL_stretched_175 : decode cL_stretched 175 = .ok (.invokevirtual 118, 3) := by decide +kernel
theorem dL_stretched_178 : decode cL_stretched 178 = .ok (.iconst 1, 1) := by decide +kernel
theorem dL_stretched_179 : decode cL_stretched 179 = .ok (.if_icmp .ne 36, 3) := by decide +kernel
theorem dL_stretched_182 : decode cL_stretched 182 = .ok (.iload 9, 2) := by decide +kernel
theorem dL_stretched_184 : decode cL_stretched 184 = .ok (.iload 6, 2) := by decide +kernel
theorem dL_stretched_186 : decode cL_stretched 186 = .ok (.if_icmp .eq 25, 3) := by decide +kernel
theorem dL_stretched_189 : decode cL_stretched 189 = .ok (.aload_n 0, 1) := by decide +kernel
theorem dL_stretched_190 : decode cL_stretched 190 = .ok (.iload 4, 2) := by decide +kernel
theorem dL_stretched_192 : decode cL_stretched 192 = .ok (.iconst 4, 1) := by decide +kernel
theorem dL_stretched_193 : decode cL_stretched 193 = .ok (.iload 9, 2) := by decide +kernel
theorem dL_stretched_195 : decode cL_stretched 195 = .ok (.invokevirtual 55, 3) := by decide +kernel
theorem dL_stretched_198 : decode cL_stretched 198 = .ok (.iload 6, 2) := by decide +kernel
theorem dL_stretched_200 : decode cL_stretched 200 = .ok (.if_icmp .ne 15, 3) := by decide +kernel
theorem dL_stretched_203 : decode cL_stretched 203 = .ok (.aload_n 0, 1) := by decide +kernel
theorem dL_stretched_204 : decode cL_stretched 204 = .ok (.iconst 2, 1) := by decide +kernel
theorem dL_stretched_205 : decode cL_stretched 205 = .ok (.invokevirtual 76, 3) := by decide +kernel
theorem dL_stretched_208 : decode cL_stretched 208 = .ok (.ifCond .ne 7, 3) := by decide +kernel
theorem dL_stretched_211 : decode cL_stretched 211 = .ok (.iconst 1, 1) := by decide +kernel
theorem dL_stretched_212 : decode cL_stretched 212 = .ok (.goto 4, 3) := by decide +kernel
theorem dL_stretched_215 : decode cL_stretched 215 = .ok (.iconst 0, 1) := by decide +kernel
theorem dL_stretched_216 : decode cL_stretched 216 = .ok (.istore_n 3, 1) := by decide +kernel
theorem dL_stretched_217 : decode cL_stretched 217 = .ok (.iload_n 3, 1) := by decide +kernel
theorem dL_stretched_218 : decode cL_stretched 218 = .ok (.ifCond .eq 15, 3) := by decide +kernel
theorem dL_stretched_221 : decode cL_stretched 221 = .ok (.aload_n 0, 1) := by decide +kernel
theorem dL_stretched_222 : decode cL_stretched 222 = .ok (.invokevirtual 118, 3) := by decide +kernel
theorem dL_stretched_225 : decode cL_stretched 225 = .ok (.iconst 1, 1) := by decide +kernel
theorem dL_stretched_226 : decode cL_stretched 226 = .ok (.if_icmp .ne 7, 3) := by decide +kernel
theorem dL_stretched_229 : decode cL_stretched 229 = .ok (.iconst 1, 1) := by decide +kernel
theorem dL_stretched_230 : decode cL_stretched 230 = .ok (.goto 4, 3) := by decide +kernel
theorem dL_stretched_233 : decode cL_stretched 233 = .ok (.iconst 0, 1) := by decide +kernel
theorem dL_stretched_234 : decode cL_stretched 234 = .ok (.istore_n 3, 1) := by decide +kernel
theorem dL_stretched_235 : decode cL_stretched 235 = .ok (.iinc 4 2, 3) := by decide +kernel
theorem dL_stretched_238 : decode cL_stretched 238 = .ok (.goto (-227), 3) := by decide +kernel
theorem dL_stretched_241 : decode cL_stretched 241 = .ok (.iload_n 3, 1) := by decide +kernel
theorem dL_stretched_242 : decode cL_stretched 242 = .ok (.ifCond .eq 15, 3) := by decide +kernel
theorem dL_stretched_245 : decode cL_stretched 245 = .ok (.aload_n 0, 1) := by decide +kernel
theorem dL_stretched_246 : decode cL_stretched 246 = .ok (.aload_n 1, 1) := by decide +kernel
theorem dL_stretched_247 : decode cL_stretched 247 = .ok (.invokestatic 121, 3) := by decide +kernel
theorem dL_stretched_250 : decode cL_stretched 250 = .ok (.ifCond .eq 7, 3) := by decide +kernel
theorem dL_stretched_253 : decode cL_stretched 253 = .ok (.iconst 1, 1) := by decide +kernel
theorem dL_stretched_254 : decode cL_stretched 254 = .ok (.goto 4, 3) := by decide +kernel
theorem dL_stretched_257 : decode cL_stretched 257 = .ok (.iconst 0, 1) := by decide +kernel
theorem dL_stretched_258 : decode cL_stretched 258 = .ok (.ireturn, 1) := by decide +kernel
set_option maxRecDepth 20000 in
theorem ggL_seen_X10_count : GoodIn wsL_seen wsX10_count := goodIn_r _ [5, 6, 7, 8, 9, 10, 11, 12, 13, 14, 15, 16, 17, 18, 19, 20, 21, 22, 23, 24, 25, 26, 27, 28, 29, 30, 31, 32, 33, 34, 35, 36, 37, 38, 39, 40, 41, 42, 43, 44, 45, 46, 47, 48, 49, 50, 51, 52, 53, 54, 55, 56, 57, 58, 59, 60, 61, 62, 63, 246, 247, 248, 249, 250, 251, 252, 253, 254, 255, 256, 257, 258, 259, 260, 261, 262, 263, 264] (by decide +kernel) (by decide +kernel)
set_option maxRecDepth 20000 in
theorem gL_seen_X10_count : GoodIn wsL_seen (wsV RL 76 RX10 yX10_count wsX10_count) := goodIn_app (goodIn_of _ (by decide +kernel)) ggL_seen_X10_count
set_option maxRecDepth 20000 in
theorem ggL_seen_X10_sheet : GoodIn wsL_seen wsX10_sheet := goodIn_r _ [67, 13, 68, 69, 70, 71, 4, 72, 73, 74, 75, 76, 77, 78, 79, 80, 81, 82, 83, 84, 85, 86, 87, 88, 89, 90, 246, 247, 248, 249, 250, 251, 252, 265, 266, 267] (by decide +kernel) (by decide +kernel)
set_option maxRecDepth 20000 in
theorem gL_seen_X10_sheet : GoodIn wsL_seen (wsV RL 162 RX10 yX10_sheet wsX10_sheet) := goodIn_app (goodIn_of _ (by decide +kernel)) ggL_seen_X10_sheet
set_option maxRecDepth 20000 in
theorem ggL_seen_X10_film : GoodIn wsL_seen wsX10_film := goodIn_r _ [94, 13, 69, 10, 6, 7, 73, 74, 4, 75, 70, 71, 72, 95, 96, 97, 79, 98, 99, 81, 100, 101, 102, 103, 104, 105, 106, 107, 108, 109, 82, 60, 61, 62, 17, 63, 19, 20, 21, 22, 23, 24, 25, 26, 27, 28, 29, 30, 31, 32, 33, 34, 35, 36, 37, 38, 39, 40, 41, 42, 43, 44, 45, 46, 47, 48, 49, 50, 51, 52, 53, 54, 55, 56, 57, 58, 59, 110, 84, 85, 86, 87, 88, 89, 90, 246, 247, 248, 249, 250, 251, 252, 253, 254, 255, 265, 266, 267, 261, 262, 263, 264, 256, 257, 258, 259, 260] (by decide +kernel) (by decide +kernel)
set_option maxRecDepth 20000 in
theorem gL_seen_X10_film : GoodIn wsL_seen (wsV RL 165 RX10 yX10_film wsX10_film) := goodIn_app (goodIn_of _ (by decide +kernel)) ggL_seen_X10_film
set_option maxRecDepth 20000 in
theorem ggL_seen_X10_seen : GoodIn wsL_seen wsX10_seen := goodIn_r _ [114, 13, 69, 115, 116, 117, 118, 4, 119, 6, 7, 8, 73, 74, 75, 70, 71, 72, 95, 96, 97, 79, 98, 99, 81, 100, 101, 102, 103, 104, 105, 106, 107, 108, 109, 82, 120, 121, 122, 123, 124, 125, 126, 127, 128, 87, 129, 130, 131, 132, 133, 134, 48, 49, 31, 50, 46, 34, 35, 36, 37, 135, 52, 53, 54, 246, 247, 248, 249, 250, 251, 252, 253, 254, 255, 256, 257, 258, 259, 260, 265, 266, 267] (by decide +kernel) (by decide +kernel)
set_option maxRecDepth 20000 in
theorem gL_seen_X10_seen : GoodIn wsL_seen (wsV RL 168 RX10 yX10_seen wsX10_seen) := goodIn_app (goodIn_of _ (by decide +kernel)) ggL_seen_X10_seen
set_option maxRecDepth 20000 in
theorem ggL_seen_X10_of : GoodIn wsL_seen wsX10_of := goodIn_r _ [139, 13, 6, 7, 116, 117, 118, 4, 119, 8, 73, 74, 75, 140, 43, 44, 31, 45, 46, 246, 247, 248, 249, 250, 251, 252, 253, 254, 255, 256, 257, 258, 259, 260] (by decide +kernel) (by decide +kernel)
set_option maxRecDepth 20000 in
theorem gL_seen_X10_of : GoodIn wsL_seen (wsV RL 79 RX10 yX10_of wsX10_of) := goodIn_app (goodIn_of _ (by decide +kernel)) ggL_seen_X10_of
set_option maxRecDepth 20000 in
theorem ggL_seen_L_next : GoodIn wsL_seen wsL_next := goodIn_r _ [144] (by decide +kernel) (by decide +kernel)
set_option maxRecDepth 20000 in
theorem gL_seen_L_next : GoodIn wsL_seen (va_wsS RL 40 yL_next wsL_next) := goodIn_app (goodIn_of _ (by decide +kernel)) ggL_seen_L_next
set_option maxRecDepth 20000 in
theorem ggL_seen_X10_hold : GoodIn wsL_seen wsX10_hold := goodIn_r _ [148, 13, 6, 7, 73, 74, 4, 75, 149, 150, 151, 31, 152, 59, 153, 43, 44, 45, 46, 154, 48, 49, 50, 34, 35, 36, 37, 155, 52, 53, 54, 246, 247, 248, 249, 250, 251, 252, 253, 254, 255, 256, 257, 258, 259, 260] (by decide +kernel) (by decide +kernel)
set_option maxRecDepth 20000 in
theorem gL_seen_X10_hold : GoodIn wsL_seen (wsV RL 84 RX10 yX10_hold wsX10_hold) := goodIn_app (goodIn_of _ (by decide +kernel)) ggL_seen_X10_hold
set_option maxRecDepth 20000 in
theorem ggL_seen_L_all : GoodIn wsL_seen wsL_all := goodIn_r _ [158] (by decide +kernel) (by decide +kernel)
set_option maxRecDepth 20000 in
theorem gL_seen_L_all : GoodIn wsL_seen (va_wsS RL 66 yL_all wsL_all) := goodIn_app (goodIn_of _ (by decide +kernel)) ggL_seen_L_all
set_option maxRecDepth 20000 in
theorem ggL_seen_X10_asked : GoodIn wsL_seen wsX10_asked := goodIn_r _ [162, 6, 7, 13, 8, 163, 164, 165, 166, 73, 74, 4, 75, 167, 29, 30, 31, 32, 33, 34, 35, 36, 37, 149, 150, 151, 152, 59, 153, 43, 44, 45, 46, 154, 48, 49, 50, 155, 52, 53, 54, 168, 169, 170, 171, 172, 173, 174, 175, 176, 177, 178, 179, 180, 181, 182, 183, 184, 246, 247, 248, 249, 250, 251, 252, 253, 254, 255, 256, 257, 258, 259, 260] (by decide +kernel) (by decide +kernel)
set_option maxRecDepth 20000 in
theorem gL_seen_X10_asked : GoodIn wsL_seen (wsV RL 171 RX10 yX10_asked wsX10_asked) := goodIn_app (goodIn_of _ (by decide +kernel)) ggL_seen_X10_asked
set_option maxRecDepth 20000 in
theorem ggL_seen_X10_clear : GoodIn wsL_seen wsX10_clear := goodIn_r _ [188, 13, 69, 189, 73, 74, 4, 75, 190, 103, 104, 79, 105, 81, 191, 192, 193, 194, 82, 246, 247, 248, 249, 250, 251, 252, 265, 266, 267] (by decide +kernel) (by decide +kernel)
set_option maxRecDepth 20000 in
theorem gL_seen_X10_clear : GoodIn wsL_seen (wsV RL 174 RX10 yX10_clear wsX10_clear) := goodIn_app (goodIn_of _ (by decide +kernel)) ggL_seen_X10_clear
set_option maxRecDepth 20000 in
theorem ggL_seen_L_turns : GoodIn wsL_seen wsL_turns := goodIn_r _ [197, 1, 2, 3, 4, 5, 6, 7, 8, 9, 10, 11, 12, 13, 14, 15, 16, 17, 18, 19, 20, 21, 22, 23, 24, 25, 26, 27, 28, 29, 30, 31, 32, 33, 34, 35, 36, 37, 38, 39, 40, 41, 42, 43, 44, 45, 46, 47, 48, 49, 50, 51, 52, 53, 54, 55, 56, 57, 58, 59, 60, 61, 62, 63, 198, 199, 200, 201, 116, 117, 118, 119, 73, 74, 75, 202, 203, 204, 205, 206, 207, 208, 209, 210, 211, 212, 213, 214, 215, 216, 217, 218, 219, 220, 221, 222, 223, 153, 224, 225, 226, 227, 228, 136, 137, 138, 139, 140, 229, 230, 143, 231, 232, 233, 234, 235, 236, 134, 237, 238, 239, 145, 146, 147, 148, 149, 150, 151, 152, 154, 155, 240, 241, 242, 243, 244, 245, 246, 247, 248, 249, 250, 251, 252, 253, 254, 255, 256, 257, 258, 259, 260, 261, 262, 263, 264] (by decide +kernel) (by decide +kernel)
set_option maxRecDepth 20000 in
theorem gL_seen_L_turns : GoodIn wsL_seen (va_wsS RL 177 yL_turns wsL_turns) := goodIn_app (goodIn_of _ (by decide +kernel)) ggL_seen_L_turns
theorem dL_seen_0 : decode cL_seen 0 = .ok (.aload_n 0, 1) := by decide +kernel
theorem dL_seen_1 : decode cL_seen 1 = .ok (.iconst 2, 1) := by decide +kernel
theorem dL_seen_2 : decode cL_seen 2 = .ok (.invokevirtual 76, 3) := by decide +kernel
theorem dL_seen_5 : decode cL_seen 5 = .ok (.istore_n 2, 1) := by decide +kernel
theorem dL_seen_6 : decode cL_seen 6 = .ok (.aload_n 0, 1) := by decide +kernel
theorem dL_seen_7 : decode cL_seen 7 = .ok (.iconst 1, 1) := by decide +kernel
theorem dL_seen_8 : decode cL_seen 8 = .ok (.iconst 2, 1) := by decide +kernel
theorem dL_seen_9 : decode cL_seen 9 = .ok (.bipush 8, 2) := by decide +kernel
theorem dL_seen_11 : decode cL_seen 11 = .ok (.invokevirtual 162, 3) := by decide +kernel
theorem dL_seen_14 : decode cL_seen 14 = .ok (.bipush 8, 2) := by decide +kernel
theorem dL_seen_16 : decode cL_seen 16 = .ok (.if_icmp .ne 21, 3) := by decide +kernel
theorem dL_seen_19 : decode cL_seen 19 = .ok (.aload_n 0, 1) := by decide +kernel
theorem dL_seen_20 : decode cL_seen 20 = .ok (.bipush 8, 2) := by decide +kernel
theorem dL_seen_22 : decode cL_seen 22 = .ok (.iconst 1, 1) := by decide +kernel
theorem dL_seen_23 : decode cL_seen 23 = .ok (.iconst 2, 1) := by decide +kernel
theorem dL_seen_24 : decode cL_seen 24 = .ok (.iconst 0, 1) := by decide +kernel
theorem dL_seen_25 : decode cL_seen 25 = .ok (.invokevirtual 165, 3) := by decide +kernel
theorem dL_seen_28 : decode cL_seen 28 = .ok (.bipush 8, 2) := by decide +kernel
theorem dL_seen_30 : decode cL_seen 30 = .ok (.if_icmp .ne 7, 3) := by decide +kernel
theorem dL_seen_33 : decode cL_seen 33 = .ok (.iconst 1, 1) := by decide +kernel
theorem dL_seen_34 : decode cL_seen 34 = .ok (.goto 4, 3) := by decide +kernel
theorem dL_seen_37 : decode cL_seen 37 = .ok (.iconst 0, 1) := by decide +kernel
theorem dL_seen_38 : decode cL_seen 38 = .ok (.istore_n 3, 1) := by decide +kernel
theorem dL_seen_39 : decode cL_seen 39 = .ok (.iload_n 2, 1) := by decide +kernel
theorem dL_seen_40 : decode cL_seen 40 = .ok (.bipush 8, 2) := by decide +kernel
theorem dL_seen_42 : decode cL_seen 42 = .ok (.if_icmp .ge 7, 3) := by decide +kernel
theorem dL_seen_45 : decode cL_seen 45 = .ok (.iload_n 2, 1) := by decide +kernel
theorem dL_seen_46 : decode cL_seen 46 = .ok (.goto 5, 3) := by decide +kernel
theorem dL_seen_49 : decode cL_seen 49 = .ok (.bipush 8, 2) := by decide +kernel
theorem dL_seen_51 : decode cL_seen 51 = .ok (.istore 4, 2) := by decide +kernel
theorem dL_seen_53 : decode cL_seen 53 = .ok (.iconst 0, 1) := by decide +kernel
theorem dL_seen_54 : decode cL_seen 54 = .ok (.istore 5, 2) := by decide +kernel
theorem dL_seen_56 : decode cL_seen 56 = .ok (.iload 5, 2) := by decide +kernel
theorem dL_seen_58 : decode cL_seen 58 = .ok (.aload_n 1, 1) := by decide +kernel
theorem dL_seen_59 : decode cL_seen 59 = .ok (.iconst 0, 1) := by decide +kernel
theorem dL_seen_60 : decode cL_seen 60 = .ok (.iaload, 1) := by decide +kernel
theorem dL_seen_61 : decode cL_seen 61 = .ok (.if_icmp .ge 148, 3) := by decide +kernel
theorem dL_seen_64 : decode cL_seen 64 = .ok (.iload_n 3, 1) := by decide +kernel
theorem dL_seen_65 : decode cL_seen 65 = .ok (.ifCond .eq 144, 3) := by decide +kernel
theorem dL_seen_68 : decode cL_seen 68 = .ok (.iload 4, 2) := by decide +kernel
theorem dL_seen_70 : decode cL_seen 70 = .ok (.ifCond .le 139, 3) := by decide +kernel
theorem dL_seen_73 : decode cL_seen 73 = .ok (.aload_n 0, 1) := by decide +kernel
theorem dL_seen_74 : decode cL_seen 74 = .ok (.iload 5, 2) := by decide +kernel
theorem dL_seen_76 : decode cL_seen 76 = .ok (.iconst 1, 1) := by decide +kernel
theorem dL_seen_77 : decode cL_seen 77 = .ok (.iconst 2, 1) := by decide +kernel
theorem dL_seen_78 : decode cL_seen 78 = .ok (.iconst 0, 1) := by decide +kernel
theorem dL_seen_79 : decode cL_seen 79 = .ok (.iload 4, 2) := by decide +kernel
theorem dL_seen_81 : decode cL_seen 81 = .ok (.iconst 0, 1) := by decide +kernel
theorem dL_seen_82 : decode cL_seen 82 = .ok (.invokevirtual 168, 3) := by decide +kernel
theorem dL_seen_85 : decode cL_seen 85 = .ok (.istore 6, 2) := by decide +kernel
theorem dL_seen_87 : decode cL_seen 87 = .ok (.aload_n 0, 1) := by decide +kernel
theorem dL_seen_88 : decode cL_seen 88 = .ok (.iload 5, 2) := by decide +kernel
theorem dL_seen_90 : decode cL_seen 90 = .ok (.iconst 1, 1) := by decide +kernel
theorem dL_seen_91 : decode cL_seen 91 = .ok (.iconst 2, 1) := by decide +kernel
theorem dL_seen_92 : decode cL_seen 92 = .ok (.iconst 0, 1) := by decide +kernel
theorem dL_seen_93 : decode cL_seen 93 = .ok (.iload 4, 2) := by decide +kernel
theorem dL_seen_95 : decode cL_seen 95 = .ok (.iconst 1, 1) := by decide +kernel
theorem dL_seen_96 : decode cL_seen 96 = .ok (.invokevirtual 168, 3) := by decide +kernel
theorem dL_seen_99 : decode cL_seen 99 = .ok (.istore 7, 2) := by decide +kernel
theorem dL_seen_101 : decode cL_seen 101 = .ok (.aload_n 0, 1) := by decide +kernel
theorem dL_seen_102 : decode cL_seen 102 = .ok (.iload 5, 2) := by decide +kernel
theorem dL_seen_104 : decode cL_seen 104 = .ok (.iconst 5, 1) := by decide +kernel
theorem dL_seen_105 : decode cL_seen 105 = .ok (.invokevirtual 79, 3) := by decide +kernel
theorem dL_seen_108 : decode cL_seen 108 = .ok (.istore 8, 2) := by decide +kernel
theorem dL_seen_110 : decode cL_seen 110 = .ok (.iload 6, 2) := by decide +kernel
theorem dL_seen_112 : decode cL_seen 112 = .ok (.iload 8, 2) := by decide +kernel
theorem dL_seen_114 : decode cL_seen 114 = .ok (.ishr, 1) := by decide +kernel
theorem dL_seen_115 : decode cL_seen 115 = .ok (.iconst 1, 1) := by decide +kernel
theorem dL_seen_116 : decode cL_seen 116 = .ok (.iand, 1) := by decide +kernel
theorem dL_seen_117 : decode cL_seen 117 = .ok (.iconst 1, 1) := by decide +kernel
theorem dL_seen_118 : decode cL_seen 118 = .ok (.if_icmp .ne 25, 3) := by decide +kernel
theorem dL_seen_121 : decode cL_seen 121 = .ok (.iload 6, 2) := by decide +kernel
theorem dL_seen_123 : decode cL_seen 123 = .ok (.iload 7, 2) := by decide +kernel
theorem dL_seen_125 : decode cL_seen 125 = .ok (.iand, 1) := by decide +kernel
theorem dL_seen_126 : decode cL_seen 126 = .ok (.ifCond .ne 17, 3) := by decide +kernel
theorem dL_seen_129 : decode cL_seen 129 = .ok (.iload 7, 2) := by decide +kernel
theorem dL_seen_131 : decode cL_seen 131 = .ok (.iload 8, 2) := by decide +kernel
theorem dL_seen_133 : decode cL_seen 133 = .ok (.ishr, 1) := by decide +kernel
theorem dL_seen_134 : decode cL_seen 134 = .ok (.iconst 1, 1) := by decide +kernel
theorem dL_seen_135 : decode cL_seen 135 = .ok (.iand, 1) := by decide +kernel
theorem dL_seen_136 : decode cL_seen 136 = .ok (.ifCond .ne 7, 3) := by decide +kernel
theorem dL_seen_139 : decode cL_seen 139 = .ok (.iconst 1, 1) := by decide +kernel
theorem dL_seen_140 : decode cL_seen 140 = .ok (.goto 4, 3) := by decide +kernel
theorem dL_seen_143 : decode cL_seen 143 = .ok (.iconst 0, 1) := by decide +kernel
theorem dL_seen_144 : decode cL_seen 144 = .ok (.istore_n 3, 1) := by decide +kernel
theorem dL_seen_145 : decode cL_seen 145 = .ok (.iload_n 3, 1) := by decide +kernel
theorem dL_seen_146 : decode cL_seen 146 = .ok (.ifCond .eq 55, 3) := by decide +kernel
theorem dL_seen_149 : decode cL_seen 149 = .ok (.iload 6, 2) := by decide +kernel
theorem dL_seen_151 : decode cL_seen 151 = .ok (.iconst 2, 1) := by decide +kernel
theorem dL_seen_152 : decode cL_seen 152 = .ok (.ishr, 1) := by decide +kernel
theorem dL_seen_153 : decode cL_seen 153 = .ok (.iconst 1, 1) := by decide +kernel
theorem dL_seen_154 : decode cL_seen 154 = .ok (.iand, 1) := by decide +kernel
theorem dL_seen_155 : decode cL_seen 155 = .ok (.iload 6, 2) := by decide +kernel
theorem dL_seen_157 : decode cL_seen 157 = .ok (.iconst 1, 1) := by decide +kernel
theorem dL_seen_158 : decode cL_seen 158 = .ok (.ishr, 1) := by decide +kernel
theorem dL_seen_159 : decode cL_seen 159 = .ok (.iload 6, 2) := by decide +kernel
theorem dL_seen_161 : decode cL_seen 161 = .ok (.iand, 1) := by decide +kernel
theorem dL_seen_162 : decode cL_seen 162 = .ok (.iconst 1, 1) := by decide +kernel
theorem dL_seen_163 : decode cL_seen 163 = .ok (.iand, 1) := by decide +kernel
theorem dL_seen_164 : decode cL_seen 164 = .ok (.if_icmp .ne 37, 3) := by decide +kernel
theorem dL_seen_167 : decode cL_seen 167 = .ok (.iload 6, 2) := by decide +kernel
theorem dL_seen_169 : decode cL_seen 169 = .ok (.iconst 3, 1) := by decide +kernel
theorem dL_seen_170 : decode cL_seen 170 = .ok (.ishr, 1) := by decide +kernel
theorem dL_seen_171 : decode cL_seen 171 = .ok (.iconst 1, 1) := by decide +kernel
theorem dL_seen_172 : decode cL_seen 172 = .ok (.iand, 1) := by decide +kernel
theorem dL_seen_173 : decode cL_seen 173 = .ok (.iload 7, 2) := by decide +kernel
theorem dL_seen_175 : decode cL_seen 175 = .ok (.iconst 2, 1) := by decide +kernel
theorem dL_seen_176 : decode cL_seen 176 = .ok (.ishr, 1) := by decide +kernel
theorem dL_seen_177 : decode cL_seen 177 = .ok (.iconst 1, 1) := by decide +kernel
theorem dL_seen_178 : decode cL_seen 178 = .ok (.iand, 1) := by decide +kernel
theorem dL_seen_179 : decode cL_seen 179 = .ok (.if_icmp .ne 22, 3) := by decide +kernel
theorem dL_seen_182 : decode cL_seen 182 = .ok (.iload 6, 2) := by decide +kernel
theorem dL_seen_184 : decode cL_seen 184 = .ok (.iconst 2, 1) := by decide +kernel
theorem dL_seen_185 : decode cL_seen 185 = .ok (.ishr, 1) := by decide +kernel
theorem dL_seen_186 : decode cL_seen 186 = .ok (.iconst 1, 1) := by decide +kernel
theorem dL_seen_187 : decode cL_seen 187 = .ok (.iand, 1) := by decide +kernel
theorem dL_seen_188 : decode cL_seen 188 = .ok (.iload 7, 2) := by decide +kernel
theorem dL_seen_190 : decode cL_seen 190 = .ok (.iconst 3, 1) := by decide +kernel
theorem dL_seen_191 : decode cL_seen 191 = .ok (.ishr, 1) := by decide +kernel
theorem dL_seen_192 : decode cL_seen 192 = .ok (.iconst 1, 1) := by decide +kernel
theorem dL_seen_193 : decode cL_seen 193 = .ok (.iand, 1) := by decide +kernel
theorem dL_seen_194 : decode cL_seen 194 = .ok (.if_icmp .ne 7, 3) := by decide +kernel
theorem dL_seen_197 : decode cL_seen 197 = .ok (.iconst 1, 1) := by decide +kernel
theorem dL_seen_198 : decode cL_seen 198 = .ok (.goto 4, 3) := by decide +kernel
theorem dL_seen_201 : decode cL_seen 201 = .ok (.iconst 0, 1) := by decide +kernel
theorem dL_seen_202 : decode cL_seen 202 = .ok (.istore_n 3, 1) := by decide +kernel
theorem dL_seen_203 : decode cL_seen 203 = .ok (.iinc 5 1, 3) := by decide +kernel
theorem dL_seen_206 : decode cL_seen 206 = .ok (.goto (-150), 3) := by decide +kernel
theorem dL_seen_209 : decode cL_seen 209 = .ok (.iconst 0, 1) := by decide +kernel
theorem dL_seen_210 : decode cL_seen 210 = .ok (.istore 5, 2) := by decide +kernel
theorem dL_seen_212 : decode cL_seen 212 = .ok (.iload 5, 2) := by decide +kernel
theorem dL_seen_214 : decode cL_seen 214 = .ok (.iconst 3, 1) := by decide +kernel
theorem dL_seen_215 : decode cL_seen 215 = .ok (.if_icmp .ge 119, 3) := by decide +kernel
theorem dL_seen_218 : decode cL_seen 218 = .ok (.iload_n 3, 1) := by decide +kernel
theorem dL_seen_219 : decode cL_seen 219 = .ok (.ifCond .eq 115, 3) := by decide +kernel
theorem dL_seen_222 : decode cL_seen 222 = .ok (.aload_n 1, 1) := by decide +kernel
theorem dL_seen_223 : decode cL_seen 223 = .ok (.bipush 97, 2) := by decide +kernel
theorem dL_seen_225 : decode cL_seen 225 = .ok (.iload 5, 2) := by decide +kernel
theorem dL_seen_227 : decode cL_seen 227 = .ok (.imul, 1) := by decide +kernel
theorem dL_seen_228 : decode cL_seen 228 = .ok (.invokestatic 40, 3) := by decide +kernel
theorem dL_seen_231 : decode cL_seen 231 = .ok (.istore 6, 2) := by decide +kernel
theorem dL_seen_233 : decode cL_seen 233 = .ok (.iload 6, 2) := by decide +kernel
theorem dL_seen_235 : decode cL_seen 235 = .ok (.sipush 4096, 3) := by decide +kernel
theorem dL_seen_238 : decode cL_seen 238 = .ok (.if_icmp .ge 20, 3) := by decide +kernel
theorem dL_seen_241 : decode cL_seen 241 = .ok (.aload_n 0, 1) := by decide +kernel
theorem dL_seen_242 : decode cL_seen 242 = .ok (.iload 6, 2) := by decide +kernel
theorem dL_seen_244 : decode cL_seen 244 = .ok (.invokevirtual 84, 3) := by decide +kernel
theorem dL_seen_247 : decode cL_seen 247 = .ok (.aload_n 1, 1) := by decide +kernel
theorem dL_seen_248 : decode cL_seen 248 = .ok (.invokestatic 66, 3) := by decide +kernel
theorem dL_seen_251 : decode cL_seen 251 = .ok (.if_icmp .ne 7, 3) := by decide +kernel
theorem dL_seen_254 : decode cL_seen 254 = .ok (.iconst 1, 1) := by decide +kernel
theorem dL_seen_255 : decode cL_seen 255 = .ok (.goto 4, 3) := by decide +kernel
theorem dL_seen_258 : decode cL_seen 258 = .ok (.iconst 0, 1) := by decide +kernel
theorem dL_seen_259 : decode cL_seen 259 = .ok (.istore 7, 2) := by decide +kernel
theorem dL_seen_261 : decode cL_seen 261 = .ok (.iload 6, 2) := by decide +kernel
theorem dL_seen_263 : decode cL_seen 263 = .ok (.sipush 4095, 3) := by decide +kernel
theorem dL_seen_266 : decode cL_seen 266 = .ok (.if_icmp .gt 56, 3) := by decide +kernel
theorem dL_seen_269 : decode cL_seen 269 = .ok (.aload_n 0, 1) := by decide +kernel
theorem dL_seen_270 : decode cL_seen 270 = .ok (.iload 6, 2) := by decide +kernel
theorem dL_seen_272 : decode cL_seen 272 = .ok (.bipush 10, 2) := by decide +kernel
theorem dL_seen_274 : decode cL_seen 274 = .ok (.iconst 0, 1) := by decide +kernel
theorem dL_seen_275 : decode cL_seen 275 = .ok (.invokevirtual 171, 3) := by decide +kernel
theorem dL_seen_278 : decode cL_seen 278 = .ok (.iload 7, 2) := by decide +kernel
theorem dL_seen_280 : decode cL_seen 280 = .ok (.ifCond .eq 7, 3) := by decide +kernel
theorem dL_seen_283 : decode cL_seen 283 = .ok (.iconst 1, 1) := by decide +kernel
theorem dL_seen_284 : decode cL_seen 284 = .ok (.goto 4, 3) := by decide +kernel
theorem dL_seen_287 : decode cL_seen 287 = .ok (.iconst 0, 1) := by decide +kernel
theorem dL_seen_288 : decode cL_seen 288 = .ok (.if_icmp .ne 38, 3) := by decide +kernel
theorem dL_seen_291 : decode cL_seen 291 = .ok (.aload_n 0, 1) := by decide +kernel
theorem dL_seen_292 : decode cL_seen 292 = .ok (.iload 6, 2) := by decide +kernel
theorem dL_seen_294 : decode cL_seen 294 = .ok (.iconst 0, 1) := by decide +kernel
theorem dL_seen_295 : decode cL_seen 295 = .ok (.iconst 0, 1) := by decide +kernel
theorem dL_seen_296 : decode cL_seen 296 = .ok (.invokevirtual 171, 3) := by decide +kernel
theorem dL_seen_299 : decode cL_seen 299 = .ok (.iconst 1, 1) := by decide +kernel
theorem dL_seen_300 : decode cL_seen 300 = .ok (.if_icmp .ne 26, 3) := by decide +kernel
theorem dL_seen_303 : decode cL_seen 303 = .ok (.aload_n 0, 1) := by decide +kernel
theorem dL_seen_304 : decode cL_seen 304 = .ok (.iload 6, 2) := by decide +kernel
theorem dL_seen_306 : decode cL_seen 306 = .ok (.iconst 4, 1) := by decide +kernel
theorem dL_seen_307 : decode cL_seen 307 = .ok (.iconst 0, 1) := by decide +kernel
theorem dL_seen_308 : decode cL_seen 308 = .ok (.invokevirtual 171, 3) := by decide +kernel
theorem dL_seen_311 : decode cL_seen 311 = .ok (.aload_n 0, 1) := by decide +kernel
theorem dL_seen_312 : decode cL_seen 312 = .ok (.iload 6, 2) := by decide +kernel
theorem dL_seen_314 : decode cL_seen 314 = .ok (.iconst 4, 1) := by decide +kernel
theorem dL_seen_315 : decode cL_seen 315 = .ok (.iconst 1, 1) := by decide +kernel
theorem dL_seen_316 : decode cL_seen 316 = .ok (.invokevirtual 171, 3) := by decide +kernel
theorem dL_seen_319 : decode cL_seen 319 = .ok (.if_icmp .gt 7, 3) := by decide +kernel
theorem dL_seen_322 : decode cL_seen 322 = .ok (.iconst 1, 1) := by decide +kernel
theorem dL_seen_323 : decode cL_seen 323 = .ok (.goto 4, 3) := by decide +kernel
theorem dL_seen_326 : decode cL_seen 326 = .ok (.iconst 0, 1) := by decide +kernel
theorem dL_seen_327 : decode cL_seen 327 = .ok (.istore_n 3, 1) := by decide +kernel
