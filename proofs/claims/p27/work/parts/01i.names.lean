theorem dL_would_224 : decode cL_would 224 = .ok (.iload 6, 2) := by decide +kernel
theorem dL_would_226 : decode cL_would 226 = .ok (.iconst 4, 1) := by decide +kernel
theorem dL_would_227 : decode cL_would 227 = .ok (.if_icmp .le 13, 3) := by decide +kernel
theorem dL_would_230 : decode cL_would 230 = .ok (.iload 8, 2) := by decide +kernel
theorem dL_would_232 : decode cL_would 232 = .ok (.ldc 60, 2) := by decide +kernel
theorem dL_would_234 : decode cL_would 234 = .ok (.if_icmp .ne 73, 3) := by decide +kernel
theorem dL_would_237 : decode cL_would 237 = .ok (.goto 35, 3) := by decide +kernel
theorem dL_would_240 : decode cL_would 240 = .ok (.iload 7, 2) := by decide +kernel
theorem dL_would_242 : decode cL_would 242 = .ok (.iload 6, 2) := by decide +kernel
theorem dL_would_244 : decode cL_would 244 = .ok (.if_icmp .lt 13, 3) := by decide +kernel
theorem dL_would_247 : decode cL_would 247 = .ok (.iload 8, 2) := by decide +kernel
theorem dL_would_249 : decode cL_would 249 = .ok (.ldc 38, 2) := by decide +kernel
theorem dL_would_251 : decode cL_would 251 = .ok (.if_icmp .ne 56, 3) := by decide +kernel
theorem dL_would_254 : decode cL_would 254 = .ok (.goto 18, 3) := by decide +kernel
theorem dL_would_257 : decode cL_would 257 = .ok (.iload 8, 2) := by decide +kernel
theorem dL_would_259 : decode cL_would 259 = .ok (.ifCond .lt 48, 3) := by decide +kernel
theorem dL_would_262 : decode cL_would 262 = .ok (.aload_n 0, 1) := by decide +kernel
theorem dL_would_263 : decode cL_would 263 = .ok (.iload 8, 2) := by decide +kernel
theorem dL_would_265 : decode cL_would 265 = .ok (.iconst 1, 1) := by decide +kernel
theorem dL_would_266 : decode cL_would 266 = .ok (.invokevirtual 19, 3) := by decide +kernel
theorem dL_would_269 : decode cL_would 269 = .ok (.ifCond .ne 38, 3) := by decide +kernel
theorem dL_would_272 : decode cL_would 272 = .ok (.iload 6, 2) := by decide +kernel
theorem dL_would_274 : decode cL_would 274 = .ok (.iconst 4, 1) := by decide +kernel
theorem dL_would_275 : decode cL_would 275 = .ok (.if_icmp .le 13, 3) := by decide +kernel
theorem dL_would_278 : decode cL_would 278 = .ok (.iload 9, 2) := by decide +kernel
theorem dL_would_280 : decode cL_would 280 = .ok (.ldc 60, 2) := by decide +kernel
theorem dL_would_282 : decode cL_would 282 = .ok (.if_icmp .ne 25, 3) := by decide +kernel
theorem dL_would_285 : decode cL_would 285 = .ok (.goto 18, 3) := by decide +kernel
theorem dL_would_288 : decode cL_would 288 = .ok (.iload 9, 2) := by decide +kernel
theorem dL_would_290 : decode cL_would 290 = .ok (.ifCond .lt 17, 3) := by decide +kernel
theorem dL_would_293 : decode cL_would 293 = .ok (.iload 9, 2) := by decide +kernel
theorem dL_would_295 : decode cL_would 295 = .ok (.bipush 8, 2) := by decide +kernel
theorem dL_would_297 : decode cL_would 297 = .ok (.iload 6, 2) := by decide +kernel
theorem dL_would_299 : decode cL_would 299 = .ok (.imul, 1) := by decide +kernel
theorem dL_would_300 : decode cL_would 300 = .ok (.if_icmp .gt 7, 3) := by decide +kernel
theorem dL_would_303 : decode cL_would 303 = .ok (.iconst 1, 1) := by decide +kernel
theorem dL_would_304 : decode cL_would 304 = .ok (.goto 4, 3) := by decide +kernel
theorem dL_would_307 : decode cL_would 307 = .ok (.iconst 0, 1) := by decide +kernel
theorem dL_would_308 : decode cL_would 308 = .ok (.istore 11, 2) := by decide +kernel
theorem dL_would_310 : decode cL_would 310 = .ok (.iload 11, 2) := by decide +kernel
theorem dL_would_312 : decode cL_would 312 = .ok (.ifCond .eq 41, 3) := by decide +kernel
theorem dL_would_315 : decode cL_would 315 = .ok (.iload 10, 2) := by decide +kernel
theorem dL_would_317 : decode cL_would 317 = .ok (.ldc 38, 2) := by decide +kernel
theorem dL_would_319 : decode cL_would 319 = .ok (.if_icmp .eq 30, 3) := by decide +kernel
theorem dL_would_322 : decode cL_would 322 = .ok (.iload 10, 2) := by decide +kernel
theorem dL_would_324 : decode cL_would 324 = .ok (.iconst 1, 1) := by decide +kernel
theorem dL_would_325 : decode cL_would 325 = .ok (.if_icmp .lt 28, 3) := by decide +kernel
theorem dL_would_328 : decode cL_would 328 = .ok (.iload 10, 2) := by decide +kernel
theorem dL_would_330 : decode cL_would 330 = .ok (.aload_n 0, 1) := by decide +kernel
theorem dL_would_331 : decode cL_would 331 = .ok (.bipush 21, 2) := by decide +kernel
theorem dL_would_333 : decode cL_would 333 = .ok (.invokevirtual 13, 3) := by decide +kernel
theorem dL_would_336 : decode cL_would 336 = .ok (.iconst 1, 1) := by decide +kernel
theorem dL_would_337 : decode cL_would 337 = .ok (.iadd, 1) := by decide +kernel
theorem dL_would_338 : decode cL_would 338 = .ok (.if_icmp .gt 15, 3) := by decide +kernel
theorem dL_would_341 : decode cL_would 341 = .ok (.aload_n 0, 1) := by decide +kernel
theorem dL_would_342 : decode cL_would 342 = .ok (.iconst 3, 1) := by decide +kernel
theorem dL_would_343 : decode cL_would 343 = .ok (.invokevirtual 13, 3) := by decide +kernel
theorem dL_would_346 : decode cL_would 346 = .ok (.ifCond .eq 7, 3) := by decide +kernel
theorem dL_would_349 : decode cL_would 349 = .ok (.iconst 1, 1) := by decide +kernel
theorem dL_would_350 : decode cL_would 350 = .ok (.goto 4, 3) := by decide +kernel
theorem dL_would_353 : decode cL_would 353 = .ok (.iconst 0, 1) := by decide +kernel
theorem dL_would_354 : decode cL_would 354 = .ok (.ireturn, 1) := by decide +kernel
set_option maxRecDepth 20000 in
theorem ggL_number_X5_type : GoodIn wsL_number wsX5_type := goodIn_r _ [5, 6, 7, 8, 9, 10, 11, 12, 13, 14, 15, 16, 17, 18, 19, 20, 21, 22, 23, 24, 25, 26, 27, 28] (by decide +kernel) (by decide +kernel)
set_option maxRecDepth 20000 in
theorem gL_number_X5_type : GoodIn wsL_number (wsV RL 61 RX5 yX5_type wsX5_type) := goodIn_app (goodIn_of _ (by decide +kernel)) ggL_number_X5_type
theorem dL_number_0 : decode cL_number 0 = .ok (.iload_n 1, 1) := by decide +kernel
theorem dL_number_1 : decode cL_number 1 = .ok (.bipush 100, 2) := by decide +kernel
theorem dL_number_3 : decode cL_number 3 = .ok (.if_icmp .lt 17, 3) := by decide +kernel
theorem dL_number_6 : decode cL_number 6 = .ok (.aload_n 0, 1) := by decide +kernel
theorem dL_number_7 : decode cL_number 7 = .ok (.bipush 48, 2) := by decide +kernel
theorem dL_number_9 : decode cL_number 9 = .ok (.iload_n 1, 1) := by decide +kernel
theorem dL_number_10 : decode cL_number 10 = .ok (.bipush 100, 2) := by decide +kernel
theorem dL_number_12 : decode cL_number 12 = .ok (.idiv, 1) := by decide +kernel
theorem dL_number_13 : decode cL_number 13 = .ok (.iadd, 1) := by decide +kernel
theorem dL_number_14 : decode cL_number 14 = .ok (.invokevirtual 61, 3) := by decide +kernel
theorem dL_number_17 : decode cL_number 17 = .ok (.ifCond .le 44, 3) := by decide +kernel
theorem dL_number_20 : decode cL_number 20 = .ok (.iload_n 1, 1) := by decide +kernel
theorem dL_number_21 : decode cL_number 21 = .ok (.bipush 10, 2) := by decide +kernel
theorem dL_number_23 : decode cL_number 23 = .ok (.if_icmp .lt 20, 3) := by decide +kernel
theorem dL_number_26 : decode cL_number 26 = .ok (.aload_n 0, 1) := by decide +kernel
theorem dL_number_27 : decode cL_number 27 = .ok (.bipush 48, 2) := by decide +kernel
theorem dL_number_29 : decode cL_number 29 = .ok (.iload_n 1, 1) := by decide +kernel
theorem dL_number_30 : decode cL_number 30 = .ok (.bipush 10, 2) := by decide +kernel
theorem dL_number_32 : decode cL_number 32 = .ok (.idiv, 1) := by decide +kernel
theorem dL_number_33 : decode cL_number 33 = .ok (.bipush 10, 2) := by decide +kernel
theorem dL_number_35 : decode cL_number 35 = .ok (.irem, 1) := by decide +kernel
theorem dL_number_36 : decode cL_number 36 = .ok (.iadd, 1) := by decide +kernel
theorem dL_number_37 : decode cL_number 37 = .ok (.invokevirtual 61, 3) := by decide +kernel
theorem dL_number_40 : decode cL_number 40 = .ok (.ifCond .le 21, 3) := by decide +kernel
theorem dL_number_43 : decode cL_number 43 = .ok (.aload_n 0, 1) := by decide +kernel
theorem dL_number_44 : decode cL_number 44 = .ok (.bipush 48, 2) := by decide +kernel
theorem dL_number_46 : decode cL_number 46 = .ok (.iload_n 1, 1) := by decide +kernel
theorem dL_number_47 : decode cL_number 47 = .ok (.bipush 10, 2) := by decide +kernel
theorem dL_number_49 : decode cL_number 49 = .ok (.irem, 1) := by decide +kernel
theorem dL_number_50 : decode cL_number 50 = .ok (.iadd, 1) := by decide +kernel
theorem dL_number_51 : decode cL_number 51 = .ok (.invokevirtual 61, 3) := by decide +kernel
theorem dL_number_54 : decode cL_number 54 = .ok (.ifCond .le 7, 3) := by decide +kernel
theorem dL_number_57 : decode cL_number 57 = .ok (.iconst 1, 1) := by decide +kernel
theorem dL_number_58 : decode cL_number 58 = .ok (.goto 4, 3) := by decide +kernel
theorem dL_number_61 : decode cL_number 61 = .ok (.iconst 0, 1) := by decide +kernel
theorem dL_number_62 : decode cL_number 62 = .ok (.ireturn, 1) := by decide +kernel
set_option maxRecDepth 20000 in
theorem ggL_types_L_low : GoodIn wsL_types wsL_low := goodIn_r _ [4, 5] (by decide +kernel) (by decide +kernel)
set_option maxRecDepth 20000 in
theorem gL_types_L_low : GoodIn wsL_types (va_wsS RL 46 yL_low wsL_low) := goodIn_app (goodIn_of _ (by decide +kernel)) ggL_types_L_low
set_option maxRecDepth 20000 in
theorem ggL_types_X5_clearText : GoodIn wsL_types wsX5_clearText := goodIn_r _ [10, 11, 12, 13, 14, 15, 16, 17, 135, 136, 137, 138, 139, 140, 141, 142, 143, 144, 145, 146, 147] (by decide +kernel) (by decide +kernel)
set_option maxRecDepth 20000 in
theorem gL_types_X5_clearText : GoodIn wsL_types (wsV RL 64 RX5 yX5_clearText wsX5_clearText) := goodIn_app (goodIn_of _ (by decide +kernel)) ggL_types_X5_clearText
set_option maxRecDepth 20000 in
theorem ggL_types_X5_type : GoodIn wsL_types wsX5_type := goodIn_r _ [21, 11, 22, 23, 24, 15, 25, 26, 17, 27, 28, 135, 136, 137, 138, 139, 140, 141, 142, 143, 144, 145, 146, 147] (by decide +kernel) (by decide +kernel)
set_option maxRecDepth 20000 in
theorem gL_types_X5_type : GoodIn wsL_types (wsV RL 61 RX5 yX5_type wsX5_type) := goodIn_app (goodIn_of _ (by decide +kernel)) ggL_types_X5_type
set_option maxRecDepth 20000 in
theorem ggL_types_X5_count : GoodIn wsL_types wsX5_count := goodIn_r _ [32, 33, 11, 34, 35, 36, 37, 38, 39, 40, 41, 42, 43, 15, 44, 17, 45, 46, 47, 48, 49, 50, 51, 52, 53, 54, 55, 56, 57, 58, 59, 60, 61, 62, 63, 64, 65, 66, 67, 68, 69, 70, 71, 72, 73, 74, 75, 76, 77, 78, 79, 80, 81, 82, 83, 84, 85, 86, 87, 88, 89, 90, 91, 92, 93, 94, 95, 96, 97, 98, 99, 100, 101, 102, 103, 104, 105, 106, 107, 108, 109, 110, 111, 112, 113, 114, 115, 116, 117, 118, 119, 120, 121, 122, 123, 124, 125, 126, 127, 128, 129, 130, 131, 135, 136, 137, 138, 139, 140, 148, 149, 150, 141, 142, 143, 144, 145, 146, 147, 151, 152] (by decide +kernel) (by decide +kernel)
set_option maxRecDepth 20000 in
theorem gL_types_X5_count : GoodIn wsL_types (wsV RL 13 RX5 yX5_count wsX5_count) := goodIn_app (goodIn_of _ (by decide +kernel)) ggL_types_X5_count
set_option maxRecDepth 20000 in
theorem ggL_types_L_number : GoodIn wsL_types wsL_number := goodIn_r _ [134, 18, 19, 20, 9, 21, 11, 22, 23, 24, 15, 25, 26, 17, 27, 28, 135, 136, 137, 138, 139, 140, 141, 142, 143, 144, 145, 146, 147] (by decide +kernel) (by decide +kernel)
set_option maxRecDepth 20000 in
theorem gL_types_L_number : GoodIn wsL_types (va_wsS RL 67 yL_number wsL_number) := goodIn_app (goodIn_of _ (by decide +kernel)) ggL_types_L_number
theorem dL_types_0 : decode cL_types 0 = .ok (.iload_n 1, 1) := by decide +kernel
theorem dL_types_1 : decode cL_types 1 = .ok (.bipush 6, 2) := by decide +kernel
theorem dL_types_3 : decode cL_types 3 = .ok (.invokestatic 46, 3) := by decide +kernel
theorem dL_types_6 : decode cL_types 6 = .ok (.istore_n 2, 1) := by decide +kernel
theorem dL_types_7 : decode cL_types 7 = .ok (.aload_n 0, 1) := by decide +kernel
theorem dL_types_8 : decode cL_types 8 = .ok (.invokevirtual 64, 3) := by decide +kernel
theorem dL_types_11 : decode cL_types 11 = .ok (.ifCond .lt 7, 3) := by decide +kernel
theorem dL_types_14 : decode cL_types 14 = .ok (.iconst 1, 1) := by decide +kernel
theorem dL_types_15 : decode cL_types 15 = .ok (.goto 4, 3) := by decide +kernel
theorem dL_types_18 : decode cL_types 18 = .ok (.iconst 0, 1) := by decide +kernel
theorem dL_types_19 : decode cL_types 19 = .ok (.istore_n 3, 1) := by decide +kernel
theorem dL_types_20 : decode cL_types 20 = .ok (.iconst 0, 1) := by decide +kernel
theorem dL_types_21 : decode cL_types 21 = .ok (.istore 4, 2) := by decide +kernel
theorem dL_types_23 : decode cL_types 23 = .ok (.iload 4, 2) := by decide +kernel
theorem dL_types_25 : decode cL_types 25 = .ok (.iload_n 2, 1) := by decide +kernel
theorem dL_types_26 : decode cL_types 26 = .ok (.if_icmp .ge 337, 3) := by decide +kernel
theorem dL_types_29 : decode cL_types 29 = .ok (.iload_n 1, 1) := by decide +kernel
theorem dL_types_30 : decode cL_types 30 = .ok (.iconst 3, 1) := by decide +kernel
theorem dL_types_31 : decode cL_types 31 = .ok (.iconst 4, 1) := by decide +kernel
theorem dL_types_32 : decode cL_types 32 = .ok (.iload 4, 2) := by decide +kernel
theorem dL_types_34 : decode cL_types 34 = .ok (.imul, 1) := by decide +kernel
theorem dL_types_35 : decode cL_types 35 = .ok (.iadd, 1) := by decide +kernel
theorem dL_types_36 : decode cL_types 36 = .ok (.ishr, 1) := by decide +kernel
theorem dL_types_37 : decode cL_types 37 = .ok (.istore 5, 2) := by decide +kernel
theorem dL_types_39 : decode cL_types 39 = .ok (.iload 5, 2) := by decide +kernel
theorem dL_types_41 : decode cL_types 41 = .ok (.bipush 9, 2) := by decide +kernel
theorem dL_types_43 : decode cL_types 43 = .ok (.invokestatic 46, 3) := by decide +kernel
theorem dL_types_46 : decode cL_types 46 = .ok (.istore 6, 2) := by decide +kernel
theorem dL_types_48 : decode cL_types 48 = .ok (.iload_n 3, 1) := by decide +kernel
theorem dL_types_49 : decode cL_types 49 = .ok (.ifCond .eq 131, 3) := by decide +kernel
theorem dL_types_52 : decode cL_types 52 = .ok (.aload_n 0, 1) := by decide +kernel
theorem dL_types_53 : decode cL_types 53 = .ok (.iload 6, 2) := by decide +kernel
theorem dL_types_55 : decode cL_types 55 = .ok (.iconst 3, 1) := by decide +kernel
theorem dL_types_56 : decode cL_types 56 = .ok (.if_icmp .ge 8, 3) := by decide +kernel
theorem dL_types_59 : decode cL_types 59 = .ok (.bipush 119, 2) := by decide +kernel
theorem dL_types_61 : decode cL_types 61 = .ok (.goto 52, 3) := by decide +kernel
theorem dL_types_64 : decode cL_types 64 = .ok (.iload 6, 2) := by decide +kernel
theorem dL_types_66 : decode cL_types 66 = .ok (.iconst 3, 1) := by decide +kernel
theorem dL_types_67 : decode cL_types 67 = .ok (.if_icmp .ne 8, 3) := by decide +kernel
theorem dL_types_70 : decode cL_types 70 = .ok (.bipush 108, 2) := by decide +kernel
theorem dL_types_72 : decode cL_types 72 = .ok (.goto 41, 3) := by decide +kernel
theorem dL_types_75 : decode cL_types 75 = .ok (.iload 6, 2) := by decide +kernel
theorem dL_types_77 : decode cL_types 77 = .ok (.bipush 6, 2) := by decide +kernel
theorem dL_types_79 : decode cL_types 79 = .ok (.if_icmp .ge 8, 3) := by decide +kernel
theorem dL_types_82 : decode cL_types 82 = .ok (.bipush 109, 2) := by decide +kernel
theorem dL_types_84 : decode cL_types 84 = .ok (.goto 29, 3) := by decide +kernel
theorem dL_types_87 : decode cL_types 87 = .ok (.iload 6, 2) := by decide +kernel
theorem dL_types_89 : decode cL_types 89 = .ok (.bipush 6, 2) := by decide +kernel
theorem dL_types_91 : decode cL_types 91 = .ok (.if_icmp .ne 8, 3) := by decide +kernel
theorem dL_types_94 : decode cL_types 94 = .ok (.bipush 115, 2) := by decide +kernel
theorem dL_types_96 : decode cL_types 96 = .ok (.goto 17, 3) := by decide +kernel
theorem dL_types_99 : decode cL_types 99 = .ok (.iload 6, 2) := by decide +kernel
theorem dL_types_101 : decode cL_types 101 = .ok (.bipush 7, 2) := by decide +kernel
theorem dL_types_103 : decode cL_types 103 = .ok (.if_icmp .ne 8, 3) := by decide +kernel
theorem dL_types_106 : decode cL_types 106 = .ok (.bipush 97, 2) := by decide +kernel
theorem dL_types_108 : decode cL_types 108 = .ok (.goto 5, 3) := by decide +kernel
theorem dL_types_111 : decode cL_types 111 = .ok (.bipush 100, 2) := by decide +kernel
theorem dL_types_113 : decode cL_types 113 = .ok (.invokevirtual 61, 3) := by decide +kernel
theorem dL_types_116 : decode cL_types 116 = .ok (.ifCond .le 64, 3) := by decide +kernel
theorem dL_types_119 : decode cL_types 119 = .ok (.aload_n 0, 1) := by decide +kernel
theorem dL_types_120 : decode cL_types 120 = .ok (.iload 6, 2) := by decide +kernel
theorem dL_types_122 : decode cL_types 122 = .ok (.bipush 8, 2) := by decide +kernel
theorem dL_types_124 : decode cL_types 124 = .ok (.if_icmp .ne 34, 3) := by decide +kernel
theorem dL_types_127 : decode cL_types 127 = .ok (.iconst 1, 1) := by decide +kernel
theorem dL_types_128 : decode cL_types 128 = .ok (.iload 5, 2) := by decide +kernel
theorem dL_types_130 : decode cL_types 130 = .ok (.iconst 2, 1) := by decide +kernel
theorem dL_types_131 : decode cL_types 131 = .ok (.ishr, 1) := by decide +kernel
theorem dL_types_132 : decode cL_types 132 = .ok (.iload_n 1, 1) := by decide +kernel
theorem dL_types_133 : decode cL_types 133 = .ok (.bipush 25, 2) := by decide +kernel
theorem dL_types_135 : decode cL_types 135 = .ok (.ishr, 1) := by decide +kernel
theorem dL_types_136 : decode cL_types 136 = .ok (.bipush 9, 2) := by decide +kernel
theorem dL_types_138 : decode cL_types 138 = .ok (.invokestatic 46, 3) := by decide +kernel
theorem dL_types_141 : decode cL_types 141 = .ok (.ifCond .ne 8, 3) := by decide +kernel
theorem dL_types_144 : decode cL_types 144 = .ok (.bipush 120, 2) := by decide +kernel
theorem dL_types_146 : decode cL_types 146 = .ok (.goto 5, 3) := by decide +kernel
theorem dL_types_149 : decode cL_types 149 = .ok (.bipush 9, 2) := by decide +kernel
theorem dL_types_151 : decode cL_types 151 = .ok (.invokestatic 46, 3) := by decide +kernel
theorem dL_types_154 : decode cL_types 154 = .ok (.iadd, 1) := by decide +kernel
theorem dL_types_155 : decode cL_types 155 = .ok (.goto 15, 3) := by decide +kernel
theorem dL_types_158 : decode cL_types 158 = .ok (.iload 5, 2) := by decide +kernel
theorem dL_types_160 : decode cL_types 160 = .ok (.iconst 1, 1) := by decide +kernel
theorem dL_types_161 : decode cL_types 161 = .ok (.ishr, 1) := by decide +kernel
theorem dL_types_162 : decode cL_types 162 = .ok (.aload_n 0, 1) := by decide +kernel
theorem dL_types_163 : decode cL_types 163 = .ok (.iconst 0, 1) := by decide +kernel
theorem dL_types_164 : decode cL_types 164 = .ok (.invokevirtual 13, 3) := by decide +kernel
theorem dL_types_167 : decode cL_types 167 = .ok (.invokestatic 46, 3) := by decide +kernel
theorem dL_types_170 : decode cL_types 170 = .ok (.invokestatic 67, 3) := by decide +kernel
theorem dL_types_173 : decode cL_types 173 = .ok (.ifCond .eq 7, 3) := by decide +kernel
theorem dL_types_176 : decode cL_types 176 = .ok (.iconst 1, 1) := by decide +kernel
theorem dL_types_177 : decode cL_types 177 = .ok (.goto 4, 3) := by decide +kernel
theorem dL_types_180 : decode cL_types 180 = .ok (.iconst 0, 1) := by decide +kernel
theorem dL_types_181 : decode cL_types 181 = .ok (.istore_n 3, 1) := by decide +kernel
theorem dL_types_182 : decode cL_types 182 = .ok (.iload 6, 2) := by decide +kernel
theorem dL_types_184 : decode cL_types 184 = .ok (.iconst 3, 1) := by decide +kernel
theorem dL_types_185 : decode cL_types 185 = .ok (.if_icmp .ge 83, 3) := by decide +kernel
theorem dL_types_188 : decode cL_types 188 = .ok (.iload_n 3, 1) := by decide +kernel
theorem dL_types_189 : decode cL_types 189 = .ok (.ifCond .eq 74, 3) := by decide +kernel
theorem dL_types_192 : decode cL_types 192 = .ok (.aload_n 0, 1) := by decide +kernel
theorem dL_types_193 : decode cL_types 193 = .ok (.bipush 44, 2) := by decide +kernel
theorem dL_types_195 : decode cL_types 195 = .ok (.invokevirtual 61, 3) := by decide +kernel
theorem dL_types_198 : decode cL_types 198 = .ok (.ifCond .le 65, 3) := by decide +kernel
theorem dL_types_201 : decode cL_types 201 = .ok (.aload_n 0, 1) := by decide +kernel
theorem dL_types_202 : decode cL_types 202 = .ok (.iload 5, 2) := by decide +kernel
theorem dL_types_204 : decode cL_types 204 = .ok (.iconst 2, 1) := by decide +kernel
theorem dL_types_205 : decode cL_types 205 = .ok (.ishr, 1) := by decide +kernel
theorem dL_types_206 : decode cL_types 206 = .ok (.iload_n 1, 1) := by decide +kernel
theorem dL_types_207 : decode cL_types 207 = .ok (.bipush 24, 2) := by decide +kernel
theorem dL_types_209 : decode cL_types 209 = .ok (.ishr, 1) := by decide +kernel
theorem dL_types_210 : decode cL_types 210 = .ok (.bipush 9, 2) := by decide +kernel
theorem dL_types_212 : decode cL_types 212 = .ok (.invokestatic 46, 3) := by decide +kernel
theorem dL_types_215 : decode cL_types 215 = .ok (.ifCond .ne 8, 3) := by decide +kernel
theorem dL_types_218 : decode cL_types 218 = .ok (.bipush 9, 2) := by decide +kernel
theorem dL_types_220 : decode cL_types 220 = .ok (.goto 5, 3) := by decide +kernel
theorem dL_types_223 : decode cL_types 223 = .ok (.bipush 8, 2) := by decide +kernel
theorem dL_types_225 : decode cL_types 225 = .ok (.invokestatic 46, 3) := by decide +kernel
theorem dL_types_228 : decode cL_types 228 = .ok (.invokestatic 67, 3) := by decide +kernel
theorem dL_types_231 : decode cL_types 231 = .ok (.ifCond .eq 32, 3) := by decide +kernel
theorem dL_types_234 : decode cL_types 234 = .ok (.aload_n 0, 1) := by decide +kernel
theorem dL_types_235 : decode cL_types 235 = .ok (.bipush 44, 2) := by decide +kernel
theorem dL_types_237 : decode cL_types 237 = .ok (.invokevirtual 61, 3) := by decide +kernel
theorem dL_types_240 : decode cL_types 240 = .ok (.ifCond .le 23, 3) := by decide +kernel
theorem dL_types_243 : decode cL_types 243 = .ok (.aload_n 0, 1) := by decide +kernel
theorem dL_types_244 : decode cL_types 244 = .ok (.iload 5, 2) := by decide +kernel
theorem dL_types_246 : decode cL_types 246 = .ok (.iconst 3, 1) := by decide +kernel
theorem dL_types_247 : decode cL_types 247 = .ok (.ishr, 1) := by decide +kernel
theorem dL_types_248 : decode cL_types 248 = .ok (.bipush 40, 2) := by decide +kernel
theorem dL_types_250 : decode cL_types 250 = .ok (.invokestatic 46, 3) := by decide +kernel
theorem dL_types_253 : decode cL_types 253 = .ok (.invokestatic 67, 3) := by decide +kernel
theorem dL_types_256 : decode cL_types 256 = .ok (.ifCond .eq 7, 3) := by decide +kernel
theorem dL_types_259 : decode cL_types 259 = .ok (.iconst 1, 1) := by decide +kernel
theorem dL_types_260 : decode cL_types 260 = .ok (.goto 4, 3) := by decide +kernel
theorem dL_types_263 : decode cL_types 263 = .ok (.iconst 0, 1) := by decide +kernel
theorem dL_types_264 : decode cL_types 264 = .ok (.istore_n 3, 1) := by decide +kernel
theorem dL_types_265 : decode cL_types 265 = .ok (.goto 48, 3) := by decide +kernel
theorem dL_types_268 : decode cL_types 268 = .ok (.iload 6, 2) := by decide +kernel
theorem dL_types_270 : decode cL_types 270 = .ok (.bipush 6, 2) := by decide +kernel
theorem dL_types_272 : decode cL_types 272 = .ok (.if_icmp .ne 41, 3) := by decide +kernel
theorem dL_types_275 : decode cL_types 275 = .ok (.iload_n 3, 1) := by decide +kernel
theorem dL_types_276 : decode cL_types 276 = .ok (.ifCond .eq 35, 3) := by decide +kernel
theorem dL_types_279 : decode cL_types 279 = .ok (.aload_n 0, 1) := by decide +kernel
theorem dL_types_280 : decode cL_types 280 = .ok (.bipush 44, 2) := by decide +kernel
theorem dL_types_282 : decode cL_types 282 = .ok (.invokevirtual 61, 3) := by decide +kernel
theorem dL_types_285 : decode cL_types 285 = .ok (.ifCond .le 26, 3) := by decide +kernel
theorem dL_types_288 : decode cL_types 288 = .ok (.aload_n 0, 1) := by decide +kernel
theorem dL_types_289 : decode cL_types 289 = .ok (.iload 5, 2) := by decide +kernel
theorem dL_types_291 : decode cL_types 291 = .ok (.iconst 3, 1) := by decide +kernel
theorem dL_types_292 : decode cL_types 292 = .ok (.ishr, 1) := by decide +kernel
theorem dL_types_293 : decode cL_types 293 = .ok (.aload_n 0, 1) := by decide +kernel
theorem dL_types_294 : decode cL_types 294 = .ok (.iconst 0, 1) := by decide +kernel
theorem dL_types_295 : decode cL_types 295 = .ok (.invokevirtual 13, 3) := by decide +kernel
theorem dL_types_298 : decode cL_types 298 = .ok (.invokestatic 46, 3) := by decide +kernel
theorem dL_types_301 : decode cL_types 301 = .ok (.invokestatic 67, 3) := by decide +kernel
theorem dL_types_304 : decode cL_types 304 = .ok (.ifCond .eq 7, 3) := by decide +kernel
theorem dL_types_307 : decode cL_types 307 = .ok (.iconst 1, 1) := by decide +kernel
theorem dL_types_308 : decode cL_types 308 = .ok (.goto 4, 3) := by decide +kernel
theorem dL_types_311 : decode cL_types 311 = .ok (.iconst 0, 1) := by decide +kernel
theorem dL_types_312 : decode cL_types 312 = .ok (.istore_n 3, 1) := by decide +kernel
theorem dL_types_313 : decode cL_types 313 = .ok (.iload_n 3, 1) := by decide +kernel
theorem dL_types_314 : decode cL_types 314 = .ok (.ifCond .eq 41, 3) := by decide +kernel
theorem dL_types_317 : decode cL_types 317 = .ok (.aload_n 0, 1) := by decide +kernel
theorem dL_types_318 : decode cL_types 318 = .ok (.iload 4, 2) := by decide +kernel
theorem dL_types_320 : decode cL_types 320 = .ok (.iload_n 2, 1) := by decide +kernel
theorem dL_types_321 : decode cL_types 321 = .ok (.iconst 1, 1) := by decide +kernel
theorem dL_types_322 : decode cL_types 322 = .ok (.isub, 1) := by decide +kernel
theorem dL_types_323 : decode cL_types 323 = .ok (.if_icmp .ne 20, 3) := by decide +kernel
theorem dL_types_326 : decode cL_types 326 = .ok (.iload_n 1, 1) := by decide +kernel
theorem dL_types_327 : decode cL_types 327 = .ok (.bipush 26, 2) := by decide +kernel
theorem dL_types_329 : decode cL_types 329 = .ok (.ishr, 1) := by decide +kernel
theorem dL_types_330 : decode cL_types 330 = .ok (.bipush 7, 2) := by decide +kernel
theorem dL_types_332 : decode cL_types 332 = .ok (.invokestatic 46, 3) := by decide +kernel
theorem dL_types_335 : decode cL_types 335 = .ok (.ifCond .ne 8, 3) := by decide +kernel
theorem dL_types_338 : decode cL_types 338 = .ok (.bipush 46, 2) := by decide +kernel
theorem dL_types_340 : decode cL_types 340 = .ok (.goto 5, 3) := by decide +kernel
theorem dL_types_343 : decode cL_types 343 = .ok (.bipush 59, 2) := by decide +kernel
theorem dL_types_345 : decode cL_types 345 = .ok (.invokevirtual 61, 3) := by decide +kernel
theorem dL_types_348 : decode cL_types 348 = .ok (.ifCond .le 7, 3) := by decide +kernel
theorem dL_types_351 : decode cL_types 351 = .ok (.iconst 1, 1) := by decide +kernel
theorem dL_types_352 : decode cL_types 352 = .ok (.goto 4, 3) := by decide +kernel
theorem dL_types_355 : decode cL_types 355 = .ok (.iconst 0, 1) := by decide +kernel
theorem dL_types_356 : decode cL_types 356 = .ok (.istore_n 3, 1) := by decide +kernel
theorem dL_types_357 : decode cL_types 357 = .ok (.iinc 4 1, 3) := by decide +kernel
theorem dL_types_360 : decode cL_types 360 = .ok (.goto (-337), 3) := by decide +kernel
theorem dL_types_363 : decode cL_types 363 = .ok (.iload_n 3, 1) := by decide +kernel
theorem dL_types_364 : decode cL_types 364 = .ok (.ireturn, 1) := by decide +kernel
set_option maxRecDepth 20000 in
theorem ggL_reads_L_types : GoodIn wsL_reads wsL_types := goodIn_r _ [8, 9, 10, 7, 11, 12, 13, 14, 15, 16, 17, 18, 19, 20, 21, 22, 23, 24, 25, 26, 27, 28, 29, 30, 31, 32, 33, 34, 35, 36, 37, 38, 39, 40, 41, 42, 43, 44, 45, 46, 47, 48, 49, 50, 51, 52, 53, 54, 55, 56, 57, 58, 59, 60, 61, 62, 63, 64, 65, 66, 67, 68, 69, 70, 71, 72, 73, 74, 75, 76, 77, 78, 79, 80, 81, 82, 83, 84, 85, 86, 87, 88, 89, 90, 91, 92, 93, 94, 95, 96, 97, 98, 99, 100, 101, 102, 103, 104, 105, 106, 107, 108, 109, 110, 111, 112, 113, 114, 115, 116, 117, 118, 119, 120, 121, 122, 123, 124, 125, 126, 127, 128, 129, 130, 131, 132, 133, 134, 135, 136, 137, 138, 139, 140, 141, 288, 289, 290, 291, 292, 293, 294, 295, 296, 297, 298, 299, 300, 301, 302, 303, 304, 305] (by decide +kernel) (by decide +kernel)
set_option maxRecDepth 20000 in
theorem gL_reads_L_types : GoodIn wsL_reads (va_wsS RL 71 yL_types wsL_types) := goodIn_app (goodIn_of _ (by decide +kernel)) ggL_reads_L_types
set_option maxRecDepth 20000 in
theorem ggL_reads_X5_count : GoodIn wsL_reads wsX5_count := goodIn_r _ [39, 40, 18, 41, 42, 43, 44, 45, 46, 47, 48, 49, 50, 22, 51, 24, 52, 53, 54, 55, 56, 57, 58, 59, 60, 61, 62, 63, 64, 65, 66, 67, 68, 69, 70, 71, 72, 73, 74, 75, 76, 77, 78, 79, 80, 81, 82, 83, 84, 85, 86, 87, 88, 89, 90, 91, 92, 93, 94, 95, 96, 97, 98, 99, 100, 101, 102, 103, 104, 105, 106, 107, 108, 109, 110, 111, 112, 113, 114, 115, 116, 117, 118, 119, 120, 121, 122, 123, 124, 125, 126, 127, 128, 129, 130, 131, 132, 133, 134, 135, 136, 137, 138, 288, 289, 290, 291, 292, 293, 301, 302, 303, 294, 295, 296, 297, 298, 299, 300, 304, 305] (by decide +kernel) (by decide +kernel)
set_option maxRecDepth 20000 in
theorem gL_reads_X5_count : GoodIn wsL_reads (wsV RL 13 RX5 yX5_count wsX5_count) := goodIn_app (goodIn_of _ (by decide +kernel)) ggL_reads_X5_count
set_option maxRecDepth 20000 in
theorem ggL_reads_X5_fault : GoodIn wsL_reads wsX5_fault := goodIn_r _ [145, 146, 147, 148, 18, 149, 150, 151, 152, 62, 153, 64, 154, 155, 156, 157, 158, 159, 160, 22, 161, 162, 24, 163, 164, 165, 166, 167, 168, 169, 170, 171, 35, 172, 173, 174, 175, 176, 177, 178, 179, 180, 181, 182, 183, 184, 185, 186, 187, 188, 189, 190, 191, 192, 193, 194, 195, 196, 197, 198, 199, 77, 60, 61, 63, 200, 201, 202, 203, 74, 75, 76, 204, 205, 206, 207, 208, 209, 210, 211, 86, 87, 88, 89, 90, 91, 92, 212, 213, 214, 215, 216, 217, 218, 219, 93, 94, 95, 220, 221, 222, 223, 224, 225, 226, 227, 228, 229, 230, 231, 232, 79, 80, 81, 82, 83, 84, 85, 96, 97, 98, 99, 100, 101, 102, 103, 104, 105, 233, 234, 235, 236, 237, 238, 239, 240, 241, 242, 243, 244, 245, 246, 247, 248, 249, 250, 251, 252, 253, 254, 255, 256, 257, 258, 259, 260, 261, 262, 263, 264, 265, 266, 267, 288, 289, 290, 291, 292, 293, 305, 294, 295, 296, 297, 298, 299, 300] (by decide +kernel) (by decide +kernel)
set_option maxRecDepth 20000 in
theorem gL_reads_X5_fault : GoodIn wsL_reads (wsV RL 74 RX5 yX5_fault wsX5_fault) := goodIn_app (goodIn_of _ (by decide +kernel)) ggL_reads_X5_fault
set_option maxRecDepth 20000 in
theorem ggL_reads_X5_play : GoodIn wsL_reads wsX5_play := goodIn_r _ [271, 147, 148, 18, 272, 40, 150, 151, 152, 62, 153, 64, 154, 155, 156, 157, 158, 159, 160, 22, 161, 162, 24, 163, 164, 165, 166, 167, 168, 169, 170, 171, 35, 172, 173, 174, 175, 176, 177, 178, 179, 180, 181, 182, 183, 184, 185, 186, 187, 188, 189, 190, 191, 192, 193, 194, 195, 196, 197, 198, 199, 77, 60, 61, 63, 200, 201, 202, 203, 74, 75, 76, 204, 205, 206, 207, 208, 209, 210, 211, 86, 87, 88, 89, 90, 91, 92, 212, 213, 214, 215, 216, 217, 218, 219, 93, 94, 95, 220, 221, 222, 223, 224, 225, 226, 227, 228, 229, 230, 231, 232, 79, 80, 81, 82, 83, 84, 85, 96, 97, 98, 99, 100, 101, 102, 103, 104, 105, 233, 234, 235, 236, 237, 238, 239, 240, 241, 242, 243, 244, 245, 246, 247, 248, 249, 250, 251, 252, 253, 254, 255, 256, 257, 258, 259, 260, 261, 262, 263, 273, 274, 275, 45, 276, 47, 277, 278, 279, 280, 281, 282, 283, 284, 285, 286, 287, 288, 289, 290, 291, 292, 293, 305, 294, 295, 296, 297, 298, 299, 300, 301, 302, 303] (by decide +kernel) (by decide +kernel)
set_option maxRecDepth 20000 in
theorem gL_reads_X5_play : GoodIn wsL_reads (wsV RL 77 RX5 yX5_play wsX5_play) := goodIn_app (goodIn_of _ (by decide +kernel)) ggL_reads_X5_play
set_option maxRecDepth 20000 in
theorem ggL_reads_L_low : GoodIn wsL_reads wsL_low := goodIn_r _ [11, 12] (by decide +kernel) (by decide +kernel)
set_option maxRecDepth 20000 in
theorem gL_reads_L_low : GoodIn wsL_reads (va_wsS RL 46 yL_low wsL_low) := goodIn_app (goodIn_of _ (by decide +kernel)) ggL_reads_L_low
theorem dL_reads_0 : decode cL_reads 0 = .ok (.aload_n 0, 1) := by decide +kernel
theorem dL_reads_1 : decode cL_reads 1 = .ok (.iload_n 1, 1) := by decide +kernel
theorem dL_reads_2 : decode cL_reads 2 = .ok (.invokestatic 71, 3) := by decide +kernel
theorem dL_reads_5 : decode cL_reads 5 = .ok (.istore_n 2, 1) := by decide +kernel
theorem dL_reads_6 : decode cL_reads 6 = .ok (.aload_n 0, 1) := by decide +kernel
theorem dL_reads_7 : decode cL_reads 7 = .ok (.bipush 15, 2) := by decide +kernel
theorem dL_reads_9 : decode cL_reads 9 = .ok (.invokevirtual 13, 3) := by decide +kernel
theorem dL_reads_12 : decode cL_reads 12 = .ok (.istore_n 3, 1) := by decide +kernel
theorem dL_reads_13 : decode cL_reads 13 = .ok (.aload_n 0, 1) := by decide +kernel
theorem dL_reads_14 : decode cL_reads 14 = .ok (.bipush 14, 2) := by decide +kernel
theorem dL_reads_16 : decode cL_reads 16 = .ok (.invokevirtual 13, 3) := by decide +kernel
theorem dL_reads_19 : decode cL_reads 19 = .ok (.istore 4, 2) := by decide +kernel
theorem dL_reads_21 : decode cL_reads 21 = .ok (.aload_n 0, 1) := by decide +kernel
theorem dL_reads_22 : decode cL_reads 22 = .ok (.iconst 0, 1) := by decide +kernel
theorem dL_reads_23 : decode cL_reads 23 = .ok (.invokevirtual 74, 3) := by decide +kernel
theorem dL_reads_26 : decode cL_reads 26 = .ok (.istore 5, 2) := by decide +kernel
theorem dL_reads_28 : decode cL_reads 28 = .ok (.aload_n 0, 1) := by decide +kernel
theorem dL_reads_29 : decode cL_reads 29 = .ok (.iconst 1, 1) := by decide +kernel
theorem dL_reads_30 : decode cL_reads 30 = .ok (.invokevirtual 74, 3) := by decide +kernel
theorem dL_reads_33 : decode cL_reads 33 = .ok (.istore 6, 2) := by decide +kernel
theorem dL_reads_35 : decode cL_reads 35 = .ok (.aload_n 0, 1) := by decide +kernel
theorem dL_reads_36 : decode cL_reads 36 = .ok (.iconst 2, 1) := by decide +kernel
theorem dL_reads_37 : decode cL_reads 37 = .ok (.invokevirtual 74, 3) := by decide +kernel
theorem dL_reads_40 : decode cL_reads 40 = .ok (.istore 7, 2) := by decide +kernel
theorem dL_reads_42 : decode cL_reads 42 = .ok (.aload_n 0, 1) := by decide +kernel
theorem dL_reads_43 : decode cL_reads 43 = .ok (.invokevirtual 77, 3) := by decide +kernel
theorem dL_reads_46 : decode cL_reads 46 = .ok (.istore 8, 2) := by decide +kernel
theorem dL_reads_48 : decode cL_reads 48 = .ok (.iload_n 2, 1) := by decide +kernel
theorem dL_reads_49 : decode cL_reads 49 = .ok (.ifCond .eq 96, 3) := by decide +kernel
theorem dL_reads_52 : decode cL_reads 52 = .ok (.aload_n 0, 1) := by decide +kernel
theorem dL_reads_53 : decode cL_reads 53 = .ok (.bipush 15, 2) := by decide +kernel
theorem dL_reads_55 : decode cL_reads 55 = .ok (.invokevirtual 13, 3) := by decide +kernel
theorem dL_reads_58 : decode cL_reads 58 = .ok (.iload_n 3, 1) := by decide +kernel
theorem dL_reads_59 : decode cL_reads 59 = .ok (.if_icmp .ne 86, 3) := by decide +kernel
theorem dL_reads_62 : decode cL_reads 62 = .ok (.iload 5, 2) := by decide +kernel
theorem dL_reads_64 : decode cL_reads 64 = .ok (.ldc 38, 2) := by decide +kernel
theorem dL_reads_66 : decode cL_reads 66 = .ok (.if_icmp .ne 7, 3) := by decide +kernel
theorem dL_reads_69 : decode cL_reads 69 = .ok (.iconst 1, 1) := by decide +kernel
theorem dL_reads_70 : decode cL_reads 70 = .ok (.goto 4, 3) := by decide +kernel
theorem dL_reads_73 : decode cL_reads 73 = .ok (.iconst 0, 1) := by decide +kernel
theorem dL_reads_74 : decode cL_reads 74 = .ok (.iload 6, 2) := by decide +kernel
theorem dL_reads_76 : decode cL_reads 76 = .ok (.ldc 38, 2) := by decide +kernel
theorem dL_reads_78 : decode cL_reads 78 = .ok (.if_icmp .ne 7, 3) := by decide +kernel
theorem dL_reads_81 : decode cL_reads 81 = .ok (.iconst 1, 1) := by decide +kernel
theorem dL_reads_82 : decode cL_reads 82 = .ok (.goto 4, 3) := by decide +kernel
theorem dL_reads_85 : decode cL_reads 85 = .ok (.iconst 0, 1) := by decide +kernel
theorem dL_reads_86 : decode cL_reads 86 = .ok (.if_icmp .ne 59, 3) := by decide +kernel
theorem dL_reads_89 : decode cL_reads 89 = .ok (.iload 5, 2) := by decide +kernel
theorem dL_reads_91 : decode cL_reads 91 = .ok (.ldc 38, 2) := by decide +kernel
theorem dL_reads_93 : decode cL_reads 93 = .ok (.if_icmp .ne 7, 3) := by decide +kernel
theorem dL_reads_96 : decode cL_reads 96 = .ok (.iconst 1, 1) := by decide +kernel
theorem dL_reads_97 : decode cL_reads 97 = .ok (.goto 4, 3) := by decide +kernel
theorem dL_reads_100 : decode cL_reads 100 = .ok (.iconst 0, 1) := by decide +kernel
theorem dL_reads_101 : decode cL_reads 101 = .ok (.iload 7, 2) := by decide +kernel
theorem dL_reads_103 : decode cL_reads 103 = .ok (.ldc 38, 2) := by decide +kernel
theorem dL_reads_105 : decode cL_reads 105 = .ok (.if_icmp .ne 7, 3) := by decide +kernel
theorem dL_reads_108 : decode cL_reads 108 = .ok (.iconst 1, 1) := by decide +kernel
theorem dL_reads_109 : decode cL_reads 109 = .ok (.goto 4, 3) := by decide +kernel
theorem dL_reads_112 : decode cL_reads 112 = .ok (.iconst 0, 1) := by decide +kernel
theorem dL_reads_113 : decode cL_reads 113 = .ok (.if_icmp .ne 32, 3) := by decide +kernel
theorem dL_reads_116 : decode cL_reads 116 = .ok (.iload 8, 2) := by decide +kernel
theorem dL_reads_118 : decode cL_reads 118 = .ok (.ldc 59, 2) := by decide +kernel
theorem dL_reads_120 : decode cL_reads 120 = .ok (.if_icmp .ne 7, 3) := by decide +kernel
theorem dL_reads_123 : decode cL_reads 123 = .ok (.iconst 1, 1) := by decide +kernel
theorem dL_reads_124 : decode cL_reads 124 = .ok (.goto 4, 3) := by decide +kernel
theorem dL_reads_127 : decode cL_reads 127 = .ok (.iconst 0, 1) := by decide +kernel
theorem dL_reads_128 : decode cL_reads 128 = .ok (.iload 5, 2) := by decide +kernel
theorem dL_reads_130 : decode cL_reads 130 = .ok (.ifCond .lt 7, 3) := by decide +kernel
theorem dL_reads_133 : decode cL_reads 133 = .ok (.iconst 1, 1) := by decide +kernel
theorem dL_reads_134 : decode cL_reads 134 = .ok (.goto 4, 3) := by decide +kernel
theorem dL_reads_137 : decode cL_reads 137 = .ok (.iconst 0, 1) := by decide +kernel
theorem dL_reads_138 : decode cL_reads 138 = .ok (.if_icmp .ne 7, 3) := by decide +kernel
theorem dL_reads_141 : decode cL_reads 141 = .ok (.iconst 1, 1) := by decide +kernel
theorem dL_reads_142 : decode cL_reads 142 = .ok (.goto 4, 3) := by decide +kernel
theorem dL_reads_145 : decode cL_reads 145 = .ok (.iconst 0, 1) := by decide +kernel
theorem dL_reads_146 : decode cL_reads 146 = .ok (.istore 9, 2) := by decide +kernel
theorem dL_reads_148 : decode cL_reads 148 = .ok (.iload 9, 2) := by decide +kernel
theorem dL_reads_150 : decode cL_reads 150 = .ok (.ifCond .eq 116, 3) := by decide +kernel
theorem dL_reads_153 : decode cL_reads 153 = .ok (.iload 5, 2) := by decide +kernel
theorem dL_reads_155 : decode cL_reads 155 = .ok (.ifCond .lt 73, 3) := by decide +kernel
theorem dL_reads_158 : decode cL_reads 158 = .ok (.iload 5, 2) := by decide +kernel
theorem dL_reads_160 : decode cL_reads 160 = .ok (.iload_n 3, 1) := by decide +kernel
theorem dL_reads_161 : decode cL_reads 161 = .ok (.if_icmp .ge 105, 3) := by decide +kernel
theorem dL_reads_164 : decode cL_reads 164 = .ok (.iload 6, 2) := by decide +kernel
theorem dL_reads_166 : decode cL_reads 166 = .ok (.iconst 1, 1) := by decide +kernel
theorem dL_reads_167 : decode cL_reads 167 = .ok (.if_icmp .ne 20, 3) := by decide +kernel
theorem dL_reads_170 : decode cL_reads 170 = .ok (.iload 7, 2) := by decide +kernel
theorem dL_reads_172 : decode cL_reads 172 = .ok (.ifCond .lt 94, 3) := by decide +kernel
theorem dL_reads_175 : decode cL_reads 175 = .ok (.iload 5, 2) := by decide +kernel
theorem dL_reads_177 : decode cL_reads 177 = .ok (.iload 7, 2) := by decide +kernel
theorem dL_reads_179 : decode cL_reads 179 = .ok (.iadd, 1) := by decide +kernel
theorem dL_reads_180 : decode cL_reads 180 = .ok (.iload_n 3, 1) := by decide +kernel
theorem dL_reads_181 : decode cL_reads 181 = .ok (.if_icmp .gt 85, 3) := by decide +kernel
theorem dL_reads_184 : decode cL_reads 184 = .ok (.goto 30, 3) := by decide +kernel
theorem dL_reads_187 : decode cL_reads 187 = .ok (.iload 6, 2) := by decide +kernel
theorem dL_reads_189 : decode cL_reads 189 = .ok (.iconst 2, 1) := by decide +kernel
theorem dL_reads_190 : decode cL_reads 190 = .ok (.if_icmp .ne 76, 3) := by decide +kernel
theorem dL_reads_193 : decode cL_reads 193 = .ok (.iload 7, 2) := by decide +kernel
theorem dL_reads_195 : decode cL_reads 195 = .ok (.ldc 58, 2) := by decide +kernel
theorem dL_reads_197 : decode cL_reads 197 = .ok (.if_icmp .eq 17, 3) := by decide +kernel
theorem dL_reads_200 : decode cL_reads 200 = .ok (.iload 7, 2) := by decide +kernel
theorem dL_reads_202 : decode cL_reads 202 = .ok (.ldc 59, 2) := by decide +kernel
theorem dL_reads_204 : decode cL_reads 204 = .ok (.if_icmp .eq 10, 3) := by decide +kernel
theorem dL_reads_207 : decode cL_reads 207 = .ok (.iload 7, 2) := by decide +kernel
theorem dL_reads_209 : decode cL_reads 209 = .ok (.ldc 60, 2) := by decide +kernel
theorem dL_reads_211 : decode cL_reads 211 = .ok (.if_icmp .ne 55, 3) := by decide +kernel
theorem dL_reads_214 : decode cL_reads 214 = .ok (.aload_n 0, 1) := by decide +kernel
theorem dL_reads_215 : decode cL_reads 215 = .ok (.bipush 14, 2) := by decide +kernel
theorem dL_reads_217 : decode cL_reads 217 = .ok (.invokevirtual 13, 3) := by decide +kernel
theorem dL_reads_220 : decode cL_reads 220 = .ok (.iload 4, 2) := by decide +kernel
theorem dL_reads_222 : decode cL_reads 222 = .ok (.if_icmp .ne 44, 3) := by decide +kernel
theorem dL_reads_225 : decode cL_reads 225 = .ok (.goto 37, 3) := by decide +kernel
theorem dL_reads_228 : decode cL_reads 228 = .ok (.iload 8, 2) := by decide +kernel
theorem dL_reads_230 : decode cL_reads 230 = .ok (.iload_n 1, 1) := by decide +kernel
theorem dL_reads_231 : decode cL_reads 231 = .ok (.bipush 6, 2) := by decide +kernel
theorem dL_reads_233 : decode cL_reads 233 = .ok (.invokestatic 46, 3) := by decide +kernel
theorem dL_reads_236 : decode cL_reads 236 = .ok (.if_icmp .ne 30, 3) := by decide +kernel
theorem dL_reads_239 : decode cL_reads 239 = .ok (.aload_n 0, 1) := by decide +kernel
theorem dL_reads_240 : decode cL_reads 240 = .ok (.bipush 14, 2) := by decide +kernel
theorem dL_reads_242 : decode cL_reads 242 = .ok (.invokevirtual 13, 3) := by decide +kernel
theorem dL_reads_245 : decode cL_reads 245 = .ok (.iload 4, 2) := by decide +kernel
theorem dL_reads_247 : decode cL_reads 247 = .ok (.iconst 4, 1) := by decide +kernel
theorem dL_reads_248 : decode cL_reads 248 = .ok (.if_icmp .ge 10, 3) := by decide +kernel
theorem dL_reads_251 : decode cL_reads 251 = .ok (.iload 4, 2) := by decide +kernel
theorem dL_reads_253 : decode cL_reads 253 = .ok (.iconst 1, 1) := by decide +kernel
theorem dL_reads_254 : decode cL_reads 254 = .ok (.iadd, 1) := by decide +kernel
theorem dL_reads_255 : decode cL_reads 255 = .ok (.goto 4, 3) := by decide +kernel
theorem dL_reads_258 : decode cL_reads 258 = .ok (.iconst 4, 1) := by decide +kernel
theorem dL_reads_259 : decode cL_reads 259 = .ok (.if_icmp .ne 7, 3) := by decide +kernel
theorem dL_reads_262 : decode cL_reads 262 = .ok (.iconst 1, 1) := by decide +kernel
theorem dL_reads_263 : decode cL_reads 263 = .ok (.goto 4, 3) := by decide +kernel
theorem dL_reads_266 : decode cL_reads 266 = .ok (.iconst 0, 1) := by decide +kernel
theorem dL_reads_267 : decode cL_reads 267 = .ok (.ireturn, 1) := by decide +kernel
set_option maxRecDepth 20000 in
theorem ggL_cells_X5_count : GoodIn wsL_cells wsX5_count := goodIn_r _ [7, 8, 9, 10, 11, 12, 13, 14, 15, 16, 17, 18, 19, 20, 21, 22, 23, 24, 25, 26, 27, 28, 29, 30, 31, 32, 33, 34, 35, 36, 37, 38, 39, 40, 41, 42, 43, 44, 45, 46, 47, 48, 49, 50, 51, 52, 53, 54, 55, 56, 57, 58, 59, 60, 61, 62, 63, 64, 65, 66, 67, 68, 69, 70, 71, 72, 73, 74, 75, 76, 77, 78, 79, 80, 81, 82, 83, 84, 85, 86, 87, 88, 89, 90, 91, 92, 93, 94, 95, 96, 97, 98, 99, 100, 101, 102, 103, 104, 105, 106, 107, 108, 109, 209, 210, 211, 212, 213, 214, 215, 216, 217, 218, 219, 220, 221, 222, 223, 224, 225, 226] (by decide +kernel) (by decide +kernel)
set_option maxRecDepth 20000 in
theorem gL_cells_X5_count : GoodIn wsL_cells (wsV RL 13 RX5 yX5_count wsX5_count) := goodIn_app (goodIn_of _ (by decide +kernel)) ggL_cells_X5_count
set_option maxRecDepth 20000 in
theorem ggL_cells_L_low : GoodIn wsL_cells wsL_low := goodIn_r _ [113, 114] (by decide +kernel) (by decide +kernel)
set_option maxRecDepth 20000 in
theorem gL_cells_L_low : GoodIn wsL_cells (va_wsS RL 46 yL_low wsL_low) := goodIn_app (goodIn_of _ (by decide +kernel)) ggL_cells_L_low
set_option maxRecDepth 20000 in
theorem ggL_cells_X5_row : GoodIn wsL_cells wsX5_row := goodIn_r _ [118, 10, 119, 120, 121, 26, 122, 28, 29, 123, 124, 125, 33, 126, 48, 31, 32, 34, 35, 30, 127, 61, 62, 63, 44, 45, 46, 47, 77, 78, 79, 80, 81, 82, 83, 84, 106, 107, 108, 109, 49, 50, 51, 52, 53, 54, 55, 56, 57, 58, 59, 60, 64, 65, 66, 67, 68, 69, 70, 71, 72, 73, 74, 75, 76, 209, 210, 211, 212, 213, 214, 225, 226] (by decide +kernel) (by decide +kernel)
set_option maxRecDepth 20000 in
theorem gL_cells_X5_row : GoodIn wsL_cells (wsV RL 19 RX5 yX5_row wsX5_row) := goodIn_app (goodIn_of _ (by decide +kernel)) ggL_cells_X5_row
set_option maxRecDepth 20000 in
theorem ggL_cells_X5_write : GoodIn wsL_cells wsX5_write := goodIn_r _ [131, 8, 132, 133, 134, 135, 14, 136, 16, 137, 138, 139, 140, 141, 142, 143, 144, 145, 33, 146, 35, 147, 148, 149, 150, 151, 152, 153, 154, 155, 156, 157, 124, 125, 126, 48, 31, 32, 34, 158, 159, 160, 161, 45, 46, 47, 162, 163, 164, 165, 166, 167, 168, 169, 57, 58, 59, 60, 61, 62, 63, 170, 171, 172, 173, 174, 175, 176, 177, 64, 65, 66, 178, 179, 180, 181, 182, 183, 184, 185, 186, 187, 188, 189, 190, 191, 192, 209, 210, 211, 212, 213, 214, 215, 216, 217, 226] (by decide +kernel) (by decide +kernel)
set_option maxRecDepth 20000 in
theorem gL_cells_X5_write : GoodIn wsL_cells (wsV RL 80 RX5 yX5_write wsX5_write) := goodIn_app (goodIn_of _ (by decide +kernel)) ggL_cells_X5_write
set_option maxRecDepth 20000 in
theorem ggL_cells_X5_cell : GoodIn wsL_cells wsX5_cell := goodIn_r _ [196, 10, 197, 198, 199, 26, 200, 28, 29, 201, 123, 124, 125, 33, 126, 48, 31, 32, 34, 35, 202, 159, 160, 44, 45, 46, 47, 30, 203, 54, 55, 56, 57, 58, 59, 60, 61, 62, 63, 64, 65, 66, 67, 68, 69, 70, 71, 72, 73, 204, 75, 76, 205, 206, 207, 208, 209, 210, 211, 212, 213, 214, 225, 226] (by decide +kernel) (by decide +kernel)
set_option maxRecDepth 20000 in
theorem gL_cells_X5_cell : GoodIn wsL_cells (wsV RL 23 RX5 yX5_cell wsX5_cell) := goodIn_app (goodIn_of _ (by decide +kernel)) ggL_cells_X5_cell
theorem dL_cells_0 : decode cL_cells 0 = .ok (.aload_n 0, 1) := by decide +kernel
theorem dL_cells_1 : decode cL_cells 1 = .ok (.iconst 0, 1) := by decide +kernel
theorem dL_cells_2 : decode cL_cells 2 = .ok (.invokevirtual 13, 3) := by decide +kernel
theorem dL_cells_5 : decode cL_cells 5 = .ok (.istore_n 2, 1) := by decide +kernel
theorem dL_cells_6 : decode cL_cells 6 = .ok (.iload_n 1, 1) := by decide +kernel
theorem dL_cells_7 : decode cL_cells 7 = .ok (.iload_n 2, 1) := by decide +kernel
theorem dL_cells_8 : decode cL_cells 8 = .ok (.iconst 1, 1) := by decide +kernel
theorem dL_cells_9 : decode cL_cells 9 = .ok (.iadd, 1) := by decide +kernel
theorem dL_cells_10 : decode cL_cells 10 = .ok (.invokestatic 46, 3) := by decide +kernel
theorem dL_cells_13 : decode cL_cells 13 = .ok (.istore_n 3, 1) := by decide +kernel
theorem dL_cells_14 : decode cL_cells 14 = .ok (.iload_n 1, 1) := by decide +kernel
theorem dL_cells_15 : decode cL_cells 15 = .ok (.iconst 4, 1) := by decide +kernel
theorem dL_cells_16 : decode cL_cells 16 = .ok (.ishr, 1) := by decide +kernel
theorem dL_cells_17 : decode cL_cells 17 = .ok (.iload_n 1, 1) := by decide +kernel
theorem dL_cells_18 : decode cL_cells 18 = .ok (.bipush 18, 2) := by decide +kernel
theorem dL_cells_20 : decode cL_cells 20 = .ok (.ishr, 1) := by decide +kernel
theorem dL_cells_21 : decode cL_cells 21 = .ok (.bipush 6, 2) := by decide +kernel
theorem dL_cells_23 : decode cL_cells 23 = .ok (.invokestatic 46, 3) := by decide +kernel
theorem dL_cells_26 : decode cL_cells 26 = .ok (.ifCond .ne 8, 3) := by decide +kernel
theorem dL_cells_29 : decode cL_cells 29 = .ok (.bipush 9, 2) := by decide +kernel
theorem dL_cells_31 : decode cL_cells 31 = .ok (.goto 5, 3) := by decide +kernel
theorem dL_cells_34 : decode cL_cells 34 = .ok (.bipush 8, 2) := by decide +kernel
theorem dL_cells_36 : decode cL_cells 36 = .ok (.invokestatic 46, 3) := by decide +kernel
theorem dL_cells_39 : decode cL_cells 39 = .ok (.istore 4, 2) := by decide +kernel
theorem dL_cells_41 : decode cL_cells 41 = .ok (.iload_n 1, 1) := by decide +kernel
theorem dL_cells_42 : decode cL_cells 42 = .ok (.bipush 7, 2) := by decide +kernel
theorem dL_cells_44 : decode cL_cells 44 = .ok (.ishr, 1) := by decide +kernel
theorem dL_cells_45 : decode cL_cells 45 = .ok (.iload_n 1, 1) := by decide +kernel
theorem dL_cells_46 : decode cL_cells 46 = .ok (.bipush 17, 2) := by decide +kernel
theorem dL_cells_48 : decode cL_cells 48 = .ok (.ishr, 1) := by decide +kernel
theorem dL_cells_49 : decode cL_cells 49 = .ok (.iconst 3, 1) := by decide +kernel
theorem dL_cells_50 : decode cL_cells 50 = .ok (.invokestatic 46, 3) := by decide +kernel
theorem dL_cells_53 : decode cL_cells 53 = .ok (.ifCond .ne 9, 3) := by decide +kernel
theorem dL_cells_56 : decode cL_cells 56 = .ok (.sipush 1001, 3) := by decide +kernel
theorem dL_cells_59 : decode cL_cells 59 = .ok (.goto 4, 3) := by decide +kernel
theorem dL_cells_62 : decode cL_cells 62 = .ok (.iconst 5, 1) := by decide +kernel
theorem dL_cells_63 : decode cL_cells 63 = .ok (.invokestatic 46, 3) := by decide +kernel
theorem dL_cells_66 : decode cL_cells 66 = .ok (.istore 5, 2) := by decide +kernel
theorem dL_cells_68 : decode cL_cells 68 = .ok (.iload_n 3, 1) := by decide +kernel
theorem dL_cells_69 : decode cL_cells 69 = .ok (.iload_n 2, 1) := by decide +kernel
theorem dL_cells_70 : decode cL_cells 70 = .ok (.if_icmp .eq 18, 3) := by decide +kernel
theorem dL_cells_73 : decode cL_cells 73 = .ok (.iload 4, 2) := by decide +kernel
theorem dL_cells_75 : decode cL_cells 75 = .ok (.bipush 8, 2) := by decide +kernel
theorem dL_cells_77 : decode cL_cells 77 = .ok (.if_icmp .eq 11, 3) := by decide +kernel
theorem dL_cells_80 : decode cL_cells 80 = .ok (.iload 5, 2) := by decide +kernel
theorem dL_cells_82 : decode cL_cells 82 = .ok (.sipush 1000, 3) := by decide +kernel
theorem dL_cells_85 : decode cL_cells 85 = .ok (.if_icmp .ne 7, 3) := by decide +kernel
theorem dL_cells_88 : decode cL_cells 88 = .ok (.iconst 1, 1) := by decide +kernel
theorem dL_cells_89 : decode cL_cells 89 = .ok (.goto 4, 3) := by decide +kernel
theorem dL_cells_92 : decode cL_cells 92 = .ok (.iconst 0, 1) := by decide +kernel
theorem dL_cells_93 : decode cL_cells 93 = .ok (.istore 6, 2) := by decide +kernel
theorem dL_cells_95 : decode cL_cells 95 = .ok (.iload_n 3, 1) := by decide +kernel
theorem dL_cells_96 : decode cL_cells 96 = .ok (.iload_n 2, 1) := by decide +kernel
theorem dL_cells_97 : decode cL_cells 97 = .ok (.if_icmp .ge 17, 3) := by decide +kernel
theorem dL_cells_100 : decode cL_cells 100 = .ok (.aload_n 0, 1) := by decide +kernel
theorem dL_cells_101 : decode cL_cells 101 = .ok (.iload_n 3, 1) := by decide +kernel
theorem dL_cells_102 : decode cL_cells 102 = .ok (.iconst 1, 1) := by decide +kernel
theorem dL_cells_103 : decode cL_cells 103 = .ok (.invokevirtual 19, 3) := by decide +kernel
theorem dL_cells_106 : decode cL_cells 106 = .ok (.iconst 1, 1) := by decide +kernel
theorem dL_cells_107 : decode cL_cells 107 = .ok (.if_icmp .ne 7, 3) := by decide +kernel
theorem dL_cells_110 : decode cL_cells 110 = .ok (.iconst 1, 1) := by decide +kernel
theorem dL_cells_111 : decode cL_cells 111 = .ok (.goto 4, 3) := by decide +kernel
theorem dL_cells_114 : decode cL_cells 114 = .ok (.iconst 0, 1) := by decide +kernel
theorem dL_cells_115 : decode cL_cells 115 = .ok (.istore 7, 2) := by decide +kernel
theorem dL_cells_117 : decode cL_cells 117 = .ok (.iload 6, 2) := by decide +kernel
theorem dL_cells_119 : decode cL_cells 119 = .ok (.ifCond .eq 7, 3) := by decide +kernel
theorem dL_cells_122 : decode cL_cells 122 = .ok (.iconst 0, 1) := by decide +kernel
theorem dL_cells_123 : decode cL_cells 123 = .ok (.goto 20, 3) := by decide +kernel
theorem dL_cells_126 : decode cL_cells 126 = .ok (.aload_n 0, 1) := by decide +kernel
theorem dL_cells_127 : decode cL_cells 127 = .ok (.iload_n 3, 1) := by decide +kernel
theorem dL_cells_128 : decode cL_cells 128 = .ok (.iload 4, 2) := by decide +kernel
theorem dL_cells_130 : decode cL_cells 130 = .ok (.iconst 2, 1) := by decide +kernel
theorem dL_cells_131 : decode cL_cells 131 = .ok (.irem, 1) := by decide +kernel
theorem dL_cells_132 : decode cL_cells 132 = .ok (.ifCond .ne 7, 3) := by decide +kernel
theorem dL_cells_135 : decode cL_cells 135 = .ok (.iconst 2, 1) := by decide +kernel
theorem dL_cells_136 : decode cL_cells 136 = .ok (.goto 4, 3) := by decide +kernel
theorem dL_cells_139 : decode cL_cells 139 = .ok (.iconst 3, 1) := by decide +kernel
theorem dL_cells_140 : decode cL_cells 140 = .ok (.invokevirtual 19, 3) := by decide +kernel
theorem dL_cells_143 : decode cL_cells 143 = .ok (.istore 8, 2) := by decide +kernel
theorem dL_cells_145 : decode cL_cells 145 = .ok (.aload_n 0, 1) := by decide +kernel
theorem dL_cells_146 : decode cL_cells 146 = .ok (.bipush 13, 2) := by decide +kernel
theorem dL_cells_148 : decode cL_cells 148 = .ok (.invokevirtual 13, 3) := by decide +kernel
theorem dL_cells_151 : decode cL_cells 151 = .ok (.istore 9, 2) := by decide +kernel
theorem dL_cells_153 : decode cL_cells 153 = .ok (.iload 6, 2) := by decide +kernel
theorem dL_cells_155 : decode cL_cells 155 = .ok (.ifCond .eq 8, 3) := by decide +kernel
theorem dL_cells_158 : decode cL_cells 158 = .ok (.ldc 58, 2) := by decide +kernel
theorem dL_cells_160 : decode cL_cells 160 = .ok (.goto 20, 3) := by decide +kernel
theorem dL_cells_163 : decode cL_cells 163 = .ok (.iload 7, 2) := by decide +kernel
theorem dL_cells_165 : decode cL_cells 165 = .ok (.ifCond .ne 8, 3) := by decide +kernel
theorem dL_cells_168 : decode cL_cells 168 = .ok (.ldc 59, 2) := by decide +kernel
theorem dL_cells_170 : decode cL_cells 170 = .ok (.goto 10, 3) := by decide +kernel
theorem dL_cells_173 : decode cL_cells 173 = .ok (.aload_n 0, 1) := by decide +kernel
theorem dL_cells_174 : decode cL_cells 174 = .ok (.iload 8, 2) := by decide +kernel
theorem dL_cells_176 : decode cL_cells 176 = .ok (.iconst 1, 1) := by decide +kernel
theorem dL_cells_177 : decode cL_cells 177 = .ok (.invokevirtual 19, 3) := by decide +kernel
theorem dL_cells_180 : decode cL_cells 180 = .ok (.istore 10, 2) := by decide +kernel
theorem dL_cells_182 : decode cL_cells 182 = .ok (.aload_n 0, 1) := by decide +kernel
theorem dL_cells_183 : decode cL_cells 183 = .ok (.iload_n 3, 1) := by decide +kernel
theorem dL_cells_184 : decode cL_cells 184 = .ok (.iload 4, 2) := by decide +kernel
theorem dL_cells_186 : decode cL_cells 186 = .ok (.iload 5, 2) := by decide +kernel
theorem dL_cells_188 : decode cL_cells 188 = .ok (.invokevirtual 80, 3) := by decide +kernel
theorem dL_cells_191 : decode cL_cells 191 = .ok (.iload 10, 2) := by decide +kernel
theorem dL_cells_193 : decode cL_cells 193 = .ok (.if_icmp .ne 88, 3) := by decide +kernel
theorem dL_cells_196 : decode cL_cells 196 = .ok (.aload_n 0, 1) := by decide +kernel
theorem dL_cells_197 : decode cL_cells 197 = .ok (.bipush 13, 2) := by decide +kernel
theorem dL_cells_199 : decode cL_cells 199 = .ok (.invokevirtual 13, 3) := by decide +kernel
theorem dL_cells_202 : decode cL_cells 202 = .ok (.iload 9, 2) := by decide +kernel
theorem dL_cells_204 : decode cL_cells 204 = .ok (.iload 10, 2) := by decide +kernel
theorem dL_cells_206 : decode cL_cells 206 = .ok (.iconst 1, 1) := by decide +kernel
theorem dL_cells_207 : decode cL_cells 207 = .ok (.if_icmp .ne 7, 3) := by decide +kernel
theorem dL_cells_210 : decode cL_cells 210 = .ok (.iconst 1, 1) := by decide +kernel
theorem dL_cells_211 : decode cL_cells 211 = .ok (.goto 4, 3) := by decide +kernel
theorem dL_cells_214 : decode cL_cells 214 = .ok (.iconst 0, 1) := by decide +kernel
theorem dL_cells_215 : decode cL_cells 215 = .ok (.iadd, 1) := by decide +kernel
theorem dL_cells_216 : decode cL_cells 216 = .ok (.if_icmp .ne 65, 3) := by decide +kernel
theorem dL_cells_219 : decode cL_cells 219 = .ok (.iload 10, 2) := by decide +kernel
theorem dL_cells_221 : decode cL_cells 221 = .ok (.ifCond .lt 56, 3) := by decide +kernel
theorem dL_cells_224 : decode cL_cells 224 = .ok (.aload_n 0, 1) := by decide +kernel
theorem dL_cells_225 : decode cL_cells 225 = .ok (.iload_n 3, 1) := by decide +kernel
theorem dL_cells_226 : decode cL_cells 226 = .ok (.iload 4, 2) := by decide +kernel
theorem dL_cells_228 : decode cL_cells 228 = .ok (.iconst 0, 1) := by decide +kernel
theorem dL_cells_229 : decode cL_cells 229 = .ok (.invokevirtual 23, 3) := by decide +kernel
theorem dL_cells_232 : decode cL_cells 232 = .ok (.iload 5, 2) := by decide +kernel
theorem dL_cells_234 : decode cL_cells 234 = .ok (.if_icmp .ne 47, 3) := by decide +kernel
theorem dL_cells_237 : decode cL_cells 237 = .ok (.aload_n 0, 1) := by decide +kernel
theorem dL_cells_238 : decode cL_cells 238 = .ok (.iload_n 3, 1) := by decide +kernel
theorem dL_cells_239 : decode cL_cells 239 = .ok (.iload 4, 2) := by decide +kernel
theorem dL_cells_241 : decode cL_cells 241 = .ok (.iconst 1, 1) := by decide +kernel
theorem dL_cells_242 : decode cL_cells 242 = .ok (.invokevirtual 23, 3) := by decide +kernel
theorem dL_cells_245 : decode cL_cells 245 = .ok (.ifCond .ne 36, 3) := by decide +kernel
theorem dL_cells_248 : decode cL_cells 248 = .ok (.iload 10, 2) := by decide +kernel
theorem dL_cells_250 : decode cL_cells 250 = .ok (.ifCond .eq 27, 3) := by decide +kernel
theorem dL_cells_253 : decode cL_cells 253 = .ok (.aload_n 0, 1) := by decide +kernel
theorem dL_cells_254 : decode cL_cells 254 = .ok (.iload_n 3, 1) := by decide +kernel
theorem dL_cells_255 : decode cL_cells 255 = .ok (.iload 4, 2) := by decide +kernel
theorem dL_cells_257 : decode cL_cells 257 = .ok (.iconst 2, 1) := by decide +kernel
theorem dL_cells_258 : decode cL_cells 258 = .ok (.invokevirtual 23, 3) := by decide +kernel
theorem dL_cells_261 : decode cL_cells 261 = .ok (.iload 5, 2) := by decide +kernel
theorem dL_cells_263 : decode cL_cells 263 = .ok (.if_icmp .ne 18, 3) := by decide +kernel
