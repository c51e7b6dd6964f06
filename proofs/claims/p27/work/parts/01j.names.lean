theorem dL_cells_266 : decode cL_cells 266 = .ok (.aload_n 0, 1) := by decide +kernel
theorem dL_cells_267 : decode cL_cells 267 = .ok (.iload_n 3, 1) := by decide +kernel
theorem dL_cells_268 : decode cL_cells 268 = .ok (.iload 4, 2) := by decide +kernel
theorem dL_cells_270 : decode cL_cells 270 = .ok (.iconst 3, 1) := by decide +kernel
theorem dL_cells_271 : decode cL_cells 271 = .ok (.invokevirtual 23, 3) := by decide +kernel
theorem dL_cells_274 : decode cL_cells 274 = .ok (.ifCond .ne 7, 3) := by decide +kernel
theorem dL_cells_277 : decode cL_cells 277 = .ok (.iconst 1, 1) := by decide +kernel
theorem dL_cells_278 : decode cL_cells 278 = .ok (.goto 4, 3) := by decide +kernel
theorem dL_cells_281 : decode cL_cells 281 = .ok (.iconst 0, 1) := by decide +kernel
theorem dL_cells_282 : decode cL_cells 282 = .ok (.ireturn, 1) := by decide +kernel
theorem dL_acts_0 : decode cL_acts 0 = .ok (.iload_n 1, 1) := by decide +kernel
theorem dL_acts_1 : decode cL_acts 1 = .ok (.bipush 24, 2) := by decide +kernel
theorem dL_acts_3 : decode cL_acts 3 = .ok (.invokestatic 46, 3) := by decide +kernel
theorem dL_acts_6 : decode cL_acts 6 = .ok (.istore_n 3, 1) := by decide +kernel
theorem dL_acts_7 : decode cL_acts 7 = .ok (.aload_n 0, 1) := by decide +kernel
theorem dL_acts_8 : decode cL_acts 8 = .ok (.iconst 0, 1) := by decide +kernel
theorem dL_acts_9 : decode cL_acts 9 = .ok (.invokevirtual 13, 3) := by decide +kernel
theorem dL_acts_12 : decode cL_acts 12 = .ok (.istore 4, 2) := by decide +kernel
theorem dL_acts_14 : decode cL_acts 14 = .ok (.iload_n 2, 1) := by decide +kernel
theorem dL_acts_15 : decode cL_acts 15 = .ok (.iload 4, 2) := by decide +kernel
theorem dL_acts_17 : decode cL_acts 17 = .ok (.iconst 1, 1) := by decide +kernel
theorem dL_acts_18 : decode cL_acts 18 = .ok (.iadd, 1) := by decide +kernel
theorem dL_acts_19 : decode cL_acts 19 = .ok (.invokestatic 46, 3) := by decide +kernel
theorem dL_acts_22 : decode cL_acts 22 = .ok (.istore 5, 2) := by decide +kernel
theorem dL_acts_24 : decode cL_acts 24 = .ok (.iload 5, 2) := by decide +kernel
theorem dL_acts_26 : decode cL_acts 26 = .ok (.iload 4, 2) := by decide +kernel
theorem dL_acts_28 : decode cL_acts 28 = .ok (.if_icmp .ne 7, 3) := by decide +kernel
theorem dL_acts_31 : decode cL_acts 31 = .ok (.iconst 1, 1) := by decide +kernel
theorem dL_acts_32 : decode cL_acts 32 = .ok (.goto 4, 3) := by decide +kernel
theorem dL_acts_35 : decode cL_acts 35 = .ok (.iconst 0, 1) := by decide +kernel
theorem dL_acts_36 : decode cL_acts 36 = .ok (.istore 6, 2) := by decide +kernel
theorem dL_acts_38 : decode cL_acts 38 = .ok (.iload 6, 2) := by decide +kernel
theorem dL_acts_40 : decode cL_acts 40 = .ok (.ifCond .ne 18, 3) := by decide +kernel
theorem dL_acts_43 : decode cL_acts 43 = .ok (.aload_n 0, 1) := by decide +kernel
theorem dL_acts_44 : decode cL_acts 44 = .ok (.iload 5, 2) := by decide +kernel
theorem dL_acts_46 : decode cL_acts 46 = .ok (.iconst 1, 1) := by decide +kernel
theorem dL_acts_47 : decode cL_acts 47 = .ok (.invokevirtual 19, 3) := by decide +kernel
theorem dL_acts_50 : decode cL_acts 50 = .ok (.iconst 1, 1) := by decide +kernel
theorem dL_acts_51 : decode cL_acts 51 = .ok (.if_icmp .ne 7, 3) := by decide +kernel
theorem dL_acts_54 : decode cL_acts 54 = .ok (.iconst 1, 1) := by decide +kernel
theorem dL_acts_55 : decode cL_acts 55 = .ok (.goto 4, 3) := by decide +kernel
theorem dL_acts_58 : decode cL_acts 58 = .ok (.iconst 0, 1) := by decide +kernel
theorem dL_acts_59 : decode cL_acts 59 = .ok (.istore 7, 2) := by decide +kernel
theorem dL_acts_61 : decode cL_acts 61 = .ok (.iload_n 3, 1) := by decide +kernel
theorem dL_acts_62 : decode cL_acts 62 = .ok (.bipush 7, 2) := by decide +kernel
theorem dL_acts_64 : decode cL_acts 64 = .ok (.if_icmp .ge 9, 3) := by decide +kernel
theorem dL_acts_67 : decode cL_acts 67 = .ok (.aload_n 0, 1) := by decide +kernel
theorem dL_acts_68 : decode cL_acts 68 = .ok (.iload_n 2, 1) := by decide +kernel
theorem dL_acts_69 : decode cL_acts 69 = .ok (.invokestatic 83, 3) := by decide +kernel
theorem dL_acts_72 : decode cL_acts 72 = .ok (.ireturn, 1) := by decide +kernel
theorem dL_acts_73 : decode cL_acts 73 = .ok (.iload_n 3, 1) := by decide +kernel
theorem dL_acts_74 : decode cL_acts 74 = .ok (.bipush 9, 2) := by decide +kernel
theorem dL_acts_76 : decode cL_acts 76 = .ok (.if_icmp .ge 120, 3) := by decide +kernel
theorem dL_acts_79 : decode cL_acts 79 = .ok (.iload 7, 2) := by decide +kernel
theorem dL_acts_81 : decode cL_acts 81 = .ok (.ifCond .eq 14, 3) := by decide +kernel
theorem dL_acts_84 : decode cL_acts 84 = .ok (.aload_n 0, 1) := by decide +kernel
theorem dL_acts_85 : decode cL_acts 85 = .ok (.iload 5, 2) := by decide +kernel
theorem dL_acts_87 : decode cL_acts 87 = .ok (.bipush 7, 2) := by decide +kernel
theorem dL_acts_89 : decode cL_acts 89 = .ok (.invokevirtual 19, 3) := by decide +kernel
theorem dL_acts_92 : decode cL_acts 92 = .ok (.goto 4, 3) := by decide +kernel
theorem dL_acts_95 : decode cL_acts 95 = .ok (.iconst 0, 1) := by decide +kernel
theorem dL_acts_96 : decode cL_acts 96 = .ok (.istore 8, 2) := by decide +kernel
theorem dL_acts_98 : decode cL_acts 98 = .ok (.iload 7, 2) := by decide +kernel
theorem dL_acts_100 : decode cL_acts 100 = .ok (.ifCond .eq 14, 3) := by decide +kernel
theorem dL_acts_103 : decode cL_acts 103 = .ok (.aload_n 0, 1) := by decide +kernel
theorem dL_acts_104 : decode cL_acts 104 = .ok (.iload 5, 2) := by decide +kernel
theorem dL_acts_106 : decode cL_acts 106 = .ok (.bipush 8, 2) := by decide +kernel
theorem dL_acts_108 : decode cL_acts 108 = .ok (.invokevirtual 19, 3) := by decide +kernel
theorem dL_acts_111 : decode cL_acts 111 = .ok (.goto 4, 3) := by decide +kernel
theorem dL_acts_114 : decode cL_acts 114 = .ok (.iconst 0, 1) := by decide +kernel
theorem dL_acts_115 : decode cL_acts 115 = .ok (.istore 9, 2) := by decide +kernel
theorem dL_acts_117 : decode cL_acts 117 = .ok (.aload_n 0, 1) := by decide +kernel
theorem dL_acts_118 : decode cL_acts 118 = .ok (.iload 5, 2) := by decide +kernel
theorem dL_acts_120 : decode cL_acts 120 = .ok (.invokevirtual 86, 3) := by decide +kernel
theorem dL_acts_123 : decode cL_acts 123 = .ok (.iload 6, 2) := by decide +kernel
theorem dL_acts_125 : decode cL_acts 125 = .ok (.ifCond .eq 8, 3) := by decide +kernel
theorem dL_acts_128 : decode cL_acts 128 = .ok (.ldc 58, 2) := by decide +kernel
theorem dL_acts_130 : decode cL_acts 130 = .ok (.goto 15, 3) := by decide +kernel
theorem dL_acts_133 : decode cL_acts 133 = .ok (.iload 7, 2) := by decide +kernel
theorem dL_acts_135 : decode cL_acts 135 = .ok (.ifCond .eq 8, 3) := by decide +kernel
theorem dL_acts_138 : decode cL_acts 138 = .ok (.iload 8, 2) := by decide +kernel
theorem dL_acts_140 : decode cL_acts 140 = .ok (.goto 5, 3) := by decide +kernel
theorem dL_acts_143 : decode cL_acts 143 = .ok (.ldc 59, 2) := by decide +kernel
theorem dL_acts_145 : decode cL_acts 145 = .ok (.if_icmp .ne 49, 3) := by decide +kernel
theorem dL_acts_148 : decode cL_acts 148 = .ok (.iload 7, 2) := by decide +kernel
theorem dL_acts_150 : decode cL_acts 150 = .ok (.ifCond .eq 40, 3) := by decide +kernel
theorem dL_acts_153 : decode cL_acts 153 = .ok (.aload_n 0, 1) := by decide +kernel
theorem dL_acts_154 : decode cL_acts 154 = .ok (.iload 5, 2) := by decide +kernel
theorem dL_acts_156 : decode cL_acts 156 = .ok (.iconst 1, 1) := by decide +kernel
theorem dL_acts_157 : decode cL_acts 157 = .ok (.invokevirtual 19, 3) := by decide +kernel
theorem dL_acts_160 : decode cL_acts 160 = .ok (.ifCond .ne 34, 3) := by decide +kernel
theorem dL_acts_163 : decode cL_acts 163 = .ok (.aload_n 0, 1) := by decide +kernel
theorem dL_acts_164 : decode cL_acts 164 = .ok (.iload 5, 2) := by decide +kernel
theorem dL_acts_166 : decode cL_acts 166 = .ok (.bipush 8, 2) := by decide +kernel
theorem dL_acts_168 : decode cL_acts 168 = .ok (.invokevirtual 19, 3) := by decide +kernel
theorem dL_acts_171 : decode cL_acts 171 = .ok (.iload 9, 2) := by decide +kernel
theorem dL_acts_173 : decode cL_acts 173 = .ok (.iconst 1, 1) := by decide +kernel
theorem dL_acts_174 : decode cL_acts 174 = .ok (.iadd, 1) := by decide +kernel
theorem dL_acts_175 : decode cL_acts 175 = .ok (.if_icmp .ne 19, 3) := by decide +kernel
theorem dL_acts_178 : decode cL_acts 178 = .ok (.aload_n 0, 1) := by decide +kernel
theorem dL_acts_179 : decode cL_acts 179 = .ok (.iload 5, 2) := by decide +kernel
theorem dL_acts_181 : decode cL_acts 181 = .ok (.iconst 0, 1) := by decide +kernel
theorem dL_acts_182 : decode cL_acts 182 = .ok (.invokevirtual 30, 3) := by decide +kernel
theorem dL_acts_185 : decode cL_acts 185 = .ok (.iload 8, 2) := by decide +kernel
theorem dL_acts_187 : decode cL_acts 187 = .ok (.if_icmp .ne 7, 3) := by decide +kernel
theorem dL_acts_190 : decode cL_acts 190 = .ok (.iconst 1, 1) := by decide +kernel
theorem dL_acts_191 : decode cL_acts 191 = .ok (.goto 4, 3) := by decide +kernel
theorem dL_acts_194 : decode cL_acts 194 = .ok (.iconst 0, 1) := by decide +kernel
theorem dL_acts_195 : decode cL_acts 195 = .ok (.ireturn, 1) := by decide +kernel
theorem dL_acts_196 : decode cL_acts 196 = .ok (.iload_n 3, 1) := by decide +kernel
theorem dL_acts_197 : decode cL_acts 197 = .ok (.bipush 13, 2) := by decide +kernel
theorem dL_acts_199 : decode cL_acts 199 = .ok (.if_icmp .ge 182, 3) := by decide +kernel
theorem dL_acts_202 : decode cL_acts 202 = .ok (.iload 6, 2) := by decide +kernel
theorem dL_acts_204 : decode cL_acts 204 = .ok (.ifCond .ne 8, 3) := by decide +kernel
theorem dL_acts_207 : decode cL_acts 207 = .ok (.iload 7, 2) := by decide +kernel
theorem dL_acts_209 : decode cL_acts 209 = .ok (.ifCond .eq 7, 3) := by decide +kernel
theorem dL_acts_212 : decode cL_acts 212 = .ok (.iconst 0, 1) := by decide +kernel
theorem dL_acts_213 : decode cL_acts 213 = .ok (.goto 10, 3) := by decide +kernel
theorem dL_acts_216 : decode cL_acts 216 = .ok (.aload_n 0, 1) := by decide +kernel
theorem dL_acts_217 : decode cL_acts 217 = .ok (.iload 5, 2) := by decide +kernel
theorem dL_acts_219 : decode cL_acts 219 = .ok (.iconst 0, 1) := by decide +kernel
theorem dL_acts_220 : decode cL_acts 220 = .ok (.invokevirtual 30, 3) := by decide +kernel
theorem dL_acts_223 : decode cL_acts 223 = .ok (.istore 8, 2) := by decide +kernel
theorem dL_acts_225 : decode cL_acts 225 = .ok (.iload 6, 2) := by decide +kernel
theorem dL_acts_227 : decode cL_acts 227 = .ok (.ifCond .ne 8, 3) := by decide +kernel
theorem dL_acts_230 : decode cL_acts 230 = .ok (.iload 7, 2) := by decide +kernel
theorem dL_acts_232 : decode cL_acts 232 = .ok (.ifCond .eq 7, 3) := by decide +kernel
theorem dL_acts_235 : decode cL_acts 235 = .ok (.iconst 0, 1) := by decide +kernel
theorem dL_acts_236 : decode cL_acts 236 = .ok (.goto 10, 3) := by decide +kernel
theorem dL_acts_239 : decode cL_acts 239 = .ok (.aload_n 0, 1) := by decide +kernel
theorem dL_acts_240 : decode cL_acts 240 = .ok (.iload 5, 2) := by decide +kernel
theorem dL_acts_242 : decode cL_acts 242 = .ok (.iconst 1, 1) := by decide +kernel
theorem dL_acts_243 : decode cL_acts 243 = .ok (.invokevirtual 30, 3) := by decide +kernel
theorem dL_acts_246 : decode cL_acts 246 = .ok (.istore 9, 2) := by decide +kernel
theorem dL_acts_248 : decode cL_acts 248 = .ok (.aload_n 0, 1) := by decide +kernel
theorem dL_acts_249 : decode cL_acts 249 = .ok (.bipush 11, 2) := by decide +kernel
theorem dL_acts_251 : decode cL_acts 251 = .ok (.invokevirtual 13, 3) := by decide +kernel
theorem dL_acts_254 : decode cL_acts 254 = .ok (.istore 10, 2) := by decide +kernel
theorem dL_acts_256 : decode cL_acts 256 = .ok (.aload_n 0, 1) := by decide +kernel
theorem dL_acts_257 : decode cL_acts 257 = .ok (.bipush 12, 2) := by decide +kernel
theorem dL_acts_259 : decode cL_acts 259 = .ok (.invokevirtual 13, 3) := by decide +kernel
theorem dL_acts_262 : decode cL_acts 262 = .ok (.istore 11, 2) := by decide +kernel
theorem dL_acts_264 : decode cL_acts 264 = .ok (.aload_n 0, 1) := by decide +kernel
theorem dL_acts_265 : decode cL_acts 265 = .ok (.iload 5, 2) := by decide +kernel
theorem dL_acts_267 : decode cL_acts 267 = .ok (.invokevirtual 89, 3) := by decide +kernel
theorem dL_acts_270 : decode cL_acts 270 = .ok (.iload 6, 2) := by decide +kernel
theorem dL_acts_272 : decode cL_acts 272 = .ok (.ifCond .eq 8, 3) := by decide +kernel
theorem dL_acts_275 : decode cL_acts 275 = .ok (.ldc 58, 2) := by decide +kernel
theorem dL_acts_277 : decode cL_acts 277 = .ok (.goto 15, 3) := by decide +kernel
theorem dL_acts_280 : decode cL_acts 280 = .ok (.iload 7, 2) := by decide +kernel
theorem dL_acts_282 : decode cL_acts 282 = .ok (.ifCond .eq 8, 3) := by decide +kernel
theorem dL_acts_285 : decode cL_acts 285 = .ok (.ldc 59, 2) := by decide +kernel
theorem dL_acts_287 : decode cL_acts 287 = .ok (.goto 5, 3) := by decide +kernel
theorem dL_acts_290 : decode cL_acts 290 = .ok (.iload 8, 2) := by decide +kernel
theorem dL_acts_292 : decode cL_acts 292 = .ok (.if_icmp .ne 87, 3) := by decide +kernel
theorem dL_acts_295 : decode cL_acts 295 = .ok (.aload_n 0, 1) := by decide +kernel
theorem dL_acts_296 : decode cL_acts 296 = .ok (.bipush 11, 2) := by decide +kernel
theorem dL_acts_298 : decode cL_acts 298 = .ok (.invokevirtual 13, 3) := by decide +kernel
theorem dL_acts_301 : decode cL_acts 301 = .ok (.iload 10, 2) := by decide +kernel
theorem dL_acts_303 : decode cL_acts 303 = .ok (.iload 8, 2) := by decide +kernel
theorem dL_acts_305 : decode cL_acts 305 = .ok (.iadd, 1) := by decide +kernel
theorem dL_acts_306 : decode cL_acts 306 = .ok (.if_icmp .ne 73, 3) := by decide +kernel
theorem dL_acts_309 : decode cL_acts 309 = .ok (.aload_n 0, 1) := by decide +kernel
theorem dL_acts_310 : decode cL_acts 310 = .ok (.bipush 12, 2) := by decide +kernel
theorem dL_acts_312 : decode cL_acts 312 = .ok (.invokevirtual 13, 3) := by decide +kernel
theorem dL_acts_315 : decode cL_acts 315 = .ok (.iload 11, 2) := by decide +kernel
theorem dL_acts_317 : decode cL_acts 317 = .ok (.iload 9, 2) := by decide +kernel
theorem dL_acts_319 : decode cL_acts 319 = .ok (.iadd, 1) := by decide +kernel
theorem dL_acts_320 : decode cL_acts 320 = .ok (.if_icmp .ne 59, 3) := by decide +kernel
theorem dL_acts_323 : decode cL_acts 323 = .ok (.iload 6, 2) := by decide +kernel
theorem dL_acts_325 : decode cL_acts 325 = .ok (.ifCond .ne 50, 3) := by decide +kernel
theorem dL_acts_328 : decode cL_acts 328 = .ok (.iload 7, 2) := by decide +kernel
theorem dL_acts_330 : decode cL_acts 330 = .ok (.ifCond .ne 45, 3) := by decide +kernel
theorem dL_acts_333 : decode cL_acts 333 = .ok (.aload_n 0, 1) := by decide +kernel
theorem dL_acts_334 : decode cL_acts 334 = .ok (.iload 5, 2) := by decide +kernel
theorem dL_acts_336 : decode cL_acts 336 = .ok (.iconst 1, 1) := by decide +kernel
theorem dL_acts_337 : decode cL_acts 337 = .ok (.invokevirtual 19, 3) := by decide +kernel
theorem dL_acts_340 : decode cL_acts 340 = .ok (.iconst 1, 1) := by decide +kernel
theorem dL_acts_341 : decode cL_acts 341 = .ok (.if_icmp .ne 38, 3) := by decide +kernel
theorem dL_acts_344 : decode cL_acts 344 = .ok (.aload_n 0, 1) := by decide +kernel
theorem dL_acts_345 : decode cL_acts 345 = .ok (.iload 5, 2) := by decide +kernel
theorem dL_acts_347 : decode cL_acts 347 = .ok (.bipush 6, 2) := by decide +kernel
theorem dL_acts_349 : decode cL_acts 349 = .ok (.invokevirtual 19, 3) := by decide +kernel
theorem dL_acts_352 : decode cL_acts 352 = .ok (.iload 9, 2) := by decide +kernel
theorem dL_acts_354 : decode cL_acts 354 = .ok (.if_icmp .ne 25, 3) := by decide +kernel
theorem dL_acts_357 : decode cL_acts 357 = .ok (.aload_n 0, 1) := by decide +kernel
theorem dL_acts_358 : decode cL_acts 358 = .ok (.iload 5, 2) := by decide +kernel
theorem dL_acts_360 : decode cL_acts 360 = .ok (.iconst 5, 1) := by decide +kernel
theorem dL_acts_361 : decode cL_acts 361 = .ok (.invokevirtual 19, 3) := by decide +kernel
theorem dL_acts_364 : decode cL_acts 364 = .ok (.bipush 8, 2) := by decide +kernel
theorem dL_acts_366 : decode cL_acts 366 = .ok (.iload 8, 2) := by decide +kernel
theorem dL_acts_368 : decode cL_acts 368 = .ok (.isub, 1) := by decide +kernel
theorem dL_acts_369 : decode cL_acts 369 = .ok (.iload 9, 2) := by decide +kernel
theorem dL_acts_371 : decode cL_acts 371 = .ok (.isub, 1) := by decide +kernel
theorem dL_acts_372 : decode cL_acts 372 = .ok (.if_icmp .ne 7, 3) := by decide +kernel
theorem dL_acts_375 : decode cL_acts 375 = .ok (.iconst 1, 1) := by decide +kernel
theorem dL_acts_376 : decode cL_acts 376 = .ok (.goto 4, 3) := by decide +kernel
theorem dL_acts_379 : decode cL_acts 379 = .ok (.iconst 0, 1) := by decide +kernel
theorem dL_acts_380 : decode cL_acts 380 = .ok (.ireturn, 1) := by decide +kernel
theorem dL_acts_381 : decode cL_acts 381 = .ok (.iload_n 3, 1) := by decide +kernel
theorem dL_acts_382 : decode cL_acts 382 = .ok (.bipush 15, 2) := by decide +kernel
theorem dL_acts_384 : decode cL_acts 384 = .ok (.if_icmp .ge 193, 3) := by decide +kernel
theorem dL_acts_387 : decode cL_acts 387 = .ok (.iload_n 2, 1) := by decide +kernel
theorem dL_acts_388 : decode cL_acts 388 = .ok (.iconst 4, 1) := by decide +kernel
theorem dL_acts_389 : decode cL_acts 389 = .ok (.ishr, 1) := by decide +kernel
theorem dL_acts_390 : decode cL_acts 390 = .ok (.iload 4, 2) := by decide +kernel
theorem dL_acts_392 : decode cL_acts 392 = .ok (.invokestatic 46, 3) := by decide +kernel
theorem dL_acts_395 : decode cL_acts 395 = .ok (.istore 8, 2) := by decide +kernel
theorem dL_acts_397 : decode cL_acts 397 = .ok (.iload 7, 2) := by decide +kernel
theorem dL_acts_399 : decode cL_acts 399 = .ok (.ifCond .eq 25, 3) := by decide +kernel
theorem dL_acts_402 : decode cL_acts 402 = .ok (.iload 8, 2) := by decide +kernel
theorem dL_acts_404 : decode cL_acts 404 = .ok (.iload 5, 2) := by decide +kernel
theorem dL_acts_406 : decode cL_acts 406 = .ok (.if_icmp .eq 18, 3) := by decide +kernel
theorem dL_acts_409 : decode cL_acts 409 = .ok (.aload_n 0, 1) := by decide +kernel
theorem dL_acts_410 : decode cL_acts 410 = .ok (.iload 8, 2) := by decide +kernel
theorem dL_acts_412 : decode cL_acts 412 = .ok (.iconst 1, 1) := by decide +kernel
theorem dL_acts_413 : decode cL_acts 413 = .ok (.invokevirtual 19, 3) := by decide +kernel
theorem dL_acts_416 : decode cL_acts 416 = .ok (.iconst 1, 1) := by decide +kernel
theorem dL_acts_417 : decode cL_acts 417 = .ok (.if_icmp .ne 7, 3) := by decide +kernel
theorem dL_acts_420 : decode cL_acts 420 = .ok (.iconst 1, 1) := by decide +kernel
theorem dL_acts_421 : decode cL_acts 421 = .ok (.goto 4, 3) := by decide +kernel
theorem dL_acts_424 : decode cL_acts 424 = .ok (.iconst 0, 1) := by decide +kernel
theorem dL_acts_425 : decode cL_acts 425 = .ok (.istore 9, 2) := by decide +kernel
theorem dL_acts_427 : decode cL_acts 427 = .ok (.iload 6, 2) := by decide +kernel
theorem dL_acts_429 : decode cL_acts 429 = .ok (.ifCond .eq 7, 3) := by decide +kernel
theorem dL_acts_432 : decode cL_acts 432 = .ok (.iconst 0, 1) := by decide +kernel
theorem dL_acts_433 : decode cL_acts 433 = .ok (.goto 10, 3) := by decide +kernel
theorem dL_acts_436 : decode cL_acts 436 = .ok (.aload_n 0, 1) := by decide +kernel
theorem dL_acts_437 : decode cL_acts 437 = .ok (.iload 5, 2) := by decide +kernel
theorem dL_acts_439 : decode cL_acts 439 = .ok (.iconst 0, 1) := by decide +kernel
theorem dL_acts_440 : decode cL_acts 440 = .ok (.invokevirtual 19, 3) := by decide +kernel
theorem dL_acts_443 : decode cL_acts 443 = .ok (.istore 10, 2) := by decide +kernel
theorem dL_acts_445 : decode cL_acts 445 = .ok (.aload_n 0, 1) := by decide +kernel
theorem dL_acts_446 : decode cL_acts 446 = .ok (.iload 8, 2) := by decide +kernel
theorem dL_acts_448 : decode cL_acts 448 = .ok (.iconst 0, 1) := by decide +kernel
theorem dL_acts_449 : decode cL_acts 449 = .ok (.invokevirtual 19, 3) := by decide +kernel
theorem dL_acts_452 : decode cL_acts 452 = .ok (.istore 11, 2) := by decide +kernel
theorem dL_acts_454 : decode cL_acts 454 = .ok (.iload 10, 2) := by decide +kernel
theorem dL_acts_456 : decode cL_acts 456 = .ok (.iload 11, 2) := by decide +kernel
theorem dL_acts_458 : decode cL_acts 458 = .ok (.if_icmp .le 11, 3) := by decide +kernel
theorem dL_acts_461 : decode cL_acts 461 = .ok (.iload 10, 2) := by decide +kernel
theorem dL_acts_463 : decode cL_acts 463 = .ok (.iload 11, 2) := by decide +kernel
theorem dL_acts_465 : decode cL_acts 465 = .ok (.isub, 1) := by decide +kernel
theorem dL_acts_466 : decode cL_acts 466 = .ok (.goto 8, 3) := by decide +kernel
theorem dL_acts_469 : decode cL_acts 469 = .ok (.iload 11, 2) := by decide +kernel
theorem dL_acts_471 : decode cL_acts 471 = .ok (.iload 10, 2) := by decide +kernel
theorem dL_acts_473 : decode cL_acts 473 = .ok (.isub, 1) := by decide +kernel
theorem dL_acts_474 : decode cL_acts 474 = .ok (.istore 12, 2) := by decide +kernel
theorem dL_acts_476 : decode cL_acts 476 = .ok (.aload_n 0, 1) := by decide +kernel
theorem dL_acts_477 : decode cL_acts 477 = .ok (.iload 5, 2) := by decide +kernel
theorem dL_acts_479 : decode cL_acts 479 = .ok (.iload 8, 2) := by decide +kernel
theorem dL_acts_481 : decode cL_acts 481 = .ok (.invokevirtual 92, 3) := by decide +kernel
theorem dL_acts_484 : decode cL_acts 484 = .ok (.istore 13, 2) := by decide +kernel
theorem dL_acts_486 : decode cL_acts 486 = .ok (.iload 9, 2) := by decide +kernel
theorem dL_acts_488 : decode cL_acts 488 = .ok (.ifCond .eq 59, 3) := by decide +kernel
theorem dL_acts_491 : decode cL_acts 491 = .ok (.iload 13, 2) := by decide +kernel
theorem dL_acts_493 : decode cL_acts 493 = .ok (.iconst 2, 1) := by decide +kernel
theorem dL_acts_494 : decode cL_acts 494 = .ok (.iload 12, 2) := by decide +kernel
theorem dL_acts_496 : decode cL_acts 496 = .ok (.imul, 1) := by decide +kernel
theorem dL_acts_497 : decode cL_acts 497 = .ok (.iload 4, 2) := by decide +kernel
theorem dL_acts_499 : decode cL_acts 499 = .ok (.if_icmp .le 11, 3) := by decide +kernel
theorem dL_acts_502 : decode cL_acts 502 = .ok (.iload 4, 2) := by decide +kernel
theorem dL_acts_504 : decode cL_acts 504 = .ok (.iload 12, 2) := by decide +kernel
theorem dL_acts_506 : decode cL_acts 506 = .ok (.isub, 1) := by decide +kernel
theorem dL_acts_507 : decode cL_acts 507 = .ok (.goto 5, 3) := by decide +kernel
theorem dL_acts_510 : decode cL_acts 510 = .ok (.iload 12, 2) := by decide +kernel
theorem dL_acts_512 : decode cL_acts 512 = .ok (.if_icmp .ne 31, 3) := by decide +kernel
theorem dL_acts_515 : decode cL_acts 515 = .ok (.aload_n 0, 1) := by decide +kernel
theorem dL_acts_516 : decode cL_acts 516 = .ok (.iload 5, 2) := by decide +kernel
theorem dL_acts_518 : decode cL_acts 518 = .ok (.iconst 0, 1) := by decide +kernel
theorem dL_acts_519 : decode cL_acts 519 = .ok (.invokevirtual 19, 3) := by decide +kernel
theorem dL_acts_522 : decode cL_acts 522 = .ok (.iload 11, 2) := by decide +kernel
theorem dL_acts_524 : decode cL_acts 524 = .ok (.if_icmp .ne 19, 3) := by decide +kernel
theorem dL_acts_527 : decode cL_acts 527 = .ok (.aload_n 0, 1) := by decide +kernel
theorem dL_acts_528 : decode cL_acts 528 = .ok (.iload 8, 2) := by decide +kernel
theorem dL_acts_530 : decode cL_acts 530 = .ok (.iconst 0, 1) := by decide +kernel
theorem dL_acts_531 : decode cL_acts 531 = .ok (.invokevirtual 19, 3) := by decide +kernel
theorem dL_acts_534 : decode cL_acts 534 = .ok (.iload 10, 2) := by decide +kernel
theorem dL_acts_536 : decode cL_acts 536 = .ok (.if_icmp .ne 7, 3) := by decide +kernel
theorem dL_acts_539 : decode cL_acts 539 = .ok (.iconst 1, 1) := by decide +kernel
theorem dL_acts_540 : decode cL_acts 540 = .ok (.goto 36, 3) := by decide +kernel
theorem dL_acts_543 : decode cL_acts 543 = .ok (.iconst 0, 1) := by decide +kernel
theorem dL_acts_544 : decode cL_acts 544 = .ok (.goto 32, 3) := by decide +kernel
theorem dL_acts_547 : decode cL_acts 547 = .ok (.iload 13, 2) := by decide +kernel
theorem dL_acts_549 : decode cL_acts 549 = .ok (.iload 6, 2) := by decide +kernel
theorem dL_acts_551 : decode cL_acts 551 = .ok (.ifCond .ne 10, 3) := by decide +kernel
theorem dL_acts_554 : decode cL_acts 554 = .ok (.iload 5, 2) := by decide +kernel
theorem dL_acts_556 : decode cL_acts 556 = .ok (.iload 8, 2) := by decide +kernel
theorem dL_acts_558 : decode cL_acts 558 = .ok (.if_icmp .ne 8, 3) := by decide +kernel
theorem dL_acts_561 : decode cL_acts 561 = .ok (.ldc 58, 2) := by decide +kernel
theorem dL_acts_563 : decode cL_acts 563 = .ok (.goto 5, 3) := by decide +kernel
theorem dL_acts_566 : decode cL_acts 566 = .ok (.ldc 59, 2) := by decide +kernel
theorem dL_acts_568 : decode cL_acts 568 = .ok (.if_icmp .ne 7, 3) := by decide +kernel
theorem dL_acts_571 : decode cL_acts 571 = .ok (.iconst 1, 1) := by decide +kernel
theorem dL_acts_572 : decode cL_acts 572 = .ok (.goto 4, 3) := by decide +kernel
theorem dL_acts_575 : decode cL_acts 575 = .ok (.iconst 0, 1) := by decide +kernel
theorem dL_acts_576 : decode cL_acts 576 = .ok (.ireturn, 1) := by decide +kernel
theorem dL_acts_577 : decode cL_acts 577 = .ok (.iload_n 3, 1) := by decide +kernel
theorem dL_acts_578 : decode cL_acts 578 = .ok (.bipush 15, 2) := by decide +kernel
theorem dL_acts_580 : decode cL_acts 580 = .ok (.if_icmp .ne 89, 3) := by decide +kernel
theorem dL_acts_583 : decode cL_acts 583 = .ok (.aload_n 0, 1) := by decide +kernel
theorem dL_acts_584 : decode cL_acts 584 = .ok (.bipush 13, 2) := by decide +kernel
theorem dL_acts_586 : decode cL_acts 586 = .ok (.invokevirtual 13, 3) := by decide +kernel
theorem dL_acts_589 : decode cL_acts 589 = .ok (.istore 8, 2) := by decide +kernel
theorem dL_acts_591 : decode cL_acts 591 = .ok (.aload_n 0, 1) := by decide +kernel
theorem dL_acts_592 : decode cL_acts 592 = .ok (.iload 5, 2) := by decide +kernel
theorem dL_acts_594 : decode cL_acts 594 = .ok (.invokevirtual 95, 3) := by decide +kernel
theorem dL_acts_597 : decode cL_acts 597 = .ok (.istore 9, 2) := by decide +kernel
theorem dL_acts_599 : decode cL_acts 599 = .ok (.iload 7, 2) := by decide +kernel
theorem dL_acts_601 : decode cL_acts 601 = .ok (.ifCond .eq 45, 3) := by decide +kernel
theorem dL_acts_604 : decode cL_acts 604 = .ok (.iload 9, 2) := by decide +kernel
theorem dL_acts_606 : decode cL_acts 606 = .ok (.ifCond .lt 36, 3) := by decide +kernel
theorem dL_acts_609 : decode cL_acts 609 = .ok (.iload 9, 2) := by decide +kernel
theorem dL_acts_611 : decode cL_acts 611 = .ok (.bipush 8, 2) := by decide +kernel
theorem dL_acts_613 : decode cL_acts 613 = .ok (.aload_n 0, 1) := by decide +kernel
theorem dL_acts_614 : decode cL_acts 614 = .ok (.iload 5, 2) := by decide +kernel
theorem dL_acts_616 : decode cL_acts 616 = .ok (.iconst 5, 1) := by decide +kernel
theorem dL_acts_617 : decode cL_acts 617 = .ok (.invokevirtual 19, 3) := by decide +kernel
theorem dL_acts_620 : decode cL_acts 620 = .ok (.isub, 1) := by decide +kernel
theorem dL_acts_621 : decode cL_acts 621 = .ok (.if_icmp .gt 21, 3) := by decide +kernel
theorem dL_acts_624 : decode cL_acts 624 = .ok (.aload_n 0, 1) := by decide +kernel
theorem dL_acts_625 : decode cL_acts 625 = .ok (.bipush 13, 2) := by decide +kernel
theorem dL_acts_627 : decode cL_acts 627 = .ok (.invokevirtual 13, 3) := by decide +kernel
theorem dL_acts_630 : decode cL_acts 630 = .ok (.iload 8, 2) := by decide +kernel
theorem dL_acts_632 : decode cL_acts 632 = .ok (.iload 9, 2) := by decide +kernel
theorem dL_acts_634 : decode cL_acts 634 = .ok (.iadd, 1) := by decide +kernel
theorem dL_acts_635 : decode cL_acts 635 = .ok (.if_icmp .ne 7, 3) := by decide +kernel
theorem dL_acts_638 : decode cL_acts 638 = .ok (.iconst 1, 1) := by decide +kernel
theorem dL_acts_639 : decode cL_acts 639 = .ok (.goto 29, 3) := by decide +kernel
theorem dL_acts_642 : decode cL_acts 642 = .ok (.iconst 0, 1) := by decide +kernel
theorem dL_acts_643 : decode cL_acts 643 = .ok (.goto 25, 3) := by decide +kernel
theorem dL_acts_646 : decode cL_acts 646 = .ok (.iload 9, 2) := by decide +kernel
theorem dL_acts_648 : decode cL_acts 648 = .ok (.iload 6, 2) := by decide +kernel
theorem dL_acts_650 : decode cL_acts 650 = .ok (.ifCond .eq 8, 3) := by decide +kernel
theorem dL_acts_653 : decode cL_acts 653 = .ok (.ldc 58, 2) := by decide +kernel
theorem dL_acts_655 : decode cL_acts 655 = .ok (.goto 5, 3) := by decide +kernel
theorem dL_acts_658 : decode cL_acts 658 = .ok (.ldc 59, 2) := by decide +kernel
theorem dL_acts_660 : decode cL_acts 660 = .ok (.if_icmp .ne 7, 3) := by decide +kernel
theorem dL_acts_663 : decode cL_acts 663 = .ok (.iconst 1, 1) := by decide +kernel
theorem dL_acts_664 : decode cL_acts 664 = .ok (.goto 4, 3) := by decide +kernel
theorem dL_acts_667 : decode cL_acts 667 = .ok (.iconst 0, 1) := by decide +kernel
theorem dL_acts_668 : decode cL_acts 668 = .ok (.ireturn, 1) := by decide +kernel
theorem dL_acts_669 : decode cL_acts 669 = .ok (.iload_n 3, 1) := by decide +kernel
theorem dL_acts_670 : decode cL_acts 670 = .ok (.bipush 19, 2) := by decide +kernel
theorem dL_acts_672 : decode cL_acts 672 = .ok (.if_icmp .ge 138, 3) := by decide +kernel
theorem dL_acts_675 : decode cL_acts 675 = .ok (.iload_n 2, 1) := by decide +kernel
theorem dL_acts_676 : decode cL_acts 676 = .ok (.iload_n 2, 1) := by decide +kernel
theorem dL_acts_677 : decode cL_acts 677 = .ok (.bipush 8, 2) := by decide +kernel
theorem dL_acts_679 : decode cL_acts 679 = .ok (.ishr, 1) := by decide +kernel
theorem dL_acts_680 : decode cL_acts 680 = .ok (.iconst 5, 1) := by decide +kernel
theorem dL_acts_681 : decode cL_acts 681 = .ok (.invokestatic 46, 3) := by decide +kernel
theorem dL_acts_684 : decode cL_acts 684 = .ok (.ifCond .ne 8, 3) := by decide +kernel
theorem dL_acts_687 : decode cL_acts 687 = .ok (.bipush 101, 2) := by decide +kernel
theorem dL_acts_689 : decode cL_acts 689 = .ok (.goto 5, 3) := by decide +kernel
theorem dL_acts_692 : decode cL_acts 692 = .ok (.bipush 9, 2) := by decide +kernel
theorem dL_acts_694 : decode cL_acts 694 = .ok (.invokestatic 46, 3) := by decide +kernel
theorem dL_acts_697 : decode cL_acts 697 = .ok (.istore 8, 2) := by decide +kernel
theorem dL_acts_699 : decode cL_acts 699 = .ok (.iload 8, 2) := by decide +kernel
theorem dL_acts_701 : decode cL_acts 701 = .ok (.ifCond .eq 10, 3) := by decide +kernel
theorem dL_acts_704 : decode cL_acts 704 = .ok (.iload 8, 2) := by decide +kernel
theorem dL_acts_706 : decode cL_acts 706 = .ok (.bipush 100, 2) := by decide +kernel
theorem dL_acts_708 : decode cL_acts 708 = .ok (.if_icmp .ne 7, 3) := by decide +kernel
theorem dL_acts_711 : decode cL_acts 711 = .ok (.iconst 1, 1) := by decide +kernel
theorem dL_acts_712 : decode cL_acts 712 = .ok (.goto 4, 3) := by decide +kernel
theorem dL_acts_715 : decode cL_acts 715 = .ok (.iconst 0, 1) := by decide +kernel
theorem dL_acts_716 : decode cL_acts 716 = .ok (.istore 9, 2) := by decide +kernel
theorem dL_acts_718 : decode cL_acts 718 = .ok (.aload_n 0, 1) := by decide +kernel
theorem dL_acts_719 : decode cL_acts 719 = .ok (.iconst 1, 1) := by decide +kernel
theorem dL_acts_720 : decode cL_acts 720 = .ok (.invokevirtual 13, 3) := by decide +kernel
theorem dL_acts_723 : decode cL_acts 723 = .ok (.istore 10, 2) := by decide +kernel
theorem dL_acts_725 : decode cL_acts 725 = .ok (.iload 10, 2) := by decide +kernel
theorem dL_acts_727 : decode cL_acts 727 = .ok (.iload 8, 2) := by decide +kernel
theorem dL_acts_729 : decode cL_acts 729 = .ok (.iadd, 1) := by decide +kernel
theorem dL_acts_730 : decode cL_acts 730 = .ok (.sipush 9999, 3) := by decide +kernel
theorem dL_acts_733 : decode cL_acts 733 = .ok (.if_icmp .le 7, 3) := by decide +kernel
theorem dL_acts_736 : decode cL_acts 736 = .ok (.iconst 1, 1) := by decide +kernel
theorem dL_acts_737 : decode cL_acts 737 = .ok (.goto 4, 3) := by decide +kernel
theorem dL_acts_740 : decode cL_acts 740 = .ok (.iconst 0, 1) := by decide +kernel
theorem dL_acts_741 : decode cL_acts 741 = .ok (.istore 11, 2) := by decide +kernel
theorem dL_acts_743 : decode cL_acts 743 = .ok (.aload_n 0, 1) := by decide +kernel
theorem dL_acts_744 : decode cL_acts 744 = .ok (.iload 8, 2) := by decide +kernel
theorem dL_acts_746 : decode cL_acts 746 = .ok (.invokevirtual 98, 3) := by decide +kernel
theorem dL_acts_749 : decode cL_acts 749 = .ok (.iload 9, 2) := by decide +kernel
theorem dL_acts_751 : decode cL_acts 751 = .ok (.ifCond .eq 8, 3) := by decide +kernel
theorem dL_acts_754 : decode cL_acts 754 = .ok (.ldc 58, 2) := by decide +kernel
theorem dL_acts_756 : decode cL_acts 756 = .ok (.goto 18, 3) := by decide +kernel
theorem dL_acts_759 : decode cL_acts 759 = .ok (.iload 11, 2) := by decide +kernel
theorem dL_acts_761 : decode cL_acts 761 = .ok (.ifCond .eq 8, 3) := by decide +kernel
theorem dL_acts_764 : decode cL_acts 764 = .ok (.ldc 60, 2) := by decide +kernel
theorem dL_acts_766 : decode cL_acts 766 = .ok (.goto 8, 3) := by decide +kernel
theorem dL_acts_769 : decode cL_acts 769 = .ok (.iload 10, 2) := by decide +kernel
theorem dL_acts_771 : decode cL_acts 771 = .ok (.iload 8, 2) := by decide +kernel
theorem dL_acts_773 : decode cL_acts 773 = .ok (.iadd, 1) := by decide +kernel
theorem dL_acts_774 : decode cL_acts 774 = .ok (.if_icmp .ne 34, 3) := by decide +kernel
theorem dL_acts_777 : decode cL_acts 777 = .ok (.aload_n 0, 1) := by decide +kernel
theorem dL_acts_778 : decode cL_acts 778 = .ok (.iconst 1, 1) := by decide +kernel
theorem dL_acts_779 : decode cL_acts 779 = .ok (.invokevirtual 13, 3) := by decide +kernel
theorem dL_acts_782 : decode cL_acts 782 = .ok (.iload 10, 2) := by decide +kernel
theorem dL_acts_784 : decode cL_acts 784 = .ok (.iload 9, 2) := by decide +kernel
theorem dL_acts_786 : decode cL_acts 786 = .ok (.ifCond .ne 8, 3) := by decide +kernel
theorem dL_acts_789 : decode cL_acts 789 = .ok (.iload 11, 2) := by decide +kernel
theorem dL_acts_791 : decode cL_acts 791 = .ok (.ifCond .eq 7, 3) := by decide +kernel
theorem dL_acts_794 : decode cL_acts 794 = .ok (.iconst 0, 1) := by decide +kernel
theorem dL_acts_795 : decode cL_acts 795 = .ok (.goto 5, 3) := by decide +kernel
theorem dL_acts_798 : decode cL_acts 798 = .ok (.iload 8, 2) := by decide +kernel
theorem dL_acts_800 : decode cL_acts 800 = .ok (.iadd, 1) := by decide +kernel
theorem dL_acts_801 : decode cL_acts 801 = .ok (.if_icmp .ne 7, 3) := by decide +kernel
theorem dL_acts_804 : decode cL_acts 804 = .ok (.iconst 1, 1) := by decide +kernel
theorem dL_acts_805 : decode cL_acts 805 = .ok (.goto 4, 3) := by decide +kernel
theorem dL_acts_808 : decode cL_acts 808 = .ok (.iconst 0, 1) := by decide +kernel
theorem dL_acts_809 : decode cL_acts 809 = .ok (.ireturn, 1) := by decide +kernel
theorem dL_acts_810 : decode cL_acts 810 = .ok (.iload_n 3, 1) := by decide +kernel
theorem dL_acts_811 : decode cL_acts 811 = .ok (.bipush 21, 2) := by decide +kernel
theorem dL_acts_813 : decode cL_acts 813 = .ok (.if_icmp .ge 138, 3) := by decide +kernel
theorem dL_acts_816 : decode cL_acts 816 = .ok (.iload_n 2, 1) := by decide +kernel
theorem dL_acts_817 : decode cL_acts 817 = .ok (.iconst 3, 1) := by decide +kernel
theorem dL_acts_818 : decode cL_acts 818 = .ok (.invokestatic 46, 3) := by decide +kernel
theorem dL_acts_821 : decode cL_acts 821 = .ok (.istore 8, 2) := by decide +kernel
theorem dL_acts_823 : decode cL_acts 823 = .ok (.iload_n 2, 1) := by decide +kernel
theorem dL_acts_824 : decode cL_acts 824 = .ok (.iconst 2, 1) := by decide +kernel
theorem dL_acts_825 : decode cL_acts 825 = .ok (.ishr, 1) := by decide +kernel
theorem dL_acts_826 : decode cL_acts 826 = .ok (.iload 8, 2) := by decide +kernel
theorem dL_acts_828 : decode cL_acts 828 = .ok (.ifCond .ne 8, 3) := by decide +kernel
theorem dL_acts_831 : decode cL_acts 831 = .ok (.bipush 18, 2) := by decide +kernel
theorem dL_acts_833 : decode cL_acts 833 = .ok (.goto 5, 3) := by decide +kernel
theorem dL_acts_836 : decode cL_acts 836 = .ok (.bipush 101, 2) := by decide +kernel
theorem dL_acts_838 : decode cL_acts 838 = .ok (.invokestatic 46, 3) := by decide +kernel
theorem dL_acts_841 : decode cL_acts 841 = .ok (.istore 9, 2) := by decide +kernel
theorem dL_acts_843 : decode cL_acts 843 = .ok (.iload 8, 2) := by decide +kernel
theorem dL_acts_845 : decode cL_acts 845 = .ok (.iconst 2, 1) := by decide +kernel
theorem dL_acts_846 : decode cL_acts 846 = .ok (.if_icmp .eq 30, 3) := by decide +kernel
theorem dL_acts_849 : decode cL_acts 849 = .ok (.iload 9, 2) := by decide +kernel
theorem dL_acts_851 : decode cL_acts 851 = .ok (.ifCond .eq 25, 3) := by decide +kernel
theorem dL_acts_854 : decode cL_acts 854 = .ok (.iload 8, 2) := by decide +kernel
theorem dL_acts_856 : decode cL_acts 856 = .ok (.ifCond .ne 13, 3) := by decide +kernel
theorem dL_acts_859 : decode cL_acts 859 = .ok (.iload 9, 2) := by decide +kernel
theorem dL_acts_861 : decode cL_acts 861 = .ok (.bipush 17, 2) := by decide +kernel
theorem dL_acts_863 : decode cL_acts 863 = .ok (.if_icmp .ne 17, 3) := by decide +kernel
theorem dL_acts_866 : decode cL_acts 866 = .ok (.goto 10, 3) := by decide +kernel
theorem dL_acts_869 : decode cL_acts 869 = .ok (.iload 9, 2) := by decide +kernel
theorem dL_acts_871 : decode cL_acts 871 = .ok (.bipush 100, 2) := by decide +kernel
theorem dL_acts_873 : decode cL_acts 873 = .ok (.if_icmp .ne 7, 3) := by decide +kernel
theorem dL_acts_876 : decode cL_acts 876 = .ok (.iconst 1, 1) := by decide +kernel
theorem dL_acts_877 : decode cL_acts 877 = .ok (.goto 4, 3) := by decide +kernel
theorem dL_acts_880 : decode cL_acts 880 = .ok (.iconst 0, 1) := by decide +kernel
theorem dL_acts_881 : decode cL_acts 881 = .ok (.istore 10, 2) := by decide +kernel
theorem dL_acts_883 : decode cL_acts 883 = .ok (.iload 10, 2) := by decide +kernel
theorem dL_acts_885 : decode cL_acts 885 = .ok (.ifCond .eq 7, 3) := by decide +kernel
theorem dL_acts_888 : decode cL_acts 888 = .ok (.iconst 0, 1) := by decide +kernel
theorem dL_acts_889 : decode cL_acts 889 = .ok (.goto 12, 3) := by decide +kernel
theorem dL_acts_892 : decode cL_acts 892 = .ok (.aload_n 0, 1) := by decide +kernel
theorem dL_acts_893 : decode cL_acts 893 = .ok (.bipush 20, 2) := by decide +kernel
theorem dL_acts_895 : decode cL_acts 895 = .ok (.iload 8, 2) := by decide +kernel
theorem dL_acts_897 : decode cL_acts 897 = .ok (.iadd, 1) := by decide +kernel
theorem dL_acts_898 : decode cL_acts 898 = .ok (.invokevirtual 13, 3) := by decide +kernel
theorem dL_acts_901 : decode cL_acts 901 = .ok (.istore 11, 2) := by decide +kernel
theorem dL_acts_903 : decode cL_acts 903 = .ok (.aload_n 0, 1) := by decide +kernel
theorem dL_acts_904 : decode cL_acts 904 = .ok (.iload 8, 2) := by decide +kernel
theorem dL_acts_906 : decode cL_acts 906 = .ok (.iload 9, 2) := by decide +kernel
theorem dL_acts_908 : decode cL_acts 908 = .ok (.invokevirtual 101, 3) := by decide +kernel
theorem dL_acts_911 : decode cL_acts 911 = .ok (.iload 10, 2) := by decide +kernel
theorem dL_acts_913 : decode cL_acts 913 = .ok (.ifCond .eq 8, 3) := by decide +kernel
theorem dL_acts_916 : decode cL_acts 916 = .ok (.ldc 58, 2) := by decide +kernel
theorem dL_acts_918 : decode cL_acts 918 = .ok (.goto 5, 3) := by decide +kernel
theorem dL_acts_921 : decode cL_acts 921 = .ok (.iload 11, 2) := by decide +kernel
theorem dL_acts_923 : decode cL_acts 923 = .ok (.if_icmp .ne 26, 3) := by decide +kernel
theorem dL_acts_926 : decode cL_acts 926 = .ok (.iload 10, 2) := by decide +kernel
theorem dL_acts_928 : decode cL_acts 928 = .ok (.ifCond .ne 17, 3) := by decide +kernel
theorem dL_acts_931 : decode cL_acts 931 = .ok (.aload_n 0, 1) := by decide +kernel
theorem dL_acts_932 : decode cL_acts 932 = .ok (.bipush 20, 2) := by decide +kernel
theorem dL_acts_934 : decode cL_acts 934 = .ok (.iload 8, 2) := by decide +kernel
theorem dL_acts_936 : decode cL_acts 936 = .ok (.iadd, 1) := by decide +kernel
theorem dL_acts_937 : decode cL_acts 937 = .ok (.invokevirtual 13, 3) := by decide +kernel
theorem dL_acts_940 : decode cL_acts 940 = .ok (.iload 9, 2) := by decide +kernel
theorem dL_acts_942 : decode cL_acts 942 = .ok (.if_icmp .ne 7, 3) := by decide +kernel
theorem dL_acts_945 : decode cL_acts 945 = .ok (.iconst 1, 1) := by decide +kernel
theorem dL_acts_946 : decode cL_acts 946 = .ok (.goto 4, 3) := by decide +kernel
theorem dL_acts_949 : decode cL_acts 949 = .ok (.iconst 0, 1) := by decide +kernel
theorem dL_acts_950 : decode cL_acts 950 = .ok (.ireturn, 1) := by decide +kernel
theorem dL_acts_951 : decode cL_acts 951 = .ok (.iload_n 3, 1) := by decide +kernel
theorem dL_acts_952 : decode cL_acts 952 = .ok (.bipush 21, 2) := by decide +kernel
theorem dL_acts_954 : decode cL_acts 954 = .ok (.if_icmp .ne 143, 3) := by decide +kernel
theorem dL_acts_957 : decode cL_acts 957 = .ok (.iload_n 2, 1) := by decide +kernel
theorem dL_acts_958 : decode cL_acts 958 = .ok (.iconst 4, 1) := by decide +kernel
theorem dL_acts_959 : decode cL_acts 959 = .ok (.invokestatic 46, 3) := by decide +kernel
theorem dL_acts_962 : decode cL_acts 962 = .ok (.ifCond .ne 135, 3) := by decide +kernel
theorem dL_acts_965 : decode cL_acts 965 = .ok (.iconst 2, 1) := by decide +kernel
theorem dL_acts_966 : decode cL_acts 966 = .ok (.iload_n 2, 1) := by decide +kernel
theorem dL_acts_967 : decode cL_acts 967 = .ok (.iconst 2, 1) := by decide +kernel
theorem dL_acts_968 : decode cL_acts 968 = .ok (.ishr, 1) := by decide +kernel
theorem dL_acts_969 : decode cL_acts 969 = .ok (.bipush 9, 2) := by decide +kernel
theorem dL_acts_971 : decode cL_acts 971 = .ok (.invokestatic 46, 3) := by decide +kernel
theorem dL_acts_974 : decode cL_acts 974 = .ok (.iadd, 1) := by decide +kernel
theorem dL_acts_975 : decode cL_acts 975 = .ok (.istore 8, 2) := by decide +kernel
theorem dL_acts_977 : decode cL_acts 977 = .ok (.aload_n 0, 1) := by decide +kernel
theorem dL_acts_978 : decode cL_acts 978 = .ok (.iload 8, 2) := by decide +kernel
theorem dL_acts_980 : decode cL_acts 980 = .ok (.invokevirtual 104, 3) := by decide +kernel
theorem dL_acts_983 : decode cL_acts 983 = .ok (.istore 9, 2) := by decide +kernel
theorem dL_acts_985 : decode cL_acts 985 = .ok (.iload 8, 2) := by decide +kernel
theorem dL_acts_987 : decode cL_acts 987 = .ok (.iconst 2, 1) := by decide +kernel
theorem dL_acts_988 : decode cL_acts 988 = .ok (.if_icmp .eq 10, 3) := by decide +kernel
theorem dL_acts_991 : decode cL_acts 991 = .ok (.iload 8, 2) := by decide +kernel
theorem dL_acts_993 : decode cL_acts 993 = .ok (.bipush 10, 2) := by decide +kernel
theorem dL_acts_995 : decode cL_acts 995 = .ok (.if_icmp .ne 7, 3) := by decide +kernel
theorem dL_acts_998 : decode cL_acts 998 = .ok (.iconst 1, 1) := by decide +kernel
theorem dL_acts_999 : decode cL_acts 999 = .ok (.goto 4, 3) := by decide +kernel
theorem dL_acts_1002 : decode cL_acts 1002 = .ok (.iconst 0, 1) := by decide +kernel
theorem dL_acts_1003 : decode cL_acts 1003 = .ok (.istore 10, 2) := by decide +kernel
theorem dL_acts_1005 : decode cL_acts 1005 = .ok (.iload 10, 2) := by decide +kernel
theorem dL_acts_1007 : decode cL_acts 1007 = .ok (.ifCond .eq 18, 3) := by decide +kernel
theorem dL_acts_1010 : decode cL_acts 1010 = .ok (.iload 9, 2) := by decide +kernel
theorem dL_acts_1012 : decode cL_acts 1012 = .ok (.ldc 58, 2) := by decide +kernel
theorem dL_acts_1014 : decode cL_acts 1014 = .ok (.if_icmp .ne 7, 3) := by decide +kernel
theorem dL_acts_1017 : decode cL_acts 1017 = .ok (.iconst 1, 1) := by decide +kernel
theorem dL_acts_1018 : decode cL_acts 1018 = .ok (.goto 78, 3) := by decide +kernel
theorem dL_acts_1021 : decode cL_acts 1021 = .ok (.iconst 0, 1) := by decide +kernel
theorem dL_acts_1022 : decode cL_acts 1022 = .ok (.goto 74, 3) := by decide +kernel
theorem dL_acts_1025 : decode cL_acts 1025 = .ok (.iload 9, 2) := by decide +kernel
theorem dL_acts_1027 : decode cL_acts 1027 = .ok (.aload_n 0, 1) := by decide +kernel
theorem dL_acts_1028 : decode cL_acts 1028 = .ok (.iconst 4, 1) := by decide +kernel
theorem dL_acts_1029 : decode cL_acts 1029 = .ok (.invokevirtual 13, 3) := by decide +kernel
theorem dL_acts_1032 : decode cL_acts 1032 = .ok (.if_icmp .ne 63, 3) := by decide +kernel
theorem dL_acts_1035 : decode cL_acts 1035 = .ok (.aload_n 0, 1) := by decide +kernel
theorem dL_acts_1036 : decode cL_acts 1036 = .ok (.iconst 0, 1) := by decide +kernel
theorem dL_acts_1037 : decode cL_acts 1037 = .ok (.invokevirtual 13, 3) := by decide +kernel
theorem dL_acts_1040 : decode cL_acts 1040 = .ok (.iload 8, 2) := by decide +kernel
theorem dL_acts_1042 : decode cL_acts 1042 = .ok (.if_icmp .ne 53, 3) := by decide +kernel
theorem dL_acts_1045 : decode cL_acts 1045 = .ok (.aload_n 0, 1) := by decide +kernel
theorem dL_acts_1046 : decode cL_acts 1046 = .ok (.iconst 2, 1) := by decide +kernel
theorem dL_acts_1047 : decode cL_acts 1047 = .ok (.invokevirtual 13, 3) := by decide +kernel
theorem dL_acts_1050 : decode cL_acts 1050 = .ok (.iconst 1, 1) := by decide +kernel
theorem dL_acts_1051 : decode cL_acts 1051 = .ok (.iload 8, 2) := by decide +kernel
theorem dL_acts_1053 : decode cL_acts 1053 = .ok (.ishl, 1) := by decide +kernel
theorem dL_acts_1054 : decode cL_acts 1054 = .ok (.iconst 1, 1) := by decide +kernel
theorem dL_acts_1055 : decode cL_acts 1055 = .ok (.isub, 1) := by decide +kernel
theorem dL_acts_1056 : decode cL_acts 1056 = .ok (.if_icmp .ne 39, 3) := by decide +kernel
theorem dL_acts_1059 : decode cL_acts 1059 = .ok (.aload_n 0, 1) := by decide +kernel
theorem dL_acts_1060 : decode cL_acts 1060 = .ok (.bipush 8, 2) := by decide +kernel
theorem dL_acts_1062 : decode cL_acts 1062 = .ok (.invokevirtual 13, 3) := by decide +kernel
theorem dL_acts_1065 : decode cL_acts 1065 = .ok (.aload_n 0, 1) := by decide +kernel
theorem dL_acts_1066 : decode cL_acts 1066 = .ok (.bipush 9, 2) := by decide +kernel
theorem dL_acts_1068 : decode cL_acts 1068 = .ok (.invokevirtual 13, 3) := by decide +kernel
theorem dL_acts_1071 : decode cL_acts 1071 = .ok (.iadd, 1) := by decide +kernel
theorem dL_acts_1072 : decode cL_acts 1072 = .ok (.aload_n 0, 1) := by decide +kernel
theorem dL_acts_1073 : decode cL_acts 1073 = .ok (.bipush 13, 2) := by decide +kernel
theorem dL_acts_1075 : decode cL_acts 1075 = .ok (.invokevirtual 13, 3) := by decide +kernel
theorem dL_acts_1078 : decode cL_acts 1078 = .ok (.iadd, 1) := by decide +kernel
theorem dL_acts_1079 : decode cL_acts 1079 = .ok (.ifCond .ne 16, 3) := by decide +kernel
theorem dL_acts_1082 : decode cL_acts 1082 = .ok (.aload_n 0, 1) := by decide +kernel
theorem dL_acts_1083 : decode cL_acts 1083 = .ok (.bipush 6, 2) := by decide +kernel
theorem dL_acts_1085 : decode cL_acts 1085 = .ok (.invokevirtual 13, 3) := by decide +kernel
theorem dL_acts_1088 : decode cL_acts 1088 = .ok (.ifCond .ne 7, 3) := by decide +kernel
theorem dL_acts_1091 : decode cL_acts 1091 = .ok (.iconst 1, 1) := by decide +kernel
theorem dL_acts_1092 : decode cL_acts 1092 = .ok (.goto 4, 3) := by decide +kernel
theorem dL_acts_1095 : decode cL_acts 1095 = .ok (.iconst 0, 1) := by decide +kernel
theorem dL_acts_1096 : decode cL_acts 1096 = .ok (.ireturn, 1) := by decide +kernel
theorem dL_acts_1097 : decode cL_acts 1097 = .ok (.aload_n 0, 1) := by decide +kernel
theorem dL_acts_1098 : decode cL_acts 1098 = .ok (.iload_n 2, 1) := by decide +kernel
theorem dL_acts_1099 : decode cL_acts 1099 = .ok (.invokestatic 107, 3) := by decide +kernel
theorem dL_acts_1102 : decode cL_acts 1102 = .ok (.ireturn, 1) := by decide +kernel
