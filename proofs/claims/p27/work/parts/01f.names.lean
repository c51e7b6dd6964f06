theorem dX4_ofAll_166 : decode cX4_ofAll 166 = .ok (.aload_n 0, 1) := by decide +kernel
theorem dX4_ofAll_167 : decode cX4_ofAll 167 = .ok (.getfield 9, 3) := by decide +kernel
theorem dX4_ofAll_170 : decode cX4_ofAll 170 = .ok (.iconst 5, 1) := by decide +kernel
theorem dX4_ofAll_171 : decode cX4_ofAll 171 = .ok (.invokevirtual 28, 3) := by decide +kernel
theorem dX4_ofAll_174 : decode cX4_ofAll 174 = .ok (.ireturn, 1) := by decide +kernel
theorem dX4_ofAll_175 : decode cX4_ofAll 175 = .ok (.aload_n 0, 1) := by decide +kernel
theorem dX4_ofAll_176 : decode cX4_ofAll 176 = .ok (.getfield 9, 3) := by decide +kernel
theorem dX4_ofAll_179 : decode cX4_ofAll 179 = .ok (.bipush 6, 2) := by decide +kernel
theorem dX4_ofAll_181 : decode cX4_ofAll 181 = .ok (.invokevirtual 28, 3) := by decide +kernel
theorem dX4_ofAll_184 : decode cX4_ofAll 184 = .ok (.ireturn, 1) := by decide +kernel
theorem dX4_ofAll_185 : decode cX4_ofAll 185 = .ok (.aload_n 0, 1) := by decide +kernel
theorem dX4_ofAll_186 : decode cX4_ofAll 186 = .ok (.getfield 9, 3) := by decide +kernel
theorem dX4_ofAll_189 : decode cX4_ofAll 189 = .ok (.bipush 7, 2) := by decide +kernel
theorem dX4_ofAll_191 : decode cX4_ofAll 191 = .ok (.invokevirtual 28, 3) := by decide +kernel
theorem dX4_ofAll_194 : decode cX4_ofAll 194 = .ok (.ireturn, 1) := by decide +kernel
theorem dX4_ofAll_195 : decode cX4_ofAll 195 = .ok (.aload_n 0, 1) := by decide +kernel
theorem dX4_ofAll_196 : decode cX4_ofAll 196 = .ok (.getfield 9, 3) := by decide +kernel
theorem dX4_ofAll_199 : decode cX4_ofAll 199 = .ok (.bipush 8, 2) := by decide +kernel
theorem dX4_ofAll_201 : decode cX4_ofAll 201 = .ok (.invokevirtual 28, 3) := by decide +kernel
theorem dX4_ofAll_204 : decode cX4_ofAll 204 = .ok (.ireturn, 1) := by decide +kernel
theorem dX4_ofAll_205 : decode cX4_ofAll 205 = .ok (.aload_n 0, 1) := by decide +kernel
theorem dX4_ofAll_206 : decode cX4_ofAll 206 = .ok (.getfield 9, 3) := by decide +kernel
theorem dX4_ofAll_209 : decode cX4_ofAll 209 = .ok (.bipush 9, 2) := by decide +kernel
theorem dX4_ofAll_211 : decode cX4_ofAll 211 = .ok (.invokevirtual 28, 3) := by decide +kernel
theorem dX4_ofAll_214 : decode cX4_ofAll 214 = .ok (.ireturn, 1) := by decide +kernel
theorem dX4_ofAll_215 : decode cX4_ofAll 215 = .ok (.aload_n 0, 1) := by decide +kernel
theorem dX4_ofAll_216 : decode cX4_ofAll 216 = .ok (.getfield 9, 3) := by decide +kernel
theorem dX4_ofAll_219 : decode cX4_ofAll 219 = .ok (.iconst 2, 1) := by decide +kernel
theorem dX4_ofAll_220 : decode cX4_ofAll 220 = .ok (.invokevirtual 28, 3) := by decide +kernel
theorem dX4_ofAll_223 : decode cX4_ofAll 223 = .ok (.ireturn, 1) := by decide +kernel
theorem dX4_ofAll_224 : decode cX4_ofAll 224 = .ok (.aload_n 0, 1) := by decide +kernel
theorem dX4_ofAll_225 : decode cX4_ofAll 225 = .ok (.getfield 9, 3) := by decide +kernel
theorem dX4_ofAll_228 : decode cX4_ofAll 228 = .ok (.iconst 3, 1) := by decide +kernel
theorem dX4_ofAll_229 : decode cX4_ofAll 229 = .ok (.invokevirtual 28, 3) := by decide +kernel
theorem dX4_ofAll_232 : decode cX4_ofAll 232 = .ok (.ireturn, 1) := by decide +kernel
theorem dX4_ofAll_233 : decode cX4_ofAll 233 = .ok (.ldc 24, 2) := by decide +kernel
theorem dX4_ofAll_235 : decode cX4_ofAll 235 = .ok (.ireturn, 1) := by decide +kernel
set_option maxRecDepth 20000 in
theorem ggX4_daysSafe_X4_safeRows : GoodIn wsX4_daysSafe wsX4_safeRows := goodIn_r _ [7, 2, 8, 9, 10, 11, 12, 13, 14, 15, 16, 17, 18, 19, 20, 21, 22, 23, 24, 25, 26, 27, 28, 29, 30, 31, 32, 33, 34, 35, 36, 37, 38, 39, 40, 41, 42, 43, 44, 45, 46, 47, 48, 49, 6, 50, 51, 52, 53, 54, 68, 69] (by decide +kernel) (by decide +kernel)
set_option maxRecDepth 20000 in
theorem gX4_daysSafe_X4_safeRows : GoodIn wsX4_daysSafe (wsV RX4 74 RX4 yX4_safeRows wsX4_safeRows) := goodIn_app (goodIn_of _ (by decide +kernel)) ggX4_daysSafe_X4_safeRows
set_option maxRecDepth 20000 in
theorem ggX4_daysSafe_X3_get : GoodIn wsX4_daysSafe wsX3_get := goodIn_r _ [12, 13, 69] (by decide +kernel) (by decide +kernel)
set_option maxRecDepth 20000 in
theorem gX4_daysSafe_X3_get : GoodIn wsX4_daysSafe (wsV RX4 28 RX3 yX3_get wsX3_get) := goodIn_app (goodIn_of _ (by decide +kernel)) ggX4_daysSafe_X3_get
set_option maxRecDepth 20000 in
theorem ggX4_daysSafe_X4_daysUntilFaded : GoodIn wsX4_daysSafe wsX4_daysUntilFaded := goodIn_r _ [58, 1, 2, 59, 60, 61, 62, 63, 24, 25, 11, 26, 27, 28, 29, 30, 31, 32, 33, 18, 9, 10, 12, 13, 34, 35, 36, 37, 38, 39, 40, 41, 42, 43, 51, 52, 53, 6, 54, 8, 64, 65, 66, 67, 68, 69] (by decide +kernel) (by decide +kernel)
set_option maxRecDepth 20000 in
theorem gX4_daysSafe_X4_daysUntilFaded : GoodIn wsX4_daysSafe (wsV RX4 89 RX4 yX4_daysUntilFaded wsX4_daysUntilFaded) := goodIn_app (goodIn_of _ (by decide +kernel)) ggX4_daysSafe_X4_daysUntilFaded
theorem dX4_daysSafe_0 : decode cX4_daysSafe 0 = .ok (.aload_n 0, 1) := by decide +kernel
theorem dX4_daysSafe_1 : decode cX4_daysSafe 1 = .ok (.invokevirtual 74, 3) := by decide +kernel
theorem dX4_daysSafe_4 : decode cX4_daysSafe 4 = .ok (.istore_n 1, 1) := by decide +kernel
theorem dX4_daysSafe_5 : decode cX4_daysSafe 5 = .ok (.ldc 36, 2) := by decide +kernel
theorem dX4_daysSafe_7 : decode cX4_daysSafe 7 = .ok (.istore_n 2, 1) := by decide +kernel
theorem dX4_daysSafe_8 : decode cX4_daysSafe 8 = .ok (.iconst 0, 1) := by decide +kernel
theorem dX4_daysSafe_9 : decode cX4_daysSafe 9 = .ok (.istore_n 3, 1) := by decide +kernel
theorem dX4_daysSafe_10 : decode cX4_daysSafe 10 = .ok (.iload_n 3, 1) := by decide +kernel
theorem dX4_daysSafe_11 : decode cX4_daysSafe 11 = .ok (.aload_n 0, 1) := by decide +kernel
theorem dX4_daysSafe_12 : decode cX4_daysSafe 12 = .ok (.getfield 9, 3) := by decide +kernel
theorem dX4_daysSafe_15 : decode cX4_daysSafe 15 = .ok (.iconst 1, 1) := by decide +kernel
theorem dX4_daysSafe_16 : decode cX4_daysSafe 16 = .ok (.invokevirtual 28, 3) := by decide +kernel
theorem dX4_daysSafe_19 : decode cX4_daysSafe 19 = .ok (.if_icmp .ge 47, 3) := by decide +kernel
theorem dX4_daysSafe_22 : decode cX4_daysSafe 22 = .ok (.iload_n 1, 1) := by decide +kernel
theorem dX4_daysSafe_23 : decode cX4_daysSafe 23 = .ok (.iload_n 3, 1) := by decide +kernel
theorem dX4_daysSafe_24 : decode cX4_daysSafe 24 = .ok (.ishr, 1) := by decide +kernel
theorem dX4_daysSafe_25 : decode cX4_daysSafe 25 = .ok (.iconst 1, 1) := by decide +kernel
theorem dX4_daysSafe_26 : decode cX4_daysSafe 26 = .ok (.iand, 1) := by decide +kernel
theorem dX4_daysSafe_27 : decode cX4_daysSafe 27 = .ok (.iconst 1, 1) := by decide +kernel
theorem dX4_daysSafe_28 : decode cX4_daysSafe 28 = .ok (.if_icmp .ne 32, 3) := by decide +kernel
theorem dX4_daysSafe_31 : decode cX4_daysSafe 31 = .ok (.aload_n 0, 1) := by decide +kernel
theorem dX4_daysSafe_32 : decode cX4_daysSafe 32 = .ok (.iload_n 3, 1) := by decide +kernel
theorem dX4_daysSafe_33 : decode cX4_daysSafe 33 = .ok (.invokevirtual 89, 3) := by decide +kernel
theorem dX4_daysSafe_36 : decode cX4_daysSafe 36 = .ok (.istore 4, 2) := by decide +kernel
theorem dX4_daysSafe_38 : decode cX4_daysSafe 38 = .ok (.iload 4, 2) := by decide +kernel
theorem dX4_daysSafe_40 : decode cX4_daysSafe 40 = .ok (.ldc 36, 2) := by decide +kernel
theorem dX4_daysSafe_42 : decode cX4_daysSafe 42 = .ok (.if_icmp .eq 18, 3) := by decide +kernel
theorem dX4_daysSafe_45 : decode cX4_daysSafe 45 = .ok (.iload_n 2, 1) := by decide +kernel
theorem dX4_daysSafe_46 : decode cX4_daysSafe 46 = .ok (.ldc 36, 2) := by decide +kernel
theorem dX4_daysSafe_48 : decode cX4_daysSafe 48 = .ok (.if_icmp .eq 9, 3) := by decide +kernel
theorem dX4_daysSafe_51 : decode cX4_daysSafe 51 = .ok (.iload 4, 2) := by decide +kernel
theorem dX4_daysSafe_53 : decode cX4_daysSafe 53 = .ok (.iload_n 2, 1) := by decide +kernel
theorem dX4_daysSafe_54 : decode cX4_daysSafe 54 = .ok (.if_icmp .ge 6, 3) := by decide +kernel
theorem dX4_daysSafe_57 : decode cX4_daysSafe 57 = .ok (.iload 4, 2) := by decide +kernel
theorem dX4_daysSafe_59 : decode cX4_daysSafe 59 = .ok (.istore_n 2, 1) := by decide +kernel
theorem dX4_daysSafe_60 : decode cX4_daysSafe 60 = .ok (.iinc 3 1, 3) := by decide +kernel
theorem dX4_daysSafe_63 : decode cX4_daysSafe 63 = .ok (.goto (-53), 3) := by decide +kernel
theorem dX4_daysSafe_66 : decode cX4_daysSafe 66 = .ok (.iload_n 2, 1) := by decide +kernel
theorem dX4_daysSafe_67 : decode cX4_daysSafe 67 = .ok (.ireturn, 1) := by decide +kernel
set_option maxRecDepth 20000 in
theorem ggX4_daysUntilFaded_X3_freshEcho : GoodIn wsX4_daysUntilFaded wsX3_freshEcho := goodIn_r _ [11, 12, 13, 10, 14, 15, 16, 17, 18, 19, 20, 21, 22, 23, 24, 25, 26, 27, 28, 29, 30, 31, 32, 33, 45] (by decide +kernel) (by decide +kernel)
set_option maxRecDepth 20000 in
theorem gX4_daysUntilFaded_X3_freshEcho : GoodIn wsX4_daysUntilFaded (wsV RX4 32 RX3 yX3_freshEcho wsX3_freshEcho) := goodIn_app (goodIn_of _ (by decide +kernel)) ggX4_daysUntilFaded_X3_freshEcho
set_option maxRecDepth 20000 in
theorem ggX4_daysUntilFaded_X4_isKnown : GoodIn wsX4_daysUntilFaded wsX4_isKnown := goodIn_r _ [38, 2, 39, 20, 21, 10, 22, 23, 44, 45] (by decide +kernel) (by decide +kernel)
set_option maxRecDepth 20000 in
theorem gX4_daysUntilFaded_X4_isKnown : GoodIn wsX4_daysUntilFaded (wsV RX4 92 RX4 yX4_isKnown wsX4_isKnown) := goodIn_app (goodIn_of _ (by decide +kernel)) ggX4_daysUntilFaded_X4_isKnown
set_option maxRecDepth 20000 in
theorem ggX4_daysUntilFaded_X3_ageOf : GoodIn wsX4_daysUntilFaded wsX3_ageOf := goodIn_r _ [43, 19, 20, 21, 10, 22, 23, 31, 32, 33, 45] (by decide +kernel) (by decide +kernel)
set_option maxRecDepth 20000 in
theorem gX4_daysUntilFaded_X3_ageOf : GoodIn wsX4_daysUntilFaded (wsV RX4 40 RX3 yX3_ageOf wsX3_ageOf) := goodIn_app (goodIn_of _ (by decide +kernel)) ggX4_daysUntilFaded_X3_ageOf
set_option maxRecDepth 20000 in
theorem ggX4_daysUntilFaded_X3_get : GoodIn wsX4_daysUntilFaded wsX3_get := goodIn_r _ [22, 23, 45] (by decide +kernel) (by decide +kernel)
set_option maxRecDepth 20000 in
theorem gX4_daysUntilFaded_X3_get : GoodIn wsX4_daysUntilFaded (wsV RX4 28 RX3 yX3_get wsX3_get) := goodIn_app (goodIn_of _ (by decide +kernel)) ggX4_daysUntilFaded_X3_get
theorem dX4_daysUntilFaded_0 : decode cX4_daysUntilFaded 0 = .ok (.ldc 36, 2) := by decide +kernel
theorem dX4_daysUntilFaded_2 : decode cX4_daysUntilFaded 2 = .ok (.istore_n 2, 1) := by decide +kernel
theorem dX4_daysUntilFaded_3 : decode cX4_daysUntilFaded 3 = .ok (.iconst 0, 1) := by decide +kernel
theorem dX4_daysUntilFaded_4 : decode cX4_daysUntilFaded 4 = .ok (.istore_n 3, 1) := by decide +kernel
theorem dX4_daysUntilFaded_5 : decode cX4_daysUntilFaded 5 = .ok (.iload_n 3, 1) := by decide +kernel
theorem dX4_daysUntilFaded_6 : decode cX4_daysUntilFaded 6 = .ok (.bipush 8, 2) := by decide +kernel
theorem dX4_daysUntilFaded_8 : decode cX4_daysUntilFaded 8 = .ok (.if_icmp .ge 49, 3) := by decide +kernel
theorem dX4_daysUntilFaded_11 : decode cX4_daysUntilFaded 11 = .ok (.aload_n 0, 1) := by decide +kernel
theorem dX4_daysUntilFaded_12 : decode cX4_daysUntilFaded 12 = .ok (.getfield 9, 3) := by decide +kernel
theorem dX4_daysUntilFaded_15 : decode cX4_daysUntilFaded 15 = .ok (.iload_n 1, 1) := by decide +kernel
theorem dX4_daysUntilFaded_16 : decode cX4_daysUntilFaded 16 = .ok (.iload_n 3, 1) := by decide +kernel
theorem dX4_daysUntilFaded_17 : decode cX4_daysUntilFaded 17 = .ok (.invokevirtual 32, 3) := by decide +kernel
theorem dX4_daysUntilFaded_20 : decode cX4_daysUntilFaded 20 = .ok (.istore 4, 2) := by decide +kernel
theorem dX4_daysUntilFaded_22 : decode cX4_daysUntilFaded 22 = .ok (.aload_n 0, 1) := by decide +kernel
theorem dX4_daysUntilFaded_23 : decode cX4_daysUntilFaded 23 = .ok (.iload_n 1, 1) := by decide +kernel
theorem dX4_daysUntilFaded_24 : decode cX4_daysUntilFaded 24 = .ok (.iload_n 3, 1) := by decide +kernel
theorem dX4_daysUntilFaded_25 : decode cX4_daysUntilFaded 25 = .ok (.invokevirtual 92, 3) := by decide +kernel
theorem dX4_daysUntilFaded_28 : decode cX4_daysUntilFaded 28 = .ok (.ifCond .eq 23, 3) := by decide +kernel
theorem dX4_daysUntilFaded_31 : decode cX4_daysUntilFaded 31 = .ok (.iload 4, 2) := by decide +kernel
theorem dX4_daysUntilFaded_33 : decode cX4_daysUntilFaded 33 = .ok (.iconst (-1), 1) := by decide +kernel
theorem dX4_daysUntilFaded_34 : decode cX4_daysUntilFaded 34 = .ok (.if_icmp .eq 17, 3) := by decide +kernel
theorem dX4_daysUntilFaded_37 : decode cX4_daysUntilFaded 37 = .ok (.iload_n 2, 1) := by decide +kernel
theorem dX4_daysUntilFaded_38 : decode cX4_daysUntilFaded 38 = .ok (.aload_n 0, 1) := by decide +kernel
theorem dX4_daysUntilFaded_39 : decode cX4_daysUntilFaded 39 = .ok (.getfield 9, 3) := by decide +kernel
theorem dX4_daysUntilFaded_42 : decode cX4_daysUntilFaded 42 = .ok (.iload 4, 2) := by decide +kernel
theorem dX4_daysUntilFaded_44 : decode cX4_daysUntilFaded 44 = .ok (.invokevirtual 40, 3) := by decide +kernel
theorem dX4_daysUntilFaded_47 : decode cX4_daysUntilFaded 47 = .ok (.invokestatic 65, 3) := by decide +kernel
theorem dX4_daysUntilFaded_50 : decode cX4_daysUntilFaded 50 = .ok (.istore_n 2, 1) := by decide +kernel
theorem dX4_daysUntilFaded_51 : decode cX4_daysUntilFaded 51 = .ok (.iinc 3 1, 3) := by decide +kernel
theorem dX4_daysUntilFaded_54 : decode cX4_daysUntilFaded 54 = .ok (.goto (-49), 3) := by decide +kernel
theorem dX4_daysUntilFaded_57 : decode cX4_daysUntilFaded 57 = .ok (.iload_n 2, 1) := by decide +kernel
theorem dX4_daysUntilFaded_58 : decode cX4_daysUntilFaded 58 = .ok (.ldc 36, 2) := by decide +kernel
theorem dX4_daysUntilFaded_60 : decode cX4_daysUntilFaded 60 = .ok (.if_icmp .ne 8, 3) := by decide +kernel
theorem dX4_daysUntilFaded_63 : decode cX4_daysUntilFaded 63 = .ok (.ldc 36, 2) := by decide +kernel
theorem dX4_daysUntilFaded_65 : decode cX4_daysUntilFaded 65 = .ok (.goto 15, 3) := by decide +kernel
theorem dX4_daysUntilFaded_68 : decode cX4_daysUntilFaded 68 = .ok (.aload_n 0, 1) := by decide +kernel
theorem dX4_daysUntilFaded_69 : decode cX4_daysUntilFaded 69 = .ok (.getfield 9, 3) := by decide +kernel
theorem dX4_daysUntilFaded_72 : decode cX4_daysUntilFaded 72 = .ok (.iconst 3, 1) := by decide +kernel
theorem dX4_daysUntilFaded_73 : decode cX4_daysUntilFaded 73 = .ok (.invokevirtual 28, 3) := by decide +kernel
theorem dX4_daysUntilFaded_76 : decode cX4_daysUntilFaded 76 = .ok (.iload_n 2, 1) := by decide +kernel
theorem dX4_daysUntilFaded_77 : decode cX4_daysUntilFaded 77 = .ok (.isub, 1) := by decide +kernel
theorem dX4_daysUntilFaded_78 : decode cX4_daysUntilFaded 78 = .ok (.iconst 1, 1) := by decide +kernel
theorem dX4_daysUntilFaded_79 : decode cX4_daysUntilFaded 79 = .ok (.iadd, 1) := by decide +kernel
theorem dX4_daysUntilFaded_80 : decode cX4_daysUntilFaded 80 = .ok (.ireturn, 1) := by decide +kernel
set_option maxRecDepth 20000 in
theorem ggX4_meanAge_X4_freshEchoes : GoodIn wsX4_meanAge wsX4_freshEchoes := goodIn_r _ [7, 2, 8, 9, 10, 11, 12, 13, 14, 15, 16, 6, 17, 18, 19, 20, 21, 22, 23, 24, 25, 34, 35] (by decide +kernel) (by decide +kernel)
set_option maxRecDepth 20000 in
theorem gX4_meanAge_X4_freshEchoes : GoodIn wsX4_meanAge (wsV RX4 80 RX4 yX4_freshEchoes wsX4_freshEchoes) := goodIn_app (goodIn_of _ (by decide +kernel)) ggX4_meanAge_X4_freshEchoes
set_option maxRecDepth 20000 in
theorem ggX4_meanAge_X3_get : GoodIn wsX4_meanAge wsX3_get := goodIn_r _ [12, 13, 35] (by decide +kernel) (by decide +kernel)
set_option maxRecDepth 20000 in
theorem gX4_meanAge_X3_get : GoodIn wsX4_meanAge (wsV RX4 28 RX3 yX3_get wsX3_get) := goodIn_app (goodIn_of _ (by decide +kernel)) ggX4_meanAge_X3_get
set_option maxRecDepth 20000 in
theorem ggX4_meanAge_X4_echoIn : GoodIn wsX4_meanAge wsX4_echoIn := goodIn_r _ [17, 2, 8, 9, 10, 11, 12, 13, 34, 35] (by decide +kernel) (by decide +kernel)
set_option maxRecDepth 20000 in
theorem gX4_meanAge_X4_echoIn : GoodIn wsX4_meanAge (wsV RX4 43 RX4 yX4_echoIn wsX4_echoIn) := goodIn_app (goodIn_of _ (by decide +kernel)) ggX4_meanAge_X4_echoIn
set_option maxRecDepth 20000 in
theorem ggX4_meanAge_X3_isFaded : GoodIn wsX4_meanAge wsX3_isFaded := goodIn_r _ [21, 22, 9, 10, 11, 12, 13, 23, 24, 25, 35] (by decide +kernel) (by decide +kernel)
set_option maxRecDepth 20000 in
theorem gX4_meanAge_X3_isFaded : GoodIn wsX4_meanAge (wsV RX4 49 RX3 yX3_isFaded wsX3_isFaded) := goodIn_app (goodIn_of _ (by decide +kernel)) ggX4_meanAge_X3_isFaded
set_option maxRecDepth 20000 in
theorem ggX4_meanAge_X3_ageOf : GoodIn wsX4_meanAge wsX3_ageOf := goodIn_r _ [29, 22, 9, 10, 11, 12, 13, 23, 24, 25, 35] (by decide +kernel) (by decide +kernel)
set_option maxRecDepth 20000 in
theorem gX4_meanAge_X3_ageOf : GoodIn wsX4_meanAge (wsV RX4 40 RX3 yX3_ageOf wsX3_ageOf) := goodIn_app (goodIn_of _ (by decide +kernel)) ggX4_meanAge_X3_ageOf
set_option maxRecDepth 20000 in
theorem ggX4_meanAge_X4_bitsOf : GoodIn wsX4_meanAge wsX4_bitsOf := goodIn_r _ [32, 33] (by decide +kernel) (by decide +kernel)
set_option maxRecDepth 20000 in
theorem gX4_meanAge_X4_bitsOf : GoodIn wsX4_meanAge (va_wsS RX4 96 yX4_bitsOf wsX4_bitsOf) := goodIn_app (goodIn_of _ (by decide +kernel)) ggX4_meanAge_X4_bitsOf
theorem dX4_meanAge_0 : decode cX4_meanAge 0 = .ok (.aload_n 0, 1) := by decide +kernel
theorem dX4_meanAge_1 : decode cX4_meanAge 1 = .ok (.invokevirtual 80, 3) := by decide +kernel
theorem dX4_meanAge_4 : decode cX4_meanAge 4 = .ok (.istore_n 1, 1) := by decide +kernel
theorem dX4_meanAge_5 : decode cX4_meanAge 5 = .ok (.iload_n 1, 1) := by decide +kernel
theorem dX4_meanAge_6 : decode cX4_meanAge 6 = .ok (.ifCond .ne 6, 3) := by decide +kernel
theorem dX4_meanAge_9 : decode cX4_meanAge 9 = .ok (.ldc 36, 2) := by decide +kernel
theorem dX4_meanAge_11 : decode cX4_meanAge 11 = .ok (.ireturn, 1) := by decide +kernel
theorem dX4_meanAge_12 : decode cX4_meanAge 12 = .ok (.iconst 0, 1) := by decide +kernel
theorem dX4_meanAge_13 : decode cX4_meanAge 13 = .ok (.istore_n 2, 1) := by decide +kernel
theorem dX4_meanAge_14 : decode cX4_meanAge 14 = .ok (.iconst 0, 1) := by decide +kernel
theorem dX4_meanAge_15 : decode cX4_meanAge 15 = .ok (.istore_n 3, 1) := by decide +kernel
theorem dX4_meanAge_16 : decode cX4_meanAge 16 = .ok (.iload_n 3, 1) := by decide +kernel
theorem dX4_meanAge_17 : decode cX4_meanAge 17 = .ok (.aload_n 0, 1) := by decide +kernel
theorem dX4_meanAge_18 : decode cX4_meanAge 18 = .ok (.getfield 9, 3) := by decide +kernel
theorem dX4_meanAge_21 : decode cX4_meanAge 21 = .ok (.iconst 1, 1) := by decide +kernel
theorem dX4_meanAge_22 : decode cX4_meanAge 22 = .ok (.invokevirtual 28, 3) := by decide +kernel
theorem dX4_meanAge_25 : decode cX4_meanAge 25 = .ok (.if_icmp .ge 71, 3) := by decide +kernel
theorem dX4_meanAge_28 : decode cX4_meanAge 28 = .ok (.iconst 0, 1) := by decide +kernel
theorem dX4_meanAge_29 : decode cX4_meanAge 29 = .ok (.istore 4, 2) := by decide +kernel
theorem dX4_meanAge_31 : decode cX4_meanAge 31 = .ok (.iload 4, 2) := by decide +kernel
theorem dX4_meanAge_33 : decode cX4_meanAge 33 = .ok (.aload_n 0, 1) := by decide +kernel
theorem dX4_meanAge_34 : decode cX4_meanAge 34 = .ok (.getfield 9, 3) := by decide +kernel
theorem dX4_meanAge_37 : decode cX4_meanAge 37 = .ok (.bipush 55, 2) := by decide +kernel
theorem dX4_meanAge_39 : decode cX4_meanAge 39 = .ok (.iload_n 3, 1) := by decide +kernel
theorem dX4_meanAge_40 : decode cX4_meanAge 40 = .ok (.iadd, 1) := by decide +kernel
theorem dX4_meanAge_41 : decode cX4_meanAge 41 = .ok (.invokevirtual 28, 3) := by decide +kernel
theorem dX4_meanAge_44 : decode cX4_meanAge 44 = .ok (.if_icmp .ge 46, 3) := by decide +kernel
theorem dX4_meanAge_47 : decode cX4_meanAge 47 = .ok (.aload_n 0, 1) := by decide +kernel
theorem dX4_meanAge_48 : decode cX4_meanAge 48 = .ok (.iload_n 3, 1) := by decide +kernel
theorem dX4_meanAge_49 : decode cX4_meanAge 49 = .ok (.iload 4, 2) := by decide +kernel
theorem dX4_meanAge_51 : decode cX4_meanAge 51 = .ok (.invokevirtual 43, 3) := by decide +kernel
theorem dX4_meanAge_54 : decode cX4_meanAge 54 = .ok (.istore 5, 2) := by decide +kernel
theorem dX4_meanAge_56 : decode cX4_meanAge 56 = .ok (.iload_n 2, 1) := by decide +kernel
theorem dX4_meanAge_57 : decode cX4_meanAge 57 = .ok (.aload_n 0, 1) := by decide +kernel
theorem dX4_meanAge_58 : decode cX4_meanAge 58 = .ok (.getfield 9, 3) := by decide +kernel
theorem dX4_meanAge_61 : decode cX4_meanAge 61 = .ok (.iload 5, 2) := by decide +kernel
theorem dX4_meanAge_63 : decode cX4_meanAge 63 = .ok (.invokevirtual 49, 3) := by decide +kernel
theorem dX4_meanAge_66 : decode cX4_meanAge 66 = .ok (.ifCond .eq 7, 3) := by decide +kernel
theorem dX4_meanAge_69 : decode cX4_meanAge 69 = .ok (.iconst 0, 1) := by decide +kernel
theorem dX4_meanAge_70 : decode cX4_meanAge 70 = .ok (.goto 12, 3) := by decide +kernel
theorem dX4_meanAge_73 : decode cX4_meanAge 73 = .ok (.aload_n 0, 1) := by decide +kernel
theorem dX4_meanAge_74 : decode cX4_meanAge 74 = .ok (.getfield 9, 3) := by decide +kernel
theorem dX4_meanAge_77 : decode cX4_meanAge 77 = .ok (.iload 5, 2) := by decide +kernel
theorem dX4_meanAge_79 : decode cX4_meanAge 79 = .ok (.invokevirtual 40, 3) := by decide +kernel
theorem dX4_meanAge_82 : decode cX4_meanAge 82 = .ok (.iadd, 1) := by decide +kernel
theorem dX4_meanAge_83 : decode cX4_meanAge 83 = .ok (.istore_n 2, 1) := by decide +kernel
theorem dX4_meanAge_84 : decode cX4_meanAge 84 = .ok (.iinc 4 1, 3) := by decide +kernel
theorem dX4_meanAge_87 : decode cX4_meanAge 87 = .ok (.goto (-56), 3) := by decide +kernel
theorem dX4_meanAge_90 : decode cX4_meanAge 90 = .ok (.iinc 3 1, 3) := by decide +kernel
theorem dX4_meanAge_93 : decode cX4_meanAge 93 = .ok (.goto (-77), 3) := by decide +kernel
theorem dX4_meanAge_96 : decode cX4_meanAge 96 = .ok (.iload_n 2, 1) := by decide +kernel
theorem dX4_meanAge_97 : decode cX4_meanAge 97 = .ok (.i2f, 1) := by decide +kernel
theorem dX4_meanAge_98 : decode cX4_meanAge 98 = .ok (.iload_n 1, 1) := by decide +kernel
theorem dX4_meanAge_99 : decode cX4_meanAge 99 = .ok (.i2f, 1) := by decide +kernel
theorem dX4_meanAge_100 : decode cX4_meanAge 100 = .ok (.fdiv, 1) := by decide +kernel
theorem dX4_meanAge_101 : decode cX4_meanAge 101 = .ok (.invokestatic 96, 3) := by decide +kernel
theorem dX4_meanAge_104 : decode cX4_meanAge 104 = .ok (.ireturn, 1) := by decide +kernel
set_option maxRecDepth 20000 in
theorem ggX4_shareComingBack_X3_get : GoodIn wsX4_shareComingBack wsX3_get := goodIn_r _ [7, 8, 48] (by decide +kernel) (by decide +kernel)
set_option maxRecDepth 20000 in
theorem gX4_shareComingBack_X3_get : GoodIn wsX4_shareComingBack (wsV RX4 28 RX3 yX3_get wsX3_get) := goodIn_app (goodIn_of _ (by decide +kernel)) ggX4_shareComingBack_X3_get
set_option maxRecDepth 20000 in
theorem ggX4_shareComingBack_X3_lives : GoodIn wsX4_shareComingBack wsX3_lives := goodIn_r _ [12, 13, 4, 5, 6, 7, 8, 48] (by decide +kernel) (by decide +kernel)
set_option maxRecDepth 20000 in
theorem gX4_shareComingBack_X3_lives : GoodIn wsX4_shareComingBack (wsV RX4 25 RX3 yX3_lives wsX3_lives) := goodIn_app (goodIn_of _ (by decide +kernel)) ggX4_shareComingBack_X3_lives
set_option maxRecDepth 20000 in
theorem ggX4_shareComingBack_X3_comingBack : GoodIn wsX4_shareComingBack wsX3_comingBack := goodIn_r _ [17, 18, 19, 20, 6, 21, 22, 23, 24, 25, 26, 27, 28, 13, 4, 5, 7, 8, 29, 30, 31, 32, 33, 34, 35, 36, 37, 38, 39, 40, 41, 48] (by decide +kernel) (by decide +kernel)
set_option maxRecDepth 20000 in
theorem gX4_shareComingBack_X3_comingBack : GoodIn wsX4_shareComingBack (wsV RX4 61 RX3 yX3_comingBack wsX3_comingBack) := goodIn_app (goodIn_of _ (by decide +kernel)) ggX4_shareComingBack_X3_comingBack
set_option maxRecDepth 20000 in
theorem ggX4_shareComingBack_X4_bitsOf : GoodIn wsX4_shareComingBack wsX4_bitsOf := goodIn_r _ [45, 46] (by decide +kernel) (by decide +kernel)
set_option maxRecDepth 20000 in
theorem gX4_shareComingBack_X4_bitsOf : GoodIn wsX4_shareComingBack (va_wsS RX4 96 yX4_bitsOf wsX4_bitsOf) := goodIn_app (goodIn_of _ (by decide +kernel)) ggX4_shareComingBack_X4_bitsOf
theorem dX4_shareComingBack_0 : decode cX4_shareComingBack 0 = .ok (.iconst 0, 1) := by decide +kernel
theorem dX4_shareComingBack_1 : decode cX4_shareComingBack 1 = .ok (.istore_n 1, 1) := by decide +kernel
theorem dX4_shareComingBack_2 : decode cX4_shareComingBack 2 = .ok (.iconst 0, 1) := by decide +kernel
theorem dX4_shareComingBack_3 : decode cX4_shareComingBack 3 = .ok (.istore_n 2, 1) := by decide +kernel
theorem dX4_shareComingBack_4 : decode cX4_shareComingBack 4 = .ok (.iconst 0, 1) := by decide +kernel
theorem dX4_shareComingBack_5 : decode cX4_shareComingBack 5 = .ok (.istore_n 3, 1) := by decide +kernel
theorem dX4_shareComingBack_6 : decode cX4_shareComingBack 6 = .ok (.iload_n 3, 1) := by decide +kernel
theorem dX4_shareComingBack_7 : decode cX4_shareComingBack 7 = .ok (.aload_n 0, 1) := by decide +kernel
theorem dX4_shareComingBack_8 : decode cX4_shareComingBack 8 = .ok (.getfield 9, 3) := by decide +kernel
theorem dX4_shareComingBack_11 : decode cX4_shareComingBack 11 = .ok (.iconst 1, 1) := by decide +kernel
theorem dX4_shareComingBack_12 : decode cX4_shareComingBack 12 = .ok (.invokevirtual 28, 3) := by decide +kernel
theorem dX4_shareComingBack_15 : decode cX4_shareComingBack 15 = .ok (.if_icmp .ge 34, 3) := by decide +kernel
theorem dX4_shareComingBack_18 : decode cX4_shareComingBack 18 = .ok (.aload_n 0, 1) := by decide +kernel
theorem dX4_shareComingBack_19 : decode cX4_shareComingBack 19 = .ok (.getfield 9, 3) := by decide +kernel
theorem dX4_shareComingBack_22 : decode cX4_shareComingBack 22 = .ok (.iload_n 3, 1) := by decide +kernel
theorem dX4_shareComingBack_23 : decode cX4_shareComingBack 23 = .ok (.invokevirtual 25, 3) := by decide +kernel
theorem dX4_shareComingBack_26 : decode cX4_shareComingBack 26 = .ok (.ifCond .eq 17, 3) := by decide +kernel
theorem dX4_shareComingBack_29 : decode cX4_shareComingBack 29 = .ok (.iload_n 1, 1) := by decide +kernel
theorem dX4_shareComingBack_30 : decode cX4_shareComingBack 30 = .ok (.aload_n 0, 1) := by decide +kernel
theorem dX4_shareComingBack_31 : decode cX4_shareComingBack 31 = .ok (.getfield 9, 3) := by decide +kernel
theorem dX4_shareComingBack_34 : decode cX4_shareComingBack 34 = .ok (.iload_n 3, 1) := by decide +kernel
theorem dX4_shareComingBack_35 : decode cX4_shareComingBack 35 = .ok (.invokevirtual 61, 3) := by decide +kernel
theorem dX4_shareComingBack_38 : decode cX4_shareComingBack 38 = .ok (.iadd, 1) := by decide +kernel
theorem dX4_shareComingBack_39 : decode cX4_shareComingBack 39 = .ok (.istore_n 1, 1) := by decide +kernel
theorem dX4_shareComingBack_40 : decode cX4_shareComingBack 40 = .ok (.iinc 2 8, 3) := by decide +kernel
theorem dX4_shareComingBack_43 : decode cX4_shareComingBack 43 = .ok (.iinc 3 1, 3) := by decide +kernel
theorem dX4_shareComingBack_46 : decode cX4_shareComingBack 46 = .ok (.goto (-40), 3) := by decide +kernel
theorem dX4_shareComingBack_49 : decode cX4_shareComingBack 49 = .ok (.iload_n 2, 1) := by decide +kernel
theorem dX4_shareComingBack_50 : decode cX4_shareComingBack 50 = .ok (.ifCond .ne 8, 3) := by decide +kernel
theorem dX4_shareComingBack_53 : decode cX4_shareComingBack 53 = .ok (.ldc 36, 2) := by decide +kernel
theorem dX4_shareComingBack_55 : decode cX4_shareComingBack 55 = .ok (.goto 11, 3) := by decide +kernel
theorem dX4_shareComingBack_58 : decode cX4_shareComingBack 58 = .ok (.iload_n 1, 1) := by decide +kernel
theorem dX4_shareComingBack_59 : decode cX4_shareComingBack 59 = .ok (.i2f, 1) := by decide +kernel
theorem dX4_shareComingBack_60 : decode cX4_shareComingBack 60 = .ok (.iload_n 2, 1) := by decide +kernel
theorem dX4_shareComingBack_61 : decode cX4_shareComingBack 61 = .ok (.i2f, 1) := by decide +kernel
theorem dX4_shareComingBack_62 : decode cX4_shareComingBack 62 = .ok (.fdiv, 1) := by decide +kernel
theorem dX4_shareComingBack_63 : decode cX4_shareComingBack 63 = .ok (.invokestatic 96, 3) := by decide +kernel
theorem dX4_shareComingBack_66 : decode cX4_shareComingBack 66 = .ok (.ireturn, 1) := by decide +kernel
theorem dX4_bitsOf_0 : decode cX4_bitsOf 0 = .ok (.fload_n 0, 1) := by decide +kernel
theorem dX4_bitsOf_1 : decode cX4_bitsOf 1 = .ok (.fconst 0, 1) := by decide +kernel
theorem dX4_bitsOf_2 : decode cX4_bitsOf 2 = .ok (.fcmp .g, 1) := by decide +kernel
theorem dX4_bitsOf_3 : decode cX4_bitsOf 3 = .ok (.ifCond .gt 5, 3) := by decide +kernel
theorem dX4_bitsOf_6 : decode cX4_bitsOf 6 = .ok (.iconst 0, 1) := by decide +kernel
theorem dX4_bitsOf_7 : decode cX4_bitsOf 7 = .ok (.ireturn, 1) := by decide +kernel
theorem dX4_bitsOf_8 : decode cX4_bitsOf 8 = .ok (.fload_n 0, 1) := by decide +kernel
theorem dX4_bitsOf_9 : decode cX4_bitsOf 9 = .ok (.fstore_n 1, 1) := by decide +kernel
theorem dX4_bitsOf_10 : decode cX4_bitsOf 10 = .ok (.bipush 127, 2) := by decide +kernel
theorem dX4_bitsOf_12 : decode cX4_bitsOf 12 = .ok (.istore_n 2, 1) := by decide +kernel
theorem dX4_bitsOf_13 : decode cX4_bitsOf 13 = .ok (.fload_n 1, 1) := by decide +kernel
theorem dX4_bitsOf_14 : decode cX4_bitsOf 14 = .ok (.fconst 2, 1) := by decide +kernel
theorem dX4_bitsOf_15 : decode cX4_bitsOf 15 = .ok (.fcmp .l, 1) := by decide +kernel
theorem dX4_bitsOf_16 : decode cX4_bitsOf 16 = .ok (.ifCond .lt 20, 3) := by decide +kernel
theorem dX4_bitsOf_19 : decode cX4_bitsOf 19 = .ok (.iload_n 2, 1) := by decide +kernel
theorem dX4_bitsOf_20 : decode cX4_bitsOf 20 = .ok (.sipush 254, 3) := by decide +kernel
theorem dX4_bitsOf_23 : decode cX4_bitsOf 23 = .ok (.if_icmp .ge 13, 3) := by decide +kernel
theorem dX4_bitsOf_26 : decode cX4_bitsOf 26 = .ok (.fload_n 1, 1) := by decide +kernel
theorem dX4_bitsOf_27 : decode cX4_bitsOf 27 = .ok (.fconst 2, 1) := by decide +kernel
theorem dX4_bitsOf_28 : decode cX4_bitsOf 28 = .ok (.fdiv, 1) := by decide +kernel
theorem dX4_bitsOf_29 : decode cX4_bitsOf 29 = .ok (.fstore_n 1, 1) := by decide +kernel
theorem dX4_bitsOf_30 : decode cX4_bitsOf 30 = .ok (.iinc 2 1, 3) := by decide +kernel
theorem dX4_bitsOf_33 : decode cX4_bitsOf 33 = .ok (.goto (-20), 3) := by decide +kernel
theorem dX4_bitsOf_36 : decode cX4_bitsOf 36 = .ok (.fload_n 1, 1) := by decide +kernel
theorem dX4_bitsOf_37 : decode cX4_bitsOf 37 = .ok (.fconst 1, 1) := by decide +kernel
theorem dX4_bitsOf_38 : decode cX4_bitsOf 38 = .ok (.fcmp .g, 1) := by decide +kernel
theorem dX4_bitsOf_39 : decode cX4_bitsOf 39 = .ok (.ifCond .ge 18, 3) := by decide +kernel
theorem dX4_bitsOf_42 : decode cX4_bitsOf 42 = .ok (.iload_n 2, 1) := by decide +kernel
theorem dX4_bitsOf_43 : decode cX4_bitsOf 43 = .ok (.iconst 1, 1) := by decide +kernel
theorem dX4_bitsOf_44 : decode cX4_bitsOf 44 = .ok (.if_icmp .le 13, 3) := by decide +kernel
theorem dX4_bitsOf_47 : decode cX4_bitsOf 47 = .ok (.fload_n 1, 1) := by decide +kernel
theorem dX4_bitsOf_48 : decode cX4_bitsOf 48 = .ok (.fconst 2, 1) := by decide +kernel
theorem dX4_bitsOf_49 : decode cX4_bitsOf 49 = .ok (.fmul, 1) := by decide +kernel
theorem dX4_bitsOf_50 : decode cX4_bitsOf 50 = .ok (.fstore_n 1, 1) := by decide +kernel
theorem dX4_bitsOf_51 : decode cX4_bitsOf 51 = .ok (.iinc 2 (-1), 3) := by decide +kernel
theorem dX4_bitsOf_54 : decode cX4_bitsOf 54 = .ok (.goto (-18), 3) := by decide +kernel
theorem dX4_bitsOf_57 : decode cX4_bitsOf 57 = .ok (.iload_n 2, 1) := by decide +kernel
theorem dX4_bitsOf_58 : decode cX4_bitsOf 58 = .ok (.bipush 23, 2) := by decide +kernel
theorem dX4_bitsOf_60 : decode cX4_bitsOf 60 = .ok (.ishl, 1) := by decide +kernel
theorem dX4_bitsOf_61 : decode cX4_bitsOf 61 = .ok (.fload_n 1, 1) := by decide +kernel
theorem dX4_bitsOf_62 : decode cX4_bitsOf 62 = .ok (.fconst 1, 1) := by decide +kernel
theorem dX4_bitsOf_63 : decode cX4_bitsOf 63 = .ok (.fsub, 1) := by decide +kernel
theorem dX4_bitsOf_64 : decode cX4_bitsOf 64 = .ok (.ldc 100, 2) := by decide +kernel
theorem dX4_bitsOf_66 : decode cX4_bitsOf 66 = .ok (.fmul, 1) := by decide +kernel
theorem dX4_bitsOf_67 : decode cX4_bitsOf 67 = .ok (.f2i, 1) := by decide +kernel
theorem dX4_bitsOf_68 : decode cX4_bitsOf 68 = .ok (.iadd, 1) := by decide +kernel
theorem dX4_bitsOf_69 : decode cX4_bitsOf 69 = .ok (.ireturn, 1) := by decide +kernel
set_option maxRecDepth 20000 in
theorem ggX4_echoIn_X3_get : GoodIn wsX4_echoIn wsX3_get := goodIn_r _ [6, 7, 9] (by decide +kernel) (by decide +kernel)
set_option maxRecDepth 20000 in
theorem gX4_echoIn_X3_get : GoodIn wsX4_echoIn (wsV RX4 28 RX3 yX3_get wsX3_get) := goodIn_app (goodIn_of _ (by decide +kernel)) ggX4_echoIn_X3_get
theorem dX4_echoIn_0 : decode cX4_echoIn 0 = .ok (.aload_n 0, 1) := by decide +kernel
theorem dX4_echoIn_1 : decode cX4_echoIn 1 = .ok (.getfield 9, 3) := by decide +kernel
theorem dX4_echoIn_4 : decode cX4_echoIn 4 = .ok (.sipush 208, 3) := by decide +kernel
theorem dX4_echoIn_7 : decode cX4_echoIn 7 = .ok (.iload_n 1, 1) := by decide +kernel
theorem dX4_echoIn_8 : decode cX4_echoIn 8 = .ok (.bipush 16, 2) := by decide +kernel
theorem dX4_echoIn_10 : decode cX4_echoIn 10 = .ok (.imul, 1) := by decide +kernel
theorem dX4_echoIn_11 : decode cX4_echoIn 11 = .ok (.iadd, 1) := by decide +kernel
theorem dX4_echoIn_12 : decode cX4_echoIn 12 = .ok (.iload_n 2, 1) := by decide +kernel
theorem dX4_echoIn_13 : decode cX4_echoIn 13 = .ok (.iadd, 1) := by decide +kernel
theorem dX4_echoIn_14 : decode cX4_echoIn 14 = .ok (.invokevirtual 28, 3) := by decide +kernel
theorem dX4_echoIn_17 : decode cX4_echoIn 17 = .ok (.ireturn, 1) := by decide +kernel
set_option maxRecDepth 20000 in
theorem ggX4_isKnown_X3_get : GoodIn wsX4_isKnown wsX3_get := goodIn_r _ [6, 7, 9] (by decide +kernel) (by decide +kernel)
set_option maxRecDepth 20000 in
theorem gX4_isKnown_X3_get : GoodIn wsX4_isKnown (wsV RX4 28 RX3 yX3_get wsX3_get) := goodIn_app (goodIn_of _ (by decide +kernel)) ggX4_isKnown_X3_get
theorem dX4_isKnown_0 : decode cX4_isKnown 0 = .ok (.aload_n 0, 1) := by decide +kernel
theorem dX4_isKnown_1 : decode cX4_isKnown 1 = .ok (.getfield 9, 3) := by decide +kernel
theorem dX4_isKnown_4 : decode cX4_isKnown 4 = .ok (.bipush 64, 2) := by decide +kernel
theorem dX4_isKnown_6 : decode cX4_isKnown 6 = .ok (.iload_n 1, 1) := by decide +kernel
theorem dX4_isKnown_7 : decode cX4_isKnown 7 = .ok (.bipush 8, 2) := by decide +kernel
theorem dX4_isKnown_9 : decode cX4_isKnown 9 = .ok (.imul, 1) := by decide +kernel
theorem dX4_isKnown_10 : decode cX4_isKnown 10 = .ok (.iadd, 1) := by decide +kernel
theorem dX4_isKnown_11 : decode cX4_isKnown 11 = .ok (.iload_n 2, 1) := by decide +kernel
theorem dX4_isKnown_12 : decode cX4_isKnown 12 = .ok (.iadd, 1) := by decide +kernel
theorem dX4_isKnown_13 : decode cX4_isKnown 13 = .ok (.invokevirtual 28, 3) := by decide +kernel
theorem dX4_isKnown_16 : decode cX4_isKnown 16 = .ok (.iconst (-1), 1) := by decide +kernel
theorem dX4_isKnown_17 : decode cX4_isKnown 17 = .ok (.if_icmp .eq 7, 3) := by decide +kernel
theorem dX4_isKnown_20 : decode cX4_isKnown 20 = .ok (.iconst 1, 1) := by decide +kernel
theorem dX4_isKnown_21 : decode cX4_isKnown 21 = .ok (.goto 4, 3) := by decide +kernel
theorem dX4_isKnown_24 : decode cX4_isKnown 24 = .ok (.iconst 0, 1) := by decide +kernel
theorem dX4_isKnown_25 : decode cX4_isKnown 25 = .ok (.ireturn, 1) := by decide +kernel
set_option maxRecDepth 20000 in
theorem ggX4_unknownCells_X4_isKnown : GoodIn wsX4_unknownCells wsX4_isKnown := goodIn_r _ [5, 6, 7, 8, 9, 10, 11, 12, 13, 14] (by decide +kernel) (by decide +kernel)
set_option maxRecDepth 20000 in
theorem gX4_unknownCells_X4_isKnown : GoodIn wsX4_unknownCells (wsV RX4 92 RX4 yX4_isKnown wsX4_isKnown) := goodIn_app (goodIn_of _ (by decide +kernel)) ggX4_unknownCells_X4_isKnown
theorem dX4_unknownCells_0 : decode cX4_unknownCells 0 = .ok (.iconst 0, 1) := by decide +kernel
theorem dX4_unknownCells_1 : decode cX4_unknownCells 1 = .ok (.istore_n 2, 1) := by decide +kernel
theorem dX4_unknownCells_2 : decode cX4_unknownCells 2 = .ok (.iconst 0, 1) := by decide +kernel
theorem dX4_unknownCells_3 : decode cX4_unknownCells 3 = .ok (.istore_n 3, 1) := by decide +kernel
theorem dX4_unknownCells_4 : decode cX4_unknownCells 4 = .ok (.iload_n 3, 1) := by decide +kernel
theorem dX4_unknownCells_5 : decode cX4_unknownCells 5 = .ok (.bipush 8, 2) := by decide +kernel
theorem dX4_unknownCells_7 : decode cX4_unknownCells 7 = .ok (.if_icmp .ge 26, 3) := by decide +kernel
theorem dX4_unknownCells_10 : decode cX4_unknownCells 10 = .ok (.iload_n 2, 1) := by decide +kernel
theorem dX4_unknownCells_11 : decode cX4_unknownCells 11 = .ok (.aload_n 0, 1) := by decide +kernel
theorem dX4_unknownCells_12 : decode cX4_unknownCells 12 = .ok (.iload_n 1, 1) := by decide +kernel
theorem dX4_unknownCells_13 : decode cX4_unknownCells 13 = .ok (.iload_n 3, 1) := by decide +kernel
theorem dX4_unknownCells_14 : decode cX4_unknownCells 14 = .ok (.invokevirtual 92, 3) := by decide +kernel
theorem dX4_unknownCells_17 : decode cX4_unknownCells 17 = .ok (.ifCond .eq 7, 3) := by decide +kernel
theorem dX4_unknownCells_20 : decode cX4_unknownCells 20 = .ok (.iconst 0, 1) := by decide +kernel
theorem dX4_unknownCells_21 : decode cX4_unknownCells 21 = .ok (.goto 4, 3) := by decide +kernel
theorem dX4_unknownCells_24 : decode cX4_unknownCells 24 = .ok (.iconst 1, 1) := by decide +kernel
theorem dX4_unknownCells_25 : decode cX4_unknownCells 25 = .ok (.iadd, 1) := by decide +kernel
theorem dX4_unknownCells_26 : decode cX4_unknownCells 26 = .ok (.istore_n 2, 1) := by decide +kernel
theorem dX4_unknownCells_27 : decode cX4_unknownCells 27 = .ok (.iinc 3 1, 3) := by decide +kernel
theorem dX4_unknownCells_30 : decode cX4_unknownCells 30 = .ok (.goto (-26), 3) := by decide +kernel
theorem dX4_unknownCells_33 : decode cX4_unknownCells 33 = .ok (.iload_n 2, 1) := by decide +kernel
theorem dX4_unknownCells_34 : decode cX4_unknownCells 34 = .ok (.ireturn, 1) := by decide +kernel
set_option maxRecDepth 20000 in
theorem ggX4_wrongCells_X3_get : GoodIn wsX4_wrongCells wsX3_get := goodIn_r _ [6, 7, 9] (by decide +kernel) (by decide +kernel)
set_option maxRecDepth 20000 in
theorem gX4_wrongCells_X3_get : GoodIn wsX4_wrongCells (wsV RX4 28 RX3 yX3_get wsX3_get) := goodIn_app (goodIn_of _ (by decide +kernel)) ggX4_wrongCells_X3_get
theorem dX4_wrongCells_0 : decode cX4_wrongCells 0 = .ok (.iconst 0, 1) := by decide +kernel
theorem dX4_wrongCells_1 : decode cX4_wrongCells 1 = .ok (.istore_n 2, 1) := by decide +kernel
theorem dX4_wrongCells_2 : decode cX4_wrongCells 2 = .ok (.iconst 0, 1) := by decide +kernel
theorem dX4_wrongCells_3 : decode cX4_wrongCells 3 = .ok (.istore_n 3, 1) := by decide +kernel
theorem dX4_wrongCells_4 : decode cX4_wrongCells 4 = .ok (.iload_n 3, 1) := by decide +kernel
theorem dX4_wrongCells_5 : decode cX4_wrongCells 5 = .ok (.bipush 8, 2) := by decide +kernel
theorem dX4_wrongCells_7 : decode cX4_wrongCells 7 = .ok (.if_icmp .ge 29, 3) := by decide +kernel
theorem dX4_wrongCells_10 : decode cX4_wrongCells 10 = .ok (.iload_n 2, 1) := by decide +kernel
theorem dX4_wrongCells_11 : decode cX4_wrongCells 11 = .ok (.aload_n 0, 1) := by decide +kernel
theorem dX4_wrongCells_12 : decode cX4_wrongCells 12 = .ok (.getfield 9, 3) := by decide +kernel
theorem dX4_wrongCells_15 : decode cX4_wrongCells 15 = .ok (.sipush 136, 3) := by decide +kernel
theorem dX4_wrongCells_18 : decode cX4_wrongCells 18 = .ok (.iload_n 1, 1) := by decide +kernel
theorem dX4_wrongCells_19 : decode cX4_wrongCells 19 = .ok (.bipush 8, 2) := by decide +kernel
theorem dX4_wrongCells_21 : decode cX4_wrongCells 21 = .ok (.imul, 1) := by decide +kernel
theorem dX4_wrongCells_22 : decode cX4_wrongCells 22 = .ok (.iadd, 1) := by decide +kernel
theorem dX4_wrongCells_23 : decode cX4_wrongCells 23 = .ok (.iload_n 3, 1) := by decide +kernel
theorem dX4_wrongCells_24 : decode cX4_wrongCells 24 = .ok (.iadd, 1) := by decide +kernel
theorem dX4_wrongCells_25 : decode cX4_wrongCells 25 = .ok (.invokevirtual 28, 3) := by decide +kernel
theorem dX4_wrongCells_28 : decode cX4_wrongCells 28 = .ok (.iadd, 1) := by decide +kernel
theorem dX4_wrongCells_29 : decode cX4_wrongCells 29 = .ok (.istore_n 2, 1) := by decide +kernel
theorem dX4_wrongCells_30 : decode cX4_wrongCells 30 = .ok (.iinc 3 1, 3) := by decide +kernel
theorem dX4_wrongCells_33 : decode cX4_wrongCells 33 = .ok (.goto (-29), 3) := by decide +kernel
theorem dX4_wrongCells_36 : decode cX4_wrongCells 36 = .ok (.iload_n 2, 1) := by decide +kernel
theorem dX4_wrongCells_37 : decode cX4_wrongCells 37 = .ok (.ireturn, 1) := by decide +kernel
set_option maxRecDepth 20000 in
theorem ggX4_allUnknownCells_X3_get : GoodIn wsX4_allUnknownCells wsX3_get := goodIn_r _ [6, 7, 23] (by decide +kernel) (by decide +kernel)
set_option maxRecDepth 20000 in
theorem gX4_allUnknownCells_X3_get : GoodIn wsX4_allUnknownCells (wsV RX4 28 RX3 yX3_get wsX3_get) := goodIn_app (goodIn_of _ (by decide +kernel)) ggX4_allUnknownCells_X3_get
set_option maxRecDepth 20000 in
theorem ggX4_allUnknownCells_X3_lives : GoodIn wsX4_allUnknownCells wsX3_lives := goodIn_r _ [11, 12, 3, 4, 5, 6, 7, 23] (by decide +kernel) (by decide +kernel)
set_option maxRecDepth 20000 in
theorem gX4_allUnknownCells_X3_lives : GoodIn wsX4_allUnknownCells (wsV RX4 25 RX3 yX3_lives wsX3_lives) := goodIn_app (goodIn_of _ (by decide +kernel)) ggX4_allUnknownCells_X3_lives
set_option maxRecDepth 20000 in
theorem ggX4_allUnknownCells_X4_unknownCells : GoodIn wsX4_allUnknownCells wsX4_unknownCells := goodIn_r _ [17, 18, 19, 20, 16, 21, 1, 2, 3, 4, 5, 6, 7, 22, 23] (by decide +kernel) (by decide +kernel)
set_option maxRecDepth 20000 in
theorem gX4_allUnknownCells_X4_unknownCells : GoodIn wsX4_allUnknownCells (wsV RX4 55 RX4 yX4_unknownCells wsX4_unknownCells) := goodIn_app (goodIn_of _ (by decide +kernel)) ggX4_allUnknownCells_X4_unknownCells
theorem dX4_allUnknownCells_0 : decode cX4_allUnknownCells 0 = .ok (.iconst 0, 1) := by decide +kernel
theorem dX4_allUnknownCells_1 : decode cX4_allUnknownCells 1 = .ok (.istore_n 1, 1) := by decide +kernel
theorem dX4_allUnknownCells_2 : decode cX4_allUnknownCells 2 = .ok (.iconst 0, 1) := by decide +kernel
theorem dX4_allUnknownCells_3 : decode cX4_allUnknownCells 3 = .ok (.istore_n 2, 1) := by decide +kernel
theorem dX4_allUnknownCells_4 : decode cX4_allUnknownCells 4 = .ok (.iload_n 2, 1) := by decide +kernel
theorem dX4_allUnknownCells_5 : decode cX4_allUnknownCells 5 = .ok (.aload_n 0, 1) := by decide +kernel
theorem dX4_allUnknownCells_6 : decode cX4_allUnknownCells 6 = .ok (.getfield 9, 3) := by decide +kernel
theorem dX4_allUnknownCells_9 : decode cX4_allUnknownCells 9 = .ok (.iconst 1, 1) := by decide +kernel
theorem dX4_allUnknownCells_10 : decode cX4_allUnknownCells 10 = .ok (.invokevirtual 28, 3) := by decide +kernel
theorem dX4_allUnknownCells_13 : decode cX4_allUnknownCells 13 = .ok (.if_icmp .ge 32, 3) := by decide +kernel
theorem dX4_allUnknownCells_16 : decode cX4_allUnknownCells 16 = .ok (.iload_n 1, 1) := by decide +kernel
theorem dX4_allUnknownCells_17 : decode cX4_allUnknownCells 17 = .ok (.aload_n 0, 1) := by decide +kernel
theorem dX4_allUnknownCells_18 : decode cX4_allUnknownCells 18 = .ok (.getfield 9, 3) := by decide +kernel
theorem dX4_allUnknownCells_21 : decode cX4_allUnknownCells 21 = .ok (.iload_n 2, 1) := by decide +kernel
theorem dX4_allUnknownCells_22 : decode cX4_allUnknownCells 22 = .ok (.invokevirtual 25, 3) := by decide +kernel
theorem dX4_allUnknownCells_25 : decode cX4_allUnknownCells 25 = .ok (.ifCond .eq 11, 3) := by decide +kernel
theorem dX4_allUnknownCells_28 : decode cX4_allUnknownCells 28 = .ok (.aload_n 0, 1) := by decide +kernel
theorem dX4_allUnknownCells_29 : decode cX4_allUnknownCells 29 = .ok (.iload_n 2, 1) := by decide +kernel
theorem dX4_allUnknownCells_30 : decode cX4_allUnknownCells 30 = .ok (.invokevirtual 55, 3) := by decide +kernel
theorem dX4_allUnknownCells_33 : decode cX4_allUnknownCells 33 = .ok (.goto 4, 3) := by decide +kernel
theorem dX4_allUnknownCells_36 : decode cX4_allUnknownCells 36 = .ok (.iconst 0, 1) := by decide +kernel
theorem dX4_allUnknownCells_37 : decode cX4_allUnknownCells 37 = .ok (.iadd, 1) := by decide +kernel
theorem dX4_allUnknownCells_38 : decode cX4_allUnknownCells 38 = .ok (.istore_n 1, 1) := by decide +kernel
theorem dX4_allUnknownCells_39 : decode cX4_allUnknownCells 39 = .ok (.iinc 2 1, 3) := by decide +kernel
theorem dX4_allUnknownCells_42 : decode cX4_allUnknownCells 42 = .ok (.goto (-38), 3) := by decide +kernel
theorem dX4_allUnknownCells_45 : decode cX4_allUnknownCells 45 = .ok (.iload_n 1, 1) := by decide +kernel
theorem dX4_allUnknownCells_46 : decode cX4_allUnknownCells 46 = .ok (.ireturn, 1) := by decide +kernel
set_option maxRecDepth 20000 in
theorem ggX4_allWrongCells_X3_get : GoodIn wsX4_allWrongCells wsX3_get := goodIn_r _ [6, 7, 14] (by decide +kernel) (by decide +kernel)
set_option maxRecDepth 20000 in
theorem gX4_allWrongCells_X3_get : GoodIn wsX4_allWrongCells (wsV RX4 28 RX3 yX3_get wsX3_get) := goodIn_app (goodIn_of _ (by decide +kernel)) ggX4_allWrongCells_X3_get
set_option maxRecDepth 20000 in
theorem ggX4_allWrongCells_X4_wrongCells : GoodIn wsX4_allWrongCells wsX4_wrongCells := goodIn_r _ [12, 1, 2, 3, 4, 5, 6, 7, 13, 14] (by decide +kernel) (by decide +kernel)
set_option maxRecDepth 20000 in
theorem gX4_allWrongCells_X4_wrongCells : GoodIn wsX4_allWrongCells (wsV RX4 58 RX4 yX4_wrongCells wsX4_wrongCells) := goodIn_app (goodIn_of _ (by decide +kernel)) ggX4_allWrongCells_X4_wrongCells
theorem dX4_allWrongCells_0 : decode cX4_allWrongCells 0 = .ok (.iconst 0, 1) := by decide +kernel
theorem dX4_allWrongCells_1 : decode cX4_allWrongCells 1 = .ok (.istore_n 1, 1) := by decide +kernel
theorem dX4_allWrongCells_2 : decode cX4_allWrongCells 2 = .ok (.iconst 0, 1) := by decide +kernel
theorem dX4_allWrongCells_3 : decode cX4_allWrongCells 3 = .ok (.istore_n 2, 1) := by decide +kernel
theorem dX4_allWrongCells_4 : decode cX4_allWrongCells 4 = .ok (.iload_n 2, 1) := by decide +kernel
theorem dX4_allWrongCells_5 : decode cX4_allWrongCells 5 = .ok (.aload_n 0, 1) := by decide +kernel
theorem dX4_allWrongCells_6 : decode cX4_allWrongCells 6 = .ok (.getfield 9, 3) := by decide +kernel
theorem dX4_allWrongCells_9 : decode cX4_allWrongCells 9 = .ok (.iconst 1, 1) := by decide +kernel
theorem dX4_allWrongCells_10 : decode cX4_allWrongCells 10 = .ok (.invokevirtual 28, 3) := by decide +kernel
theorem dX4_allWrongCells_13 : decode cX4_allWrongCells 13 = .ok (.if_icmp .ge 17, 3) := by decide +kernel
theorem dX4_allWrongCells_16 : decode cX4_allWrongCells 16 = .ok (.iload_n 1, 1) := by decide +kernel
theorem dX4_allWrongCells_17 : decode cX4_allWrongCells 17 = .ok (.aload_n 0, 1) := by decide +kernel
theorem dX4_allWrongCells_18 : decode cX4_allWrongCells 18 = .ok (.iload_n 2, 1) := by decide +kernel
theorem dX4_allWrongCells_19 : decode cX4_allWrongCells 19 = .ok (.invokevirtual 58, 3) := by decide +kernel
theorem dX4_allWrongCells_22 : decode cX4_allWrongCells 22 = .ok (.iadd, 1) := by decide +kernel
theorem dX4_allWrongCells_23 : decode cX4_allWrongCells 23 = .ok (.istore_n 1, 1) := by decide +kernel
theorem dX4_allWrongCells_24 : decode cX4_allWrongCells 24 = .ok (.iinc 2 1, 3) := by decide +kernel
theorem dX4_allWrongCells_27 : decode cX4_allWrongCells 27 = .ok (.goto (-23), 3) := by decide +kernel
theorem dX4_allWrongCells_30 : decode cX4_allWrongCells 30 = .ok (.iload_n 1, 1) := by decide +kernel
theorem dX4_allWrongCells_31 : decode cX4_allWrongCells 31 = .ok (.ireturn, 1) := by decide +kernel
set_option maxRecDepth 20000 in
theorem ggX4_livingRows_X3_get : GoodIn wsX4_livingRows wsX3_get := goodIn_r _ [6, 7, 9] (by decide +kernel) (by decide +kernel)
set_option maxRecDepth 20000 in
theorem gX4_livingRows_X3_get : GoodIn wsX4_livingRows (wsV RX4 28 RX3 yX3_get wsX3_get) := goodIn_app (goodIn_of _ (by decide +kernel)) ggX4_livingRows_X3_get
theorem dX4_livingRows_0 : decode cX4_livingRows 0 = .ok (.iconst 0, 1) := by decide +kernel
theorem dX4_livingRows_1 : decode cX4_livingRows 1 = .ok (.istore_n 1, 1) := by decide +kernel
theorem dX4_livingRows_2 : decode cX4_livingRows 2 = .ok (.iconst 0, 1) := by decide +kernel
theorem dX4_livingRows_3 : decode cX4_livingRows 3 = .ok (.istore_n 2, 1) := by decide +kernel
theorem dX4_livingRows_4 : decode cX4_livingRows 4 = .ok (.iload_n 2, 1) := by decide +kernel
theorem dX4_livingRows_5 : decode cX4_livingRows 5 = .ok (.aload_n 0, 1) := by decide +kernel
theorem dX4_livingRows_6 : decode cX4_livingRows 6 = .ok (.getfield 9, 3) := by decide +kernel
theorem dX4_livingRows_9 : decode cX4_livingRows 9 = .ok (.iconst 1, 1) := by decide +kernel
theorem dX4_livingRows_10 : decode cX4_livingRows 10 = .ok (.invokevirtual 28, 3) := by decide +kernel
theorem dX4_livingRows_13 : decode cX4_livingRows 13 = .ok (.if_icmp .ge 25, 3) := by decide +kernel
theorem dX4_livingRows_16 : decode cX4_livingRows 16 = .ok (.iload_n 1, 1) := by decide +kernel
theorem dX4_livingRows_17 : decode cX4_livingRows 17 = .ok (.aload_n 0, 1) := by decide +kernel
theorem dX4_livingRows_18 : decode cX4_livingRows 18 = .ok (.getfield 9, 3) := by decide +kernel
theorem dX4_livingRows_21 : decode cX4_livingRows 21 = .ok (.bipush 28, 2) := by decide +kernel
theorem dX4_livingRows_23 : decode cX4_livingRows 23 = .ok (.iload_n 2, 1) := by decide +kernel
theorem dX4_livingRows_24 : decode cX4_livingRows 24 = .ok (.iadd, 1) := by decide +kernel
theorem dX4_livingRows_25 : decode cX4_livingRows 25 = .ok (.invokevirtual 28, 3) := by decide +kernel
theorem dX4_livingRows_28 : decode cX4_livingRows 28 = .ok (.iload_n 2, 1) := by decide +kernel
theorem dX4_livingRows_29 : decode cX4_livingRows 29 = .ok (.ishl, 1) := by decide +kernel
theorem dX4_livingRows_30 : decode cX4_livingRows 30 = .ok (.ior, 1) := by decide +kernel
theorem dX4_livingRows_31 : decode cX4_livingRows 31 = .ok (.istore_n 1, 1) := by decide +kernel
theorem dX4_livingRows_32 : decode cX4_livingRows 32 = .ok (.iinc 2 1, 3) := by decide +kernel
theorem dX4_livingRows_35 : decode cX4_livingRows 35 = .ok (.goto (-31), 3) := by decide +kernel
theorem dX4_livingRows_38 : decode cX4_livingRows 38 = .ok (.iload_n 1, 1) := by decide +kernel
theorem dX4_livingRows_39 : decode cX4_livingRows 39 = .ok (.ireturn, 1) := by decide +kernel
set_option maxRecDepth 20000 in
theorem ggX4_safeRows_X3_get : GoodIn wsX4_safeRows wsX3_get := goodIn_r _ [6, 7, 51] (by decide +kernel) (by decide +kernel)
set_option maxRecDepth 20000 in
theorem gX4_safeRows_X3_get : GoodIn wsX4_safeRows (wsV RX4 28 RX3 yX3_get wsX3_get) := goodIn_app (goodIn_of _ (by decide +kernel)) ggX4_safeRows_X3_get
set_option maxRecDepth 20000 in
theorem ggX4_safeRows_X3_lives : GoodIn wsX4_safeRows wsX3_lives := goodIn_r _ [11, 12, 3, 4, 5, 6, 7, 51] (by decide +kernel) (by decide +kernel)
set_option maxRecDepth 20000 in
theorem gX4_safeRows_X3_lives : GoodIn wsX4_safeRows (wsV RX4 25 RX3 yX3_lives wsX3_lives) := goodIn_app (goodIn_of _ (by decide +kernel)) ggX4_safeRows_X3_lives
set_option maxRecDepth 20000 in
theorem ggX4_safeRows_X3_comingBack : GoodIn wsX4_safeRows wsX3_comingBack := goodIn_r _ [16, 17, 18, 19, 5, 20, 21, 22, 23, 24, 25, 26, 27, 12, 3, 4, 6, 7, 28, 29, 30, 31, 32, 33, 34, 35, 36, 37, 38, 39, 40, 51] (by decide +kernel) (by decide +kernel)
set_option maxRecDepth 20000 in
theorem gX4_safeRows_X3_comingBack : GoodIn wsX4_safeRows (wsV RX4 61 RX3 yX3_comingBack wsX3_comingBack) := goodIn_app (goodIn_of _ (by decide +kernel)) ggX4_safeRows_X3_comingBack
set_option maxRecDepth 20000 in
theorem ggX4_safeRows_X4_unknownCells : GoodIn wsX4_safeRows wsX4_unknownCells := goodIn_r _ [45, 46, 47, 48, 44, 49, 1, 2, 3, 4, 5, 6, 7, 50, 51] (by decide +kernel) (by decide +kernel)
set_option maxRecDepth 20000 in
theorem gX4_safeRows_X4_unknownCells : GoodIn wsX4_safeRows (wsV RX4 55 RX4 yX4_unknownCells wsX4_unknownCells) := goodIn_app (goodIn_of _ (by decide +kernel)) ggX4_safeRows_X4_unknownCells
theorem dX4_safeRows_0 : decode cX4_safeRows 0 = .ok (.iconst 0, 1) := by decide +kernel
theorem dX4_safeRows_1 : decode cX4_safeRows 1 = .ok (.istore_n 1, 1) := by decide +kernel
theorem dX4_safeRows_2 : decode cX4_safeRows 2 = .ok (.iconst 0, 1) := by decide +kernel
theorem dX4_safeRows_3 : decode cX4_safeRows 3 = .ok (.istore_n 2, 1) := by decide +kernel
theorem dX4_safeRows_4 : decode cX4_safeRows 4 = .ok (.iload_n 2, 1) := by decide +kernel
theorem dX4_safeRows_5 : decode cX4_safeRows 5 = .ok (.aload_n 0, 1) := by decide +kernel
theorem dX4_safeRows_6 : decode cX4_safeRows 6 = .ok (.getfield 9, 3) := by decide +kernel
theorem dX4_safeRows_9 : decode cX4_safeRows 9 = .ok (.iconst 1, 1) := by decide +kernel
theorem dX4_safeRows_10 : decode cX4_safeRows 10 = .ok (.invokevirtual 28, 3) := by decide +kernel
theorem dX4_safeRows_13 : decode cX4_safeRows 13 = .ok (.if_icmp .ge 45, 3) := by decide +kernel
theorem dX4_safeRows_16 : decode cX4_safeRows 16 = .ok (.aload_n 0, 1) := by decide +kernel
theorem dX4_safeRows_17 : decode cX4_safeRows 17 = .ok (.getfield 9, 3) := by decide +kernel
theorem dX4_safeRows_20 : decode cX4_safeRows 20 = .ok (.iload_n 2, 1) := by decide +kernel
theorem dX4_safeRows_21 : decode cX4_safeRows 21 = .ok (.invokevirtual 25, 3) := by decide +kernel
theorem dX4_safeRows_24 : decode cX4_safeRows 24 = .ok (.ifCond .eq 28, 3) := by decide +kernel
theorem dX4_safeRows_27 : decode cX4_safeRows 27 = .ok (.aload_n 0, 1) := by decide +kernel
theorem dX4_safeRows_28 : decode cX4_safeRows 28 = .ok (.getfield 9, 3) := by decide +kernel
theorem dX4_safeRows_31 : decode cX4_safeRows 31 = .ok (.iload_n 2, 1) := by decide +kernel
theorem dX4_safeRows_32 : decode cX4_safeRows 32 = .ok (.invokevirtual 61, 3) := by decide +kernel
theorem dX4_safeRows_35 : decode cX4_safeRows 35 = .ok (.aload_n 0, 1) := by decide +kernel
theorem dX4_safeRows_36 : decode cX4_safeRows 36 = .ok (.iload_n 2, 1) := by decide +kernel
theorem dX4_safeRows_37 : decode cX4_safeRows 37 = .ok (.invokevirtual 55, 3) := by decide +kernel
theorem dX4_safeRows_40 : decode cX4_safeRows 40 = .ok (.iadd, 1) := by decide +kernel
theorem dX4_safeRows_41 : decode cX4_safeRows 41 = .ok (.bipush 8, 2) := by decide +kernel
theorem dX4_safeRows_43 : decode cX4_safeRows 43 = .ok (.if_icmp .ne 9, 3) := by decide +kernel
theorem dX4_safeRows_46 : decode cX4_safeRows 46 = .ok (.iload_n 1, 1) := by decide +kernel
theorem dX4_safeRows_47 : decode cX4_safeRows 47 = .ok (.iconst 1, 1) := by decide +kernel
theorem dX4_safeRows_48 : decode cX4_safeRows 48 = .ok (.iload_n 2, 1) := by decide +kernel
theorem dX4_safeRows_49 : decode cX4_safeRows 49 = .ok (.ishl, 1) := by decide +kernel
theorem dX4_safeRows_50 : decode cX4_safeRows 50 = .ok (.ior, 1) := by decide +kernel
theorem dX4_safeRows_51 : decode cX4_safeRows 51 = .ok (.istore_n 1, 1) := by decide +kernel
theorem dX4_safeRows_52 : decode cX4_safeRows 52 = .ok (.iinc 2 1, 3) := by decide +kernel
theorem dX4_safeRows_55 : decode cX4_safeRows 55 = .ok (.goto (-51), 3) := by decide +kernel
theorem dX4_safeRows_58 : decode cX4_safeRows 58 = .ok (.iload_n 1, 1) := by decide +kernel
theorem dX4_safeRows_59 : decode cX4_safeRows 59 = .ok (.ireturn, 1) := by decide +kernel
set_option maxRecDepth 20000 in
theorem ggX4_allEchoes_X3_get : GoodIn wsX4_allEchoes wsX3_get := goodIn_r _ [6, 7, 9] (by decide +kernel) (by decide +kernel)
set_option maxRecDepth 20000 in
theorem gX4_allEchoes_X3_get : GoodIn wsX4_allEchoes (wsV RX4 28 RX3 yX3_get wsX3_get) := goodIn_app (goodIn_of _ (by decide +kernel)) ggX4_allEchoes_X3_get
theorem dX4_allEchoes_0 : decode cX4_allEchoes 0 = .ok (.iconst 0, 1) := by decide +kernel
theorem dX4_allEchoes_1 : decode cX4_allEchoes 1 = .ok (.istore_n 1, 1) := by decide +kernel
theorem dX4_allEchoes_2 : decode cX4_allEchoes 2 = .ok (.iconst 0, 1) := by decide +kernel
theorem dX4_allEchoes_3 : decode cX4_allEchoes 3 = .ok (.istore_n 2, 1) := by decide +kernel
theorem dX4_allEchoes_4 : decode cX4_allEchoes 4 = .ok (.iload_n 2, 1) := by decide +kernel
theorem dX4_allEchoes_5 : decode cX4_allEchoes 5 = .ok (.aload_n 0, 1) := by decide +kernel
theorem dX4_allEchoes_6 : decode cX4_allEchoes 6 = .ok (.getfield 9, 3) := by decide +kernel
theorem dX4_allEchoes_9 : decode cX4_allEchoes 9 = .ok (.iconst 1, 1) := by decide +kernel
theorem dX4_allEchoes_10 : decode cX4_allEchoes 10 = .ok (.invokevirtual 28, 3) := by decide +kernel
theorem dX4_allEchoes_13 : decode cX4_allEchoes 13 = .ok (.if_icmp .ge 23, 3) := by decide +kernel
theorem dX4_allEchoes_16 : decode cX4_allEchoes 16 = .ok (.iload_n 1, 1) := by decide +kernel
theorem dX4_allEchoes_17 : decode cX4_allEchoes 17 = .ok (.aload_n 0, 1) := by decide +kernel
theorem dX4_allEchoes_18 : decode cX4_allEchoes 18 = .ok (.getfield 9, 3) := by decide +kernel
theorem dX4_allEchoes_21 : decode cX4_allEchoes 21 = .ok (.bipush 55, 2) := by decide +kernel
theorem dX4_allEchoes_23 : decode cX4_allEchoes 23 = .ok (.iload_n 2, 1) := by decide +kernel
theorem dX4_allEchoes_24 : decode cX4_allEchoes 24 = .ok (.iadd, 1) := by decide +kernel
theorem dX4_allEchoes_25 : decode cX4_allEchoes 25 = .ok (.invokevirtual 28, 3) := by decide +kernel
theorem dX4_allEchoes_28 : decode cX4_allEchoes 28 = .ok (.iadd, 1) := by decide +kernel
theorem dX4_allEchoes_29 : decode cX4_allEchoes 29 = .ok (.istore_n 1, 1) := by decide +kernel
theorem dX4_allEchoes_30 : decode cX4_allEchoes 30 = .ok (.iinc 2 1, 3) := by decide +kernel
theorem dX4_allEchoes_33 : decode cX4_allEchoes 33 = .ok (.goto (-29), 3) := by decide +kernel
theorem dX4_allEchoes_36 : decode cX4_allEchoes 36 = .ok (.iload_n 1, 1) := by decide +kernel
theorem dX4_allEchoes_37 : decode cX4_allEchoes 37 = .ok (.ireturn, 1) := by decide +kernel
set_option maxRecDepth 20000 in
theorem ggX4_freshEchoes_X3_get : GoodIn wsX4_freshEchoes wsX3_get := goodIn_r _ [6, 7, 22] (by decide +kernel) (by decide +kernel)
set_option maxRecDepth 20000 in
theorem gX4_freshEchoes_X3_get : GoodIn wsX4_freshEchoes (wsV RX4 28 RX3 yX3_get wsX3_get) := goodIn_app (goodIn_of _ (by decide +kernel)) ggX4_freshEchoes_X3_get
set_option maxRecDepth 20000 in
theorem ggX4_freshEchoes_X4_echoIn : GoodIn wsX4_freshEchoes wsX4_echoIn := goodIn_r _ [12, 1, 2, 3, 4, 5, 6, 7, 21, 22] (by decide +kernel) (by decide +kernel)
set_option maxRecDepth 20000 in
theorem gX4_freshEchoes_X4_echoIn : GoodIn wsX4_freshEchoes (wsV RX4 43 RX4 yX4_echoIn wsX4_echoIn) := goodIn_app (goodIn_of _ (by decide +kernel)) ggX4_freshEchoes_X4_echoIn
set_option maxRecDepth 20000 in
theorem ggX4_freshEchoes_X3_isFaded : GoodIn wsX4_freshEchoes wsX3_isFaded := goodIn_r _ [16, 17, 3, 4, 5, 6, 7, 18, 19, 20, 22] (by decide +kernel) (by decide +kernel)
set_option maxRecDepth 20000 in
theorem gX4_freshEchoes_X3_isFaded : GoodIn wsX4_freshEchoes (wsV RX4 49 RX3 yX3_isFaded wsX3_isFaded) := goodIn_app (goodIn_of _ (by decide +kernel)) ggX4_freshEchoes_X3_isFaded
theorem dX4_freshEchoes_0 : decode cX4_freshEchoes 0 = .ok (.iconst 0, 1) := by decide +kernel
theorem dX4_freshEchoes_1 : decode cX4_freshEchoes 1 = .ok (.istore_n 1, 1) := by decide +kernel
theorem dX4_freshEchoes_2 : decode cX4_freshEchoes 2 = .ok (.iconst 0, 1) := by decide +kernel
theorem dX4_freshEchoes_3 : decode cX4_freshEchoes 3 = .ok (.istore_n 2, 1) := by decide +kernel
theorem dX4_freshEchoes_4 : decode cX4_freshEchoes 4 = .ok (.iload_n 2, 1) := by decide +kernel
theorem dX4_freshEchoes_5 : decode cX4_freshEchoes 5 = .ok (.aload_n 0, 1) := by decide +kernel
theorem dX4_freshEchoes_6 : decode cX4_freshEchoes 6 = .ok (.getfield 9, 3) := by decide +kernel
theorem dX4_freshEchoes_9 : decode cX4_freshEchoes 9 = .ok (.iconst 1, 1) := by decide +kernel
theorem dX4_freshEchoes_10 : decode cX4_freshEchoes 10 = .ok (.invokevirtual 28, 3) := by decide +kernel
theorem dX4_freshEchoes_13 : decode cX4_freshEchoes 13 = .ok (.if_icmp .ge 56, 3) := by decide +kernel
theorem dX4_freshEchoes_16 : decode cX4_freshEchoes 16 = .ok (.iconst 0, 1) := by decide +kernel
theorem dX4_freshEchoes_17 : decode cX4_freshEchoes 17 = .ok (.istore_n 3, 1) := by decide +kernel
theorem dX4_freshEchoes_18 : decode cX4_freshEchoes 18 = .ok (.iload_n 3, 1) := by decide +kernel
