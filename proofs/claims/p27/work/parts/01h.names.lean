set_option maxRecDepth 20000 in
theorem gL_look_X5_count : GoodIn wsL_look (wsV RL 13 RX5 yX5_count wsX5_count) := goodIn_app (goodIn_of _ (by decide +kernel)) ggL_look_X5_count
set_option maxRecDepth 20000 in
theorem ggL_look_X5_row : GoodIn wsL_look wsX5_row := goodIn_r _ [113, 10, 114, 115, 116, 26, 117, 28, 29, 118, 119, 120, 33, 121, 48, 31, 32, 34, 35, 30, 122, 61, 62, 63, 44, 45, 46, 47, 77, 78, 79, 80, 81, 82, 83, 84, 106, 107, 108, 109, 49, 50, 51, 52, 53, 54, 55, 56, 57, 58, 59, 60, 64, 65, 66, 67, 68, 69, 70, 71, 72, 73, 74, 75, 76, 163, 164, 165, 166, 167, 168, 179, 180] (by decide +kernel) (by decide +kernel)
set_option maxRecDepth 20000 in
theorem gL_look_X5_row : GoodIn wsL_look (wsV RL 19 RX5 yX5_row wsX5_row) := goodIn_app (goodIn_of _ (by decide +kernel)) ggL_look_X5_row
set_option maxRecDepth 20000 in
theorem ggL_look_X5_cell : GoodIn wsL_look wsX5_cell := goodIn_r _ [126, 10, 127, 128, 129, 26, 130, 28, 29, 131, 118, 119, 120, 33, 121, 48, 31, 32, 34, 35, 132, 133, 134, 44, 45, 46, 47, 30, 135, 54, 55, 56, 57, 58, 59, 60, 61, 62, 63, 64, 65, 66, 67, 68, 69, 70, 71, 72, 73, 136, 75, 76, 137, 138, 139, 140, 163, 164, 165, 166, 167, 168, 179, 180] (by decide +kernel) (by decide +kernel)
set_option maxRecDepth 20000 in
theorem gL_look_X5_cell : GoodIn wsL_look (wsV RL 23 RX5 yX5_cell wsX5_cell) := goodIn_app (goodIn_of _ (by decide +kernel)) ggL_look_X5_cell
set_option maxRecDepth 20000 in
theorem ggL_look_X5_margin : GoodIn wsL_look wsX5_margin := goodIn_r _ [144, 10, 145, 146, 147, 26, 148, 28, 29, 131, 118, 119, 120, 33, 121, 48, 31, 32, 34, 35, 30, 93, 94, 95, 96, 149, 65, 66, 136, 75, 76, 137, 138, 139, 140, 71, 72, 73, 97, 68, 69, 70, 163, 164, 165, 166, 167, 168, 179, 180] (by decide +kernel) (by decide +kernel)
set_option maxRecDepth 20000 in
theorem gL_look_X5_margin : GoodIn wsL_look (wsV RL 27 RX5 yX5_margin wsX5_margin) := goodIn_app (goodIn_of _ (by decide +kernel)) ggL_look_X5_margin
set_option maxRecDepth 20000 in
theorem ggL_look_X5_would : GoodIn wsL_look wsX5_would := goodIn_r _ [153, 10, 154, 155, 156, 26, 157, 28, 29, 158, 131, 159, 160, 161, 162, 118, 119, 120, 33, 121, 48, 31, 32, 34, 35, 44, 45, 46, 47, 49, 50, 51, 52, 53, 54, 55, 56, 57, 58, 59, 60, 61, 62, 63, 64, 65, 66, 67, 68, 69, 70, 71, 72, 73, 74, 75, 76, 135, 137, 138, 139, 140, 163, 164, 165, 166, 167, 168, 179, 180] (by decide +kernel) (by decide +kernel)
set_option maxRecDepth 20000 in
theorem gL_look_X5_would : GoodIn wsL_look (wsV RL 30 RX5 yX5_would wsX5_would) := goodIn_app (goodIn_of _ (by decide +kernel)) ggL_look_X5_would
theorem dL_look_0 : decode cL_look 0 = .ok (.ldc2_w 9, 3) := by decide +kernel
theorem dL_look_3 : decode cL_look 3 = .ok (.lstore_n 1, 1) := by decide +kernel
theorem dL_look_4 : decode cL_look 4 = .ok (.iconst 0, 1) := by decide +kernel
theorem dL_look_5 : decode cL_look 5 = .ok (.istore_n 3, 1) := by decide +kernel
theorem dL_look_6 : decode cL_look 6 = .ok (.iload_n 3, 1) := by decide +kernel
theorem dL_look_7 : decode cL_look 7 = .ok (.bipush 14, 2) := by decide +kernel
theorem dL_look_9 : decode cL_look 9 = .ok (.if_icmp .ge 22, 3) := by decide +kernel
theorem dL_look_12 : decode cL_look 12 = .ok (.ldc2_w 11, 3) := by decide +kernel
theorem dL_look_15 : decode cL_look 15 = .ok (.lload_n 1, 1) := by decide +kernel
theorem dL_look_16 : decode cL_look 16 = .ok (.lmul, 1) := by decide +kernel
theorem dL_look_17 : decode cL_look 17 = .ok (.aload_n 0, 1) := by decide +kernel
theorem dL_look_18 : decode cL_look 18 = .ok (.iload_n 3, 1) := by decide +kernel
theorem dL_look_19 : decode cL_look 19 = .ok (.invokevirtual 13, 3) := by decide +kernel
theorem dL_look_22 : decode cL_look 22 = .ok (.i2l, 1) := by decide +kernel
theorem dL_look_23 : decode cL_look 23 = .ok (.ladd, 1) := by decide +kernel
theorem dL_look_24 : decode cL_look 24 = .ok (.lstore_n 1, 1) := by decide +kernel
theorem dL_look_25 : decode cL_look 25 = .ok (.iinc 3 1, 3) := by decide +kernel
theorem dL_look_28 : decode cL_look 28 = .ok (.goto (-22), 3) := by decide +kernel
theorem dL_look_31 : decode cL_look 31 = .ok (.ldc2_w 11, 3) := by decide +kernel
theorem dL_look_34 : decode cL_look 34 = .ok (.ldc2_w 11, 3) := by decide +kernel
theorem dL_look_37 : decode cL_look 37 = .ok (.lload_n 1, 1) := by decide +kernel
theorem dL_look_38 : decode cL_look 38 = .ok (.lmul, 1) := by decide +kernel
theorem dL_look_39 : decode cL_look 39 = .ok (.aload_n 0, 1) := by decide +kernel
theorem dL_look_40 : decode cL_look 40 = .ok (.bipush 20, 2) := by decide +kernel
theorem dL_look_42 : decode cL_look 42 = .ok (.invokevirtual 13, 3) := by decide +kernel
theorem dL_look_45 : decode cL_look 45 = .ok (.i2l, 1) := by decide +kernel
theorem dL_look_46 : decode cL_look 46 = .ok (.ladd, 1) := by decide +kernel
theorem dL_look_47 : decode cL_look 47 = .ok (.lmul, 1) := by decide +kernel
theorem dL_look_48 : decode cL_look 48 = .ok (.aload_n 0, 1) := by decide +kernel
theorem dL_look_49 : decode cL_look 49 = .ok (.bipush 21, 2) := by decide +kernel
theorem dL_look_51 : decode cL_look 51 = .ok (.invokevirtual 13, 3) := by decide +kernel
theorem dL_look_54 : decode cL_look 54 = .ok (.i2l, 1) := by decide +kernel
theorem dL_look_55 : decode cL_look 55 = .ok (.ladd, 1) := by decide +kernel
theorem dL_look_56 : decode cL_look 56 = .ok (.lstore_n 1, 1) := by decide +kernel
theorem dL_look_57 : decode cL_look 57 = .ok (.iconst 0, 1) := by decide +kernel
theorem dL_look_58 : decode cL_look 58 = .ok (.istore_n 3, 1) := by decide +kernel
theorem dL_look_59 : decode cL_look 59 = .ok (.iload_n 3, 1) := by decide +kernel
theorem dL_look_60 : decode cL_look 60 = .ok (.aload_n 0, 1) := by decide +kernel
theorem dL_look_61 : decode cL_look 61 = .ok (.iconst 0, 1) := by decide +kernel
theorem dL_look_62 : decode cL_look 62 = .ok (.invokevirtual 13, 3) := by decide +kernel
theorem dL_look_65 : decode cL_look 65 = .ok (.if_icmp .ge 175, 3) := by decide +kernel
theorem dL_look_68 : decode cL_look 68 = .ok (.ldc2_w 11, 3) := by decide +kernel
theorem dL_look_71 : decode cL_look 71 = .ok (.ldc2_w 11, 3) := by decide +kernel
theorem dL_look_74 : decode cL_look 74 = .ok (.ldc2_w 11, 3) := by decide +kernel
theorem dL_look_77 : decode cL_look 77 = .ok (.lload_n 1, 1) := by decide +kernel
theorem dL_look_78 : decode cL_look 78 = .ok (.lmul, 1) := by decide +kernel
theorem dL_look_79 : decode cL_look 79 = .ok (.aload_n 0, 1) := by decide +kernel
theorem dL_look_80 : decode cL_look 80 = .ok (.iload_n 3, 1) := by decide +kernel
theorem dL_look_81 : decode cL_look 81 = .ok (.iconst 0, 1) := by decide +kernel
theorem dL_look_82 : decode cL_look 82 = .ok (.invokevirtual 19, 3) := by decide +kernel
theorem dL_look_85 : decode cL_look 85 = .ok (.i2l, 1) := by decide +kernel
theorem dL_look_86 : decode cL_look 86 = .ok (.ladd, 1) := by decide +kernel
theorem dL_look_87 : decode cL_look 87 = .ok (.lmul, 1) := by decide +kernel
theorem dL_look_88 : decode cL_look 88 = .ok (.aload_n 0, 1) := by decide +kernel
theorem dL_look_89 : decode cL_look 89 = .ok (.iload_n 3, 1) := by decide +kernel
theorem dL_look_90 : decode cL_look 90 = .ok (.bipush 8, 2) := by decide +kernel
theorem dL_look_92 : decode cL_look 92 = .ok (.invokevirtual 19, 3) := by decide +kernel
theorem dL_look_95 : decode cL_look 95 = .ok (.i2l, 1) := by decide +kernel
theorem dL_look_96 : decode cL_look 96 = .ok (.ladd, 1) := by decide +kernel
theorem dL_look_97 : decode cL_look 97 = .ok (.lmul, 1) := by decide +kernel
theorem dL_look_98 : decode cL_look 98 = .ok (.aload_n 0, 1) := by decide +kernel
theorem dL_look_99 : decode cL_look 99 = .ok (.iload_n 3, 1) := by decide +kernel
theorem dL_look_100 : decode cL_look 100 = .ok (.bipush 9, 2) := by decide +kernel
theorem dL_look_102 : decode cL_look 102 = .ok (.invokevirtual 19, 3) := by decide +kernel
theorem dL_look_105 : decode cL_look 105 = .ok (.i2l, 1) := by decide +kernel
theorem dL_look_106 : decode cL_look 106 = .ok (.ladd, 1) := by decide +kernel
theorem dL_look_107 : decode cL_look 107 = .ok (.lstore_n 1, 1) := by decide +kernel
theorem dL_look_108 : decode cL_look 108 = .ok (.iconst 0, 1) := by decide +kernel
theorem dL_look_109 : decode cL_look 109 = .ok (.istore 4, 2) := by decide +kernel
theorem dL_look_111 : decode cL_look 111 = .ok (.iload 4, 2) := by decide +kernel
theorem dL_look_113 : decode cL_look 113 = .ok (.bipush 8, 2) := by decide +kernel
theorem dL_look_115 : decode cL_look 115 = .ok (.if_icmp .ge 39, 3) := by decide +kernel
theorem dL_look_118 : decode cL_look 118 = .ok (.ldc2_w 11, 3) := by decide +kernel
theorem dL_look_121 : decode cL_look 121 = .ok (.ldc2_w 11, 3) := by decide +kernel
theorem dL_look_124 : decode cL_look 124 = .ok (.lload_n 1, 1) := by decide +kernel
theorem dL_look_125 : decode cL_look 125 = .ok (.lmul, 1) := by decide +kernel
theorem dL_look_126 : decode cL_look 126 = .ok (.aload_n 0, 1) := by decide +kernel
theorem dL_look_127 : decode cL_look 127 = .ok (.iload_n 3, 1) := by decide +kernel
theorem dL_look_128 : decode cL_look 128 = .ok (.iload 4, 2) := by decide +kernel
theorem dL_look_130 : decode cL_look 130 = .ok (.iconst 0, 1) := by decide +kernel
theorem dL_look_131 : decode cL_look 131 = .ok (.invokevirtual 23, 3) := by decide +kernel
theorem dL_look_134 : decode cL_look 134 = .ok (.i2l, 1) := by decide +kernel
theorem dL_look_135 : decode cL_look 135 = .ok (.ladd, 1) := by decide +kernel
theorem dL_look_136 : decode cL_look 136 = .ok (.lmul, 1) := by decide +kernel
theorem dL_look_137 : decode cL_look 137 = .ok (.aload_n 0, 1) := by decide +kernel
theorem dL_look_138 : decode cL_look 138 = .ok (.iload_n 3, 1) := by decide +kernel
theorem dL_look_139 : decode cL_look 139 = .ok (.iload 4, 2) := by decide +kernel
theorem dL_look_141 : decode cL_look 141 = .ok (.iconst 1, 1) := by decide +kernel
theorem dL_look_142 : decode cL_look 142 = .ok (.invokevirtual 23, 3) := by decide +kernel
theorem dL_look_145 : decode cL_look 145 = .ok (.i2l, 1) := by decide +kernel
theorem dL_look_146 : decode cL_look 146 = .ok (.ladd, 1) := by decide +kernel
theorem dL_look_147 : decode cL_look 147 = .ok (.lstore_n 1, 1) := by decide +kernel
theorem dL_look_148 : decode cL_look 148 = .ok (.iinc 4 1, 3) := by decide +kernel
theorem dL_look_151 : decode cL_look 151 = .ok (.goto (-40), 3) := by decide +kernel
theorem dL_look_154 : decode cL_look 154 = .ok (.iconst 0, 1) := by decide +kernel
theorem dL_look_155 : decode cL_look 155 = .ok (.istore 4, 2) := by decide +kernel
theorem dL_look_157 : decode cL_look 157 = .ok (.iload 4, 2) := by decide +kernel
theorem dL_look_159 : decode cL_look 159 = .ok (.aload_n 0, 1) := by decide +kernel
theorem dL_look_160 : decode cL_look 160 = .ok (.iload_n 3, 1) := by decide +kernel
theorem dL_look_161 : decode cL_look 161 = .ok (.iconst 4, 1) := by decide +kernel
theorem dL_look_162 : decode cL_look 162 = .ok (.invokevirtual 19, 3) := by decide +kernel
theorem dL_look_165 : decode cL_look 165 = .ok (.if_icmp .ge 41, 3) := by decide +kernel
theorem dL_look_168 : decode cL_look 168 = .ok (.iconst 0, 1) := by decide +kernel
theorem dL_look_169 : decode cL_look 169 = .ok (.istore 5, 2) := by decide +kernel
theorem dL_look_171 : decode cL_look 171 = .ok (.iload 5, 2) := by decide +kernel
theorem dL_look_173 : decode cL_look 173 = .ok (.iconst 4, 1) := by decide +kernel
theorem dL_look_174 : decode cL_look 174 = .ok (.if_icmp .ge 26, 3) := by decide +kernel
theorem dL_look_177 : decode cL_look 177 = .ok (.ldc2_w 11, 3) := by decide +kernel
theorem dL_look_180 : decode cL_look 180 = .ok (.lload_n 1, 1) := by decide +kernel
theorem dL_look_181 : decode cL_look 181 = .ok (.lmul, 1) := by decide +kernel
theorem dL_look_182 : decode cL_look 182 = .ok (.aload_n 0, 1) := by decide +kernel
theorem dL_look_183 : decode cL_look 183 = .ok (.iload_n 3, 1) := by decide +kernel
theorem dL_look_184 : decode cL_look 184 = .ok (.iload 4, 2) := by decide +kernel
theorem dL_look_186 : decode cL_look 186 = .ok (.iload 5, 2) := by decide +kernel
theorem dL_look_188 : decode cL_look 188 = .ok (.invokevirtual 27, 3) := by decide +kernel
theorem dL_look_191 : decode cL_look 191 = .ok (.i2l, 1) := by decide +kernel
theorem dL_look_192 : decode cL_look 192 = .ok (.ladd, 1) := by decide +kernel
theorem dL_look_193 : decode cL_look 193 = .ok (.lstore_n 1, 1) := by decide +kernel
theorem dL_look_194 : decode cL_look 194 = .ok (.iinc 5 1, 3) := by decide +kernel
theorem dL_look_197 : decode cL_look 197 = .ok (.goto (-26), 3) := by decide +kernel
theorem dL_look_200 : decode cL_look 200 = .ok (.iinc 4 1, 3) := by decide +kernel
theorem dL_look_203 : decode cL_look 203 = .ok (.goto (-46), 3) := by decide +kernel
theorem dL_look_206 : decode cL_look 206 = .ok (.ldc2_w 11, 3) := by decide +kernel
theorem dL_look_209 : decode cL_look 209 = .ok (.lload_n 1, 1) := by decide +kernel
theorem dL_look_210 : decode cL_look 210 = .ok (.lmul, 1) := by decide +kernel
theorem dL_look_211 : decode cL_look 211 = .ok (.aload_n 0, 1) := by decide +kernel
theorem dL_look_212 : decode cL_look 212 = .ok (.iload_n 3, 1) := by decide +kernel
theorem dL_look_213 : decode cL_look 213 = .ok (.iconst 1, 1) := by decide +kernel
theorem dL_look_214 : decode cL_look 214 = .ok (.invokevirtual 19, 3) := by decide +kernel
theorem dL_look_217 : decode cL_look 217 = .ok (.iconst 1, 1) := by decide +kernel
theorem dL_look_218 : decode cL_look 218 = .ok (.if_icmp .ne 7, 3) := by decide +kernel
theorem dL_look_221 : decode cL_look 221 = .ok (.iconst 0, 1) := by decide +kernel
theorem dL_look_222 : decode cL_look 222 = .ok (.goto 9, 3) := by decide +kernel
theorem dL_look_225 : decode cL_look 225 = .ok (.aload_n 0, 1) := by decide +kernel
theorem dL_look_226 : decode cL_look 226 = .ok (.iload_n 3, 1) := by decide +kernel
theorem dL_look_227 : decode cL_look 227 = .ok (.iconst 1, 1) := by decide +kernel
theorem dL_look_228 : decode cL_look 228 = .ok (.invokevirtual 30, 3) := by decide +kernel
theorem dL_look_231 : decode cL_look 231 = .ok (.i2l, 1) := by decide +kernel
theorem dL_look_232 : decode cL_look 232 = .ok (.ladd, 1) := by decide +kernel
theorem dL_look_233 : decode cL_look 233 = .ok (.lstore_n 1, 1) := by decide +kernel
theorem dL_look_234 : decode cL_look 234 = .ok (.iinc 3 1, 3) := by decide +kernel
theorem dL_look_237 : decode cL_look 237 = .ok (.goto (-178), 3) := by decide +kernel
theorem dL_look_240 : decode cL_look 240 = .ok (.lload_n 1, 1) := by decide +kernel
theorem dL_look_241 : decode cL_look 241 = .ok (.lreturn, 1) := by decide +kernel
set_option maxRecDepth 20000 in
theorem ggL_holds_X5_count : GoodIn wsL_holds wsX5_count := goodIn_r _ [6, 7, 8, 9, 10, 11, 12, 13, 14, 15, 16, 17, 18, 19, 20, 21, 22, 23, 24, 25, 26, 27, 28, 29, 30, 31, 32, 33, 34, 35, 36, 37, 38, 39, 40, 41, 42, 43, 44, 45, 46, 47, 48, 49, 50, 51, 52, 53, 54, 55, 56, 57, 58, 59, 60, 61, 62, 63, 64, 65, 66, 67, 68, 69, 70, 71, 72, 73, 74, 75, 76, 77, 78, 79, 80, 81, 82, 83, 84, 85, 86, 87, 88, 89, 90, 91, 92, 93, 94, 95, 96, 97, 98, 99, 100, 101, 102, 103, 104, 105, 106, 107, 108, 165, 166, 167, 168, 169, 170, 171, 172, 173, 174, 175, 176, 177, 178, 179, 180, 181, 182] (by decide +kernel) (by decide +kernel)
set_option maxRecDepth 20000 in
theorem gL_holds_X5_count : GoodIn wsL_holds (wsV RL 13 RX5 yX5_count wsX5_count) := goodIn_app (goodIn_of _ (by decide +kernel)) ggL_holds_X5_count
set_option maxRecDepth 20000 in
theorem ggL_holds_X5_row : GoodIn wsL_holds wsX5_row := goodIn_r _ [112, 9, 113, 114, 115, 25, 116, 27, 28, 117, 118, 119, 32, 120, 47, 30, 31, 33, 34, 29, 121, 60, 61, 62, 43, 44, 45, 46, 76, 77, 78, 79, 80, 81, 82, 83, 105, 106, 107, 108, 48, 49, 50, 51, 52, 53, 54, 55, 56, 57, 58, 59, 63, 64, 65, 66, 67, 68, 69, 70, 71, 72, 73, 74, 75, 165, 166, 167, 168, 169, 170, 181, 182] (by decide +kernel) (by decide +kernel)
set_option maxRecDepth 20000 in
theorem gL_holds_X5_row : GoodIn wsL_holds (wsV RL 19 RX5 yX5_row wsX5_row) := goodIn_app (goodIn_of _ (by decide +kernel)) ggL_holds_X5_row
set_option maxRecDepth 20000 in
theorem ggL_holds_X5_at : GoodIn wsL_holds wsX5_at := goodIn_r _ [125, 126, 127, 128, 118, 119, 32, 120, 47, 30, 31, 33, 34, 129, 165, 166, 167, 168, 169, 170, 182] (by decide +kernel) (by decide +kernel)
set_option maxRecDepth 20000 in
theorem gL_holds_X5_at : GoodIn wsL_holds (wsV RL 33 RX5 yX5_at wsX5_at) := goodIn_app (goodIn_of _ (by decide +kernel)) ggL_holds_X5_at
set_option maxRecDepth 20000 in
theorem ggL_holds_X5_margin : GoodIn wsL_holds wsX5_margin := goodIn_r _ [133, 9, 134, 135, 136, 25, 137, 27, 28, 138, 117, 118, 119, 32, 120, 47, 30, 31, 33, 34, 29, 92, 93, 94, 95, 139, 64, 65, 140, 74, 75, 141, 142, 143, 144, 70, 71, 72, 96, 67, 68, 69, 165, 166, 167, 168, 169, 170, 181, 182] (by decide +kernel) (by decide +kernel)
set_option maxRecDepth 20000 in
theorem gL_holds_X5_margin : GoodIn wsL_holds (wsV RL 27 RX5 yX5_margin wsX5_margin) := goodIn_app (goodIn_of _ (by decide +kernel)) ggL_holds_X5_margin
set_option maxRecDepth 20000 in
theorem ggL_holds_X5_mean : GoodIn wsL_holds wsX5_mean := goodIn_r _ [148, 9, 149, 150, 151, 25, 152, 138, 27, 88, 89, 90, 91, 29, 30, 31, 32, 33, 34, 92, 93, 94, 95, 96, 67, 68, 69, 47, 70, 71, 72, 141, 142, 143, 144, 153, 154, 155, 156, 165, 166, 167, 168, 169, 170, 181, 182] (by decide +kernel) (by decide +kernel)
set_option maxRecDepth 20000 in
theorem gL_holds_X5_mean : GoodIn wsL_holds (wsV RL 39 RX5 yX5_mean wsX5_mean) := goodIn_app (goodIn_of _ (by decide +kernel)) ggL_holds_X5_mean
set_option maxRecDepth 20000 in
theorem ggL_holds_X5_share : GoodIn wsL_holds wsX5_share := goodIn_r _ [160, 9, 161, 162, 163, 25, 164, 27, 138, 29, 30, 31, 32, 33, 34, 43, 44, 45, 46, 47, 48, 49, 50, 51, 52, 53, 54, 55, 56, 57, 58, 59, 60, 61, 62, 63, 64, 65, 66, 67, 68, 69, 70, 71, 72, 73, 74, 75, 153, 154, 155, 156, 165, 166, 167, 168, 169, 170, 181, 182] (by decide +kernel) (by decide +kernel)
set_option maxRecDepth 20000 in
theorem gL_holds_X5_share : GoodIn wsL_holds (wsV RL 43 RX5 yX5_share wsX5_share) := goodIn_app (goodIn_of _ (by decide +kernel)) ggL_holds_X5_share
theorem dL_holds_0 : decode cL_holds 0 = .ok (.iconst 0, 1) := by decide +kernel
theorem dL_holds_1 : decode cL_holds 1 = .ok (.istore_n 1, 1) := by decide +kernel
theorem dL_holds_2 : decode cL_holds 2 = .ok (.iconst 0, 1) := by decide +kernel
theorem dL_holds_3 : decode cL_holds 3 = .ok (.istore_n 2, 1) := by decide +kernel
theorem dL_holds_4 : decode cL_holds 4 = .ok (.iconst 0, 1) := by decide +kernel
theorem dL_holds_5 : decode cL_holds 5 = .ok (.istore_n 3, 1) := by decide +kernel
theorem dL_holds_6 : decode cL_holds 6 = .ok (.aload_n 0, 1) := by decide +kernel
theorem dL_holds_7 : decode cL_holds 7 = .ok (.iconst 0, 1) := by decide +kernel
theorem dL_holds_8 : decode cL_holds 8 = .ok (.invokevirtual 13, 3) := by decide +kernel
theorem dL_holds_11 : decode cL_holds 11 = .ok (.istore 4, 2) := by decide +kernel
theorem dL_holds_13 : decode cL_holds 13 = .ok (.iload 4, 2) := by decide +kernel
theorem dL_holds_15 : decode cL_holds 15 = .ok (.iconst 3, 1) := by decide +kernel
theorem dL_holds_16 : decode cL_holds 16 = .ok (.if_icmp .lt 40, 3) := by decide +kernel
theorem dL_holds_19 : decode cL_holds 19 = .ok (.iload 4, 2) := by decide +kernel
theorem dL_holds_21 : decode cL_holds 21 = .ok (.bipush 9, 2) := by decide +kernel
theorem dL_holds_23 : decode cL_holds 23 = .ok (.if_icmp .gt 33, 3) := by decide +kernel
theorem dL_holds_26 : decode cL_holds 26 = .ok (.aload_n 0, 1) := by decide +kernel
theorem dL_holds_27 : decode cL_holds 27 = .ok (.bipush 10, 2) := by decide +kernel
theorem dL_holds_29 : decode cL_holds 29 = .ok (.invokevirtual 13, 3) := by decide +kernel
theorem dL_holds_32 : decode cL_holds 32 = .ok (.aload_n 0, 1) := by decide +kernel
theorem dL_holds_33 : decode cL_holds 33 = .ok (.bipush 9, 2) := by decide +kernel
theorem dL_holds_35 : decode cL_holds 35 = .ok (.invokevirtual 13, 3) := by decide +kernel
theorem dL_holds_38 : decode cL_holds 38 = .ok (.if_icmp .gt 18, 3) := by decide +kernel
theorem dL_holds_41 : decode cL_holds 41 = .ok (.aload_n 0, 1) := by decide +kernel
theorem dL_holds_42 : decode cL_holds 42 = .ok (.iconst 1, 1) := by decide +kernel
theorem dL_holds_43 : decode cL_holds 43 = .ok (.invokevirtual 13, 3) := by decide +kernel
theorem dL_holds_46 : decode cL_holds 46 = .ok (.sipush 9999, 3) := by decide +kernel
theorem dL_holds_49 : decode cL_holds 49 = .ok (.if_icmp .gt 7, 3) := by decide +kernel
theorem dL_holds_52 : decode cL_holds 52 = .ok (.iconst 1, 1) := by decide +kernel
theorem dL_holds_53 : decode cL_holds 53 = .ok (.goto 4, 3) := by decide +kernel
theorem dL_holds_56 : decode cL_holds 56 = .ok (.iconst 0, 1) := by decide +kernel
theorem dL_holds_57 : decode cL_holds 57 = .ok (.istore 5, 2) := by decide +kernel
theorem dL_holds_59 : decode cL_holds 59 = .ok (.iconst 0, 1) := by decide +kernel
theorem dL_holds_60 : decode cL_holds 60 = .ok (.istore 6, 2) := by decide +kernel
theorem dL_holds_62 : decode cL_holds 62 = .ok (.iload 6, 2) := by decide +kernel
theorem dL_holds_64 : decode cL_holds 64 = .ok (.iload 4, 2) := by decide +kernel
theorem dL_holds_66 : decode cL_holds 66 = .ok (.if_icmp .ge 369, 3) := by decide +kernel
theorem dL_holds_69 : decode cL_holds 69 = .ok (.iload 5, 2) := by decide +kernel
theorem dL_holds_71 : decode cL_holds 71 = .ok (.ifCond .eq 364, 3) := by decide +kernel
theorem dL_holds_74 : decode cL_holds 74 = .ok (.aload_n 0, 1) := by decide +kernel
theorem dL_holds_75 : decode cL_holds 75 = .ok (.iload 6, 2) := by decide +kernel
theorem dL_holds_77 : decode cL_holds 77 = .ok (.iconst 1, 1) := by decide +kernel
theorem dL_holds_78 : decode cL_holds 78 = .ok (.invokevirtual 19, 3) := by decide +kernel
theorem dL_holds_81 : decode cL_holds 81 = .ok (.istore 7, 2) := by decide +kernel
theorem dL_holds_83 : decode cL_holds 83 = .ok (.aload_n 0, 1) := by decide +kernel
theorem dL_holds_84 : decode cL_holds 84 = .ok (.iload 6, 2) := by decide +kernel
theorem dL_holds_86 : decode cL_holds 86 = .ok (.iconst 2, 1) := by decide +kernel
theorem dL_holds_87 : decode cL_holds 87 = .ok (.invokevirtual 19, 3) := by decide +kernel
theorem dL_holds_90 : decode cL_holds 90 = .ok (.istore 8, 2) := by decide +kernel
theorem dL_holds_92 : decode cL_holds 92 = .ok (.aload_n 0, 1) := by decide +kernel
theorem dL_holds_93 : decode cL_holds 93 = .ok (.iload 6, 2) := by decide +kernel
theorem dL_holds_95 : decode cL_holds 95 = .ok (.iconst 3, 1) := by decide +kernel
theorem dL_holds_96 : decode cL_holds 96 = .ok (.invokevirtual 19, 3) := by decide +kernel
theorem dL_holds_99 : decode cL_holds 99 = .ok (.istore 9, 2) := by decide +kernel
theorem dL_holds_101 : decode cL_holds 101 = .ok (.iload_n 1, 1) := by decide +kernel
theorem dL_holds_102 : decode cL_holds 102 = .ok (.aload_n 0, 1) := by decide +kernel
theorem dL_holds_103 : decode cL_holds 103 = .ok (.iload 6, 2) := by decide +kernel
theorem dL_holds_105 : decode cL_holds 105 = .ok (.iconst 4, 1) := by decide +kernel
theorem dL_holds_106 : decode cL_holds 106 = .ok (.invokevirtual 19, 3) := by decide +kernel
theorem dL_holds_109 : decode cL_holds 109 = .ok (.iadd, 1) := by decide +kernel
theorem dL_holds_110 : decode cL_holds 110 = .ok (.istore_n 1, 1) := by decide +kernel
theorem dL_holds_111 : decode cL_holds 111 = .ok (.iload_n 2, 1) := by decide +kernel
theorem dL_holds_112 : decode cL_holds 112 = .ok (.aload_n 0, 1) := by decide +kernel
theorem dL_holds_113 : decode cL_holds 113 = .ok (.iload 6, 2) := by decide +kernel
theorem dL_holds_115 : decode cL_holds 115 = .ok (.bipush 8, 2) := by decide +kernel
theorem dL_holds_117 : decode cL_holds 117 = .ok (.invokevirtual 19, 3) := by decide +kernel
theorem dL_holds_120 : decode cL_holds 120 = .ok (.iadd, 1) := by decide +kernel
theorem dL_holds_121 : decode cL_holds 121 = .ok (.istore_n 2, 1) := by decide +kernel
theorem dL_holds_122 : decode cL_holds 122 = .ok (.iload_n 3, 1) := by decide +kernel
theorem dL_holds_123 : decode cL_holds 123 = .ok (.iload 7, 2) := by decide +kernel
theorem dL_holds_125 : decode cL_holds 125 = .ok (.iload 6, 2) := by decide +kernel
theorem dL_holds_127 : decode cL_holds 127 = .ok (.ishl, 1) := by decide +kernel
theorem dL_holds_128 : decode cL_holds 128 = .ok (.ior, 1) := by decide +kernel
theorem dL_holds_129 : decode cL_holds 129 = .ok (.istore_n 3, 1) := by decide +kernel
theorem dL_holds_130 : decode cL_holds 130 = .ok (.aload_n 0, 1) := by decide +kernel
theorem dL_holds_131 : decode cL_holds 131 = .ok (.aload_n 0, 1) := by decide +kernel
theorem dL_holds_132 : decode cL_holds 132 = .ok (.iload 6, 2) := by decide +kernel
theorem dL_holds_134 : decode cL_holds 134 = .ok (.iconst 0, 1) := by decide +kernel
theorem dL_holds_135 : decode cL_holds 135 = .ok (.invokevirtual 19, 3) := by decide +kernel
theorem dL_holds_138 : decode cL_holds 138 = .ok (.invokevirtual 33, 3) := by decide +kernel
theorem dL_holds_141 : decode cL_holds 141 = .ok (.iload 6, 2) := by decide +kernel
theorem dL_holds_143 : decode cL_holds 143 = .ok (.if_icmp .ne 136, 3) := by decide +kernel
theorem dL_holds_146 : decode cL_holds 146 = .ok (.aload_n 0, 1) := by decide +kernel
theorem dL_holds_147 : decode cL_holds 147 = .ok (.iload 8, 2) := by decide +kernel
theorem dL_holds_149 : decode cL_holds 149 = .ok (.iconst 3, 1) := by decide +kernel
theorem dL_holds_150 : decode cL_holds 150 = .ok (.invokevirtual 19, 3) := by decide +kernel
theorem dL_holds_153 : decode cL_holds 153 = .ok (.iload 6, 2) := by decide +kernel
theorem dL_holds_155 : decode cL_holds 155 = .ok (.if_icmp .ne 124, 3) := by decide +kernel
theorem dL_holds_158 : decode cL_holds 158 = .ok (.aload_n 0, 1) := by decide +kernel
theorem dL_holds_159 : decode cL_holds 159 = .ok (.iload 9, 2) := by decide +kernel
theorem dL_holds_161 : decode cL_holds 161 = .ok (.iconst 2, 1) := by decide +kernel
theorem dL_holds_162 : decode cL_holds 162 = .ok (.invokevirtual 19, 3) := by decide +kernel
theorem dL_holds_165 : decode cL_holds 165 = .ok (.iload 6, 2) := by decide +kernel
theorem dL_holds_167 : decode cL_holds 167 = .ok (.if_icmp .ne 112, 3) := by decide +kernel
theorem dL_holds_170 : decode cL_holds 170 = .ok (.iload 8, 2) := by decide +kernel
theorem dL_holds_172 : decode cL_holds 172 = .ok (.iload 9, 2) := by decide +kernel
theorem dL_holds_174 : decode cL_holds 174 = .ok (.if_icmp .eq 105, 3) := by decide +kernel
theorem dL_holds_177 : decode cL_holds 177 = .ok (.iload 7, 2) := by decide +kernel
theorem dL_holds_179 : decode cL_holds 179 = .ok (.iconst 1, 1) := by decide +kernel
theorem dL_holds_180 : decode cL_holds 180 = .ok (.if_icmp .ne 27, 3) := by decide +kernel
theorem dL_holds_183 : decode cL_holds 183 = .ok (.aload_n 0, 1) := by decide +kernel
theorem dL_holds_184 : decode cL_holds 184 = .ok (.iload 6, 2) := by decide +kernel
theorem dL_holds_186 : decode cL_holds 186 = .ok (.iconst 5, 1) := by decide +kernel
theorem dL_holds_187 : decode cL_holds 187 = .ok (.invokevirtual 19, 3) := by decide +kernel
theorem dL_holds_190 : decode cL_holds 190 = .ok (.aload_n 0, 1) := by decide +kernel
theorem dL_holds_191 : decode cL_holds 191 = .ok (.iload 6, 2) := by decide +kernel
theorem dL_holds_193 : decode cL_holds 193 = .ok (.bipush 7, 2) := by decide +kernel
theorem dL_holds_195 : decode cL_holds 195 = .ok (.invokevirtual 19, 3) := by decide +kernel
theorem dL_holds_198 : decode cL_holds 198 = .ok (.iadd, 1) := by decide +kernel
theorem dL_holds_199 : decode cL_holds 199 = .ok (.bipush 8, 2) := by decide +kernel
theorem dL_holds_201 : decode cL_holds 201 = .ok (.if_icmp .gt 78, 3) := by decide +kernel
theorem dL_holds_204 : decode cL_holds 204 = .ok (.goto 36, 3) := by decide +kernel
theorem dL_holds_207 : decode cL_holds 207 = .ok (.aload_n 0, 1) := by decide +kernel
theorem dL_holds_208 : decode cL_holds 208 = .ok (.iload 6, 2) := by decide +kernel
theorem dL_holds_210 : decode cL_holds 210 = .ok (.iconst 4, 1) := by decide +kernel
theorem dL_holds_211 : decode cL_holds 211 = .ok (.invokevirtual 19, 3) := by decide +kernel
theorem dL_holds_214 : decode cL_holds 214 = .ok (.ifCond .ne 65, 3) := by decide +kernel
theorem dL_holds_217 : decode cL_holds 217 = .ok (.aload_n 0, 1) := by decide +kernel
theorem dL_holds_218 : decode cL_holds 218 = .ok (.iload 6, 2) := by decide +kernel
theorem dL_holds_220 : decode cL_holds 220 = .ok (.iconst 5, 1) := by decide +kernel
theorem dL_holds_221 : decode cL_holds 221 = .ok (.invokevirtual 19, 3) := by decide +kernel
theorem dL_holds_224 : decode cL_holds 224 = .ok (.bipush 8, 2) := by decide +kernel
theorem dL_holds_226 : decode cL_holds 226 = .ok (.if_icmp .ne 53, 3) := by decide +kernel
theorem dL_holds_229 : decode cL_holds 229 = .ok (.aload_n 0, 1) := by decide +kernel
theorem dL_holds_230 : decode cL_holds 230 = .ok (.iload 6, 2) := by decide +kernel
theorem dL_holds_232 : decode cL_holds 232 = .ok (.bipush 6, 2) := by decide +kernel
theorem dL_holds_234 : decode cL_holds 234 = .ok (.invokevirtual 19, 3) := by decide +kernel
theorem dL_holds_237 : decode cL_holds 237 = .ok (.ifCond .ne 42, 3) := by decide +kernel
theorem dL_holds_240 : decode cL_holds 240 = .ok (.aload_n 0, 1) := by decide +kernel
theorem dL_holds_241 : decode cL_holds 241 = .ok (.iload 6, 2) := by decide +kernel
theorem dL_holds_243 : decode cL_holds 243 = .ok (.iconst 4, 1) := by decide +kernel
theorem dL_holds_244 : decode cL_holds 244 = .ok (.invokevirtual 19, 3) := by decide +kernel
theorem dL_holds_247 : decode cL_holds 247 = .ok (.aload_n 0, 1) := by decide +kernel
theorem dL_holds_248 : decode cL_holds 248 = .ok (.bipush 20, 2) := by decide +kernel
theorem dL_holds_250 : decode cL_holds 250 = .ok (.invokevirtual 13, 3) := by decide +kernel
theorem dL_holds_253 : decode cL_holds 253 = .ok (.if_icmp .gt 26, 3) := by decide +kernel
theorem dL_holds_256 : decode cL_holds 256 = .ok (.aload_n 0, 1) := by decide +kernel
theorem dL_holds_257 : decode cL_holds 257 = .ok (.iload 6, 2) := by decide +kernel
theorem dL_holds_259 : decode cL_holds 259 = .ok (.aload_n 0, 1) := by decide +kernel
theorem dL_holds_260 : decode cL_holds 260 = .ok (.iload 6, 2) := by decide +kernel
theorem dL_holds_262 : decode cL_holds 262 = .ok (.iconst 4, 1) := by decide +kernel
theorem dL_holds_263 : decode cL_holds 263 = .ok (.invokevirtual 19, 3) := by decide +kernel
theorem dL_holds_266 : decode cL_holds 266 = .ok (.iconst 0, 1) := by decide +kernel
theorem dL_holds_267 : decode cL_holds 267 = .ok (.invokevirtual 27, 3) := by decide +kernel
theorem dL_holds_270 : decode cL_holds 270 = .ok (.ldc 38, 2) := by decide +kernel
theorem dL_holds_272 : decode cL_holds 272 = .ok (.if_icmp .ne 7, 3) := by decide +kernel
theorem dL_holds_275 : decode cL_holds 275 = .ok (.iconst 1, 1) := by decide +kernel
theorem dL_holds_276 : decode cL_holds 276 = .ok (.goto 4, 3) := by decide +kernel
theorem dL_holds_279 : decode cL_holds 279 = .ok (.iconst 0, 1) := by decide +kernel
theorem dL_holds_280 : decode cL_holds 280 = .ok (.istore 5, 2) := by decide +kernel
theorem dL_holds_282 : decode cL_holds 282 = .ok (.iconst 0, 1) := by decide +kernel
theorem dL_holds_283 : decode cL_holds 283 = .ok (.istore 10, 2) := by decide +kernel
theorem dL_holds_285 : decode cL_holds 285 = .ok (.iload 10, 2) := by decide +kernel
theorem dL_holds_287 : decode cL_holds 287 = .ok (.aload_n 0, 1) := by decide +kernel
theorem dL_holds_288 : decode cL_holds 288 = .ok (.iload 6, 2) := by decide +kernel
theorem dL_holds_290 : decode cL_holds 290 = .ok (.iconst 4, 1) := by decide +kernel
theorem dL_holds_291 : decode cL_holds 291 = .ok (.invokevirtual 19, 3) := by decide +kernel
theorem dL_holds_294 : decode cL_holds 294 = .ok (.if_icmp .ge 135, 3) := by decide +kernel
theorem dL_holds_297 : decode cL_holds 297 = .ok (.iload 5, 2) := by decide +kernel
theorem dL_holds_299 : decode cL_holds 299 = .ok (.ifCond .eq 130, 3) := by decide +kernel
theorem dL_holds_302 : decode cL_holds 302 = .ok (.iconst 0, 1) := by decide +kernel
theorem dL_holds_303 : decode cL_holds 303 = .ok (.istore 11, 2) := by decide +kernel
theorem dL_holds_305 : decode cL_holds 305 = .ok (.iload 11, 2) := by decide +kernel
theorem dL_holds_307 : decode cL_holds 307 = .ok (.iload 10, 2) := by decide +kernel
theorem dL_holds_309 : decode cL_holds 309 = .ok (.if_icmp .ge 63, 3) := by decide +kernel
theorem dL_holds_312 : decode cL_holds 312 = .ok (.iload 5, 2) := by decide +kernel
theorem dL_holds_314 : decode cL_holds 314 = .ok (.ifCond .eq 49, 3) := by decide +kernel
theorem dL_holds_317 : decode cL_holds 317 = .ok (.aload_n 0, 1) := by decide +kernel
theorem dL_holds_318 : decode cL_holds 318 = .ok (.iload 6, 2) := by decide +kernel
theorem dL_holds_320 : decode cL_holds 320 = .ok (.iload 10, 2) := by decide +kernel
theorem dL_holds_322 : decode cL_holds 322 = .ok (.iconst 0, 1) := by decide +kernel
theorem dL_holds_323 : decode cL_holds 323 = .ok (.invokevirtual 27, 3) := by decide +kernel
theorem dL_holds_326 : decode cL_holds 326 = .ok (.aload_n 0, 1) := by decide +kernel
theorem dL_holds_327 : decode cL_holds 327 = .ok (.iload 6, 2) := by decide +kernel
theorem dL_holds_329 : decode cL_holds 329 = .ok (.iload 11, 2) := by decide +kernel
theorem dL_holds_331 : decode cL_holds 331 = .ok (.iconst 0, 1) := by decide +kernel
theorem dL_holds_332 : decode cL_holds 332 = .ok (.invokevirtual 27, 3) := by decide +kernel
theorem dL_holds_335 : decode cL_holds 335 = .ok (.if_icmp .ne 24, 3) := by decide +kernel
theorem dL_holds_338 : decode cL_holds 338 = .ok (.aload_n 0, 1) := by decide +kernel
theorem dL_holds_339 : decode cL_holds 339 = .ok (.iload 6, 2) := by decide +kernel
theorem dL_holds_341 : decode cL_holds 341 = .ok (.iload 10, 2) := by decide +kernel
theorem dL_holds_343 : decode cL_holds 343 = .ok (.iconst 1, 1) := by decide +kernel
theorem dL_holds_344 : decode cL_holds 344 = .ok (.invokevirtual 27, 3) := by decide +kernel
theorem dL_holds_347 : decode cL_holds 347 = .ok (.aload_n 0, 1) := by decide +kernel
theorem dL_holds_348 : decode cL_holds 348 = .ok (.iload 6, 2) := by decide +kernel
theorem dL_holds_350 : decode cL_holds 350 = .ok (.iload 11, 2) := by decide +kernel
theorem dL_holds_352 : decode cL_holds 352 = .ok (.iconst 1, 1) := by decide +kernel
theorem dL_holds_353 : decode cL_holds 353 = .ok (.invokevirtual 27, 3) := by decide +kernel
theorem dL_holds_356 : decode cL_holds 356 = .ok (.if_icmp .eq 7, 3) := by decide +kernel
theorem dL_holds_359 : decode cL_holds 359 = .ok (.iconst 1, 1) := by decide +kernel
theorem dL_holds_360 : decode cL_holds 360 = .ok (.goto 4, 3) := by decide +kernel
theorem dL_holds_363 : decode cL_holds 363 = .ok (.iconst 0, 1) := by decide +kernel
theorem dL_holds_364 : decode cL_holds 364 = .ok (.istore 5, 2) := by decide +kernel
theorem dL_holds_366 : decode cL_holds 366 = .ok (.iinc 11 1, 3) := by decide +kernel
theorem dL_holds_369 : decode cL_holds 369 = .ok (.goto (-64), 3) := by decide +kernel
theorem dL_holds_372 : decode cL_holds 372 = .ok (.iload 5, 2) := by decide +kernel
theorem dL_holds_374 : decode cL_holds 374 = .ok (.ifCond .eq 46, 3) := by decide +kernel
theorem dL_holds_377 : decode cL_holds 377 = .ok (.aload_n 0, 1) := by decide +kernel
theorem dL_holds_378 : decode cL_holds 378 = .ok (.iload 6, 2) := by decide +kernel
theorem dL_holds_380 : decode cL_holds 380 = .ok (.iload 10, 2) := by decide +kernel
theorem dL_holds_382 : decode cL_holds 382 = .ok (.iconst 3, 1) := by decide +kernel
theorem dL_holds_383 : decode cL_holds 383 = .ok (.invokevirtual 27, 3) := by decide +kernel
theorem dL_holds_386 : decode cL_holds 386 = .ok (.ifCond .lt 34, 3) := by decide +kernel
theorem dL_holds_389 : decode cL_holds 389 = .ok (.aload_n 0, 1) := by decide +kernel
theorem dL_holds_390 : decode cL_holds 390 = .ok (.iload 6, 2) := by decide +kernel
theorem dL_holds_392 : decode cL_holds 392 = .ok (.iload 10, 2) := by decide +kernel
theorem dL_holds_394 : decode cL_holds 394 = .ok (.iconst 2, 1) := by decide +kernel
theorem dL_holds_395 : decode cL_holds 395 = .ok (.invokevirtual 27, 3) := by decide +kernel
theorem dL_holds_398 : decode cL_holds 398 = .ok (.ifCond .lt 22, 3) := by decide +kernel
theorem dL_holds_401 : decode cL_holds 401 = .ok (.aload_n 0, 1) := by decide +kernel
theorem dL_holds_402 : decode cL_holds 402 = .ok (.iload 6, 2) := by decide +kernel
theorem dL_holds_404 : decode cL_holds 404 = .ok (.iload 10, 2) := by decide +kernel
theorem dL_holds_406 : decode cL_holds 406 = .ok (.iconst 2, 1) := by decide +kernel
theorem dL_holds_407 : decode cL_holds 407 = .ok (.invokevirtual 27, 3) := by decide +kernel
theorem dL_holds_410 : decode cL_holds 410 = .ok (.sipush 999, 3) := by decide +kernel
theorem dL_holds_413 : decode cL_holds 413 = .ok (.if_icmp .gt 7, 3) := by decide +kernel
theorem dL_holds_416 : decode cL_holds 416 = .ok (.iconst 1, 1) := by decide +kernel
theorem dL_holds_417 : decode cL_holds 417 = .ok (.goto 4, 3) := by decide +kernel
theorem dL_holds_420 : decode cL_holds 420 = .ok (.iconst 0, 1) := by decide +kernel
theorem dL_holds_421 : decode cL_holds 421 = .ok (.istore 5, 2) := by decide +kernel
theorem dL_holds_423 : decode cL_holds 423 = .ok (.iinc 10 1, 3) := by decide +kernel
theorem dL_holds_426 : decode cL_holds 426 = .ok (.goto (-141), 3) := by decide +kernel
theorem dL_holds_429 : decode cL_holds 429 = .ok (.iinc 6 1, 3) := by decide +kernel
theorem dL_holds_432 : decode cL_holds 432 = .ok (.goto (-370), 3) := by decide +kernel
theorem dL_holds_435 : decode cL_holds 435 = .ok (.iload 5, 2) := by decide +kernel
theorem dL_holds_437 : decode cL_holds 437 = .ok (.ifCond .eq 113, 3) := by decide +kernel
theorem dL_holds_440 : decode cL_holds 440 = .ok (.iload_n 1, 1) := by decide +kernel
theorem dL_holds_441 : decode cL_holds 441 = .ok (.aload_n 0, 1) := by decide +kernel
theorem dL_holds_442 : decode cL_holds 442 = .ok (.iconst 4, 1) := by decide +kernel
theorem dL_holds_443 : decode cL_holds 443 = .ok (.invokevirtual 13, 3) := by decide +kernel
theorem dL_holds_446 : decode cL_holds 446 = .ok (.if_icmp .ne 104, 3) := by decide +kernel
theorem dL_holds_449 : decode cL_holds 449 = .ok (.iload_n 2, 1) := by decide +kernel
theorem dL_holds_450 : decode cL_holds 450 = .ok (.aload_n 0, 1) := by decide +kernel
theorem dL_holds_451 : decode cL_holds 451 = .ok (.bipush 9, 2) := by decide +kernel
theorem dL_holds_453 : decode cL_holds 453 = .ok (.invokevirtual 13, 3) := by decide +kernel
theorem dL_holds_456 : decode cL_holds 456 = .ok (.if_icmp .ne 94, 3) := by decide +kernel
theorem dL_holds_459 : decode cL_holds 459 = .ok (.iload_n 3, 1) := by decide +kernel
theorem dL_holds_460 : decode cL_holds 460 = .ok (.aload_n 0, 1) := by decide +kernel
theorem dL_holds_461 : decode cL_holds 461 = .ok (.iconst 2, 1) := by decide +kernel
theorem dL_holds_462 : decode cL_holds 462 = .ok (.invokevirtual 13, 3) := by decide +kernel
theorem dL_holds_465 : decode cL_holds 465 = .ok (.if_icmp .ne 85, 3) := by decide +kernel
theorem dL_holds_468 : decode cL_holds 468 = .ok (.aload_n 0, 1) := by decide +kernel
theorem dL_holds_469 : decode cL_holds 469 = .ok (.iconst 3, 1) := by decide +kernel
theorem dL_holds_470 : decode cL_holds 470 = .ok (.invokevirtual 13, 3) := by decide +kernel
theorem dL_holds_473 : decode cL_holds 473 = .ok (.iload_n 3, 1) := by decide +kernel
theorem dL_holds_474 : decode cL_holds 474 = .ok (.iconst (-1), 1) := by decide +kernel
theorem dL_holds_475 : decode cL_holds 475 = .ok (.ixor, 1) := by decide +kernel
theorem dL_holds_476 : decode cL_holds 476 = .ok (.iand, 1) := by decide +kernel
theorem dL_holds_477 : decode cL_holds 477 = .ok (.ifCond .ne 73, 3) := by decide +kernel
theorem dL_holds_480 : decode cL_holds 480 = .ok (.aload_n 0, 1) := by decide +kernel
theorem dL_holds_481 : decode cL_holds 481 = .ok (.iconst 5, 1) := by decide +kernel
theorem dL_holds_482 : decode cL_holds 482 = .ok (.invokevirtual 13, 3) := by decide +kernel
theorem dL_holds_485 : decode cL_holds 485 = .ok (.iload_n 1, 1) := by decide +kernel
theorem dL_holds_486 : decode cL_holds 486 = .ok (.if_icmp .gt 64, 3) := by decide +kernel
theorem dL_holds_489 : decode cL_holds 489 = .ok (.aload_n 0, 1) := by decide +kernel
theorem dL_holds_490 : decode cL_holds 490 = .ok (.invokevirtual 39, 3) := by decide +kernel
theorem dL_holds_493 : decode cL_holds 493 = .ok (.ldc 38, 2) := by decide +kernel
theorem dL_holds_495 : decode cL_holds 495 = .ok (.if_icmp .ne 7, 3) := by decide +kernel
theorem dL_holds_498 : decode cL_holds 498 = .ok (.iconst 1, 1) := by decide +kernel
theorem dL_holds_499 : decode cL_holds 499 = .ok (.goto 4, 3) := by decide +kernel
theorem dL_holds_502 : decode cL_holds 502 = .ok (.iconst 0, 1) := by decide +kernel
theorem dL_holds_503 : decode cL_holds 503 = .ok (.aload_n 0, 1) := by decide +kernel
theorem dL_holds_504 : decode cL_holds 504 = .ok (.iconst 5, 1) := by decide +kernel
theorem dL_holds_505 : decode cL_holds 505 = .ok (.invokevirtual 13, 3) := by decide +kernel
theorem dL_holds_508 : decode cL_holds 508 = .ok (.iload_n 1, 1) := by decide +kernel
theorem dL_holds_509 : decode cL_holds 509 = .ok (.if_icmp .ne 7, 3) := by decide +kernel
theorem dL_holds_512 : decode cL_holds 512 = .ok (.iconst 1, 1) := by decide +kernel
theorem dL_holds_513 : decode cL_holds 513 = .ok (.goto 4, 3) := by decide +kernel
theorem dL_holds_516 : decode cL_holds 516 = .ok (.iconst 0, 1) := by decide +kernel
theorem dL_holds_517 : decode cL_holds 517 = .ok (.if_icmp .ne 33, 3) := by decide +kernel
theorem dL_holds_520 : decode cL_holds 520 = .ok (.aload_n 0, 1) := by decide +kernel
theorem dL_holds_521 : decode cL_holds 521 = .ok (.invokevirtual 43, 3) := by decide +kernel
theorem dL_holds_524 : decode cL_holds 524 = .ok (.ldc 38, 2) := by decide +kernel
theorem dL_holds_526 : decode cL_holds 526 = .ok (.if_icmp .ne 7, 3) := by decide +kernel
theorem dL_holds_529 : decode cL_holds 529 = .ok (.iconst 1, 1) := by decide +kernel
theorem dL_holds_530 : decode cL_holds 530 = .ok (.goto 4, 3) := by decide +kernel
theorem dL_holds_533 : decode cL_holds 533 = .ok (.iconst 0, 1) := by decide +kernel
theorem dL_holds_534 : decode cL_holds 534 = .ok (.iload_n 3, 1) := by decide +kernel
theorem dL_holds_535 : decode cL_holds 535 = .ok (.ifCond .ne 7, 3) := by decide +kernel
theorem dL_holds_538 : decode cL_holds 538 = .ok (.iconst 1, 1) := by decide +kernel
theorem dL_holds_539 : decode cL_holds 539 = .ok (.goto 4, 3) := by decide +kernel
theorem dL_holds_542 : decode cL_holds 542 = .ok (.iconst 0, 1) := by decide +kernel
theorem dL_holds_543 : decode cL_holds 543 = .ok (.if_icmp .ne 7, 3) := by decide +kernel
theorem dL_holds_546 : decode cL_holds 546 = .ok (.iconst 1, 1) := by decide +kernel
theorem dL_holds_547 : decode cL_holds 547 = .ok (.goto 4, 3) := by decide +kernel
theorem dL_holds_550 : decode cL_holds 550 = .ok (.iconst 0, 1) := by decide +kernel
theorem dL_holds_551 : decode cL_holds 551 = .ok (.ireturn, 1) := by decide +kernel
set_option maxRecDepth 20000 in
theorem ggL_would_X5_count : GoodIn wsL_would wsX5_count := goodIn_r _ [9, 10, 11, 12, 13, 14, 15, 16, 17, 18, 19, 20, 21, 22, 23, 24, 25, 26, 27, 28, 29, 30, 31, 32, 33, 34, 35, 36, 37, 38, 39, 40, 41, 42, 43, 44, 45, 46, 47, 48, 49, 50, 51, 52, 53, 54, 55, 56, 57, 58, 59, 60, 61, 62, 63, 64, 65, 66, 67, 68, 69, 70, 71, 72, 73, 74, 75, 76, 77, 78, 79, 80, 81, 82, 83, 84, 85, 86, 87, 88, 89, 90, 91, 92, 93, 94, 95, 96, 97, 98, 99, 100, 101, 102, 103, 104, 105, 106, 107, 108, 109, 110, 111, 259, 260, 261, 262, 263, 264, 265, 266, 267, 268, 269, 270, 271, 272, 273, 274, 275, 276] (by decide +kernel) (by decide +kernel)
set_option maxRecDepth 20000 in
theorem gL_would_X5_count : GoodIn wsL_would (wsV RL 13 RX5 yX5_count wsX5_count) := goodIn_app (goodIn_of _ (by decide +kernel)) ggL_would_X5_count
set_option maxRecDepth 20000 in
theorem ggL_would_L_low : GoodIn wsL_would wsL_low := goodIn_r _ [115, 116] (by decide +kernel) (by decide +kernel)
set_option maxRecDepth 20000 in
theorem gL_would_L_low : GoodIn wsL_would (va_wsS RL 46 yL_low wsL_low) := goodIn_app (goodIn_of _ (by decide +kernel)) ggL_would_L_low
set_option maxRecDepth 20000 in
theorem ggL_would_X5_would : GoodIn wsL_would wsX5_would := goodIn_r _ [120, 12, 121, 122, 123, 28, 124, 30, 31, 125, 126, 127, 128, 129, 130, 131, 132, 133, 35, 134, 50, 33, 34, 36, 37, 46, 47, 48, 49, 51, 52, 53, 54, 55, 56, 57, 58, 59, 60, 61, 62, 63, 64, 65, 66, 67, 68, 69, 70, 71, 72, 73, 74, 75, 76, 77, 78, 135, 136, 137, 138, 139, 259, 260, 261, 262, 263, 264, 275, 276] (by decide +kernel) (by decide +kernel)
set_option maxRecDepth 20000 in
theorem gL_would_X5_would : GoodIn wsL_would (wsV RL 30 RX5 yX5_would wsX5_would) := goodIn_app (goodIn_of _ (by decide +kernel)) ggL_would_X5_would
set_option maxRecDepth 20000 in
theorem ggL_would_X5_row : GoodIn wsL_would wsX5_row := goodIn_r _ [143, 12, 144, 145, 146, 28, 147, 30, 31, 131, 132, 133, 35, 134, 50, 33, 34, 36, 37, 32, 148, 63, 64, 65, 46, 47, 48, 49, 79, 80, 81, 82, 83, 84, 85, 86, 108, 109, 110, 111, 51, 52, 53, 54, 55, 56, 57, 58, 59, 60, 61, 62, 66, 67, 68, 69, 70, 71, 72, 73, 74, 75, 76, 77, 78, 259, 260, 261, 262, 263, 264, 275, 276] (by decide +kernel) (by decide +kernel)
set_option maxRecDepth 20000 in
theorem gL_would_X5_row : GoodIn wsL_would (wsV RL 19 RX5 yX5_row wsX5_row) := goodIn_app (goodIn_of _ (by decide +kernel)) ggL_would_X5_row
set_option maxRecDepth 20000 in
theorem ggL_would_X5_order : GoodIn wsL_would wsX5_order := goodIn_r _ [152, 153, 154, 155, 156, 157, 158, 159, 160, 161, 162, 163, 164, 165, 166, 167, 33, 34, 35, 36, 37, 168, 47, 48, 49, 50, 169, 170, 171, 172, 173, 174, 175, 176, 177, 178, 179, 180, 181, 182, 183, 184, 185, 186, 187, 52, 53, 54, 55, 56, 57, 58, 59, 60, 61, 62, 63, 64, 65, 66, 67, 68, 69, 70, 71, 72, 73, 74, 75, 76, 77, 78, 188, 189, 190, 191, 192, 193, 194, 195, 196, 197, 198, 199, 132, 133, 134, 200, 201, 202, 203, 204, 205, 206, 207, 208, 209, 210, 211, 212, 213, 214, 215, 216, 217, 218, 219, 220, 221, 222, 223, 224, 225, 226, 227, 228, 229, 230, 128, 129, 130, 231, 232, 233, 234, 235, 236, 237, 238, 259, 260, 261, 262, 263, 264, 277, 278, 279, 280, 276] (by decide +kernel) (by decide +kernel)
set_option maxRecDepth 20000 in
theorem gL_would_X5_order : GoodIn wsL_would (wsV RL 49 RX5 yX5_order wsX5_order) := goodIn_app (goodIn_of _ (by decide +kernel)) ggL_would_X5_order
set_option maxRecDepth 20000 in
theorem ggL_would_X5_comes : GoodIn wsL_would wsX5_comes := goodIn_r _ [242, 154, 155, 157, 158, 159, 160, 161, 162, 163, 164, 165, 166, 167, 33, 34, 35, 36, 37, 168, 47, 48, 49, 50, 169, 170, 171, 172, 173, 174, 175, 176, 177, 178, 179, 180, 181, 182, 183, 184, 185, 186, 187, 52, 53, 54, 55, 56, 57, 58, 59, 60, 61, 62, 63, 64, 65, 66, 67, 68, 69, 70, 71, 72, 73, 74, 75, 76, 77, 78, 188, 189, 190, 191, 192, 193, 194, 195, 196, 197, 198, 199, 132, 133, 134, 200, 201, 202, 203, 204, 205, 206, 207, 208, 209, 210, 211, 212, 213, 214, 215, 216, 217, 218, 219, 220, 221, 222, 223, 224, 225, 226, 227, 228, 229, 230, 128, 129, 130, 231, 232, 233, 243, 244, 245, 246, 259, 260, 261, 262, 263, 264, 277, 278, 279, 280, 276] (by decide +kernel) (by decide +kernel)
set_option maxRecDepth 20000 in
theorem gL_would_X5_comes : GoodIn wsL_would (wsV RL 52 RX5 yX5_comes wsX5_comes) := goodIn_app (goodIn_of _ (by decide +kernel)) ggL_would_X5_comes
set_option maxRecDepth 20000 in
theorem ggL_would_X5_safeFor : GoodIn wsL_would wsX5_safeFor := goodIn_r _ [250, 12, 251, 252, 253, 28, 254, 126, 30, 42, 43, 44, 45, 32, 33, 34, 35, 36, 37, 46, 47, 48, 49, 50, 51, 52, 53, 54, 55, 56, 57, 58, 59, 60, 61, 62, 63, 64, 65, 66, 67, 68, 69, 70, 71, 72, 73, 74, 75, 76, 77, 78, 79, 80, 81, 82, 83, 84, 85, 86, 255, 256, 257, 258, 127, 128, 129, 130, 135, 136, 137, 138, 139, 259, 260, 261, 262, 263, 264, 275, 276] (by decide +kernel) (by decide +kernel)
set_option maxRecDepth 20000 in
theorem gL_would_X5_safeFor : GoodIn wsL_would (wsV RL 55 RX5 yX5_safeFor wsX5_safeFor) := goodIn_app (goodIn_of _ (by decide +kernel)) ggL_would_X5_safeFor
theorem dL_would_0 : decode cL_would 0 = .ok (.aload_n 0, 1) := by decide +kernel
theorem dL_would_1 : decode cL_would 1 = .ok (.iconst 0, 1) := by decide +kernel
theorem dL_would_2 : decode cL_would 2 = .ok (.invokevirtual 13, 3) := by decide +kernel
theorem dL_would_5 : decode cL_would 5 = .ok (.istore_n 2, 1) := by decide +kernel
theorem dL_would_6 : decode cL_would 6 = .ok (.iload_n 1, 1) := by decide +kernel
theorem dL_would_7 : decode cL_would 7 = .ok (.iload_n 2, 1) := by decide +kernel
theorem dL_would_8 : decode cL_would 8 = .ok (.iconst 1, 1) := by decide +kernel
theorem dL_would_9 : decode cL_would 9 = .ok (.iadd, 1) := by decide +kernel
theorem dL_would_10 : decode cL_would 10 = .ok (.invokestatic 46, 3) := by decide +kernel
theorem dL_would_13 : decode cL_would 13 = .ok (.istore_n 3, 1) := by decide +kernel
theorem dL_would_14 : decode cL_would 14 = .ok (.iload_n 1, 1) := by decide +kernel
theorem dL_would_15 : decode cL_would 15 = .ok (.iconst 4, 1) := by decide +kernel
theorem dL_would_16 : decode cL_would 16 = .ok (.ishr, 1) := by decide +kernel
theorem dL_would_17 : decode cL_would 17 = .ok (.iconst 5, 1) := by decide +kernel
theorem dL_would_18 : decode cL_would 18 = .ok (.invokestatic 46, 3) := by decide +kernel
theorem dL_would_21 : decode cL_would 21 = .ok (.istore 4, 2) := by decide +kernel
theorem dL_would_23 : decode cL_would 23 = .ok (.aload_n 0, 1) := by decide +kernel
theorem dL_would_24 : decode cL_would 24 = .ok (.iload_n 3, 1) := by decide +kernel
theorem dL_would_25 : decode cL_would 25 = .ok (.iload 4, 2) := by decide +kernel
theorem dL_would_27 : decode cL_would 27 = .ok (.invokevirtual 30, 3) := by decide +kernel
theorem dL_would_30 : decode cL_would 30 = .ok (.istore 5, 2) := by decide +kernel
theorem dL_would_32 : decode cL_would 32 = .ok (.iconst 0, 1) := by decide +kernel
theorem dL_would_33 : decode cL_would 33 = .ok (.istore 6, 2) := by decide +kernel
theorem dL_would_35 : decode cL_would 35 = .ok (.iconst 0, 1) := by decide +kernel
theorem dL_would_36 : decode cL_would 36 = .ok (.istore 7, 2) := by decide +kernel
theorem dL_would_38 : decode cL_would 38 = .ok (.iload 7, 2) := by decide +kernel
theorem dL_would_40 : decode cL_would 40 = .ok (.iload_n 2, 1) := by decide +kernel
theorem dL_would_41 : decode cL_would 41 = .ok (.if_icmp .ge 23, 3) := by decide +kernel
theorem dL_would_44 : decode cL_would 44 = .ok (.iload 6, 2) := by decide +kernel
theorem dL_would_46 : decode cL_would 46 = .ok (.iconst 1, 1) := by decide +kernel
theorem dL_would_47 : decode cL_would 47 = .ok (.aload_n 0, 1) := by decide +kernel
theorem dL_would_48 : decode cL_would 48 = .ok (.iload 7, 2) := by decide +kernel
theorem dL_would_50 : decode cL_would 50 = .ok (.iconst 1, 1) := by decide +kernel
theorem dL_would_51 : decode cL_would 51 = .ok (.invokevirtual 19, 3) := by decide +kernel
theorem dL_would_54 : decode cL_would 54 = .ok (.isub, 1) := by decide +kernel
theorem dL_would_55 : decode cL_would 55 = .ok (.iadd, 1) := by decide +kernel
theorem dL_would_56 : decode cL_would 56 = .ok (.istore 6, 2) := by decide +kernel
theorem dL_would_58 : decode cL_would 58 = .ok (.iinc 7 1, 3) := by decide +kernel
theorem dL_would_61 : decode cL_would 61 = .ok (.goto (-23), 3) := by decide +kernel
theorem dL_would_64 : decode cL_would 64 = .ok (.iload_n 1, 1) := by decide +kernel
theorem dL_would_65 : decode cL_would 65 = .ok (.bipush 7, 2) := by decide +kernel
theorem dL_would_67 : decode cL_would 67 = .ok (.ishr, 1) := by decide +kernel
theorem dL_would_68 : decode cL_would 68 = .ok (.bipush 6, 2) := by decide +kernel
theorem dL_would_70 : decode cL_would 70 = .ok (.invokestatic 46, 3) := by decide +kernel
theorem dL_would_73 : decode cL_would 73 = .ok (.iconst 1, 1) := by decide +kernel
theorem dL_would_74 : decode cL_would 74 = .ok (.isub, 1) := by decide +kernel
theorem dL_would_75 : decode cL_would 75 = .ok (.istore 7, 2) := by decide +kernel
theorem dL_would_77 : decode cL_would 77 = .ok (.aload_n 0, 1) := by decide +kernel
theorem dL_would_78 : decode cL_would 78 = .ok (.iload 7, 2) := by decide +kernel
theorem dL_would_80 : decode cL_would 80 = .ok (.invokevirtual 49, 3) := by decide +kernel
theorem dL_would_83 : decode cL_would 83 = .ok (.istore 8, 2) := by decide +kernel
theorem dL_would_85 : decode cL_would 85 = .ok (.aload_n 0, 1) := by decide +kernel
theorem dL_would_86 : decode cL_would 86 = .ok (.invokevirtual 52, 3) := by decide +kernel
theorem dL_would_89 : decode cL_would 89 = .ok (.istore 9, 2) := by decide +kernel
theorem dL_would_91 : decode cL_would 91 = .ok (.aload_n 0, 1) := by decide +kernel
theorem dL_would_92 : decode cL_would 92 = .ok (.invokevirtual 55, 3) := by decide +kernel
theorem dL_would_95 : decode cL_would 95 = .ok (.istore 10, 2) := by decide +kernel
theorem dL_would_97 : decode cL_would 97 = .ok (.iload_n 3, 1) := by decide +kernel
theorem dL_would_98 : decode cL_would 98 = .ok (.iload_n 2, 1) := by decide +kernel
theorem dL_would_99 : decode cL_would 99 = .ok (.if_icmp .eq 9, 3) := by decide +kernel
theorem dL_would_102 : decode cL_would 102 = .ok (.iload 4, 2) := by decide +kernel
theorem dL_would_104 : decode cL_would 104 = .ok (.iconst 4, 1) := by decide +kernel
theorem dL_would_105 : decode cL_would 105 = .ok (.if_icmp .ne 18, 3) := by decide +kernel
theorem dL_would_108 : decode cL_would 108 = .ok (.iload 5, 2) := by decide +kernel
theorem dL_would_110 : decode cL_would 110 = .ok (.ldc 58, 2) := by decide +kernel
theorem dL_would_112 : decode cL_would 112 = .ok (.if_icmp .ne 7, 3) := by decide +kernel
theorem dL_would_115 : decode cL_would 115 = .ok (.iconst 1, 1) := by decide +kernel
theorem dL_would_116 : decode cL_would 116 = .ok (.goto 86, 3) := by decide +kernel
theorem dL_would_119 : decode cL_would 119 = .ok (.iconst 0, 1) := by decide +kernel
theorem dL_would_120 : decode cL_would 120 = .ok (.goto 82, 3) := by decide +kernel
theorem dL_would_123 : decode cL_would 123 = .ok (.aload_n 0, 1) := by decide +kernel
theorem dL_would_124 : decode cL_would 124 = .ok (.iload_n 3, 1) := by decide +kernel
theorem dL_would_125 : decode cL_would 125 = .ok (.iconst 1, 1) := by decide +kernel
theorem dL_would_126 : decode cL_would 126 = .ok (.invokevirtual 19, 3) := by decide +kernel
theorem dL_would_129 : decode cL_would 129 = .ok (.iconst 1, 1) := by decide +kernel
theorem dL_would_130 : decode cL_would 130 = .ok (.if_icmp .ne 18, 3) := by decide +kernel
theorem dL_would_133 : decode cL_would 133 = .ok (.iload 5, 2) := by decide +kernel
theorem dL_would_135 : decode cL_would 135 = .ok (.ldc 59, 2) := by decide +kernel
theorem dL_would_137 : decode cL_would 137 = .ok (.if_icmp .ne 7, 3) := by decide +kernel
theorem dL_would_140 : decode cL_would 140 = .ok (.iconst 1, 1) := by decide +kernel
theorem dL_would_141 : decode cL_would 141 = .ok (.goto 61, 3) := by decide +kernel
theorem dL_would_144 : decode cL_would 144 = .ok (.iconst 0, 1) := by decide +kernel
theorem dL_would_145 : decode cL_would 145 = .ok (.goto 57, 3) := by decide +kernel
theorem dL_would_148 : decode cL_would 148 = .ok (.iload 4, 2) := by decide +kernel
theorem dL_would_150 : decode cL_would 150 = .ok (.iconst 3, 1) := by decide +kernel
theorem dL_would_151 : decode cL_would 151 = .ok (.if_icmp .ne 34, 3) := by decide +kernel
theorem dL_would_154 : decode cL_would 154 = .ok (.iload 5, 2) := by decide +kernel
theorem dL_would_156 : decode cL_would 156 = .ok (.ldc 38, 2) := by decide +kernel
theorem dL_would_158 : decode cL_would 158 = .ok (.if_icmp .eq 19, 3) := by decide +kernel
theorem dL_would_161 : decode cL_would 161 = .ok (.iload 5, 2) := by decide +kernel
theorem dL_would_163 : decode cL_would 163 = .ok (.ifCond .lt 18, 3) := by decide +kernel
theorem dL_would_166 : decode cL_would 166 = .ok (.iload 5, 2) := by decide +kernel
theorem dL_would_168 : decode cL_would 168 = .ok (.aload_n 0, 1) := by decide +kernel
theorem dL_would_169 : decode cL_would 169 = .ok (.bipush 21, 2) := by decide +kernel
theorem dL_would_171 : decode cL_would 171 = .ok (.invokevirtual 13, 3) := by decide +kernel
theorem dL_would_174 : decode cL_would 174 = .ok (.if_icmp .gt 7, 3) := by decide +kernel
theorem dL_would_177 : decode cL_would 177 = .ok (.iconst 1, 1) := by decide +kernel
theorem dL_would_178 : decode cL_would 178 = .ok (.goto 24, 3) := by decide +kernel
theorem dL_would_181 : decode cL_would 181 = .ok (.iconst 0, 1) := by decide +kernel
theorem dL_would_182 : decode cL_would 182 = .ok (.goto 20, 3) := by decide +kernel
theorem dL_would_185 : decode cL_would 185 = .ok (.iload 5, 2) := by decide +kernel
theorem dL_would_187 : decode cL_would 187 = .ok (.ifCond .lt 14, 3) := by decide +kernel
theorem dL_would_190 : decode cL_would 190 = .ok (.iload 5, 2) := by decide +kernel
theorem dL_would_192 : decode cL_would 192 = .ok (.bipush 8, 2) := by decide +kernel
theorem dL_would_194 : decode cL_would 194 = .ok (.if_icmp .gt 7, 3) := by decide +kernel
theorem dL_would_197 : decode cL_would 197 = .ok (.iconst 1, 1) := by decide +kernel
theorem dL_would_198 : decode cL_would 198 = .ok (.goto 4, 3) := by decide +kernel
theorem dL_would_201 : decode cL_would 201 = .ok (.iconst 0, 1) := by decide +kernel
theorem dL_would_202 : decode cL_would 202 = .ok (.istore 11, 2) := by decide +kernel
theorem dL_would_204 : decode cL_would 204 = .ok (.iload 11, 2) := by decide +kernel
theorem dL_would_206 : decode cL_would 206 = .ok (.ifCond .eq 101, 3) := by decide +kernel
theorem dL_would_209 : decode cL_would 209 = .ok (.iload 7, 2) := by decide +kernel
theorem dL_would_211 : decode cL_would 211 = .ok (.ifCond .ge 13, 3) := by decide +kernel
theorem dL_would_214 : decode cL_would 214 = .ok (.iload 8, 2) := by decide +kernel
theorem dL_would_216 : decode cL_would 216 = .ok (.ldc 58, 2) := by decide +kernel
theorem dL_would_218 : decode cL_would 218 = .ok (.if_icmp .ne 89, 3) := by decide +kernel
theorem dL_would_221 : decode cL_would 221 = .ok (.goto 51, 3) := by decide +kernel
