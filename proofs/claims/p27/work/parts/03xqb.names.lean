set_option maxRecDepth 20000 in
theorem ggL_law_L_holds_1 : GoodIn wsL_law wsL_holds_r2 := goodIn_r _ [17, 150, 41, 151, 152, 94, 95, 12, 96, 36, 153, 154, 155, 156, 157, 158, 159, 160, 161, 90, 91, 92, 93, 162] (by decide +kernel) (by decide +kernel)
set_option maxRecDepth 20000 in
theorem ggL_law_L_holds_2 : GoodIn wsL_law wsL_holds_r3 := goodIn_r _ [163, 164, 165, 166, 167, 168, 169, 101, 102, 103, 97, 98, 99, 100, 112, 113, 114, 170, 171, 172, 173, 174, 175, 176] (by decide +kernel) (by decide +kernel)
set_option maxRecDepth 20000 in
theorem ggL_law_L_holds_3 : GoodIn wsL_law wsL_holds_r4 := goodIn_r _ [177, 178, 179, 180, 181, 182, 183, 184, 185, 186, 187, 188, 189, 190, 191, 192, 193, 194, 195, 196, 197, 198, 199, 200] (by decide +kernel) (by decide +kernel)
set_option maxRecDepth 20000 in
theorem ggL_law_L_holds_4 : GoodIn wsL_law wsL_holds_r5 := goodIn_r _ [201, 202, 203, 204, 205, 206, 207, 208, 209, 210, 211, 212, 213, 214, 215, 216, 217, 218, 219, 220, 221, 222, 223, 224] (by decide +kernel) (by decide +kernel)
set_option maxRecDepth 20000 in
theorem ggL_law_L_holds_5 : GoodIn wsL_law wsL_holds_r6 := goodIn_r _ [225, 226, 227, 228, 229, 13, 230, 231, 232, 233, 234, 235, 236, 237, 238, 239, 240, 241, 242, 243, 244, 245, 246, 247] (by decide +kernel) (by decide +kernel)
