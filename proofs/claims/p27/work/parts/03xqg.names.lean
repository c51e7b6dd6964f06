set_option maxRecDepth 20000 in
theorem ggL_law_L_lot : GoodIn wsL_law wsL_lot := goodIn_r _ [376, 377] (by decide +kernel) (by decide +kernel)
theorem gL_law_L_lot : GoodIn wsL_law (va_wsS RL 120 yL_lot wsL_lot) := goodIn_app (goodIn_of _ (by decide +kernel)) ggL_law_L_lot
set_option maxRecDepth 20000 in
theorem ggL_law_L_look_0 : GoodIn wsL_law (Cond.code yL_look cL_look 6 (some .long) :: wsL_look_r1) := goodIn_r _ [380, 381, 382, 135, 136, 137, 2, 138, 26, 30, 18, 139, 140, 141, 25, 142, 59, 143, 144, 145, 29, 146, 67, 147, 148] (by decide +kernel) (by decide +kernel)
set_option maxRecDepth 20000 in
theorem ggL_law_L_look_1 : GoodIn wsL_law wsL_look_r2 := goodIn_r _ [149, 17, 150, 41, 151, 152, 94, 95, 12, 96, 36, 153, 154, 155, 156, 157, 158, 159, 160, 161, 90, 91, 92, 93] (by decide +kernel) (by decide +kernel)
set_option maxRecDepth 20000 in
theorem ggL_law_L_look_2 : GoodIn wsL_law wsL_look_r3 := goodIn_r _ [162, 163, 164, 165, 166, 167, 168, 169, 101, 102, 103, 97, 98, 99, 100, 112, 113, 114, 170, 171, 172, 173, 174, 175] (by decide +kernel) (by decide +kernel)
set_option maxRecDepth 20000 in
theorem ggL_law_L_look_3 : GoodIn wsL_law wsL_look_r4 := goodIn_r _ [176, 177, 178, 179, 180, 181, 182, 183, 184, 185, 186, 187, 188, 189, 190, 191, 192, 193, 194, 195, 196, 197, 198, 199] (by decide +kernel) (by decide +kernel)
set_option maxRecDepth 20000 in
theorem ggL_law_L_look_4 : GoodIn wsL_law wsL_look_r5 := goodIn_r _ [200, 201, 202, 203, 204, 205, 206, 207, 208, 209, 210, 211, 212, 213, 214, 215, 216, 217, 218, 219, 220, 221, 222, 223] (by decide +kernel) (by decide +kernel)
