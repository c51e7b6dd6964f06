set_option maxRecDepth 20000 in
theorem ggL_law_L_acts_h : GoodIn wsL_law [Cond.code yL_acts cL_acts 14 (some .boolean)] := goodIn_1 396 rfl rfl
set_option maxRecDepth 20000 in
theorem ggL_law_L_acts_g : GoodIn wsL_law wsL_acts_r1 := goodIn_r _ [271, 3, 272, 273, 274, 132, 275, 276, 135, 136, 137, 2, 138, 26, 30, 18, 139, 140, 141, 25, 142, 59, 143, 144] (by decide +kernel) (by decide +kernel)
theorem ggL_law_L_acts_0 : GoodIn wsL_law (Cond.code yL_acts cL_acts 14 (some .boolean) :: wsL_acts_r1) := goodIn_app ggL_law_L_acts_h ggL_law_L_acts_g
set_option maxRecDepth 20000 in
theorem ggL_law_L_acts_1 : GoodIn wsL_law wsL_acts_r2 := goodIn_r _ [145, 29, 146, 67, 147, 148, 149, 17, 150, 41, 151, 152, 94, 95, 12, 96, 36, 153, 154, 155, 156, 157, 158, 159] (by decide +kernel) (by decide +kernel)
set_option maxRecDepth 20000 in
theorem ggL_law_L_acts_2 : GoodIn wsL_law wsL_acts_r3 := goodIn_r _ [160, 161, 90, 91, 92, 93, 162, 163, 164, 165, 166, 167, 168, 169, 101, 102, 103, 97, 98, 99, 100, 112, 113, 114] (by decide +kernel) (by decide +kernel)
set_option maxRecDepth 20000 in
theorem ggL_law_L_acts_3 : GoodIn wsL_law wsL_acts_r4 := goodIn_r _ [170, 171, 172, 173, 174, 175, 176, 177, 178, 179, 180, 181, 182, 183, 184, 185, 186, 187, 188, 189, 190, 191, 192, 193] (by decide +kernel) (by decide +kernel)
set_option maxRecDepth 20000 in
theorem ggL_law_L_acts_4 : GoodIn wsL_law wsL_acts_r5 := goodIn_r _ [194, 195, 196, 197, 198, 199, 200, 201, 202, 203, 204, 205, 206, 207, 208, 209, 210, 211, 212, 213, 214, 215, 216, 217] (by decide +kernel) (by decide +kernel)
