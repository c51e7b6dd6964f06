set_option maxRecDepth 20000 in
theorem ggL_law_L_would_3 : GoodIn wsL_law wsL_would_r4 := goodIn_r _ [174, 175, 176, 177, 178, 179, 180, 181, 182, 183, 184, 185, 186, 187, 188, 189, 190, 191, 192, 193, 194, 195, 196, 197] (by decide +kernel) (by decide +kernel)
set_option maxRecDepth 20000 in
theorem ggL_law_L_would_4 : GoodIn wsL_law wsL_would_r5 := goodIn_r _ [198, 199, 200, 201, 202, 203, 204, 205, 206, 207, 208, 209, 210, 211, 212, 273, 274, 132, 275, 276, 277, 278, 279, 280] (by decide +kernel) (by decide +kernel)
set_option maxRecDepth 20000 in
theorem ggL_law_L_would_5 : GoodIn wsL_law wsL_would_r6 := goodIn_r _ [281, 282, 283, 284, 285, 241, 286, 120, 121, 122, 221, 222, 223, 224, 287, 244, 245, 246, 247, 213, 214, 215, 216, 217] (by decide +kernel) (by decide +kernel)
set_option maxRecDepth 20000 in
theorem ggL_law_L_would_6 : GoodIn wsL_law wsL_would_r7 := goodIn_r _ [218, 219, 220, 225, 288, 289, 290, 291, 230, 22, 13, 292, 293, 294, 295, 21, 296, 297, 50, 298, 299, 300, 301, 302] (by decide +kernel) (by decide +kernel)
