set_option maxRecDepth 20000 in
theorem wsL_law_r6_in : GoodIn lw_tbl wsL_law_r6 := goodIn_r _ [180, 33, 181, 182, 184, 6, 185, 186, 187, 188, 369, 370, 26, 371, 379, 208, 209, 210, 211, 212, 213, 214, 215, 216] (by decide +kernel) (by decide +kernel)
set_option maxRecDepth 20000 in
theorem wsL_law_r7_in : GoodIn lw_tbl wsL_law_r7 := goodIn_r _ [217, 218, 219, 220, 221, 222, 223, 285, 224, 225, 227, 7, 228, 229, 231, 8, 232, 233, 234, 235, 236, 237, 238, 239] (by decide +kernel) (by decide +kernel)
set_option maxRecDepth 20000 in
theorem wsL_law_r8_in : GoodIn lw_tbl wsL_law_r8 := goodIn_r _ [240, 241, 242, 243, 244, 245, 246, 247, 248, 249, 250, 251, 252, 254, 9, 255, 256, 258, 10, 259, 260, 262, 11, 263] (by decide +kernel) (by decide +kernel)
set_option maxRecDepth 20000 in
theorem wsL_law_r9_in : GoodIn lw_tbl wsL_law_r9 := goodIn_r _ [264, 266, 12, 267, 268, 270, 13, 271, 272, 273, 275, 14, 276, 277, 279, 15, 280, 281, 283, 16, 284, 319, 320, 321] (by decide +kernel) (by decide +kernel)
set_option maxRecDepth 20000 in
theorem wsL_law_r10_in : GoodIn lw_tbl wsL_law_r10 := goodIn_r _ [322, 323, 324, 325, 326, 327, 328, 329, 330, 331, 372, 373, 374, 375, 378, 376, 377, 350, 351, 352, 353, 354, 355, 356] (by decide +kernel) (by decide +kernel)
