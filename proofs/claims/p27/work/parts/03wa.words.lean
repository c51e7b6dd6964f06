set_option maxRecDepth 20000 in
theorem wsL_law_r1_in : GoodIn lw_tbl wsL_law_r1 := goodIn_r _ [35, 36, 27, 469, 37, 38, 39, 40, 41, 42, 43, 44, 28, 189, 190, 54, 55, 29, 191, 64, 65, 30, 192, 86] (by decide +kernel) (by decide +kernel)
set_option maxRecDepth 20000 in
theorem wsL_law_r2_in : GoodIn lw_tbl wsL_law_r2 := goodIn_r _ [87, 31, 193, 104, 105, 32, 194, 45, 46, 47, 48, 53, 49, 56, 57, 58, 59, 60, 66, 67, 68, 69, 70, 73] (by decide +kernel) (by decide +kernel)
set_option maxRecDepth 20000 in
theorem wsL_law_r3_in : GoodIn lw_tbl wsL_law_r3 := goodIn_r _ [74, 75, 76, 72, 88, 89, 90, 91, 92, 94, 95, 96, 93, 106, 107, 108, 109, 110, 111, 112, 113, 114, 115, 116] (by decide +kernel) (by decide +kernel)
set_option maxRecDepth 20000 in
theorem wsL_law_r4_in : GoodIn lw_tbl wsL_law_r4 := goodIn_r _ [132, 133, 134, 135, 136, 137, 139, 0, 140, 141, 143, 1, 144, 145, 147, 2, 148, 149, 150, 151, 152, 153, 154, 155] (by decide +kernel) (by decide +kernel)
set_option maxRecDepth 20000 in
theorem wsL_law_r5_in : GoodIn lw_tbl wsL_law_r5 := goodIn_r _ [156, 157, 158, 159, 160, 161, 162, 163, 164, 166, 3, 167, 168, 170, 4, 171, 172, 173, 174, 175, 177, 5, 178, 179] (by decide +kernel) (by decide +kernel)
