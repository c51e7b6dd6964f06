set_option maxRecDepth 20000 in
theorem ggL_acts_L_reads_0 : GoodIn wsL_acts (Cond.code yL_reads cL_reads 10 (some .boolean) :: wsL_reads_r1) := goodIn_r _ [301, 302, 2, 1, 3, 303, 304, 6, 305, 4, 5, 7, 8, 306, 307, 308, 12, 309, 15, 310, 311, 312, 26, 313, 28] (by decide +kernel) (by decide +kernel)
set_option maxRecDepth 20000 in
theorem ggL_acts_L_reads_1 : GoodIn wsL_acts wsL_reads_r2 := goodIn_r _ [314, 315, 316, 317, 318, 319, 320, 321, 322, 323, 324, 9, 10, 11, 13, 14, 16, 17, 18, 19, 20, 21, 22, 23] (by decide +kernel) (by decide +kernel)
set_option maxRecDepth 20000 in
theorem ggL_acts_L_reads_2 : GoodIn wsL_acts wsL_reads_r3 := goodIn_r _ [24, 25, 27, 29, 30, 31, 32, 33, 34, 35, 36, 37, 38, 39, 40, 41, 42, 43, 44, 45, 46, 47, 48, 49] (by decide +kernel) (by decide +kernel)
set_option maxRecDepth 20000 in
theorem ggL_acts_L_reads_3 : GoodIn wsL_acts wsL_reads_r4 := goodIn_r _ [50, 51, 52, 53, 54, 55, 56, 57, 58, 59, 60, 61, 62, 63, 64, 65, 66, 67, 68, 69, 70, 71, 72, 73] (by decide +kernel) (by decide +kernel)
set_option maxRecDepth 20000 in
theorem ggL_acts_L_reads_4 : GoodIn wsL_acts wsL_reads_r5 := goodIn_r _ [74, 75, 76, 77, 78, 79, 80, 81, 82, 83, 84, 85, 86, 87, 88, 89, 90, 91, 92, 93, 94, 95, 96, 97] (by decide +kernel) (by decide +kernel)
set_option maxRecDepth 20000 in
theorem ggL_acts_L_reads_5 : GoodIn wsL_acts wsL_reads_r6 := goodIn_r _ [98, 99, 100, 101, 102, 103, 104, 105, 106, 107, 108, 109, 110, 111, 112, 113, 114, 115, 325, 326, 327, 328, 329, 330] (by decide +kernel) (by decide +kernel)
set_option maxRecDepth 20000 in
theorem ggL_acts_L_reads_6 : GoodIn wsL_acts wsL_reads_r7 := goodIn_r _ [331, 332, 333, 136, 334, 335, 148, 149, 150, 151, 152, 153, 154, 336, 337, 338, 339, 340, 341, 342, 343, 344, 345, 346] (by decide +kernel) (by decide +kernel)
