set_option maxRecDepth 20000 in
theorem ggL_law_L_would_7 : GoodIn wsL_law wsL_would_r8 := goodIn_r _ [303, 304, 305, 306, 47, 48, 307, 308, 309, 310, 49, 311, 312, 313, 314, 315, 316, 317, 318, 319, 320, 321, 322, 323] (by decide +kernel) (by decide +kernel)
set_option maxRecDepth 20000 in
theorem ggL_law_L_would_8 : GoodIn wsL_law wsL_would_r9 := goodIn_r _ [324, 325, 326, 327, 76, 328, 329, 89, 330, 331, 332, 333, 334, 77, 78, 79, 80, 123, 124, 125, 126, 85, 86, 87] (by decide +kernel) (by decide +kernel)
set_option maxRecDepth 20000 in
theorem ggL_law_L_would_9 : GoodIn wsL_law wsL_would_r10 := goodIn_r _ [88, 104, 105, 106, 107, 108, 109, 110, 111, 115, 116, 117, 118, 119, 127, 128, 129, 335, 336, 337, 338, 339, 340, 341] (by decide +kernel) (by decide +kernel)
set_option maxRecDepth 20000 in
theorem ggL_law_L_would_10 : GoodIn wsL_law wsL_would_r11 := goodIn_r _ [342, 343, 344, 345, 346, 347, 348, 349, 350, 351, 352, 353, 354, 355, 356, 357, 358, 359] (by decide +kernel) (by decide +kernel)
