set_option maxRecDepth 20000 in
theorem ggL_law_L_acts_12 : GoodIn wsL_law wsL_acts_r13 := goodIn_r _ [471, 472, 72, 73, 74, 75, 81, 82, 83, 84, 473, 474, 475, 134, 476, 477, 478, 479, 480, 481, 482, 483, 484, 485] (by decide +kernel) (by decide +kernel)
set_option maxRecDepth 20000 in
theorem ggL_law_L_acts_13 : GoodIn wsL_law wsL_acts_r14 := goodIn_r _ [486, 487, 488, 489, 490, 491, 492, 493, 494, 495, 496, 65, 497, 498, 499, 500, 501, 502, 503, 230, 14, 292, 504, 505] (by decide +kernel) (by decide +kernel)
