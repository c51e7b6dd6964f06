set_option maxRecDepth 20000 in
theorem ggL_law_L_look_5 : GoodIn wsL_law wsL_look_r6 := goodIn_r _ [224, 225, 383, 384, 385, 386, 387, 388, 389, 390, 241, 391, 392, 393, 287, 243, 244, 245, 246, 247, 233, 234, 235, 236] (by decide +kernel) (by decide +kernel)
set_option maxRecDepth 20000 in
theorem ggL_law_L_look_6 : GoodIn wsL_law wsL_look_r7 := goodIn_r _ [237, 238, 239, 240, 242, 277, 278, 279, 280, 281, 282, 283, 284, 285, 286, 120, 121, 122] (by decide +kernel) (by decide +kernel)
set_option maxRecDepth 20000 in
theorem ggL_law_L_look_wsX50 : GoodIn wsL_law wsX50 := goodIn_r _ [544, 545, 546, 547, 548, 549] (by decide +kernel) (by decide +kernel)
set_option maxRecDepth 20000 in
theorem ggL_law_L_look_wsX00 : GoodIn wsL_law wsX00 := goodIn_r _ [556, 557, 558] (by decide +kernel) (by decide +kernel)
set_option maxRecDepth 20000 in
theorem ggL_law_L_look_wsX20 : GoodIn wsL_law wsX20 := goodIn_r _ [559, 560, 561, 562, 563, 564, 565] (by decide +kernel) (by decide +kernel)
set_option maxRecDepth 20000 in
theorem ggL_law_L_look_wsX40 : GoodIn wsL_law wsX40 := goodIn_r _ [551] (by decide +kernel) (by decide +kernel)
set_option maxRecDepth 20000 in
theorem ggL_law_L_look_wsX30 : GoodIn wsL_law wsX30 := goodIn_r _ [550] (by decide +kernel) (by decide +kernel)
theorem ggL_law_L_look : GoodIn wsL_law wsL_look := (goodIn_ca (goodIn_ca (goodIn_ca (goodIn_ca (goodIn_ca (goodIn_ca ggL_law_L_look_0 (goodIn_app ggL_law_L_look_1 (goodIn_app ggL_law_L_look_2 (goodIn_app ggL_law_L_look_3 (goodIn_app ggL_law_L_look_4 (goodIn_app ggL_law_L_look_5 ggL_law_L_look_6)))))) ggL_law_L_look_wsX50) ggL_law_L_look_wsX00) ggL_law_L_look_wsX20) ggL_law_L_look_wsX40) ggL_law_L_look_wsX30)
theorem gL_law_L_look : GoodIn wsL_law (va_wsS RL 124 yL_look wsL_look) := goodIn_app (goodIn_of _ (by decide +kernel)) ggL_law_L_look
set_option maxRecDepth 20000 in
theorem ggL_law_X5_count_0 : GoodIn wsL_law (Cond.code yX5_count cX5_count 2 (some .int) :: wsX5_count_r1) := goodIn_r _ [138, 26, 30, 18, 139, 140, 141, 25, 142, 59, 143, 144, 145, 29, 146, 67, 147, 148, 149, 17, 150, 41, 151, 152, 94] (by decide +kernel) (by decide +kernel)
