set_option maxRecDepth 20000 in
theorem ggL_law_X5_count_1 : GoodIn wsL_law wsX5_count_r2 := goodIn_r _ [95, 12, 96, 36, 153, 154, 155, 156, 157, 158, 159, 160, 161, 90, 91, 92, 93, 162, 163, 164, 165, 166, 167, 168] (by decide +kernel) (by decide +kernel)
set_option maxRecDepth 20000 in
theorem ggL_law_X5_count_2 : GoodIn wsL_law wsX5_count_r3 := goodIn_r _ [169, 101, 102, 103, 97, 98, 99, 100, 112, 113, 114, 170, 171, 172, 173, 174, 175, 176, 177, 178, 179, 180, 181, 182] (by decide +kernel) (by decide +kernel)
set_option maxRecDepth 20000 in
theorem ggL_law_X5_count_3 : GoodIn wsL_law wsX5_count_r4 := goodIn_r _ [183, 184, 185, 186, 187, 188, 189, 190, 191, 192, 193, 194, 195, 196, 197, 198, 199, 200, 201, 202, 203, 204, 205, 206] (by decide +kernel) (by decide +kernel)
set_option maxRecDepth 20000 in
theorem ggL_law_X5_count_4 : GoodIn wsL_law wsX5_count_r5 := goodIn_r _ [207, 208, 209, 210, 211, 212] (by decide +kernel) (by decide +kernel)
set_option maxRecDepth 20000 in
theorem ggL_law_X5_count_wsX50 : GoodIn wsL_law wsX50 := goodIn_r _ [544, 545, 546, 547, 548, 549] (by decide +kernel) (by decide +kernel)
set_option maxRecDepth 20000 in
theorem ggL_law_X5_count_wsX00 : GoodIn wsL_law wsX00 := goodIn_r _ [556, 557, 558] (by decide +kernel) (by decide +kernel)
set_option maxRecDepth 20000 in
theorem ggL_law_X5_count_wsX20 : GoodIn wsL_law wsX20 := goodIn_r _ [559, 560, 561, 562, 563, 564, 565] (by decide +kernel) (by decide +kernel)
set_option maxRecDepth 20000 in
theorem ggL_law_X5_count_wsX40 : GoodIn wsL_law wsX40 := goodIn_r _ [551] (by decide +kernel) (by decide +kernel)
set_option maxRecDepth 20000 in
theorem ggL_law_X5_count_wsX30 : GoodIn wsL_law wsX30 := goodIn_r _ [550] (by decide +kernel) (by decide +kernel)
theorem ggL_law_X5_count : GoodIn wsL_law wsX5_count := (goodIn_ca (goodIn_ca (goodIn_ca (goodIn_ca (goodIn_ca (goodIn_ca ggL_law_X5_count_0 (goodIn_app ggL_law_X5_count_1 (goodIn_app ggL_law_X5_count_2 (goodIn_app ggL_law_X5_count_3 ggL_law_X5_count_4)))) ggL_law_X5_count_wsX50) ggL_law_X5_count_wsX00) ggL_law_X5_count_wsX20) ggL_law_X5_count_wsX40) ggL_law_X5_count_wsX30)
theorem gL_law_X5_count : GoodIn wsL_law (wsV RL 13 RX5 yX5_count wsX5_count) := goodIn_app (goodIn_of _ (by decide +kernel)) ggL_law_X5_count
