set_option maxRecDepth 20000 in
theorem ggL_law_L_holds_6 : GoodIn wsL_law wsL_holds_r7 := goodIn_r _ [248, 249, 250, 251, 252, 253, 254, 255, 256, 257, 258, 259, 260, 261, 262, 263, 264, 265, 266, 267] (by decide +kernel) (by decide +kernel)
set_option maxRecDepth 20000 in
theorem ggL_law_L_holds_wsX50 : GoodIn wsL_law wsX50 := goodIn_r _ [544, 545, 546, 547, 548, 549] (by decide +kernel) (by decide +kernel)
set_option maxRecDepth 20000 in
theorem ggL_law_L_holds_wsX00 : GoodIn wsL_law wsX00 := goodIn_r _ [556, 557, 558] (by decide +kernel) (by decide +kernel)
set_option maxRecDepth 20000 in
theorem ggL_law_L_holds_wsX20 : GoodIn wsL_law wsX20 := goodIn_r _ [559, 560, 561, 562, 563, 564, 565] (by decide +kernel) (by decide +kernel)
set_option maxRecDepth 20000 in
theorem ggL_law_L_holds_wsX40 : GoodIn wsL_law wsX40 := goodIn_r _ [551] (by decide +kernel) (by decide +kernel)
set_option maxRecDepth 20000 in
theorem ggL_law_L_holds_wsX30 : GoodIn wsL_law wsX30 := goodIn_r _ [550] (by decide +kernel) (by decide +kernel)
theorem ggL_law_L_holds : GoodIn wsL_law wsL_holds := (goodIn_ca (goodIn_ca (goodIn_ca (goodIn_ca (goodIn_ca (goodIn_ca ggL_law_L_holds_0 (goodIn_app ggL_law_L_holds_1 (goodIn_app ggL_law_L_holds_2 (goodIn_app ggL_law_L_holds_3 (goodIn_app ggL_law_L_holds_4 (goodIn_app ggL_law_L_holds_5 ggL_law_L_holds_6)))))) ggL_law_L_holds_wsX50) ggL_law_L_holds_wsX00) ggL_law_L_holds_wsX20) ggL_law_L_holds_wsX40) ggL_law_L_holds_wsX30)
theorem gL_law_L_holds : GoodIn wsL_law (va_wsS RL 111 yL_holds wsL_holds) := goodIn_app (goodIn_of _ (by decide +kernel)) ggL_law_L_holds
set_option maxRecDepth 20000 in
theorem ggL_law_L_would_0 : GoodIn wsL_law (Cond.code yL_would cL_would 12 (some .boolean) :: wsL_would_r1) := goodIn_r _ [270, 271, 3, 134, 272, 135, 136, 137, 2, 138, 26, 30, 18, 139, 140, 141, 25, 142, 59, 143, 144, 145, 29, 146, 67] (by decide +kernel) (by decide +kernel)
set_option maxRecDepth 20000 in
theorem ggL_law_L_would_1 : GoodIn wsL_law wsL_would_r2 := goodIn_r _ [147, 148, 149, 17, 150, 41, 151, 152, 94, 95, 12, 96, 36, 153, 154, 155, 156, 157, 158, 159, 160, 161, 90, 91] (by decide +kernel) (by decide +kernel)
set_option maxRecDepth 20000 in
theorem ggL_law_L_would_2 : GoodIn wsL_law wsL_would_r3 := goodIn_r _ [92, 93, 162, 163, 164, 165, 166, 167, 168, 169, 101, 102, 103, 97, 98, 99, 100, 112, 113, 114, 170, 171, 172, 173] (by decide +kernel) (by decide +kernel)
