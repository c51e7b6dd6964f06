set_option maxRecDepth 20000 in
theorem ggL_law_L_would_wsX50 : GoodIn wsL_law wsX50 := goodIn_r _ [544, 545, 546, 547, 548, 549] (by decide +kernel) (by decide +kernel)
set_option maxRecDepth 20000 in
theorem ggL_law_L_would_wsX00 : GoodIn wsL_law wsX00 := goodIn_r _ [556, 557, 558] (by decide +kernel) (by decide +kernel)
set_option maxRecDepth 20000 in
theorem ggL_law_L_would_wsX20 : GoodIn wsL_law wsX20 := goodIn_r _ [559, 560, 561, 562, 563, 564, 565] (by decide +kernel) (by decide +kernel)
set_option maxRecDepth 20000 in
theorem ggL_law_L_would_wsX40 : GoodIn wsL_law wsX40 := goodIn_r _ [551] (by decide +kernel) (by decide +kernel)
set_option maxRecDepth 20000 in
theorem ggL_law_L_would_wsX30 : GoodIn wsL_law wsX30 := goodIn_r _ [550] (by decide +kernel) (by decide +kernel)
set_option maxRecDepth 20000 in
theorem ggL_law_L_would_wsX10 : GoodIn wsL_law wsX10 := goodIn_r _ [552, 553, 554, 555] (by decide +kernel) (by decide +kernel)
theorem ggL_law_L_would : GoodIn wsL_law wsL_would := (goodIn_ca (goodIn_ca (goodIn_ca (goodIn_ca (goodIn_ca (goodIn_ca (goodIn_ca ggL_law_L_would_0 (goodIn_app ggL_law_L_would_1 (goodIn_app ggL_law_L_would_2 (goodIn_app ggL_law_L_would_3 (goodIn_app ggL_law_L_would_4 (goodIn_app ggL_law_L_would_5 (goodIn_app ggL_law_L_would_6 (goodIn_app ggL_law_L_would_7 (goodIn_app ggL_law_L_would_8 (goodIn_app ggL_law_L_would_9 ggL_law_L_would_10)))))))))) ggL_law_L_would_wsX50) ggL_law_L_would_wsX00) ggL_law_L_would_wsX20) ggL_law_L_would_wsX40) ggL_law_L_would_wsX30) ggL_law_L_would_wsX10)
theorem gL_law_L_would : GoodIn wsL_law (va_wsS RL 115 yL_would wsL_would) := goodIn_app (goodIn_of _ (by decide +kernel)) ggL_law_L_would
set_option maxRecDepth 20000 in
theorem ggL_law_X5_undo : GoodIn wsL_law wsX5_undo := goodIn_r _ [363, 26, 13, 364, 365, 366, 25, 367, 59, 368, 369, 370, 371, 372, 58, 57, 373, 320, 321, 12, 322, 36, 323, 312, 313, 314, 544, 545, 546, 547, 548, 549, 556, 557, 558, 550] (by decide +kernel) (by decide +kernel)
theorem gL_law_X5_undo : GoodIn wsL_law (wsV RL 117 RX5 yX5_undo wsX5_undo) := goodIn_app (goodIn_of _ (by decide +kernel)) ggL_law_X5_undo
