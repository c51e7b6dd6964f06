set_option maxRecDepth 20000 in
theorem ggL_law_L_acts_wsX00 : GoodIn wsL_law wsX00 := goodIn_r _ [556, 557, 558] (by decide +kernel) (by decide +kernel)
set_option maxRecDepth 20000 in
theorem ggL_law_L_acts_wsX20 : GoodIn wsL_law wsX20 := goodIn_r _ [559, 560, 561, 562, 563, 564, 565] (by decide +kernel) (by decide +kernel)
set_option maxRecDepth 20000 in
theorem ggL_law_L_acts_wsX40 : GoodIn wsL_law wsX40 := goodIn_r _ [551] (by decide +kernel) (by decide +kernel)
set_option maxRecDepth 20000 in
theorem ggL_law_L_acts_wsX30 : GoodIn wsL_law wsX30 := goodIn_r _ [550] (by decide +kernel) (by decide +kernel)
theorem ggL_law_L_acts : GoodIn wsL_law wsL_acts := (goodIn_ca (goodIn_ca (goodIn_ca (goodIn_ca (goodIn_ca (goodIn_ca ggL_law_L_acts_0 (goodIn_app ggL_law_L_acts_1 (goodIn_app ggL_law_L_acts_2 (goodIn_app ggL_law_L_acts_3 (goodIn_app ggL_law_L_acts_4 (goodIn_app ggL_law_L_acts_5 (goodIn_app ggL_law_L_acts_6 (goodIn_app ggL_law_L_acts_7 (goodIn_app ggL_law_L_acts_8 (goodIn_app ggL_law_L_acts_9 (goodIn_app ggL_law_L_acts_10 (goodIn_app ggL_law_L_acts_11 (goodIn_app ggL_law_L_acts_12 (goodIn_app ggL_law_L_acts_13 (goodIn_app ggL_law_L_acts_14 ggL_law_L_acts_15))))))))))))))) ggL_law_L_acts_wsX50) ggL_law_L_acts_wsX00) ggL_law_L_acts_wsX20) ggL_law_L_acts_wsX40) ggL_law_L_acts_wsX30)
theorem gL_law_L_acts : GoodIn wsL_law (va_wsS RL 128 yL_acts wsL_acts) := goodIn_app (goodIn_of _ (by decide +kernel)) ggL_law_L_acts
set_option maxRecDepth 20000 in
theorem ggL_law_L_low : GoodIn wsL_law wsL_low := goodIn_r _ [275, 276] (by decide +kernel) (by decide +kernel)
theorem gL_law_L_low : GoodIn wsL_law (va_wsS RL 46 yL_low wsL_low) := goodIn_app (goodIn_of _ (by decide +kernel)) ggL_law_L_low
