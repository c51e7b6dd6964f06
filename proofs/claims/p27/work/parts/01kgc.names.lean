set_option maxRecDepth 20000 in
theorem ggL_acts_L_reads_11 : GoodIn wsL_acts wsL_reads_r12 := goodIn_r _ [372, 373, 374, 375, 376, 377, 378, 379, 137, 138, 139, 140, 141, 142, 143, 144, 145, 146, 147, 193, 194, 195, 196] (by decide +kernel) (by decide +kernel)
set_option maxRecDepth 20000 in
theorem ggL_acts_L_reads_wsX50 : GoodIn wsL_acts wsX50 := goodIn_r _ [380, 381, 382, 383, 384, 385] (by decide +kernel) (by decide +kernel)
set_option maxRecDepth 20000 in
theorem ggL_acts_L_reads_wsX20 : GoodIn wsL_acts wsX20 := goodIn_r _ [389, 390, 391, 392, 393, 394, 395] (by decide +kernel) (by decide +kernel)
set_option maxRecDepth 20000 in
theorem ggL_acts_L_reads_wsX00 : GoodIn wsL_acts wsX00 := goodIn_r _ [386, 387, 388] (by decide +kernel) (by decide +kernel)
set_option maxRecDepth 20000 in
theorem ggL_acts_L_reads_wsX40 : GoodIn wsL_acts wsX40 := goodIn_r _ [396] (by decide +kernel) (by decide +kernel)
set_option maxRecDepth 20000 in
theorem ggL_acts_L_reads_wsX30 : GoodIn wsL_acts wsX30 := goodIn_r _ [397] (by decide +kernel) (by decide +kernel)
theorem ggL_acts_L_reads : GoodIn wsL_acts wsL_reads := (goodIn_ca (goodIn_ca (goodIn_ca (goodIn_ca (goodIn_ca (goodIn_ca ggL_acts_L_reads_0 (goodIn_app ggL_acts_L_reads_1 (goodIn_app ggL_acts_L_reads_2 (goodIn_app ggL_acts_L_reads_3 (goodIn_app ggL_acts_L_reads_4 (goodIn_app ggL_acts_L_reads_5 (goodIn_app ggL_acts_L_reads_6 (goodIn_app ggL_acts_L_reads_7 (goodIn_app ggL_acts_L_reads_8 (goodIn_app ggL_acts_L_reads_9 (goodIn_app ggL_acts_L_reads_10 ggL_acts_L_reads_11))))))))))) ggL_acts_L_reads_wsX50) ggL_acts_L_reads_wsX20) ggL_acts_L_reads_wsX00) ggL_acts_L_reads_wsX40) ggL_acts_L_reads_wsX30)
theorem gL_acts_L_reads : GoodIn wsL_acts (va_wsS RL 107 yL_reads wsL_reads) := goodIn_app (goodIn_of _ (by decide +kernel)) ggL_acts_L_reads
