set_option maxRecDepth 20000 in
theorem ggL_law_L_acts_14 : GoodIn wsL_law wsL_acts_r15 := goodIn_r _ [506, 507, 508, 68, 66, 509, 510, 511, 512, 513, 514, 515, 516, 517, 518, 519, 520, 521, 522, 523, 524, 525, 526, 527] (by decide +kernel) (by decide +kernel)
set_option maxRecDepth 20000 in
theorem ggL_law_L_acts_15 : GoodIn wsL_law wsL_acts_r16 := goodIn_r _ [528, 69, 70, 71, 529, 530, 531, 532, 533, 534, 535, 536, 537, 538, 539, 540, 541, 542, 543] (by decide +kernel) (by decide +kernel)
set_option maxRecDepth 20000 in
theorem ggL_law_L_acts_wsX50 : GoodIn wsL_law wsX50 := goodIn_r _ [544, 545, 546, 547, 548, 549] (by decide +kernel) (by decide +kernel)
