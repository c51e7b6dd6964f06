set_option maxRecDepth 20000 in
theorem ggL_law_L_acts_8 : GoodIn wsL_law wsL_acts_r9 := goodIn_r _ [413, 414, 415, 416, 383, 384, 385, 386, 387, 388, 389, 390, 241, 391, 287, 243, 244, 245, 246, 247, 417, 418, 419, 420] (by decide +kernel) (by decide +kernel)
set_option maxRecDepth 20000 in
theorem ggL_law_L_acts_9 : GoodIn wsL_law wsL_acts_r10 := goodIn_r _ [421, 422, 423, 424, 330, 277, 278, 279, 280, 281, 282, 283, 284, 285, 286, 425, 426, 427, 428, 429, 325, 326, 327, 331] (by decide +kernel) (by decide +kernel)
