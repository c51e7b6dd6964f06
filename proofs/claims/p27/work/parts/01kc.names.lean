set_option maxRecDepth 20000 in
theorem ggL_acts_X5_lose : GoodIn wsL_acts wsX5_lose := goodIn_r _ [216, 14, 136, 137, 138, 139, 20, 140, 22, 141, 142, 143, 144, 145, 146, 147, 148, 149, 39, 150, 41, 151, 152, 153, 154, 217, 218, 219, 220, 159, 160, 161, 125, 126, 127, 54, 37, 38, 40, 165, 51, 52, 53, 221, 56, 57, 58, 59, 60, 61, 62, 63, 64, 65, 66, 67, 68, 69, 70, 71, 72, 73, 74, 75, 76, 77, 78, 79, 80, 81, 82, 166, 167, 168, 169, 170, 171, 172, 173, 193, 194, 195, 196, 380, 381, 382, 383, 384, 385, 386, 387, 388, 397] (by decide +kernel) (by decide +kernel)
set_option maxRecDepth 20000 in
theorem ggL_acts_X5_would : GoodIn wsL_acts wsX5_would := goodIn_r _ [225, 16, 226, 227, 228, 32, 229, 34, 35, 230, 205, 231, 187, 188, 189, 124, 125, 126, 39, 127, 54, 37, 38, 40, 41, 50, 51, 52, 53, 55, 56, 57, 58, 59, 60, 61, 62, 63, 64, 65, 66, 67, 68, 69, 70, 71, 72, 73, 74, 75, 76, 77, 78, 79, 80, 81, 82, 207, 209, 210, 211, 212, 380, 381, 382, 383, 384, 385, 396, 397] (by decide +kernel) (by decide +kernel)
set_option maxRecDepth 20000 in
theorem gL_acts_X5_lose : GoodIn wsL_acts (wsV RL 86 RX5 yX5_lose wsX5_lose) := goodIn_app (goodIn_of _ (by decide +kernel)) ggL_acts_X5_lose
set_option maxRecDepth 20000 in
theorem gL_acts_X5_would : GoodIn wsL_acts (wsV RL 30 RX5 yX5_would wsX5_would) := goodIn_app (goodIn_of _ (by decide +kernel)) ggL_acts_X5_would
