set_option maxRecDepth 20000 in
theorem ggL_acts_X5_mend : GoodIn wsL_acts wsX5_mend := goodIn_r _ [235, 14, 136, 137, 138, 139, 20, 140, 22, 141, 142, 143, 144, 145, 146, 147, 148, 149, 39, 150, 41, 151, 152, 153, 154, 236, 237, 238, 239, 159, 160, 161, 125, 126, 127, 54, 37, 38, 40, 165, 51, 52, 53, 221, 56, 57, 58, 59, 60, 61, 62, 63, 64, 65, 66, 67, 68, 69, 70, 71, 72, 73, 74, 75, 76, 77, 78, 79, 80, 81, 82, 240, 241, 242, 243, 166, 167, 168, 169, 170, 171, 172, 173, 244, 245, 246, 247, 174, 175, 176, 177, 178, 179, 180, 181, 182, 183, 184, 185, 186, 187, 188, 189, 190, 191, 192, 193, 194, 195, 196, 380, 381, 382, 383, 384, 385, 386, 387, 388, 397] (by decide +kernel) (by decide +kernel)
set_option maxRecDepth 20000 in
theorem ggL_acts_X5_swap : GoodIn wsL_acts wsX5_swap := goodIn_r _ [251, 14, 136, 137, 138, 139, 20, 140, 22, 141, 142, 143, 144, 145, 146, 147, 148, 149, 39, 150, 41, 151, 152, 153, 154, 252, 253, 254, 255, 159, 160, 256, 257, 188, 258, 259, 260, 261, 161, 125, 126, 127, 54, 37, 38, 40, 165, 51, 52, 53, 166, 167, 168, 169, 193, 194, 195, 196, 380, 381, 382, 383, 384, 385, 386, 387, 388, 397] (by decide +kernel) (by decide +kernel)
set_option maxRecDepth 20000 in
theorem gL_acts_X5_mend : GoodIn wsL_acts (wsV RL 89 RX5 yX5_mend wsX5_mend) := goodIn_app (goodIn_of _ (by decide +kernel)) ggL_acts_X5_mend
set_option maxRecDepth 20000 in
theorem gL_acts_X5_swap : GoodIn wsL_acts (wsV RL 92 RX5 yX5_swap wsX5_swap) := goodIn_app (goodIn_of _ (by decide +kernel)) ggL_acts_X5_swap
