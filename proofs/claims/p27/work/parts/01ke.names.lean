set_option maxRecDepth 20000 in
theorem ggL_acts_X5_lay : GoodIn wsL_acts wsX5_lay := goodIn_r _ [265, 14, 136, 137, 138, 139, 20, 140, 22, 141, 142, 143, 144, 145, 146, 147, 148, 149, 39, 150, 41, 151, 152, 153, 154, 266, 267, 268, 269, 159, 160, 161, 125, 126, 127, 54, 37, 38, 40, 165, 51, 52, 53, 244, 245, 246, 247, 66, 67, 68, 69, 63, 64, 65, 174, 175, 176, 177, 178, 179, 180, 181, 70, 71, 72, 166, 167, 168, 169, 182, 183, 184, 185, 186, 187, 188, 189, 170, 171, 172, 173, 190, 191, 192, 193, 194, 195, 196, 380, 381, 382, 383, 384, 385, 386, 387, 388, 397] (by decide +kernel) (by decide +kernel)
set_option maxRecDepth 20000 in
theorem ggL_acts_X5_days : GoodIn wsL_acts wsX5_days := goodIn_r _ [273, 14, 136, 137, 138, 139, 20, 140, 22, 141, 142, 143, 144, 145, 146, 147, 148, 149, 39, 150, 41, 151, 152, 153, 154, 274, 275, 276, 277, 159, 278, 54, 37, 38, 40, 170, 171, 172, 173, 166, 167, 168, 169, 193, 194, 195, 196, 380, 381, 382, 383, 384, 385, 386, 387, 388, 397] (by decide +kernel) (by decide +kernel)
set_option maxRecDepth 20000 in
theorem gL_acts_X5_lay : GoodIn wsL_acts (wsV RL 95 RX5 yX5_lay wsX5_lay) := goodIn_app (goodIn_of _ (by decide +kernel)) ggL_acts_X5_lay
set_option maxRecDepth 20000 in
theorem gL_acts_X5_days : GoodIn wsL_acts (wsV RL 98 RX5 yX5_days wsX5_days) := goodIn_app (goodIn_of _ (by decide +kernel)) ggL_acts_X5_days
