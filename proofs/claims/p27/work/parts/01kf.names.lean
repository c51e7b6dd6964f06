set_option maxRecDepth 20000 in
theorem ggL_acts_X5_set : GoodIn wsL_acts wsX5_set := goodIn_r _ [282, 14, 136, 137, 138, 139, 20, 140, 22, 141, 142, 143, 144, 145, 146, 147, 148, 149, 39, 150, 41, 151, 152, 153, 154, 283, 284, 285, 286, 159, 54, 37, 38, 40, 166, 167, 168, 169, 182, 183, 184, 185, 186, 187, 188, 189, 193, 194, 195, 196, 380, 381, 382, 383, 384, 385, 386, 387, 388, 397] (by decide +kernel) (by decide +kernel)
set_option maxRecDepth 20000 in
theorem ggL_acts_X5_begin : GoodIn wsL_acts wsX5_begin := goodIn_r _ [290, 14, 136, 137, 138, 139, 20, 140, 22, 141, 142, 143, 144, 145, 146, 147, 148, 149, 39, 150, 41, 151, 152, 153, 154, 291, 292, 293, 294, 159, 166, 167, 168, 169, 295, 296, 297, 298, 244, 245, 246, 247, 165, 51, 52, 53, 54, 37, 38, 40, 66, 67, 68, 69, 63, 64, 65, 174, 175, 176, 177, 178, 179, 180, 181, 70, 71, 72, 182, 183, 184, 185, 186, 187, 188, 189, 170, 171, 172, 173, 190, 191, 192, 193, 194, 195, 196, 380, 381, 382, 383, 384, 385, 386, 387, 388, 397] (by decide +kernel) (by decide +kernel)
set_option maxRecDepth 20000 in
theorem gL_acts_X5_set : GoodIn wsL_acts (wsV RL 101 RX5 yX5_set wsX5_set) := goodIn_app (goodIn_of _ (by decide +kernel)) ggL_acts_X5_set
set_option maxRecDepth 20000 in
theorem gL_acts_X5_begin : GoodIn wsL_acts (wsV RL 104 RX5 yX5_begin wsX5_begin) := goodIn_app (goodIn_of _ (by decide +kernel)) ggL_acts_X5_begin
