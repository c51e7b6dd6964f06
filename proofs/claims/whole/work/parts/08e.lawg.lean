set_option maxRecDepth 20000 in
theorem ggL_law_X5_cell : GoodIn wsL_law wsX5_cell := goodIn_r _ [429, 20, 430, 431, 432, 19, 433, 43, 434, 435, 436, 250, 251, 14, 252, 95, 96, 97, 98, 38, 437, 254, 255, 438, 92, 93, 94, 439, 440, 289, 290, 291, 103, 104, 105, 99, 100, 101, 102, 114, 115, 116, 292, 293, 294, 295, 296, 297, 298, 441, 300, 301, 442, 443, 444, 445, 863, 864, 865, 866, 867, 868, 888, 887] (by decide +kernel) (by decide +kernel)
set_option maxRecDepth 20000 in
theorem gL_law_X5_cell : GoodIn wsL_law (wsV RL 48 RX5 yX5_cell wsX5_cell) := goodIn_app (goodIn_of _ (by decide +kernel)) ggL_law_X5_cell
set_option maxRecDepth 20000 in
theorem ggL_law_X6_cell : GoodIn wsL_law wsX6_cell := goodIn_r _ [449, 228, 175, 265, 266, 267, 5, 268, 136, 229, 230, 231, 269, 270, 271, 167, 168, 169, 170, 318, 319, 320, 321, 322, 323, 324, 325, 159, 160, 161, 162, 163, 164, 165, 166, 171, 172, 173, 174, 176, 177, 178, 179, 180, 181, 182, 183, 184, 185, 186, 187, 188, 189, 190, 191, 326, 327, 328, 329, 330, 331, 332, 333, 450, 451, 452, 453, 869, 870, 871, 872, 873, 874, 875, 876, 877, 878, 879, 880, 881, 882, 883, 884, 885, 886] (by decide +kernel) (by decide +kernel)
set_option maxRecDepth 20000 in
theorem gL_law_X6_cell : GoodIn wsL_law (wsV RL 51 RX6 yX6_cell wsX6_cell) := goodIn_app (goodIn_of _ (by decide +kernel)) ggL_law_X6_cell
set_option maxRecDepth 20000 in
theorem ggL_law_X5_margin : GoodIn wsL_law wsX5_margin := goodIn_r _ [457, 20, 458, 459, 460, 19, 461, 43, 434, 435, 436, 250, 251, 14, 252, 95, 96, 97, 98, 38, 439, 462, 463, 464, 465, 466, 115, 116, 441, 300, 301, 442, 443, 444, 445, 296, 297, 298, 467, 293, 294, 295, 863, 864, 865, 866, 867, 868, 888, 887] (by decide +kernel) (by decide +kernel)
set_option maxRecDepth 20000 in
theorem gL_law_X5_margin : GoodIn wsL_law (wsV RL 52 RX5 yX5_margin wsX5_margin) := goodIn_app (goodIn_of _ (by decide +kernel)) ggL_law_X5_margin
set_option maxRecDepth 20000 in
theorem ggL_law_X6_margin : GoodIn wsL_law wsX6_margin := goodIn_r _ [471, 228, 175, 265, 266, 267, 5, 268, 136, 229, 230, 231, 167, 168, 169, 170, 188, 189, 190, 191, 330, 331, 332, 333, 326, 327, 328, 329, 869, 870, 871, 872, 873, 874, 875, 876, 877, 878, 879, 880, 881, 882, 883, 884, 885, 886] (by decide +kernel) (by decide +kernel)
set_option maxRecDepth 20000 in
theorem gL_law_X6_margin : GoodIn wsL_law (wsV RL 55 RX6 yX6_margin wsX6_margin) := goodIn_app (goodIn_of _ (by decide +kernel)) ggL_law_X6_margin
set_option maxRecDepth 20000 in
theorem ggL_law_X5_row : GoodIn wsL_law wsX5_row := goodIn_r _ [475, 20, 476, 477, 478, 19, 479, 43, 434, 436, 250, 251, 14, 252, 95, 96, 97, 98, 38, 439, 480, 100, 101, 102, 438, 92, 93, 94, 481, 482, 483, 484, 485, 486, 487, 488, 489, 490, 491, 492, 493, 285, 286, 287, 288, 289, 290, 291, 103, 104, 105, 99, 114, 115, 116, 292, 293, 294, 295, 296, 297, 298, 299, 300, 301, 863, 864, 865, 866, 867, 868, 888, 887] (by decide +kernel) (by decide +kernel)
set_option maxRecDepth 20000 in
theorem gL_law_X5_row : GoodIn wsL_law (wsV RL 56 RX5 yX5_row wsX5_row) := goodIn_app (goodIn_of _ (by decide +kernel)) ggL_law_X5_row
set_option maxRecDepth 20000 in
theorem ggL_law_X6_row : GoodIn wsL_law wsX6_row := goodIn_r _ [497, 228, 265, 266, 267, 5, 268, 136, 229, 230, 231, 167, 168, 169, 170, 163, 164, 165, 166, 171, 172, 173, 174, 175, 176, 177, 178, 179, 498, 499, 500, 501, 502, 503, 504, 505, 314, 315, 316, 317, 180, 181, 182, 183, 318, 319, 320, 321, 322, 323, 324, 325, 159, 160, 161, 162, 184, 185, 186, 187, 188, 189, 190, 191, 326, 327, 328, 329, 330, 331, 332, 333, 869, 870, 871, 872, 873, 874, 875, 876, 877, 878, 879, 880, 881, 882, 883, 884, 885, 886] (by decide +kernel) (by decide +kernel)
set_option maxRecDepth 20000 in
theorem gL_law_X6_row : GoodIn wsL_law (wsV RL 59 RX6 yX6_row wsX6_row) := goodIn_app (goodIn_of _ (by decide +kernel)) ggL_law_X6_row
set_option maxRecDepth 20000 in
theorem ggL_law_X5_at : GoodIn wsL_law wsX5_at := goodIn_r _ [509, 15, 510, 511, 250, 251, 14, 252, 95, 96, 97, 98, 38, 512, 863, 864, 865, 866, 867, 868, 887] (by decide +kernel) (by decide +kernel)
set_option maxRecDepth 20000 in
theorem gL_law_X5_at : GoodIn wsL_law (wsV RL 60 RX5 yX5_at wsX5_at) := goodIn_app (goodIn_of _ (by decide +kernel)) ggL_law_X5_at
set_option maxRecDepth 20000 in
theorem ggL_law_X6_at : GoodIn wsL_law wsX6_at := goodIn_r _ [516, 136, 228, 229, 230, 5, 231, 171, 172, 173, 174, 175, 167, 168, 169, 170, 869, 870, 871, 872, 873, 874, 875, 876, 877, 878, 879, 880, 881, 882, 883, 884, 885, 886] (by decide +kernel) (by decide +kernel)
set_option maxRecDepth 20000 in
theorem gL_law_X6_at : GoodIn wsL_law (wsV RL 63 RX6 yX6_at wsX6_at) := goodIn_app (goodIn_of _ (by decide +kernel)) ggL_law_X6_at
set_option maxRecDepth 20000 in
theorem ggL_law_X5_would : GoodIn wsL_law wsX5_would := goodIn_r _ [520, 20, 521, 522, 523, 19, 524, 43, 434, 525, 435, 526, 122, 123, 124, 436, 250, 251, 14, 252, 95, 96, 97, 98, 38, 438, 92, 93, 94, 493, 285, 286, 287, 288, 289, 290, 291, 103, 104, 105, 99, 100, 101, 102, 114, 115, 116, 292, 293, 294, 295, 296, 297, 298, 299, 300, 301, 440, 442, 443, 444, 445, 863, 864, 865, 866, 867, 868, 888, 887] (by decide +kernel) (by decide +kernel)
set_option maxRecDepth 20000 in
theorem gL_law_X5_would : GoodIn wsL_law (wsV RL 64 RX5 yX5_would wsX5_would) := goodIn_app (goodIn_of _ (by decide +kernel)) ggL_law_X5_would
