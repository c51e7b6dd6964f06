set_option maxRecDepth 20000 in
theorem ggL_law_X6_mend : GoodIn wsL_law wsX6_mend := goodIn_r _ [349, 306, 307, 308, 5, 309, 228, 264, 265, 266, 267, 268, 136, 229, 230, 231, 180, 181, 182, 183, 167, 168, 169, 170, 232, 233, 234, 235, 236, 139, 237, 238, 239, 350, 351, 352, 353, 314, 315, 316, 317, 318, 319, 320, 321, 322, 323, 324, 325, 175, 159, 160, 161, 162, 163, 164, 165, 166, 171, 172, 173, 174, 176, 177, 178, 179, 184, 185, 186, 187, 188, 189, 190, 191, 326, 327, 328, 329, 330, 331, 332, 333, 354, 355, 356, 357, 147, 148, 149, 150, 151, 152, 153, 154, 155, 156, 157, 158, 192, 193, 194, 195, 196, 197, 198, 199, 869, 870, 871, 872, 873, 874, 875, 876, 877, 878, 879, 880, 881, 882, 883, 884, 885, 886] (by decide +kernel) (by decide +kernel)
set_option maxRecDepth 20000 in
theorem gL_law_X6_mend : GoodIn wsL_law (wsV RL 30 RX6 yX6_mend wsX6_mend) := goodIn_app (goodIn_of _ (by decide +kernel)) ggL_law_X6_mend
set_option maxRecDepth 20000 in
theorem ggL_law_X5_swap : GoodIn wsL_law wsX5_swap := goodIn_r _ [361, 28, 15, 204, 205, 206, 27, 207, 61, 208, 209, 210, 211, 60, 59, 212, 213, 214, 14, 215, 38, 216, 217, 218, 219, 362, 363, 364, 365, 78, 248, 366, 367, 123, 368, 369, 370, 371, 249, 250, 251, 252, 95, 96, 97, 98, 91, 92, 93, 94, 79, 80, 81, 82, 220, 221, 222, 223, 863, 864, 865, 866, 867, 868, 893, 894, 895, 887] (by decide +kernel) (by decide +kernel)
set_option maxRecDepth 20000 in
theorem gL_law_X5_swap : GoodIn wsL_law (wsV RL 31 RX5 yX5_swap wsX5_swap) := goodIn_app (goodIn_of _ (by decide +kernel)) ggL_law_X5_swap
set_option maxRecDepth 20000 in
theorem ggL_law_X6_swap : GoodIn wsL_law wsX6_swap := goodIn_r _ [375, 376, 377, 378, 5, 379, 228, 264, 265, 266, 267, 268, 136, 229, 230, 231, 180, 181, 182, 183, 167, 168, 169, 170, 232, 233, 234, 235, 236, 139, 237, 238, 239, 380, 381, 382, 383, 147, 148, 149, 150, 869, 870, 871, 872, 873, 874, 875, 876, 877, 878, 879, 880, 881, 882, 883, 884, 885, 886] (by decide +kernel) (by decide +kernel)
set_option maxRecDepth 20000 in
theorem gL_law_X6_swap : GoodIn wsL_law (wsV RL 35 RX6 yX6_swap wsX6_swap) := goodIn_app (goodIn_of _ (by decide +kernel)) ggL_law_X6_swap
set_option maxRecDepth 20000 in
theorem ggL_law_X5_lay : GoodIn wsL_law wsX5_lay := goodIn_r _ [387, 28, 15, 204, 205, 206, 27, 207, 61, 208, 209, 210, 211, 60, 59, 212, 213, 214, 14, 215, 38, 216, 217, 218, 219, 388, 389, 390, 391, 78, 248, 249, 250, 251, 252, 95, 96, 97, 98, 91, 92, 93, 94, 87, 88, 89, 90, 99, 100, 101, 102, 103, 104, 105, 106, 107, 108, 109, 110, 111, 112, 113, 114, 115, 116, 79, 80, 81, 82, 117, 118, 119, 120, 121, 122, 123, 124, 125, 126, 127, 128, 129, 130, 131, 220, 221, 222, 223, 863, 864, 865, 866, 867, 868, 893, 894, 895, 887] (by decide +kernel) (by decide +kernel)
set_option maxRecDepth 20000 in
theorem gL_law_X5_lay : GoodIn wsL_law (wsV RL 36 RX5 yX5_lay wsX5_lay) := goodIn_app (goodIn_of _ (by decide +kernel)) ggL_law_X5_lay
set_option maxRecDepth 20000 in
theorem ggL_law_X6_lay : GoodIn wsL_law wsX6_lay := goodIn_r _ [395, 306, 307, 308, 5, 309, 228, 264, 265, 266, 267, 268, 136, 229, 230, 231, 180, 181, 182, 183, 167, 168, 169, 170, 232, 233, 234, 235, 236, 139, 237, 238, 239, 151, 152, 153, 154, 155, 156, 157, 158, 159, 160, 161, 162, 163, 164, 165, 166, 171, 172, 173, 174, 175, 176, 177, 178, 179, 184, 185, 186, 187, 188, 189, 190, 191, 192, 193, 194, 195, 147, 148, 149, 150, 196, 197, 198, 199, 869, 870, 871, 872, 873, 874, 875, 876, 877, 878, 879, 880, 881, 882, 883, 884, 885, 886] (by decide +kernel) (by decide +kernel)
set_option maxRecDepth 20000 in
theorem gL_law_X6_lay : GoodIn wsL_law (wsV RL 39 RX6 yX6_lay wsX6_lay) := goodIn_app (goodIn_of _ (by decide +kernel)) ggL_law_X6_lay
set_option maxRecDepth 20000 in
theorem ggL_law_X5_days : GoodIn wsL_law wsX5_days := goodIn_r _ [399, 28, 15, 204, 205, 206, 27, 207, 61, 208, 209, 210, 211, 60, 59, 212, 213, 214, 14, 215, 38, 216, 217, 218, 219, 400, 401, 402, 403, 78, 404, 95, 96, 97, 98, 125, 126, 127, 128, 79, 80, 81, 82, 220, 221, 222, 223, 863, 864, 865, 866, 867, 868, 893, 894, 895, 887] (by decide +kernel) (by decide +kernel)
set_option maxRecDepth 20000 in
theorem gL_law_X5_days : GoodIn wsL_law (wsV RL 40 RX5 yX5_days wsX5_days) := goodIn_app (goodIn_of _ (by decide +kernel)) ggL_law_X5_days
set_option maxRecDepth 20000 in
theorem ggL_law_X6_days : GoodIn wsL_law wsX6_days := goodIn_r _ [408, 136, 409, 410, 411, 5, 412, 228, 413, 229, 230, 231, 232, 233, 234, 235, 236, 139, 237, 238, 239, 869, 870, 871, 872, 873, 874, 875, 876, 877, 878, 879, 880, 881, 882, 883, 884, 885, 886] (by decide +kernel) (by decide +kernel)
set_option maxRecDepth 20000 in
theorem gL_law_X6_days : GoodIn wsL_law (wsV RL 43 RX6 yX6_days wsX6_days) := goodIn_app (goodIn_of _ (by decide +kernel)) ggL_law_X6_days
set_option maxRecDepth 20000 in
theorem ggL_law_X5_set : GoodIn wsL_law wsX5_set := goodIn_r _ [417, 28, 15, 204, 205, 206, 27, 207, 61, 208, 209, 210, 211, 60, 59, 212, 213, 214, 14, 215, 38, 216, 217, 218, 219, 418, 419, 420, 421, 78, 95, 96, 97, 98, 79, 80, 81, 82, 117, 118, 119, 120, 121, 122, 123, 124, 220, 221, 222, 223, 863, 864, 865, 866, 867, 868, 893, 894, 895, 887] (by decide +kernel) (by decide +kernel)
set_option maxRecDepth 20000 in
theorem gL_law_X5_set : GoodIn wsL_law (wsV RL 44 RX5 yX5_set wsX5_set) := goodIn_app (goodIn_of _ (by decide +kernel)) ggL_law_X5_set
set_option maxRecDepth 20000 in
theorem ggL_law_X6_set : GoodIn wsL_law wsX6_set := goodIn_r _ [425, 228, 136, 229, 230, 5, 231, 232, 233, 234, 235, 236, 139, 237, 238, 239, 167, 168, 169, 170, 192, 193, 194, 195, 147, 148, 149, 150, 869, 870, 871, 872, 873, 874, 875, 876, 877, 878, 879, 880, 881, 882, 883, 884, 885, 886] (by decide +kernel) (by decide +kernel)
set_option maxRecDepth 20000 in
theorem gL_law_X6_set : GoodIn wsL_law (wsV RL 47 RX6 yX6_set wsX6_set) := goodIn_app (goodIn_of _ (by decide +kernel)) ggL_law_X6_set
