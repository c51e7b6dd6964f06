set_option maxRecDepth 20000 in
theorem ggL_acts_L_reads_7 : GoodIn wsL_acts wsL_reads_r8 := goodIn_r _ [347, 348, 349, 350, 351, 352, 353, 354, 355, 356, 357, 187, 188, 189, 358, 359, 360, 361, 362, 363, 364, 365, 156, 157] (by decide +kernel) (by decide +kernel)
set_option maxRecDepth 20000 in
theorem ggL_acts_L_reads_8 : GoodIn wsL_acts wsL_reads_r9 := goodIn_r _ [158, 159, 160, 161, 125, 126, 127, 162, 163, 164, 165, 166, 167, 168, 169, 170, 171, 172, 173, 174, 175, 176, 177, 178] (by decide +kernel) (by decide +kernel)
set_option maxRecDepth 20000 in
theorem ggL_acts_L_reads_9 : GoodIn wsL_acts wsL_reads_r10 := goodIn_r _ [179, 180, 181, 182, 183, 184, 185, 186, 190, 191, 192, 366, 218, 219, 220, 221, 367, 237, 238, 239, 240, 241, 242, 243] (by decide +kernel) (by decide +kernel)
set_option maxRecDepth 20000 in
theorem ggL_acts_L_reads_10 : GoodIn wsL_acts wsL_reads_r11 := goodIn_r _ [244, 245, 246, 247, 368, 253, 254, 255, 256, 257, 258, 259, 260, 261, 369, 267, 268, 269, 370, 275, 276, 277, 278, 371] (by decide +kernel) (by decide +kernel)
