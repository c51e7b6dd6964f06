set_option maxRecDepth 20000 in
theorem ggL_law_L_acts_10 : GoodIn wsL_law wsL_acts_r11 := goodIn_r _ [332, 333, 334, 85, 86, 87, 88, 430, 431, 432, 433, 434, 435, 436, 437, 438, 439, 440, 441, 442, 443, 444, 445, 446] (by decide +kernel) (by decide +kernel)
set_option maxRecDepth 20000 in
theorem ggL_law_L_acts_11 : GoodIn wsL_law wsL_acts_r12 := goodIn_r _ [447, 448, 449, 450, 451, 452, 453, 454, 455, 456, 457, 458, 459, 460, 461, 462, 463, 464, 465, 466, 467, 468, 469, 470] (by decide +kernel) (by decide +kernel)
