set_option maxRecDepth 20000 in
theorem ggL_law_L_acts_5 : GoodIn wsL_law wsL_acts_r6 := goodIn_r _ [218, 219, 220, 221, 222, 223, 224, 225, 397, 398, 399, 400, 401, 402, 403, 13, 404, 405, 406, 407, 369, 370, 371, 372] (by decide +kernel) (by decide +kernel)
set_option maxRecDepth 20000 in
theorem ggL_law_L_acts_6 : GoodIn wsL_law wsL_acts_r7 := goodIn_r _ [58, 57, 373, 320, 321, 322, 323, 312, 313, 314, 408, 409, 410, 411, 76, 328, 329, 412, 392, 393, 89, 77, 78, 79] (by decide +kernel) (by decide +kernel)
set_option maxRecDepth 20000 in
theorem ggL_law_L_acts_7 : GoodIn wsL_law wsL_acts_r8 := goodIn_r _ [80, 123, 124, 125, 126, 104, 105, 106, 107, 108, 109, 110, 111, 115, 116, 117, 118, 119, 120, 121, 122, 127, 128, 129] (by decide +kernel) (by decide +kernel)
