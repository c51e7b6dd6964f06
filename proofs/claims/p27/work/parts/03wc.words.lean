set_option maxRecDepth 20000 in
theorem wsL_law_r11_in : GoodIn lw_tbl wsL_law_r11 := goodIn_r _ [357, 344, 358, 345, 346, 347, 348, 349, 380, 381, 382, 383, 384, 385, 386, 387, 388, 389, 390, 391, 392, 393, 394, 395] (by decide +kernel) (by decide +kernel)
set_option maxRecDepth 20000 in
theorem wsL_law_r12_in : GoodIn lw_tbl wsL_law_r12 := goodIn_r _ [396, 397, 398, 399, 400, 401, 402, 468, 470, 310, 311, 312, 313, 359, 360, 361, 362, 363, 364, 365, 366, 367, 368, 343] (by decide +kernel) (by decide +kernel)
set_option maxRecDepth 20000 in
theorem wsL_law_r13_in : GoodIn lw_tbl wsL_law_r13 := goodIn_r _ [403, 404, 405, 406, 447, 407, 408, 409, 410, 416, 411, 412, 413, 414, 415, 417, 419, 18, 420, 421, 423, 19, 424, 425] (by decide +kernel) (by decide +kernel)
set_option maxRecDepth 20000 in
theorem wsL_law_r14_in : GoodIn lw_tbl wsL_law_r14 := goodIn_r _ [305, 304, 34, 426, 427, 428, 429, 430, 300, 301, 302, 303, 431, 432, 433, 434, 436, 435, 437, 438, 440, 20, 441, 442] (by decide +kernel) (by decide +kernel)
set_option maxRecDepth 20000 in
theorem wsL_law_r15_in : GoodIn lw_tbl wsL_law_r15 := goodIn_r _ [443, 444, 445, 446, 448, 449, 450, 451, 452, 453, 454, 455, 456, 457, 458, 459, 460, 461, 462, 463, 464, 466, 21, 467] (by decide +kernel) (by decide +kernel)
