set_option maxRecDepth 20000 in
theorem ggL_law_L_lot : GoodIn wsL_law wsL_lot := goodIn_r _ [376, 377] (by decide +kernel) (by decide +kernel)
set_option maxRecDepth 20000 in
theorem gL_law_L_lot : GoodIn wsL_law (va_wsS RL 120 yL_lot wsL_lot) := goodIn_app (goodIn_of _ (by decide +kernel)) ggL_law_L_lot
set_option maxRecDepth 20000 in
theorem ggL_law_L_look : GoodIn wsL_law wsL_look := goodIn_r _ [380, 381, 382, 135, 136, 137, 2, 138, 26, 30, 18, 139, 140, 141, 25, 142, 59, 143, 144, 145, 29, 146, 67, 147, 148, 149, 17, 150, 41, 151, 152, 94, 95, 12, 96, 36, 153, 154, 155, 156, 157, 158, 159, 160, 161, 90, 91, 92, 93, 162, 163, 164, 165, 166, 167, 168, 169, 101, 102, 103, 97, 98, 99, 100, 112, 113, 114, 170, 171, 172, 173, 174, 175, 176, 177, 178, 179, 180, 181, 182, 183, 184, 185, 186, 187, 188, 189, 190, 191, 192, 193, 194, 195, 196, 197, 198, 199, 200, 201, 202, 203, 204, 205, 206, 207, 208, 209, 210, 211, 212, 213, 214, 215, 216, 217, 218, 219, 220, 221, 222, 223, 224, 225, 383, 384, 385, 386, 387, 388, 389, 390, 241, 391, 392, 393, 287, 243, 244, 245, 246, 247, 233, 234, 235, 236, 237, 238, 239, 240, 242, 277, 278, 279, 280, 281, 282, 283, 284, 285, 286, 120, 121, 122, 544, 545, 546, 547, 548, 549, 556, 557, 558, 559, 560, 561, 562, 563, 564, 565, 551, 550] (by decide +kernel) (by decide +kernel)
set_option maxRecDepth 20000 in
theorem gL_law_L_look : GoodIn wsL_law (va_wsS RL 124 yL_look wsL_look) := goodIn_app (goodIn_of _ (by decide +kernel)) ggL_law_L_look
