set_option maxRecDepth 20000 in
theorem ggL_law_X5_share : GoodIn wsL_law wsX5_share := goodIn_r _ [684, 20, 685, 686, 687, 19, 688, 43, 435, 439, 96, 97, 14, 98, 38, 438, 92, 93, 94, 95, 493, 285, 286, 287, 288, 289, 290, 291, 103, 104, 105, 99, 100, 101, 102, 114, 115, 116, 292, 293, 294, 295, 296, 297, 298, 299, 300, 301, 649, 650, 651, 652, 863, 864, 865, 866, 867, 868, 888, 887] (by decide +kernel) (by decide +kernel)
set_option maxRecDepth 20000 in
theorem gL_law_X5_share : GoodIn wsL_law (wsV RL 85 RX5 yX5_share wsX5_share) := goodIn_app (goodIn_of _ (by decide +kernel)) ggL_law_X5_share
set_option maxRecDepth 20000 in
theorem ggL_law_X6_share : GoodIn wsL_law wsX6_share := goodIn_r _ [692, 136, 175, 180, 181, 182, 5, 183, 167, 168, 169, 170, 314, 315, 316, 317, 318, 319, 320, 321, 322, 323, 324, 325, 159, 160, 161, 162, 163, 164, 165, 166, 171, 172, 173, 174, 176, 177, 178, 179, 184, 185, 186, 187, 188, 189, 190, 191, 326, 327, 328, 329, 330, 331, 332, 333, 669, 670, 671, 672, 673, 674, 675, 676, 677, 678, 679, 680, 869, 870, 871, 872, 873, 874, 875, 876, 877, 878, 879, 880, 881, 882, 883, 884, 885, 886] (by decide +kernel) (by decide +kernel)
set_option maxRecDepth 20000 in
theorem gL_law_X6_share : GoodIn wsL_law (wsV RL 88 RX6 yX6_share wsX6_share) := goodIn_app (goodIn_of _ (by decide +kernel)) ggL_law_X6_share
set_option maxRecDepth 20000 in
theorem ggL_law_X5_count : GoodIn wsL_law wsX5_count := goodIn_r _ [696, 28, 32, 20, 697, 698, 699, 27, 700, 61, 701, 702, 703, 31, 704, 69, 705, 706, 707, 19, 708, 43, 434, 439, 96, 97, 14, 98, 38, 709, 710, 711, 712, 621, 622, 623, 624, 438, 92, 93, 94, 95, 493, 285, 286, 287, 288, 289, 290, 291, 103, 104, 105, 99, 100, 101, 102, 114, 115, 116, 292, 293, 294, 295, 296, 297, 298, 299, 300, 301, 481, 482, 483, 484, 485, 486, 487, 488, 713, 714, 715, 716, 645, 646, 647, 648, 462, 463, 464, 465, 467, 717, 718, 719, 720, 721, 722, 723, 724, 489, 490, 491, 492, 863, 864, 865, 866, 867, 868, 893, 894, 895, 896, 897, 898, 899, 900, 901, 902, 888, 887] (by decide +kernel) (by decide +kernel)
set_option maxRecDepth 20000 in
theorem gL_law_X5_count : GoodIn wsL_law (wsV RL 89 RX5 yX5_count wsX5_count) := goodIn_app (goodIn_of _ (by decide +kernel)) ggL_law_X5_count
set_option maxRecDepth 20000 in
theorem ggL_law_X6_count : GoodIn wsL_law wsX6_count := goodIn_r _ [728, 136, 236, 729, 228, 229, 230, 5, 231, 730, 731, 732, 733, 633, 634, 635, 636, 180, 181, 182, 183, 167, 168, 169, 170, 314, 315, 316, 317, 318, 319, 320, 321, 322, 323, 324, 325, 175, 159, 160, 161, 162, 163, 164, 165, 166, 171, 172, 173, 174, 176, 177, 178, 179, 184, 185, 186, 187, 188, 189, 190, 191, 326, 327, 328, 329, 330, 331, 332, 333, 498, 499, 500, 501, 657, 658, 659, 660, 661, 662, 663, 664, 734, 735, 736, 737, 502, 503, 504, 505, 869, 870, 871, 872, 873, 874, 875, 876, 877, 878, 879, 880, 881, 882, 883, 884, 885, 886] (by decide +kernel) (by decide +kernel)
set_option maxRecDepth 20000 in
theorem gL_law_X6_count : GoodIn wsL_law (wsV RL 92 RX6 yX6_count wsX6_count) := goodIn_app (goodIn_of _ (by decide +kernel)) ggL_law_X6_count
set_option maxRecDepth 20000 in
theorem ggL_law_X5_undo : GoodIn wsL_law wsX5_undo := goodIn_r _ [741, 28, 15, 742, 743, 744, 27, 745, 61, 746, 208, 209, 210, 211, 60, 59, 212, 213, 214, 14, 215, 38, 216, 217, 218, 219, 863, 864, 865, 866, 867, 868, 893, 894, 895, 887] (by decide +kernel) (by decide +kernel)
set_option maxRecDepth 20000 in
theorem gL_law_X5_undo : GoodIn wsL_law (wsV RL 93 RX5 yX5_undo wsX5_undo) := goodIn_app (goodIn_of _ (by decide +kernel)) ggL_law_X5_undo
set_option maxRecDepth 20000 in
theorem ggL_law_X6_undo : GoodIn wsL_law wsX6_undo := goodIn_r _ [750, 236, 264, 139, 136, 237, 238, 5, 239, 869, 870, 871, 872, 873, 874, 875, 876, 877, 878, 879, 880, 881, 882, 883, 884, 885, 886] (by decide +kernel) (by decide +kernel)
set_option maxRecDepth 20000 in
theorem gL_law_X6_undo : GoodIn wsL_law (wsV RL 96 RX6 yX6_undo wsX6_undo) := goodIn_app (goodIn_of _ (by decide +kernel)) ggL_law_X6_undo
set_option maxRecDepth 20000 in
theorem ggL_law_X5_type : GoodIn wsL_law wsX5_type := goodIn_r _ [754, 32, 755, 756, 757, 31, 758, 759, 69, 760, 67, 863, 864, 865, 866, 867, 868, 896, 897, 898, 899, 900, 901, 902] (by decide +kernel) (by decide +kernel)
set_option maxRecDepth 20000 in
theorem gL_law_X5_type : GoodIn wsL_law (wsV RL 97 RX5 yX5_type wsX5_type) := goodIn_app (goodIn_of _ (by decide +kernel)) ggL_law_X5_type
set_option maxRecDepth 20000 in
theorem ggL_law_X6_type : GoodIn wsL_law wsX6_type := goodIn_r _ [764, 228, 729, 413, 140, 229, 230, 5, 231, 869, 870, 871, 872, 873, 874, 875, 876, 877, 878, 879, 880, 881, 882, 883, 884, 885, 886] (by decide +kernel) (by decide +kernel)
set_option maxRecDepth 20000 in
theorem gL_law_X6_type : GoodIn wsL_law (wsV RL 100 RX6 yX6_type wsX6_type) := goodIn_app (goodIn_of _ (by decide +kernel)) ggL_law_X6_type
set_option maxRecDepth 20000 in
theorem ggL_law_X5_clearText : GoodIn wsL_law wsX5_clearText := goodIn_r _ [768, 32, 769, 770, 771, 31, 772, 69, 863, 864, 865, 866, 867, 868, 896, 897, 898, 899, 900, 901, 902] (by decide +kernel) (by decide +kernel)
set_option maxRecDepth 20000 in
theorem gL_law_X5_clearText : GoodIn wsL_law (wsV RL 101 RX5 yX5_clearText wsX5_clearText) := goodIn_app (goodIn_of _ (by decide +kernel)) ggL_law_X5_clearText
