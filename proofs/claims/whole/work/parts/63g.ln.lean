set_option maxRecDepth 20000 in
theorem ggL_law_X8_odds : GoodIn wsL_law wsX8_odds := goodIn_r _ [287, 288, 289, 2, 290, 291, 292, 293, 294, 295, 99, 100, 101, 102, 25, 248, 249, 250, 251, 16, 252, 112, 113, 114, 15, 115, 116, 253, 254, 255, 256, 257, 258, 259, 260, 261, 262, 263, 264, 265, 266, 267, 268, 39, 269, 270, 271, 98, 272, 123, 124, 137, 138, 296, 297, 298, 299, 300, 29, 301, 302, 303, 304, 127, 128, 28, 129, 63, 67, 66, 130, 131, 132, 133, 134, 135, 136, 139, 140, 141, 142, 143, 144, 145, 146, 147, 148, 149, 150, 151, 152, 153, 154, 155, 156, 157, 158, 159, 160, 161, 162, 163, 164, 165, 166, 167, 168, 169, 170, 171, 64, 172, 173, 174, 175, 65, 176, 177, 178, 179, 180, 181, 182, 183, 305, 306, 307, 308, 309, 310, 311, 312, 313, 314, 315, 316, 317, 318, 319, 320, 321, 955, 956, 957, 958, 959, 960, 961, 962, 963, 991, 992, 993, 1007, 1008, 1009, 1010, 1000, 1001, 1002, 1003, 1004] (by decide +kernel) (by decide +kernel)
set_option maxRecDepth 20000 in
theorem gL_law_X8_odds : GoodIn wsL_law (wsV RL 23 RX8 yX8_odds wsX8_odds) := goodIn_app (goodIn_of _ (by decide +kernel)) ggL_law_X8_odds
set_option maxRecDepth 20000 in
theorem ggL_law_X9_feed : GoodIn wsL_law wsX9_feed := goodIn_r _ [425, 426, 89, 427, 237, 238, 239, 5, 240, 77, 964, 965, 966, 967, 968, 969, 970, 971, 972, 973, 974, 975, 976, 977, 978, 979, 980, 981, 982, 983, 984, 985, 986, 987, 988, 989, 990] (by decide +kernel) (by decide +kernel)
set_option maxRecDepth 20000 in
theorem gL_law_X9_feed : GoodIn wsL_law (wsV RL 43 RX9 yX9_feed wsX9_feed) := goodIn_app (goodIn_of _ (by decide +kernel)) ggL_law_X9_feed
set_option maxRecDepth 20000 in
theorem ggL_law_X8_line : GoodIn wsL_law wsX8_line := goodIn_r _ [616, 300, 248, 249, 250, 2, 251, 16, 252, 112, 113, 114, 15, 115, 116, 253, 254, 255, 256, 257, 258, 259, 260, 261, 262, 263, 264, 265, 266, 267, 268, 39, 99, 100, 101, 102, 25, 617, 618, 619, 28, 620, 67, 66, 621, 381, 382, 383, 384, 203, 178, 204, 63, 622, 623, 144, 624, 625, 316, 317, 318, 319, 320, 321, 626, 627, 628, 629, 1007, 1008, 1009, 1010, 955, 956, 957, 958, 959, 960, 961, 962, 963, 991, 992, 993, 1000, 1001, 1002, 1003, 1004] (by decide +kernel) (by decide +kernel)
set_option maxRecDepth 20000 in
theorem gL_law_X8_line : GoodIn wsL_law (wsV RL 57 RX8 yX8_line wsX8_line) := goodIn_app (goodIn_of _ (by decide +kernel)) ggL_law_X8_line
set_option maxRecDepth 20000 in
theorem ggL_law_X9_kept : GoodIn wsL_law wsX9_kept := goodIn_r _ [698, 237, 238, 239, 5, 240, 77, 687, 688, 689, 690, 88, 347, 326, 356, 357, 358, 638, 639, 640, 641, 642, 964, 965, 966, 967, 968, 969, 970, 971, 972, 973, 974, 975, 976, 977, 978, 979, 980, 981, 982, 983, 984, 985, 986, 987, 988, 989, 990] (by decide +kernel) (by decide +kernel)
set_option maxRecDepth 20000 in
theorem gL_law_X9_kept : GoodIn wsL_law (wsV RL 75 RX9 yX9_kept wsX9_kept) := goodIn_app (goodIn_of _ (by decide +kernel)) ggL_law_X9_kept
set_option maxRecDepth 20000 in
theorem ggL_law_X8_letter : GoodIn wsL_law wsX8_letter := goodIn_r _ [726, 16, 252, 300, 727, 288, 289, 2, 290, 291, 292, 293, 294, 295, 99, 100, 101, 102, 25, 558, 559, 560, 561, 17, 562, 112, 113, 114, 15, 115, 116, 253, 254, 255, 256, 257, 258, 259, 260, 261, 262, 263, 264, 265, 266, 267, 268, 39, 248, 249, 250, 251, 602, 603, 604, 269, 270, 271, 98, 272, 123, 124, 137, 138, 305, 306, 307, 28, 308, 63, 563, 564, 565, 434, 566, 499, 500, 567, 568, 569, 570, 501, 571, 572, 573, 574, 575, 472, 21, 473, 576, 577, 578, 579, 580, 581, 582, 583, 584, 585, 309, 310, 311, 312, 66, 728, 729, 144, 730, 731, 314, 315, 316, 317, 318, 319, 320, 178, 321, 313, 955, 956, 957, 958, 959, 960, 961, 962, 963, 1007, 1008, 1009, 1010, 991, 992, 993, 1000, 1001, 1002, 1003, 1004, 1011, 1012, 1013] (by decide +kernel) (by decide +kernel)
set_option maxRecDepth 20000 in
theorem gL_law_X8_letter : GoodIn wsL_law (wsV RL 88 RX8 yX8_letter wsX8_letter) := goodIn_app (goodIn_of _ (by decide +kernel)) ggL_law_X8_letter
set_option maxRecDepth 20000 in
theorem ggL_law_X9_rank : GoodIn wsL_law wsX9_rank := goodIn_r _ [797, 798, 799, 800, 5, 801, 78, 277, 278, 279, 280, 233, 234, 235, 236, 769, 770, 771, 772, 79, 80, 773, 774, 775, 237, 238, 239, 240, 77, 964, 965, 966, 967, 968, 969, 970, 971, 972, 973, 974, 975, 976, 977, 978, 979, 980, 981, 982, 983, 984, 985, 986, 987, 988, 989, 990] (by decide +kernel) (by decide +kernel)
set_option maxRecDepth 20000 in
theorem gL_law_X9_rank : GoodIn wsL_law (wsV RL 103 RX9 yX9_rank wsX9_rank) := goodIn_app (goodIn_of _ (by decide +kernel)) ggL_law_X9_rank
set_option maxRecDepth 20000 in
theorem ggL_law_X8_marked : GoodIn wsL_law wsX8_marked := goodIn_r _ [857, 302, 248, 249, 250, 2, 251, 16, 252, 112, 113, 114, 15, 115, 116, 253, 254, 255, 256, 257, 258, 259, 260, 261, 262, 263, 264, 265, 266, 267, 268, 39, 740, 741, 742, 301, 99, 100, 101, 102, 25, 780, 781, 782, 98, 783, 124, 125, 784, 785, 786, 787, 788, 789, 790, 858, 859, 762, 860, 835, 1007, 1008, 1009, 1010, 955, 956, 957, 958, 959, 960, 961, 962, 963, 991, 992, 993] (by decide +kernel) (by decide +kernel)
set_option maxRecDepth 20000 in
theorem gL_law_X8_marked : GoodIn wsL_law (wsV RL 116 RX8 yX8_marked wsX8_marked) := goodIn_app (goodIn_of _ (by decide +kernel)) ggL_law_X8_marked
set_option maxRecDepth 20000 in
theorem ggL_law_X9_show : GoodIn wsL_law wsX9_show := goodIn_r _ [905, 895, 86, 234, 235, 5, 236, 237, 238, 239, 240, 77, 964, 965, 966, 967, 968, 969, 970, 971, 972, 973, 974, 975, 976, 977, 978, 979, 980, 981, 982, 983, 984, 985, 986, 987, 988, 989, 990] (by decide +kernel) (by decide +kernel)
set_option maxRecDepth 20000 in
theorem gL_law_X9_show : GoodIn wsL_law (wsV RL 132 RX9 yX9_show wsX9_show) := goodIn_app (goodIn_of _ (by decide +kernel)) ggL_law_X9_show