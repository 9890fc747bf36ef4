set_option maxRecDepth 20000 in
theorem ggL_law_X9_size : GoodIn wsL_law wsX9_size := goodIn_r _ [276, 78, 79, 277, 278, 279, 5, 280, 233, 234, 235, 236, 281, 282, 283, 237, 238, 239, 240, 77, 964, 965, 966, 967, 968, 969, 970, 971, 972, 973, 974, 975, 976, 977, 978, 979, 980, 981, 982, 983, 984, 985, 986, 987, 988, 989, 990] (by decide +kernel) (by decide +kernel)
set_option maxRecDepth 20000 in
theorem gL_law_X9_size : GoodIn wsL_law (wsV RL 22 RX9 yX9_size wsX9_size) := goodIn_app (goodIn_of _ (by decide +kernel)) ggL_law_X9_size
set_option maxRecDepth 20000 in
theorem ggL_law_X8_feed : GoodIn wsL_law wsX8_feed := goodIn_r _ [412, 22, 413, 99, 100, 101, 2, 102, 25, 414, 415, 416, 21, 417, 55, 418, 419, 420, 421, 53, 955, 956, 957, 958, 959, 960, 961, 962, 963, 994, 995, 996, 997, 998, 999] (by decide +kernel) (by decide +kernel)
set_option maxRecDepth 20000 in
theorem gL_law_X8_feed : GoodIn wsL_law (wsV RL 39 RX8 yX8_feed wsX8_feed) := goodIn_app (goodIn_of _ (by decide +kernel)) ggL_law_X8_feed
set_option maxRecDepth 20000 in
theorem ggL_law_X9_believed : GoodIn wsL_law wsX9_believed := goodIn_r _ [608, 326, 234, 235, 5, 236, 590, 591, 592, 593, 506, 327, 328, 329, 330, 277, 278, 279, 280, 233, 331, 332, 333, 334, 335, 336, 337, 338, 237, 238, 239, 240, 77, 609, 610, 611, 612, 78, 79, 87, 339, 340, 341, 342, 80, 343, 344, 345, 346, 347, 348, 349, 350, 351, 352, 353, 354, 355, 356, 357, 358, 359, 360, 361, 362, 363, 364, 365, 366, 367, 368, 369, 88, 281, 282, 283, 594, 595, 596, 597, 90, 81, 82, 509, 510, 511, 512, 91, 513, 514, 508, 515, 507, 516, 517, 518, 519, 520, 521, 522, 523, 524, 525, 526, 527, 528, 529, 530, 531, 532, 533, 534, 535, 536, 537, 538, 539, 540, 541, 542, 543, 544, 545, 546, 547, 548, 549, 550, 551, 552, 553, 370, 371, 372, 373, 374, 375, 964, 965, 966, 967, 968, 969, 970, 971, 972, 973, 974, 975, 976, 977, 978, 979, 980, 981, 982, 983, 984, 985, 986, 987, 988, 989, 990] (by decide +kernel) (by decide +kernel)
set_option maxRecDepth 20000 in
theorem gL_law_X9_believed : GoodIn wsL_law (wsV RL 56 RX9 yX9_believed wsX9_believed) := goodIn_app (goodIn_of _ (by decide +kernel)) ggL_law_X9_believed
set_option maxRecDepth 20000 in
theorem ggL_law_X8_kept : GoodIn wsL_law wsX8_kept := goodIn_r _ [694, 664, 34, 99, 100, 101, 2, 102, 25, 682, 152, 144, 153, 665, 666, 667, 33, 668, 71, 669, 670, 134, 135, 136, 671, 672, 673, 674, 72, 675, 177, 178, 179, 676, 181, 182, 183, 677, 678, 679, 680, 681, 203, 204, 647, 623, 624, 625, 316, 317, 318, 319, 320, 321, 626, 627, 628, 629, 955, 956, 957, 958, 959, 960, 961, 962, 963, 1005, 1006] (by decide +kernel) (by decide +kernel)
set_option maxRecDepth 20000 in
theorem gL_law_X8_kept : GoodIn wsL_law (wsV RL 72 RX8 yX8_kept wsX8_kept) := goodIn_app (goodIn_of _ (by decide +kernel)) ggL_law_X8_kept
set_option maxRecDepth 20000 in
theorem ggL_law_X9_belief : GoodIn wsL_law wsX9_belief := goodIn_r _ [722, 78, 79, 87, 234, 235, 5, 236, 334, 335, 336, 337, 338, 237, 238, 239, 240, 77, 277, 278, 279, 280, 233, 281, 282, 283, 339, 340, 341, 342, 80, 343, 344, 345, 346, 347, 348, 349, 350, 351, 352, 353, 354, 355, 326, 356, 357, 358, 359, 360, 361, 362, 363, 364, 365, 366, 367, 368, 369, 88, 370, 371, 372, 373, 374, 375, 964, 965, 966, 967, 968, 969, 970, 971, 972, 973, 974, 975, 976, 977, 978, 979, 980, 981, 982, 983, 984, 985, 986, 987, 988, 989, 990] (by decide +kernel) (by decide +kernel)
set_option maxRecDepth 20000 in
theorem gL_law_X9_belief : GoodIn wsL_law (wsV RL 87 RX9 yX9_belief wsX9_belief) := goodIn_app (goodIn_of _ (by decide +kernel)) ggL_law_X9_belief
set_option maxRecDepth 20000 in
theorem ggL_law_X8_rank : GoodIn wsL_law wsX8_rank := goodIn_r _ [779, 302, 248, 249, 250, 2, 251, 16, 252, 112, 113, 114, 15, 115, 116, 253, 254, 255, 256, 257, 258, 259, 260, 261, 262, 263, 264, 265, 266, 267, 268, 39, 740, 741, 742, 301, 99, 100, 101, 102, 25, 780, 781, 782, 98, 783, 124, 125, 784, 785, 786, 787, 788, 789, 790, 791, 792, 762, 793, 764, 148, 144, 149, 150, 1007, 1008, 1009, 1010, 955, 956, 957, 958, 959, 960, 961, 962, 963, 991, 992, 993] (by decide +kernel) (by decide +kernel)
set_option maxRecDepth 20000 in
theorem gL_law_X8_rank : GoodIn wsL_law (wsV RL 100 RX8 yX8_rank wsX8_rank) := goodIn_app (goodIn_of _ (by decide +kernel)) ggL_law_X8_rank
set_option maxRecDepth 20000 in
theorem ggL_law_X9_bestLot : GoodIn wsL_law wsX9_bestLot := goodIn_r _ [850, 79, 752, 753, 754, 5, 755, 78, 277, 278, 279, 280, 233, 234, 235, 236, 237, 238, 239, 240, 77, 769, 770, 771, 772, 80, 773, 774, 775, 819, 820, 821, 822, 851, 852, 853, 964, 965, 966, 967, 968, 969, 970, 971, 972, 973, 974, 975, 976, 977, 978, 979, 980, 981, 982, 983, 984, 985, 986, 987, 988, 989, 990] (by decide +kernel) (by decide +kernel)
set_option maxRecDepth 20000 in
theorem gL_law_X9_bestLot : GoodIn wsL_law (wsV RL 115 RX9 yX9_bestLot wsX9_bestLot) := goodIn_app (goodIn_of _ (by decide +kernel)) ggL_law_X9_bestLot
set_option maxRecDepth 20000 in
theorem ggL_law_X8_show : GoodIn wsL_law wsX8_show := goodIn_r _ [899, 18, 900, 901, 23, 112, 113, 114, 15, 115, 116, 99, 100, 101, 2, 102, 25, 253, 254, 255, 256, 257, 258, 259, 260, 261, 262, 263, 264, 265, 266, 267, 268, 39, 955, 956, 957, 958, 959, 960, 961, 962, 963, 1014, 1015, 1016, 991, 992, 993] (by decide +kernel) (by decide +kernel)
set_option maxRecDepth 20000 in
theorem gL_law_X8_show : GoodIn wsL_law (wsV RL 129 RX8 yX8_show wsX8_show) := goodIn_app (goodIn_of _ (by decide +kernel)) ggL_law_X8_show
set_option maxRecDepth 20000 in
theorem ggL_law_X9_count : GoodIn wsL_law wsX9_count := goodIn_r _ [954, 77, 233, 506, 895, 86, 426, 964, 965, 966, 967, 968, 969, 970, 971, 972, 973, 974, 975, 976, 977, 978, 979, 980, 981, 982, 983, 984, 985, 986, 987, 988, 989, 990] (by decide +kernel) (by decide +kernel)
set_option maxRecDepth 20000 in
theorem gL_law_X9_count : GoodIn wsL_law (wsV RL 144 RX9 yX9_count wsX9_count) := goodIn_app (goodIn_of _ (by decide +kernel)) ggL_law_X9_count