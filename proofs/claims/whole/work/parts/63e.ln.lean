set_option maxRecDepth 20000 in
theorem ggL_law_X8_size : GoodIn wsL_law wsX8_size := goodIn_r _ [247, 248, 249, 250, 2, 251, 16, 252, 112, 113, 114, 15, 115, 116, 253, 254, 255, 256, 257, 258, 259, 260, 261, 262, 263, 264, 265, 266, 267, 268, 39, 99, 100, 101, 102, 25, 269, 270, 271, 98, 272, 123, 124, 137, 138, 955, 956, 957, 958, 959, 960, 961, 962, 963, 991, 992, 993, 1007, 1008, 1009, 1010] (by decide +kernel) (by decide +kernel)
set_option maxRecDepth 20000 in
theorem gL_law_X8_size : GoodIn wsL_law (wsV RL 18 RX8 yX8_size wsX8_size) := goodIn_app (goodIn_of _ (by decide +kernel)) ggL_law_X8_size
set_option maxRecDepth 20000 in
theorem ggL_law_X9_mean_ : GoodIn wsL_law wsX9_mean_ := goodIn_r _ [404, 326, 327, 328, 329, 5, 330, 234, 235, 236, 277, 278, 279, 280, 233, 331, 332, 333, 334, 335, 336, 337, 338, 237, 238, 239, 240, 77, 339, 340, 341, 342, 78, 79, 80, 343, 344, 345, 346, 347, 348, 349, 350, 351, 352, 353, 354, 355, 87, 356, 357, 358, 359, 360, 361, 362, 363, 364, 365, 366, 367, 368, 369, 88, 405, 406, 407, 408, 370, 371, 372, 373, 374, 375, 964, 965, 966, 967, 968, 969, 970, 971, 972, 973, 974, 975, 976, 977, 978, 979, 980, 981, 982, 983, 984, 985, 986, 987, 988, 989, 990] (by decide +kernel) (by decide +kernel)
set_option maxRecDepth 20000 in
theorem gL_law_X9_mean_ : GoodIn wsL_law (wsV RL 36 RX9 yX9_mean_ wsX9_mean_) := goodIn_app (goodIn_of _ (by decide +kernel)) ggL_law_X9_mean_
set_option maxRecDepth 20000 in
theorem ggL_law_X8_believed : GoodIn wsL_law wsX8_believed := goodIn_r _ [601, 288, 289, 2, 290, 291, 292, 293, 294, 295, 99, 100, 101, 102, 25, 558, 559, 560, 561, 17, 562, 112, 113, 114, 15, 115, 116, 253, 254, 255, 256, 257, 258, 259, 260, 261, 262, 263, 264, 265, 266, 267, 268, 39, 248, 249, 250, 251, 16, 252, 296, 297, 298, 299, 300, 29, 301, 302, 303, 304, 127, 128, 28, 129, 63, 67, 66, 130, 131, 132, 133, 134, 135, 136, 137, 138, 139, 140, 141, 142, 143, 144, 145, 146, 147, 148, 149, 150, 151, 152, 153, 154, 155, 156, 157, 158, 159, 160, 161, 162, 163, 164, 165, 166, 167, 168, 169, 170, 171, 64, 172, 173, 174, 175, 65, 176, 177, 178, 179, 180, 181, 182, 183, 602, 603, 604, 269, 270, 271, 98, 272, 123, 124, 305, 306, 307, 308, 563, 564, 565, 434, 566, 499, 500, 567, 568, 569, 570, 501, 571, 572, 573, 574, 575, 472, 21, 473, 576, 577, 578, 579, 580, 581, 582, 583, 584, 585, 309, 310, 311, 312, 313, 314, 315, 316, 317, 318, 319, 320, 321, 955, 956, 957, 958, 959, 960, 961, 962, 963, 991, 992, 993, 1007, 1008, 1009, 1010, 1000, 1001, 1002, 1003, 1004, 1011, 1012, 1013] (by decide +kernel) (by decide +kernel)
set_option maxRecDepth 20000 in
theorem gL_law_X8_believed : GoodIn wsL_law (wsV RL 53 RX8 yX8_believed wsX8_believed) := goodIn_app (goodIn_of _ (by decide +kernel)) ggL_law_X8_believed
set_option maxRecDepth 20000 in
theorem ggL_law_X9_well : GoodIn wsL_law wsX9_well := goodIn_r _ [686, 326, 234, 235, 5, 236, 334, 335, 336, 337, 338, 237, 238, 239, 240, 77, 687, 688, 689, 690, 88, 347, 356, 357, 358, 370, 371, 372, 373, 374, 375, 964, 965, 966, 967, 968, 969, 970, 971, 972, 973, 974, 975, 976, 977, 978, 979, 980, 981, 982, 983, 984, 985, 986, 987, 988, 989, 990] (by decide +kernel) (by decide +kernel)
set_option maxRecDepth 20000 in
theorem gL_law_X9_well : GoodIn wsL_law (wsV RL 71 RX9 yX9_well wsX9_well) := goodIn_app (goodIn_of _ (by decide +kernel)) ggL_law_X9_well
set_option maxRecDepth 20000 in
theorem ggL_law_X8_belief : GoodIn wsL_law wsX8_belief := goodIn_r _ [718, 300, 288, 289, 2, 290, 291, 292, 293, 294, 295, 99, 100, 101, 102, 25, 248, 249, 250, 251, 16, 252, 112, 113, 114, 15, 115, 116, 253, 254, 255, 256, 257, 258, 259, 260, 261, 262, 263, 264, 265, 266, 267, 268, 39, 269, 270, 271, 98, 272, 123, 124, 137, 138, 296, 297, 298, 299, 29, 301, 302, 303, 304, 127, 128, 28, 129, 63, 67, 66, 130, 131, 132, 133, 134, 135, 136, 139, 140, 141, 142, 143, 144, 145, 146, 147, 148, 149, 150, 151, 152, 153, 154, 155, 156, 157, 158, 159, 160, 161, 162, 163, 164, 165, 166, 167, 168, 169, 170, 171, 64, 172, 173, 174, 175, 65, 176, 177, 178, 179, 180, 181, 182, 183, 305, 306, 307, 308, 313, 314, 315, 316, 317, 318, 319, 320, 321, 1007, 1008, 1009, 1010, 955, 956, 957, 958, 959, 960, 961, 962, 963, 991, 992, 993, 1000, 1001, 1002, 1003, 1004] (by decide +kernel) (by decide +kernel)
set_option maxRecDepth 20000 in
theorem gL_law_X8_belief : GoodIn wsL_law (wsV RL 84 RX8 yX8_belief wsX8_belief) := goodIn_app (goodIn_of _ (by decide +kernel)) ggL_law_X8_belief
set_option maxRecDepth 20000 in
theorem ggL_law_X9_lot : GoodIn wsL_law wsX9_lot := goodIn_r _ [768, 79, 80, 752, 753, 754, 5, 755, 78, 277, 278, 279, 280, 233, 234, 235, 236, 359, 360, 361, 237, 238, 239, 240, 77, 769, 770, 771, 772, 773, 774, 775, 964, 965, 966, 967, 968, 969, 970, 971, 972, 973, 974, 975, 976, 977, 978, 979, 980, 981, 982, 983, 984, 985, 986, 987, 988, 989, 990] (by decide +kernel) (by decide +kernel)
set_option maxRecDepth 20000 in
theorem gL_law_X9_lot : GoodIn wsL_law (wsV RL 99 RX9 yX9_lot wsX9_lot) := goodIn_app (goodIn_of _ (by decide +kernel)) ggL_law_X9_lot
set_option maxRecDepth 20000 in
theorem ggL_law_X8_bestLot : GoodIn wsL_law wsX8_bestLot := goodIn_r _ [843, 844, 845, 178, 846, 248, 249, 250, 2, 251, 16, 252, 112, 113, 114, 15, 115, 116, 253, 254, 255, 256, 257, 258, 259, 260, 261, 262, 263, 264, 265, 266, 267, 268, 39, 740, 741, 742, 301, 99, 100, 101, 102, 25, 827, 828, 829, 98, 830, 125, 743, 744, 745, 746, 124, 747, 148, 144, 149, 150, 807, 808, 809, 810, 811, 812, 762, 813, 831, 832, 833, 834, 203, 204, 835, 785, 786, 787, 788, 789, 790, 955, 956, 957, 958, 959, 960, 961, 962, 963, 991, 992, 993, 1007, 1008, 1009, 1010] (by decide +kernel) (by decide +kernel)
set_option maxRecDepth 20000 in
theorem gL_law_X8_bestLot : GoodIn wsL_law (wsV RL 112 RX8 yX8_bestLot wsX8_bestLot) := goodIn_app (goodIn_of _ (by decide +kernel)) ggL_law_X8_bestLot
set_option maxRecDepth 20000 in
theorem ggL_law_X9_sit : GoodIn wsL_law wsX9_sit := goodIn_r _ [894, 78, 79, 895, 83, 84, 86, 277, 278, 279, 5, 280, 233, 234, 235, 236, 281, 282, 283, 331, 332, 333, 237, 238, 239, 240, 77, 964, 965, 966, 967, 968, 969, 970, 971, 972, 973, 974, 975, 976, 977, 978, 979, 980, 981, 982, 983, 984, 985, 986, 987, 988, 989, 990] (by decide +kernel) (by decide +kernel)
set_option maxRecDepth 20000 in
theorem gL_law_X9_sit : GoodIn wsL_law (wsV RL 128 RX9 yX9_sit wsX9_sit) := goodIn_app (goodIn_of _ (by decide +kernel)) ggL_law_X9_sit
set_option maxRecDepth 20000 in
theorem ggL_law_X8_count : GoodIn wsL_law wsX8_count := goodIn_r _ [946, 16, 17, 18, 23, 22, 112, 113, 114, 15, 115, 116, 414, 415, 416, 21, 417, 55, 947, 948, 949, 2, 950, 25, 955, 956, 957, 958, 959, 960, 961, 962, 963, 991, 992, 993, 994, 995, 996, 997, 998, 999] (by decide +kernel) (by decide +kernel)
set_option maxRecDepth 20000 in
theorem gL_law_X8_count : GoodIn wsL_law (wsV RL 141 RX8 yX8_count wsX8_count) := goodIn_app (goodIn_of _ (by decide +kernel)) ggL_law_X8_count