set_option maxRecDepth 20000 in
theorem ggL_law_X9_init : GoodIn wsL_law wsX9_init := goodIn_r _ [75, 76, 11, 12, 24, 77, 78, 79, 80, 81, 82, 83, 84, 85, 86, 62, 87, 88, 89, 90, 91, 964, 965, 966, 967, 968, 969, 970, 971, 972, 973, 974, 975, 976, 977, 978, 979, 980, 981, 982, 983, 984, 985, 986, 987, 988, 989, 990] (by decide +kernel) (by decide +kernel)
set_option maxRecDepth 20000 in
theorem gL_law_X9_init : GoodIn wsL_law (wsX9_init) := ggL_law_X9_init
set_option maxRecDepth 20000 in
theorem ggL_law_X8_least : GoodIn wsL_law wsX8_least := goodIn_r _ [379, 288, 289, 2, 290, 291, 292, 293, 294, 295, 99, 100, 101, 102, 25, 248, 249, 250, 251, 16, 252, 112, 113, 114, 15, 115, 116, 253, 254, 255, 256, 257, 258, 259, 260, 261, 262, 263, 264, 265, 266, 267, 268, 39, 269, 270, 271, 98, 272, 123, 124, 137, 138, 296, 297, 298, 299, 300, 29, 301, 302, 303, 304, 127, 128, 28, 129, 63, 67, 66, 130, 131, 132, 133, 134, 135, 136, 139, 140, 141, 142, 143, 144, 145, 146, 147, 148, 149, 150, 151, 152, 153, 154, 155, 156, 157, 158, 159, 160, 161, 162, 163, 164, 165, 166, 167, 168, 169, 170, 171, 64, 172, 173, 174, 175, 65, 176, 177, 178, 179, 180, 181, 182, 183, 380, 381, 382, 383, 384, 203, 204, 309, 310, 311, 312, 313, 314, 315, 316, 317, 318, 319, 320, 321, 955, 956, 957, 958, 959, 960, 961, 962, 963, 991, 992, 993, 1007, 1008, 1009, 1010, 1000, 1001, 1002, 1003, 1004] (by decide +kernel) (by decide +kernel)
set_option maxRecDepth 20000 in
theorem gL_law_X8_least : GoodIn wsL_law (wsV RL 28 RX8 yX8_least wsX8_least) := goodIn_app (goodIn_of _ (by decide +kernel)) ggL_law_X8_least
set_option maxRecDepth 20000 in
theorem ggL_law_X9_rule : GoodIn wsL_law wsX9_rule := goodIn_r _ [505, 506, 89, 426, 507, 508, 81, 82, 237, 238, 239, 5, 240, 77, 509, 510, 511, 512, 91, 513, 514, 515, 516, 517, 518, 519, 520, 521, 522, 523, 524, 525, 526, 527, 528, 529, 530, 531, 532, 533, 534, 535, 536, 537, 538, 539, 540, 541, 542, 543, 544, 545, 546, 547, 90, 548, 549, 550, 551, 552, 553, 964, 965, 966, 967, 968, 969, 970, 971, 972, 973, 974, 975, 976, 977, 978, 979, 980, 981, 982, 983, 984, 985, 986, 987, 988, 989, 990] (by decide +kernel) (by decide +kernel)
set_option maxRecDepth 20000 in
theorem gL_law_X9_rule : GoodIn wsL_law (wsV RL 48 RX9 yX9_rule wsX9_rule) := goodIn_app (goodIn_of _ (by decide +kernel)) ggL_law_X9_rule
set_option maxRecDepth 20000 in
theorem ggL_law_X8_fewest : GoodIn wsL_law wsX8_fewest := goodIn_r _ [646, 30, 99, 100, 101, 2, 102, 25, 103, 104, 105, 106, 107, 108, 304, 127, 128, 28, 129, 63, 67, 66, 130, 131, 132, 133, 134, 135, 136, 137, 138, 139, 140, 141, 142, 143, 144, 145, 146, 147, 148, 149, 150, 151, 152, 153, 154, 155, 156, 157, 158, 159, 160, 161, 162, 163, 164, 165, 166, 167, 168, 169, 170, 171, 64, 172, 173, 174, 175, 65, 176, 177, 178, 179, 180, 181, 182, 183, 617, 618, 619, 620, 621, 381, 382, 383, 384, 203, 204, 622, 623, 624, 625, 316, 317, 318, 319, 320, 321, 626, 627, 628, 629, 380, 309, 310, 311, 312, 647, 955, 956, 957, 958, 959, 960, 961, 962, 963, 1000, 1001, 1002, 1003, 1004] (by decide +kernel) (by decide +kernel)
set_option maxRecDepth 20000 in
theorem gL_law_X8_fewest : GoodIn wsL_law (wsV RL 62 RX8 yX8_fewest wsX8_fewest) := goodIn_app (goodIn_of _ (by decide +kernel)) ggL_law_X8_fewest
set_option maxRecDepth 20000 in
theorem ggL_law_X9_many : GoodIn wsL_law wsX9_many := goodIn_r _ [706, 326, 234, 235, 5, 236, 590, 591, 592, 593, 506, 277, 278, 279, 280, 233, 331, 332, 333, 334, 335, 336, 337, 338, 237, 238, 239, 240, 77, 609, 610, 611, 612, 78, 79, 87, 339, 340, 341, 342, 80, 343, 344, 345, 346, 347, 348, 349, 350, 351, 352, 353, 354, 355, 356, 357, 358, 359, 360, 361, 362, 363, 364, 365, 366, 367, 368, 369, 88, 281, 282, 283, 594, 595, 596, 597, 90, 81, 82, 509, 510, 511, 512, 91, 513, 514, 508, 515, 507, 516, 517, 518, 519, 520, 521, 522, 523, 524, 525, 526, 527, 528, 529, 530, 531, 532, 533, 534, 535, 536, 537, 538, 539, 540, 541, 542, 543, 544, 545, 546, 547, 548, 549, 550, 551, 552, 553, 373, 374, 375, 370, 371, 372, 964, 965, 966, 967, 968, 969, 970, 971, 972, 973, 974, 975, 976, 977, 978, 979, 980, 981, 982, 983, 984, 985, 986, 987, 988, 989, 990] (by decide +kernel) (by decide +kernel)
set_option maxRecDepth 20000 in
theorem gL_law_X9_many : GoodIn wsL_law (wsV RL 79 RX9 yX9_many wsX9_many) := goodIn_app (goodIn_of _ (by decide +kernel)) ggL_law_X9_many
set_option maxRecDepth 20000 in
theorem ggL_law_X8_lots : GoodIn wsL_law wsX8_lots := goodIn_r _ [739, 248, 249, 250, 2, 251, 16, 252, 112, 113, 114, 15, 115, 116, 253, 254, 255, 256, 257, 258, 259, 260, 261, 262, 263, 264, 265, 266, 267, 268, 39, 740, 741, 742, 301, 99, 100, 101, 102, 25, 743, 744, 745, 98, 746, 124, 125, 747, 148, 144, 149, 150, 955, 956, 957, 958, 959, 960, 961, 962, 963, 991, 992, 993, 1007, 1008, 1009, 1010] (by decide +kernel) (by decide +kernel)
set_option maxRecDepth 20000 in
theorem gL_law_X8_lots : GoodIn wsL_law (wsV RL 92 RX8 yX8_lots wsX8_lots) := goodIn_app (goodIn_of _ (by decide +kernel)) ggL_law_X8_lots
set_option maxRecDepth 20000 in
theorem ggL_law_X9_lean : GoodIn wsL_law wsX9_lean := goodIn_r _ [817, 818, 798, 799, 800, 5, 801, 78, 277, 278, 279, 280, 233, 234, 235, 236, 769, 770, 771, 772, 79, 80, 773, 774, 775, 237, 238, 239, 240, 77, 819, 820, 821, 822, 964, 965, 966, 967, 968, 969, 970, 971, 972, 973, 974, 975, 976, 977, 978, 979, 980, 981, 982, 983, 984, 985, 986, 987, 988, 989, 990] (by decide +kernel) (by decide +kernel)
set_option maxRecDepth 20000 in
theorem gL_law_X9_lean : GoodIn wsL_law (wsV RL 107 RX9 yX9_lean wsX9_lean) := goodIn_app (goodIn_of _ (by decide +kernel)) ggL_law_X9_lean
set_option maxRecDepth 20000 in
theorem ggL_law_X8_free : GoodIn wsL_law wsX8_free := goodIn_r _ [872, 302, 248, 249, 250, 2, 251, 16, 252, 112, 113, 114, 15, 115, 116, 253, 254, 255, 256, 257, 258, 259, 260, 261, 262, 263, 264, 265, 266, 267, 268, 39, 740, 741, 742, 301, 99, 100, 101, 102, 25, 827, 828, 829, 98, 830, 125, 743, 744, 745, 746, 124, 747, 148, 144, 149, 150, 858, 859, 762, 860, 835, 785, 786, 787, 788, 789, 790, 831, 832, 833, 834, 203, 178, 204, 1007, 1008, 1009, 1010, 955, 956, 957, 958, 959, 960, 961, 962, 963, 991, 992, 993] (by decide +kernel) (by decide +kernel)
set_option maxRecDepth 20000 in
theorem gL_law_X8_free : GoodIn wsL_law (wsV RL 120 RX8 yX8_free wsX8_free) := goodIn_app (goodIn_of _ (by decide +kernel)) ggL_law_X8_free
set_option maxRecDepth 20000 in
theorem ggL_law_X9_drawer : GoodIn wsL_law wsX9_drawer := goodIn_r _ [927, 928, 929, 930, 78, 79, 277, 278, 279, 5, 280, 233, 234, 235, 236, 237, 238, 239, 240, 77, 931, 932, 933, 934, 895, 83, 86, 84, 281, 282, 283, 964, 965, 966, 967, 968, 969, 970, 971, 972, 973, 974, 975, 976, 977, 978, 979, 980, 981, 982, 983, 984, 985, 986, 987, 988, 989, 990] (by decide +kernel) (by decide +kernel)
set_option maxRecDepth 20000 in
theorem gL_law_X9_drawer : GoodIn wsL_law (wsV RL 136 RX9 yX9_drawer wsX9_drawer) := goodIn_app (goodIn_of _ (by decide +kernel)) ggL_law_X9_drawer