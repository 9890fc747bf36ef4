set_option maxRecDepth 20000 in
theorem ggL_law_X9_plan : GoodIn wsL_law wsX9_plan := goodIn_r _ [232, 233, 78, 79, 80, 234, 235, 5, 236, 237, 238, 239, 240, 77, 241, 242, 243, 964, 965, 966, 967, 968, 969, 970, 971, 972, 973, 974, 975, 976, 977, 978, 979, 980, 981, 982, 983, 984, 985, 986, 987, 988, 989, 990] (by decide +kernel) (by decide +kernel)
set_option maxRecDepth 20000 in
theorem gL_law_X9_plan : GoodIn wsL_law (wsV RL 17 RX9 yX9_plan wsX9_plan) := goodIn_app (goodIn_of _ (by decide +kernel)) ggL_law_X9_plan
set_option maxRecDepth 20000 in
theorem ggL_law_X8_mean : GoodIn wsL_law wsX8_mean := goodIn_r _ [396, 288, 289, 2, 290, 291, 292, 293, 294, 295, 99, 100, 101, 102, 25, 248, 249, 250, 251, 16, 252, 112, 113, 114, 15, 115, 116, 253, 254, 255, 256, 257, 258, 259, 260, 261, 262, 263, 264, 265, 266, 267, 268, 39, 296, 297, 298, 299, 300, 29, 301, 302, 303, 304, 127, 128, 28, 129, 63, 67, 66, 130, 131, 132, 133, 134, 135, 136, 137, 138, 139, 140, 141, 142, 143, 144, 145, 146, 147, 148, 149, 150, 151, 152, 153, 154, 155, 156, 157, 158, 159, 160, 161, 162, 163, 164, 165, 166, 167, 168, 169, 170, 171, 64, 172, 173, 174, 175, 65, 176, 177, 178, 179, 180, 181, 182, 183, 397, 398, 399, 400, 309, 310, 311, 312, 313, 314, 315, 316, 317, 318, 319, 320, 321, 955, 956, 957, 958, 959, 960, 961, 962, 963, 991, 992, 993, 1007, 1008, 1009, 1010, 1000, 1001, 1002, 1003, 1004] (by decide +kernel) (by decide +kernel)
set_option maxRecDepth 20000 in
theorem gL_law_X8_mean : GoodIn wsL_law (wsV RL 32 RX8 yX8_mean wsX8_mean) := goodIn_app (goodIn_of _ (by decide +kernel)) ggL_law_X8_mean
set_option maxRecDepth 20000 in
theorem ggL_law_X9_believes : GoodIn wsL_law wsX9_believes := goodIn_r _ [589, 78, 79, 590, 591, 592, 5, 593, 506, 234, 235, 236, 277, 278, 279, 280, 233, 281, 282, 283, 331, 332, 333, 237, 238, 239, 240, 77, 594, 595, 596, 597, 90, 80, 81, 82, 509, 510, 511, 512, 91, 513, 514, 508, 515, 507, 516, 517, 518, 519, 520, 521, 522, 523, 524, 525, 526, 527, 528, 529, 530, 531, 532, 533, 534, 535, 536, 537, 538, 539, 540, 541, 542, 543, 544, 545, 546, 547, 548, 549, 550, 551, 552, 553, 964, 965, 966, 967, 968, 969, 970, 971, 972, 973, 974, 975, 976, 977, 978, 979, 980, 981, 982, 983, 984, 985, 986, 987, 988, 989, 990] (by decide +kernel) (by decide +kernel)
set_option maxRecDepth 20000 in
theorem gL_law_X9_believes : GoodIn wsL_law (wsV RL 52 RX9 yX9_believes wsX9_believes) := goodIn_app (goodIn_of _ (by decide +kernel)) ggL_law_X9_believes
set_option maxRecDepth 20000 in
theorem ggL_law_X8_well : GoodIn wsL_law wsX8_well := goodIn_r _ [663, 34, 664, 288, 289, 2, 290, 291, 292, 293, 294, 295, 99, 100, 101, 102, 25, 665, 666, 667, 33, 668, 71, 669, 670, 134, 135, 136, 671, 672, 673, 674, 72, 675, 177, 178, 179, 676, 181, 182, 183, 677, 678, 679, 680, 681, 203, 204, 682, 152, 144, 153, 313, 314, 315, 316, 317, 318, 319, 320, 321, 955, 956, 957, 958, 959, 960, 961, 962, 963, 1005, 1006] (by decide +kernel) (by decide +kernel)
set_option maxRecDepth 20000 in
theorem gL_law_X8_well : GoodIn wsL_law (wsV RL 67 RX8 yX8_well wsX8_well) := goodIn_app (goodIn_of _ (by decide +kernel)) ggL_law_X8_well
set_option maxRecDepth 20000 in
theorem ggL_law_X9_gain : GoodIn wsL_law wsX9_gain := goodIn_r _ [714, 78, 347, 79, 326, 234, 235, 5, 236, 277, 278, 279, 280, 233, 331, 332, 333, 334, 335, 336, 337, 338, 237, 238, 239, 240, 77, 339, 340, 341, 342, 80, 343, 344, 345, 346, 348, 349, 350, 351, 352, 353, 354, 355, 87, 356, 357, 358, 359, 360, 361, 362, 363, 364, 365, 366, 367, 368, 369, 88, 405, 406, 407, 408, 370, 371, 372, 373, 374, 375, 964, 965, 966, 967, 968, 969, 970, 971, 972, 973, 974, 975, 976, 977, 978, 979, 980, 981, 982, 983, 984, 985, 986, 987, 988, 989, 990] (by decide +kernel) (by decide +kernel)
set_option maxRecDepth 20000 in
theorem gL_law_X9_gain : GoodIn wsL_law (wsV RL 83 RX9 yX9_gain wsX9_gain) := goodIn_app (goodIn_of _ (by decide +kernel)) ggL_law_X9_gain
set_option maxRecDepth 20000 in
theorem ggL_law_X8_lot : GoodIn wsL_law wsX8_lot := goodIn_r _ [759, 302, 303, 248, 249, 250, 2, 251, 16, 252, 112, 113, 114, 15, 115, 116, 253, 254, 255, 256, 257, 258, 259, 260, 261, 262, 263, 264, 265, 266, 267, 268, 39, 740, 741, 742, 301, 99, 100, 101, 102, 25, 743, 744, 745, 98, 746, 124, 125, 747, 148, 144, 149, 150, 760, 761, 762, 763, 764, 1007, 1008, 1009, 1010, 955, 956, 957, 958, 959, 960, 961, 962, 963, 991, 992, 993] (by decide +kernel) (by decide +kernel)
set_option maxRecDepth 20000 in
theorem gL_law_X8_lot : GoodIn wsL_law (wsV RL 96 RX8 yX8_lot wsX8_lot) := goodIn_app (goodIn_of _ (by decide +kernel)) ggL_law_X8_lot
set_option maxRecDepth 20000 in
theorem ggL_law_X9_even : GoodIn wsL_law wsX9_even := goodIn_r _ [839, 79, 752, 753, 754, 5, 755, 78, 277, 278, 279, 280, 233, 234, 235, 236, 237, 238, 239, 240, 77, 769, 770, 771, 772, 80, 773, 774, 775, 819, 820, 821, 822, 964, 965, 966, 967, 968, 969, 970, 971, 972, 973, 974, 975, 976, 977, 978, 979, 980, 981, 982, 983, 984, 985, 986, 987, 988, 989, 990] (by decide +kernel) (by decide +kernel)
set_option maxRecDepth 20000 in
theorem gL_law_X9_even : GoodIn wsL_law (wsV RL 111 RX9 yX9_even wsX9_even) := goodIn_app (goodIn_of _ (by decide +kernel)) ggL_law_X9_even
set_option maxRecDepth 20000 in
theorem ggL_law_X8_sit : GoodIn wsL_law wsX8_sit := goodIn_r _ [880, 18, 881, 882, 883, 23, 248, 249, 250, 2, 251, 16, 252, 112, 113, 114, 15, 115, 116, 253, 254, 255, 256, 257, 258, 259, 260, 261, 262, 263, 264, 265, 266, 267, 268, 39, 99, 100, 101, 102, 25, 269, 270, 271, 98, 272, 123, 124, 137, 138, 884, 885, 886, 887, 11, 12, 888, 889, 890, 184, 185, 186, 187, 188, 189, 190, 191, 192, 193, 194, 195, 196, 197, 198, 199, 200, 201, 38, 202, 203, 178, 204, 205, 206, 207, 208, 209, 210, 211, 212, 213, 214, 215, 216, 135, 217, 218, 219, 220, 221, 222, 223, 224, 225, 226, 227, 177, 179, 228, 181, 182, 183, 955, 956, 957, 958, 959, 960, 961, 962, 963, 1014, 1015, 1016, 991, 992, 993, 1007, 1008, 1009, 1010] (by decide +kernel) (by decide +kernel)
set_option maxRecDepth 20000 in
theorem gL_law_X8_sit : GoodIn wsL_law (wsV RL 124 RX8 yX8_sit wsX8_sit) := goodIn_app (goodIn_of _ (by decide +kernel)) ggL_law_X8_sit
set_option maxRecDepth 20000 in
theorem ggL_law_X9_turned : GoodIn wsL_law wsX9_turned := goodIn_r _ [942, 928, 78, 79, 929, 930, 277, 278, 279, 5, 280, 233, 234, 235, 236, 237, 238, 239, 240, 77, 931, 932, 933, 934, 895, 83, 86, 84, 331, 332, 333, 281, 282, 283, 964, 965, 966, 967, 968, 969, 970, 971, 972, 973, 974, 975, 976, 977, 978, 979, 980, 981, 982, 983, 984, 985, 986, 987, 988, 989, 990] (by decide +kernel) (by decide +kernel)
set_option maxRecDepth 20000 in
theorem gL_law_X9_turned : GoodIn wsL_law (wsV RL 140 RX9 yX9_turned wsX9_turned) := goodIn_app (goodIn_of _ (by decide +kernel)) ggL_law_X9_turned