theorem dX7_readTest_103 : decode cX7_readTest 103 = .ok (.aload_n 0, 1) := by decide +kernel
theorem dX7_readTest_104 : decode cX7_readTest 104 = .ok (.dup, 1) := by decide +kernel
theorem dX7_readTest_105 : decode cX7_readTest 105 = .ok (.getfield 25, 3) := by decide +kernel
theorem dX7_readTest_108 : decode cX7_readTest 108 = .ok (.iconst 1, 1) := by decide +kernel
theorem dX7_readTest_109 : decode cX7_readTest 109 = .ok (.iadd, 1) := by decide +kernel
theorem dX7_readTest_110 : decode cX7_readTest 110 = .ok (.putfield 25, 3) := by decide +kernel
theorem dX7_readTest_113 : decode cX7_readTest 113 = .ok (.goto 66, 3) := by decide +kernel
theorem dX7_readTest_116 : decode cX7_readTest 116 = .ok (.aload_n 0, 1) := by decide +kernel
theorem dX7_readTest_117 : decode cX7_readTest 117 = .ok (.invokevirtual 39, 3) := by decide +kernel
theorem dX7_readTest_120 : decode cX7_readTest 120 = .ok (.goto 59, 3) := by decide +kernel
theorem dX7_readTest_123 : decode cX7_readTest 123 = .ok (.aload_n 0, 1) := by decide +kernel
theorem dX7_readTest_124 : decode cX7_readTest 124 = .ok (.invokevirtual 63, 3) := by decide +kernel
theorem dX7_readTest_127 : decode cX7_readTest 127 = .ok (.aload_n 0, 1) := by decide +kernel
theorem dX7_readTest_128 : decode cX7_readTest 128 = .ok (.invokevirtual 35, 3) := by decide +kernel
theorem dX7_readTest_131 : decode cX7_readTest 131 = .ok (.istore 4, 2) := by decide +kernel
theorem dX7_readTest_133 : decode cX7_readTest 133 = .ok (.iload 4, 2) := by decide +kernel
theorem dX7_readTest_135 : decode cX7_readTest 135 = .ok (.bipush 60, 2) := by decide +kernel
theorem dX7_readTest_137 : decode cX7_readTest 137 = .ok (.if_icmp .eq 21, 3) := by decide +kernel
theorem dX7_readTest_140 : decode cX7_readTest 140 = .ok (.iload 4, 2) := by decide +kernel
theorem dX7_readTest_142 : decode cX7_readTest 142 = .ok (.bipush 61, 2) := by decide +kernel
theorem dX7_readTest_144 : decode cX7_readTest 144 = .ok (.if_icmp .eq 14, 3) := by decide +kernel
theorem dX7_readTest_147 : decode cX7_readTest 147 = .ok (.iload 4, 2) := by decide +kernel
theorem dX7_readTest_149 : decode cX7_readTest 149 = .ok (.bipush 62, 2) := by decide +kernel
theorem dX7_readTest_151 : decode cX7_readTest 151 = .ok (.if_icmp .eq 7, 3) := by decide +kernel
theorem dX7_readTest_154 : decode cX7_readTest 154 = .ok (.aload_n 0, 1) := by decide +kernel
theorem dX7_readTest_155 : decode cX7_readTest 155 = .ok (.invokevirtual 39, 3) := by decide +kernel
theorem dX7_readTest_158 : decode cX7_readTest 158 = .ok (.aload_n 0, 1) := by decide +kernel
theorem dX7_readTest_159 : decode cX7_readTest 159 = .ok (.dup, 1) := by decide +kernel
theorem dX7_readTest_160 : decode cX7_readTest 160 = .ok (.getfield 25, 3) := by decide +kernel
theorem dX7_readTest_163 : decode cX7_readTest 163 = .ok (.iconst 1, 1) := by decide +kernel
theorem dX7_readTest_164 : decode cX7_readTest 164 = .ok (.iadd, 1) := by decide +kernel
theorem dX7_readTest_165 : decode cX7_readTest 165 = .ok (.putfield 25, 3) := by decide +kernel
theorem dX7_readTest_168 : decode cX7_readTest 168 = .ok (.aload_n 0, 1) := by decide +kernel
theorem dX7_readTest_169 : decode cX7_readTest 169 = .ok (.invokevirtual 63, 3) := by decide +kernel
theorem dX7_readTest_172 : decode cX7_readTest 172 = .ok (.aload_n 0, 1) := by decide +kernel
theorem dX7_readTest_173 : decode cX7_readTest 173 = .ok (.iload 4, 2) := by decide +kernel
theorem dX7_readTest_175 : decode cX7_readTest 175 = .ok (.ineg, 1) := by decide +kernel
theorem dX7_readTest_176 : decode cX7_readTest 176 = .ok (.invokevirtual 57, 3) := by decide +kernel
theorem dX7_readTest_179 : decode cX7_readTest 179 = .ok (.return_, 1) := by decide +kernel
set_option maxRecDepth 20000 in
theorem ggX7_readSum_X7_readUnit : GoodIn wsX7_readSum wsX7_readUnit := goodIn_r _ [7, 2, 8, 9, 10, 6, 11, 12, 1, 13, 14, 15, 16, 17, 18, 19, 20, 21, 22, 23, 24, 25, 26, 27, 28, 29, 30, 31, 32, 33, 34, 35] (by decide +kernel) (by decide +kernel)
set_option maxRecDepth 20000 in
theorem gX7_readSum_X7_readUnit : GoodIn wsX7_readSum (wsV RX7 66 RX7 yX7_readUnit wsX7_readUnit) := goodIn_app (goodIn_of _ (by decide +kernel)) ggX7_readSum_X7_readUnit
set_option maxRecDepth 20000 in
theorem ggX7_readSum_X7_sign : GoodIn wsX7_readSum wsX7_sign := goodIn_r _ [11, 12, 2, 1, 13, 30, 31, 32, 33, 34, 35] (by decide +kernel) (by decide +kernel)
set_option maxRecDepth 20000 in
theorem gX7_readSum_X7_sign : GoodIn wsX7_readSum (wsV RX7 35 RX7 yX7_sign wsX7_sign) := goodIn_app (goodIn_of _ (by decide +kernel)) ggX7_readSum_X7_sign
set_option maxRecDepth 20000 in
theorem ggX7_readSum_X7_write : GoodIn wsX7_readSum wsX7_write := goodIn_r _ [20, 21, 22, 30, 31, 32, 33, 34, 35] (by decide +kernel) (by decide +kernel)
set_option maxRecDepth 20000 in
theorem gX7_readSum_X7_write : GoodIn wsX7_readSum (wsV RX7 57 RX7 yX7_write wsX7_write) := goodIn_app (goodIn_of _ (by decide +kernel)) ggX7_readSum_X7_write
theorem dX7_readSum_0 : decode cX7_readSum 0 = .ok (.aload_n 0, 1) := by decide +kernel
theorem dX7_readSum_1 : decode cX7_readSum 1 = .ok (.invokevirtual 66, 3) := by decide +kernel
theorem dX7_readSum_4 : decode cX7_readSum 4 = .ok (.iconst 0, 1) := by decide +kernel
theorem dX7_readSum_5 : decode cX7_readSum 5 = .ok (.istore_n 1, 1) := by decide +kernel
theorem dX7_readSum_6 : decode cX7_readSum 6 = .ok (.iload_n 1, 1) := by decide +kernel
theorem dX7_readSum_7 : decode cX7_readSum 7 = .ok (.aload_n 0, 1) := by decide +kernel
theorem dX7_readSum_8 : decode cX7_readSum 8 = .ok (.getfield 18, 3) := by decide +kernel
theorem dX7_readSum_11 : decode cX7_readSum 11 = .ok (.if_icmp .ge 53, 3) := by decide +kernel
theorem dX7_readSum_14 : decode cX7_readSum 14 = .ok (.aload_n 0, 1) := by decide +kernel
theorem dX7_readSum_15 : decode cX7_readSum 15 = .ok (.invokevirtual 35, 3) := by decide +kernel
theorem dX7_readSum_18 : decode cX7_readSum 18 = .ok (.istore_n 2, 1) := by decide +kernel
theorem dX7_readSum_19 : decode cX7_readSum 19 = .ok (.iload_n 2, 1) := by decide +kernel
theorem dX7_readSum_20 : decode cX7_readSum 20 = .ok (.bipush 43, 2) := by decide +kernel
theorem dX7_readSum_22 : decode cX7_readSum 22 = .ok (.if_icmp .eq 16, 3) := by decide +kernel
theorem dX7_readSum_25 : decode cX7_readSum 25 = .ok (.iload_n 2, 1) := by decide +kernel
theorem dX7_readSum_26 : decode cX7_readSum 26 = .ok (.bipush 45, 2) := by decide +kernel
theorem dX7_readSum_28 : decode cX7_readSum 28 = .ok (.if_icmp .eq 10, 3) := by decide +kernel
theorem dX7_readSum_31 : decode cX7_readSum 31 = .ok (.iload_n 2, 1) := by decide +kernel
theorem dX7_readSum_32 : decode cX7_readSum 32 = .ok (.bipush 42, 2) := by decide +kernel
theorem dX7_readSum_34 : decode cX7_readSum 34 = .ok (.if_icmp .eq 4, 3) := by decide +kernel
theorem dX7_readSum_37 : decode cX7_readSum 37 = .ok (.return_, 1) := by decide +kernel
theorem dX7_readSum_38 : decode cX7_readSum 38 = .ok (.aload_n 0, 1) := by decide +kernel
theorem dX7_readSum_39 : decode cX7_readSum 39 = .ok (.dup, 1) := by decide +kernel
theorem dX7_readSum_40 : decode cX7_readSum 40 = .ok (.getfield 25, 3) := by decide +kernel
theorem dX7_readSum_43 : decode cX7_readSum 43 = .ok (.iconst 1, 1) := by decide +kernel
theorem dX7_readSum_44 : decode cX7_readSum 44 = .ok (.iadd, 1) := by decide +kernel
theorem dX7_readSum_45 : decode cX7_readSum 45 = .ok (.putfield 25, 3) := by decide +kernel
theorem dX7_readSum_48 : decode cX7_readSum 48 = .ok (.aload_n 0, 1) := by decide +kernel
theorem dX7_readSum_49 : decode cX7_readSum 49 = .ok (.invokevirtual 66, 3) := by decide +kernel
theorem dX7_readSum_52 : decode cX7_readSum 52 = .ok (.aload_n 0, 1) := by decide +kernel
theorem dX7_readSum_53 : decode cX7_readSum 53 = .ok (.iload_n 2, 1) := by decide +kernel
theorem dX7_readSum_54 : decode cX7_readSum 54 = .ok (.ineg, 1) := by decide +kernel
theorem dX7_readSum_55 : decode cX7_readSum 55 = .ok (.invokevirtual 57, 3) := by decide +kernel
theorem dX7_readSum_58 : decode cX7_readSum 58 = .ok (.iinc 1 1, 3) := by decide +kernel
theorem dX7_readSum_61 : decode cX7_readSum 61 = .ok (.goto (-55), 3) := by decide +kernel
theorem dX7_readSum_64 : decode cX7_readSum 64 = .ok (.return_, 1) := by decide +kernel
set_option maxRecDepth 20000 in
theorem ggX7_readUnit_X7_sign : GoodIn wsX7_readUnit wsX7_sign := goodIn_r _ [6, 7, 1, 8, 9, 26, 27, 28, 29, 30, 31] (by decide +kernel) (by decide +kernel)
set_option maxRecDepth 20000 in
theorem gX7_readUnit_X7_sign : GoodIn wsX7_readUnit (wsV RX7 35 RX7 yX7_sign wsX7_sign) := goodIn_app (goodIn_of _ (by decide +kernel)) ggX7_readUnit_X7_sign
set_option maxRecDepth 20000 in
theorem ggX7_readUnit_X7_isLetter : GoodIn wsX7_readUnit wsX7_isLetter := goodIn_r _ [12] (by decide +kernel) (by decide +kernel)
set_option maxRecDepth 20000 in
theorem gX7_readUnit_X7_isLetter : GoodIn wsX7_readUnit (va_wsS RX7 69 yX7_isLetter wsX7_isLetter) := goodIn_app (goodIn_of _ (by decide +kernel)) ggX7_readUnit_X7_isLetter
set_option maxRecDepth 20000 in
theorem ggX7_readUnit_X7_write : GoodIn wsX7_readUnit wsX7_write := goodIn_r _ [16, 17, 18, 26, 27, 28, 29, 30, 31] (by decide +kernel) (by decide +kernel)
set_option maxRecDepth 20000 in
theorem gX7_readUnit_X7_write : GoodIn wsX7_readUnit (wsV RX7 57 RX7 yX7_write wsX7_write) := goodIn_app (goodIn_of _ (by decide +kernel)) ggX7_readUnit_X7_write
set_option maxRecDepth 20000 in
theorem ggX7_readUnit_X7_isDigit : GoodIn wsX7_readUnit wsX7_isDigit := goodIn_r _ [21] (by decide +kernel) (by decide +kernel)
set_option maxRecDepth 20000 in
theorem gX7_readUnit_X7_isDigit : GoodIn wsX7_readUnit (va_wsS RX7 73 yX7_isDigit wsX7_isDigit) := goodIn_app (goodIn_of _ (by decide +kernel)) ggX7_readUnit_X7_isDigit
set_option maxRecDepth 20000 in
theorem ggX7_readUnit_X7_faultHere : GoodIn wsX7_readUnit wsX7_faultHere := goodIn_r _ [25, 7, 1, 26, 27, 28, 29, 30, 31] (by decide +kernel) (by decide +kernel)
set_option maxRecDepth 20000 in
theorem gX7_readUnit_X7_faultHere : GoodIn wsX7_readUnit (wsV RX7 39 RX7 yX7_faultHere wsX7_faultHere) := goodIn_app (goodIn_of _ (by decide +kernel)) ggX7_readUnit_X7_faultHere
theorem dX7_readUnit_0 : decode cX7_readUnit 0 = .ok (.aload_n 0, 1) := by decide +kernel
theorem dX7_readUnit_1 : decode cX7_readUnit 1 = .ok (.invokevirtual 35, 3) := by decide +kernel
theorem dX7_readUnit_4 : decode cX7_readUnit 4 = .ok (.istore_n 1, 1) := by decide +kernel
theorem dX7_readUnit_5 : decode cX7_readUnit 5 = .ok (.iload_n 1, 1) := by decide +kernel
theorem dX7_readUnit_6 : decode cX7_readUnit 6 = .ok (.invokestatic 69, 3) := by decide +kernel
theorem dX7_readUnit_9 : decode cX7_readUnit 9 = .ok (.ifCond .eq 22, 3) := by decide +kernel
theorem dX7_readUnit_12 : decode cX7_readUnit 12 = .ok (.aload_n 0, 1) := by decide +kernel
theorem dX7_readUnit_13 : decode cX7_readUnit 13 = .ok (.dup, 1) := by decide +kernel
theorem dX7_readUnit_14 : decode cX7_readUnit 14 = .ok (.getfield 25, 3) := by decide +kernel
theorem dX7_readUnit_17 : decode cX7_readUnit 17 = .ok (.iconst 1, 1) := by decide +kernel
theorem dX7_readUnit_18 : decode cX7_readUnit 18 = .ok (.iadd, 1) := by decide +kernel
theorem dX7_readUnit_19 : decode cX7_readUnit 19 = .ok (.putfield 25, 3) := by decide +kernel
theorem dX7_readUnit_22 : decode cX7_readUnit 22 = .ok (.aload_n 0, 1) := by decide +kernel
theorem dX7_readUnit_23 : decode cX7_readUnit 23 = .ok (.iload_n 1, 1) := by decide +kernel
theorem dX7_readUnit_24 : decode cX7_readUnit 24 = .ok (.ineg, 1) := by decide +kernel
theorem dX7_readUnit_25 : decode cX7_readUnit 25 = .ok (.invokevirtual 57, 3) := by decide +kernel
theorem dX7_readUnit_28 : decode cX7_readUnit 28 = .ok (.goto 69, 3) := by decide +kernel
theorem dX7_readUnit_31 : decode cX7_readUnit 31 = .ok (.iload_n 1, 1) := by decide +kernel
theorem dX7_readUnit_32 : decode cX7_readUnit 32 = .ok (.invokestatic 73, 3) := by decide +kernel
theorem dX7_readUnit_35 : decode cX7_readUnit 35 = .ok (.ifCond .eq 58, 3) := by decide +kernel
theorem dX7_readUnit_38 : decode cX7_readUnit 38 = .ok (.aload_n 0, 1) := by decide +kernel
theorem dX7_readUnit_39 : decode cX7_readUnit 39 = .ok (.dup, 1) := by decide +kernel
theorem dX7_readUnit_40 : decode cX7_readUnit 40 = .ok (.getfield 25, 3) := by decide +kernel
theorem dX7_readUnit_43 : decode cX7_readUnit 43 = .ok (.iconst 1, 1) := by decide +kernel
theorem dX7_readUnit_44 : decode cX7_readUnit 44 = .ok (.iadd, 1) := by decide +kernel
theorem dX7_readUnit_45 : decode cX7_readUnit 45 = .ok (.putfield 25, 3) := by decide +kernel
theorem dX7_readUnit_48 : decode cX7_readUnit 48 = .ok (.iload_n 1, 1) := by decide +kernel
theorem dX7_readUnit_49 : decode cX7_readUnit 49 = .ok (.bipush 48, 2) := by decide +kernel
theorem dX7_readUnit_51 : decode cX7_readUnit 51 = .ok (.isub, 1) := by decide +kernel
theorem dX7_readUnit_52 : decode cX7_readUnit 52 = .ok (.istore_n 2, 1) := by decide +kernel
theorem dX7_readUnit_53 : decode cX7_readUnit 53 = .ok (.aload_n 0, 1) := by decide +kernel
theorem dX7_readUnit_54 : decode cX7_readUnit 54 = .ok (.invokevirtual 35, 3) := by decide +kernel
theorem dX7_readUnit_57 : decode cX7_readUnit 57 = .ok (.istore_n 3, 1) := by decide +kernel
theorem dX7_readUnit_58 : decode cX7_readUnit 58 = .ok (.iload_n 3, 1) := by decide +kernel
theorem dX7_readUnit_59 : decode cX7_readUnit 59 = .ok (.invokestatic 73, 3) := by decide +kernel
theorem dX7_readUnit_62 : decode cX7_readUnit 62 = .ok (.ifCond .eq 23, 3) := by decide +kernel
theorem dX7_readUnit_65 : decode cX7_readUnit 65 = .ok (.aload_n 0, 1) := by decide +kernel
theorem dX7_readUnit_66 : decode cX7_readUnit 66 = .ok (.dup, 1) := by decide +kernel
theorem dX7_readUnit_67 : decode cX7_readUnit 67 = .ok (.getfield 25, 3) := by decide +kernel
theorem dX7_readUnit_70 : decode cX7_readUnit 70 = .ok (.iconst 1, 1) := by decide +kernel
theorem dX7_readUnit_71 : decode cX7_readUnit 71 = .ok (.iadd, 1) := by decide +kernel
theorem dX7_readUnit_72 : decode cX7_readUnit 72 = .ok (.putfield 25, 3) := by decide +kernel
theorem dX7_readUnit_75 : decode cX7_readUnit 75 = .ok (.bipush 10, 2) := by decide +kernel
theorem dX7_readUnit_77 : decode cX7_readUnit 77 = .ok (.iload_n 2, 1) := by decide +kernel
theorem dX7_readUnit_78 : decode cX7_readUnit 78 = .ok (.imul, 1) := by decide +kernel
theorem dX7_readUnit_79 : decode cX7_readUnit 79 = .ok (.iload_n 3, 1) := by decide +kernel
theorem dX7_readUnit_80 : decode cX7_readUnit 80 = .ok (.iadd, 1) := by decide +kernel
theorem dX7_readUnit_81 : decode cX7_readUnit 81 = .ok (.bipush 48, 2) := by decide +kernel
theorem dX7_readUnit_83 : decode cX7_readUnit 83 = .ok (.isub, 1) := by decide +kernel
theorem dX7_readUnit_84 : decode cX7_readUnit 84 = .ok (.istore_n 2, 1) := by decide +kernel
theorem dX7_readUnit_85 : decode cX7_readUnit 85 = .ok (.aload_n 0, 1) := by decide +kernel
theorem dX7_readUnit_86 : decode cX7_readUnit 86 = .ok (.iload_n 2, 1) := by decide +kernel
theorem dX7_readUnit_87 : decode cX7_readUnit 87 = .ok (.invokevirtual 57, 3) := by decide +kernel
theorem dX7_readUnit_90 : decode cX7_readUnit 90 = .ok (.goto 7, 3) := by decide +kernel
theorem dX7_readUnit_93 : decode cX7_readUnit 93 = .ok (.aload_n 0, 1) := by decide +kernel
theorem dX7_readUnit_94 : decode cX7_readUnit 94 = .ok (.invokevirtual 39, 3) := by decide +kernel
theorem dX7_readUnit_97 : decode cX7_readUnit 97 = .ok (.return_, 1) := by decide +kernel
theorem dX7_isDigit_0 : decode cX7_isDigit 0 = .ok (.iload_n 0, 1) := by decide +kernel
theorem dX7_isDigit_1 : decode cX7_isDigit 1 = .ok (.bipush 48, 2) := by decide +kernel
theorem dX7_isDigit_3 : decode cX7_isDigit 3 = .ok (.if_icmp .lt 13, 3) := by decide +kernel
theorem dX7_isDigit_6 : decode cX7_isDigit 6 = .ok (.iload_n 0, 1) := by decide +kernel
theorem dX7_isDigit_7 : decode cX7_isDigit 7 = .ok (.bipush 57, 2) := by decide +kernel
theorem dX7_isDigit_9 : decode cX7_isDigit 9 = .ok (.if_icmp .gt 7, 3) := by decide +kernel
theorem dX7_isDigit_12 : decode cX7_isDigit 12 = .ok (.iconst 1, 1) := by decide +kernel
theorem dX7_isDigit_13 : decode cX7_isDigit 13 = .ok (.goto 4, 3) := by decide +kernel
theorem dX7_isDigit_16 : decode cX7_isDigit 16 = .ok (.iconst 0, 1) := by decide +kernel
theorem dX7_isDigit_17 : decode cX7_isDigit 17 = .ok (.ireturn, 1) := by decide +kernel
theorem dX7_isLetter_0 : decode cX7_isLetter 0 = .ok (.iload_n 0, 1) := by decide +kernel
theorem dX7_isLetter_1 : decode cX7_isLetter 1 = .ok (.bipush 114, 2) := by decide +kernel
theorem dX7_isLetter_3 : decode cX7_isLetter 3 = .ok (.if_icmp .eq 33, 3) := by decide +kernel
theorem dX7_isLetter_6 : decode cX7_isLetter 6 = .ok (.iload_n 0, 1) := by decide +kernel
theorem dX7_isLetter_7 : decode cX7_isLetter 7 = .ok (.bipush 119, 2) := by decide +kernel
theorem dX7_isLetter_9 : decode cX7_isLetter 9 = .ok (.if_icmp .eq 27, 3) := by decide +kernel
theorem dX7_isLetter_12 : decode cX7_isLetter 12 = .ok (.iload_n 0, 1) := by decide +kernel
theorem dX7_isLetter_13 : decode cX7_isLetter 13 = .ok (.bipush 115, 2) := by decide +kernel
theorem dX7_isLetter_15 : decode cX7_isLetter 15 = .ok (.if_icmp .eq 21, 3) := by decide +kernel
theorem dX7_isLetter_18 : decode cX7_isLetter 18 = .ok (.iload_n 0, 1) := by decide +kernel
theorem dX7_isLetter_19 : decode cX7_isLetter 19 = .ok (.bipush 110, 2) := by decide +kernel
theorem dX7_isLetter_21 : decode cX7_isLetter 21 = .ok (.if_icmp .eq 15, 3) := by decide +kernel
theorem dX7_isLetter_24 : decode cX7_isLetter 24 = .ok (.iload_n 0, 1) := by decide +kernel
theorem dX7_isLetter_25 : decode cX7_isLetter 25 = .ok (.bipush 107, 2) := by decide +kernel
theorem dX7_isLetter_27 : decode cX7_isLetter 27 = .ok (.if_icmp .eq 9, 3) := by decide +kernel
theorem dX7_isLetter_30 : decode cX7_isLetter 30 = .ok (.iload_n 0, 1) := by decide +kernel
theorem dX7_isLetter_31 : decode cX7_isLetter 31 = .ok (.bipush 112, 2) := by decide +kernel
theorem dX7_isLetter_33 : decode cX7_isLetter 33 = .ok (.if_icmp .ne 7, 3) := by decide +kernel
theorem dX7_isLetter_36 : decode cX7_isLetter 36 = .ok (.iconst 1, 1) := by decide +kernel
theorem dX7_isLetter_37 : decode cX7_isLetter 37 = .ok (.goto 4, 3) := by decide +kernel
theorem dX7_isLetter_40 : decode cX7_isLetter 40 = .ok (.iconst 0, 1) := by decide +kernel
theorem dX7_isLetter_41 : decode cX7_isLetter 41 = .ok (.ireturn, 1) := by decide +kernel
theorem dX7_sign_0 : decode cX7_sign 0 = .ok (.aload_n 0, 1) := by decide +kernel
theorem dX7_sign_1 : decode cX7_sign 1 = .ok (.getfield 28, 3) := by decide +kernel
theorem dX7_sign_4 : decode cX7_sign 4 = .ok (.ifCond .ge 45, 3) := by decide +kernel
theorem dX7_sign_7 : decode cX7_sign 7 = .ok (.aload_n 0, 1) := by decide +kernel
theorem dX7_sign_8 : decode cX7_sign 8 = .ok (.getfield 25, 3) := by decide +kernel
theorem dX7_sign_11 : decode cX7_sign 11 = .ok (.ifCond .lt 38, 3) := by decide +kernel
theorem dX7_sign_14 : decode cX7_sign 14 = .ok (.aload_n 0, 1) := by decide +kernel
theorem dX7_sign_15 : decode cX7_sign 15 = .ok (.getfield 25, 3) := by decide +kernel
theorem dX7_sign_18 : decode cX7_sign 18 = .ok (.aload_n 0, 1) := by decide +kernel
theorem dX7_sign_19 : decode cX7_sign 19 = .ok (.getfield 18, 3) := by decide +kernel
theorem dX7_sign_22 : decode cX7_sign 22 = .ok (.if_icmp .ge 27, 3) := by decide +kernel
theorem dX7_sign_25 : decode cX7_sign 25 = .ok (.aload_n 0, 1) := by decide +kernel
theorem dX7_sign_26 : decode cX7_sign 26 = .ok (.getfield 25, 3) := by decide +kernel
theorem dX7_sign_29 : decode cX7_sign 29 = .ok (.aload_n 0, 1) := by decide +kernel
theorem dX7_sign_30 : decode cX7_sign 30 = .ok (.getfield 9, 3) := by decide +kernel
theorem dX7_sign_33 : decode cX7_sign 33 = .ok (.arraylength, 1) := by decide +kernel
theorem dX7_sign_34 : decode cX7_sign 34 = .ok (.if_icmp .ge 15, 3) := by decide +kernel
theorem dX7_sign_37 : decode cX7_sign 37 = .ok (.aload_n 0, 1) := by decide +kernel
theorem dX7_sign_38 : decode cX7_sign 38 = .ok (.getfield 9, 3) := by decide +kernel
theorem dX7_sign_41 : decode cX7_sign 41 = .ok (.aload_n 0, 1) := by decide +kernel
theorem dX7_sign_42 : decode cX7_sign 42 = .ok (.getfield 25, 3) := by decide +kernel
theorem dX7_sign_45 : decode cX7_sign 45 = .ok (.iaload, 1) := by decide +kernel
theorem dX7_sign_46 : decode cX7_sign 46 = .ok (.goto 4, 3) := by decide +kernel
theorem dX7_sign_49 : decode cX7_sign 49 = .ok (.iconst (-1), 1) := by decide +kernel
theorem dX7_sign_50 : decode cX7_sign 50 = .ok (.ireturn, 1) := by decide +kernel
theorem dX7_write_0 : decode cX7_write 0 = .ok (.aload_n 0, 1) := by decide +kernel
theorem dX7_write_1 : decode cX7_write 1 = .ok (.getfield 22, 3) := by decide +kernel
theorem dX7_write_4 : decode cX7_write 4 = .ok (.ifCond .lt 35, 3) := by decide +kernel
theorem dX7_write_7 : decode cX7_write 7 = .ok (.aload_n 0, 1) := by decide +kernel
theorem dX7_write_8 : decode cX7_write 8 = .ok (.getfield 22, 3) := by decide +kernel
theorem dX7_write_11 : decode cX7_write 11 = .ok (.aload_n 0, 1) := by decide +kernel
theorem dX7_write_12 : decode cX7_write 12 = .ok (.getfield 15, 3) := by decide +kernel
theorem dX7_write_15 : decode cX7_write 15 = .ok (.arraylength, 1) := by decide +kernel
theorem dX7_write_16 : decode cX7_write 16 = .ok (.if_icmp .ge 23, 3) := by decide +kernel
theorem dX7_write_19 : decode cX7_write 19 = .ok (.aload_n 0, 1) := by decide +kernel
theorem dX7_write_20 : decode cX7_write 20 = .ok (.getfield 15, 3) := by decide +kernel
theorem dX7_write_23 : decode cX7_write 23 = .ok (.aload_n 0, 1) := by decide +kernel
theorem dX7_write_24 : decode cX7_write 24 = .ok (.getfield 22, 3) := by decide +kernel
theorem dX7_write_27 : decode cX7_write 27 = .ok (.iload_n 1, 1) := by decide +kernel
theorem dX7_write_28 : decode cX7_write 28 = .ok (.iastore, 1) := by decide +kernel
theorem dX7_write_29 : decode cX7_write 29 = .ok (.aload_n 0, 1) := by decide +kernel
theorem dX7_write_30 : decode cX7_write 30 = .ok (.dup, 1) := by decide +kernel
theorem dX7_write_31 : decode cX7_write 31 = .ok (.getfield 22, 3) := by decide +kernel
theorem dX7_write_34 : decode cX7_write 34 = .ok (.iconst 1, 1) := by decide +kernel
theorem dX7_write_35 : decode cX7_write 35 = .ok (.iadd, 1) := by decide +kernel
theorem dX7_write_36 : decode cX7_write 36 = .ok (.putfield 22, 3) := by decide +kernel
theorem dX7_write_39 : decode cX7_write 39 = .ok (.return_, 1) := by decide +kernel
theorem dX7_faultHere_0 : decode cX7_faultHere 0 = .ok (.aload_n 0, 1) := by decide +kernel
theorem dX7_faultHere_1 : decode cX7_faultHere 1 = .ok (.getfield 28, 3) := by decide +kernel
theorem dX7_faultHere_4 : decode cX7_faultHere 4 = .ok (.ifCond .ge 11, 3) := by decide +kernel
theorem dX7_faultHere_7 : decode cX7_faultHere 7 = .ok (.aload_n 0, 1) := by decide +kernel
theorem dX7_faultHere_8 : decode cX7_faultHere 8 = .ok (.aload_n 0, 1) := by decide +kernel
theorem dX7_faultHere_9 : decode cX7_faultHere 9 = .ok (.getfield 25, 3) := by decide +kernel
theorem dX7_faultHere_12 : decode cX7_faultHere 12 = .ok (.putfield 28, 3) := by decide +kernel
theorem dX7_faultHere_15 : decode cX7_faultHere 15 = .ok (.return_, 1) := by decide +kernel
set_option maxRecDepth 20000 in
theorem ggX8_init_Jx4a65c_init_da8c8 : GoodIn wsX8_init wsJx4a65c_init_da8c8 := goodIn_r _ [28, 29, 30, 31, 32, 33, 34, 35, 36, 37, 38, 39, 40, 2, 3, 64, 65, 66] (by decide +kernel) (by decide +kernel)
set_option maxRecDepth 20000 in
theorem gX8_init_Jx4a65c_init_da8c8 : GoodIn wsX8_init (wsJx4a65c_init_da8c8) := ggX8_init_Jx4a65c_init_da8c8
set_option maxRecDepth 20000 in
theorem ggX8_init_X7_init : GoodIn wsX8_init wsX7_init := goodIn_r _ [42, 43, 2, 3, 15, 44, 45, 46, 47, 48, 49, 76, 77, 78, 79, 80, 81] (by decide +kernel) (by decide +kernel)
set_option maxRecDepth 20000 in
theorem gX8_init_X7_init_n24 : GoodIn wsX8_init (wsX7_init) := ggX8_init_X7_init
set_option maxRecDepth 20000 in
theorem ggX8_init_X0_init : GoodIn wsX8_init wsX0_init := goodIn_r _ [51, 52, 2, 3, 53, 54, 55, 56, 57, 58, 82, 83, 84, 85, 86] (by decide +kernel) (by decide +kernel)
set_option maxRecDepth 20000 in
theorem gX8_init_X0_init_n39 : GoodIn wsX8_init (wsX0_init) := ggX8_init_X0_init
set_option maxRecDepth 20000 in
theorem ggX8_init_X1_init : GoodIn wsX8_init wsX1_init := goodIn_r _ [60, 61, 2, 3, 53, 62, 63, 87, 88] (by decide +kernel) (by decide +kernel)
set_option maxRecDepth 20000 in
theorem gX8_init_X1_init_n49 : GoodIn wsX8_init (wsX1_init) := ggX8_init_X1_init
theorem dX8_init_0 : decode cX8_init 0 = .ok (.aload_n 0, 1) := by decide +kernel
theorem dX8_init_1 : decode cX8_init 1 = .ok (.invokespecial 1, 3) := by decide +kernel
theorem dX8_init_4 : decode cX8_init 4 = .ok (.aload_n 0, 1) := by decide +kernel
theorem dX8_init_5 : decode cX8_init 5 = .ok (.new 7, 3) := by decide +kernel
theorem dX8_init_8 : decode cX8_init 8 = .ok (.dup, 1) := by decide +kernel
theorem dX8_init_9 : decode cX8_init 9 = .ok (.invokespecial 9, 3) := by decide +kernel
theorem dX8_init_12 : decode cX8_init 12 = .ok (.putfield 10, 3) := by decide +kernel
theorem dX8_init_15 : decode cX8_init 15 = .ok (.aload_n 0, 1) := by decide +kernel
theorem dX8_init_16 : decode cX8_init 16 = .ok (.new 7, 3) := by decide +kernel
theorem dX8_init_19 : decode cX8_init 19 = .ok (.dup, 1) := by decide +kernel
theorem dX8_init_20 : decode cX8_init 20 = .ok (.invokespecial 9, 3) := by decide +kernel
theorem dX8_init_23 : decode cX8_init 23 = .ok (.putfield 16, 3) := by decide +kernel
theorem dX8_init_26 : decode cX8_init 26 = .ok (.aload_n 0, 1) := by decide +kernel
theorem dX8_init_27 : decode cX8_init 27 = .ok (.new 7, 3) := by decide +kernel
theorem dX8_init_30 : decode cX8_init 30 = .ok (.dup, 1) := by decide +kernel
theorem dX8_init_31 : decode cX8_init 31 = .ok (.invokespecial 9, 3) := by decide +kernel
theorem dX8_init_34 : decode cX8_init 34 = .ok (.putfield 19, 3) := by decide +kernel
theorem dX8_init_37 : decode cX8_init 37 = .ok (.aload_n 0, 1) := by decide +kernel
theorem dX8_init_38 : decode cX8_init 38 = .ok (.new 22, 3) := by decide +kernel
theorem dX8_init_41 : decode cX8_init 41 = .ok (.dup, 1) := by decide +kernel
theorem dX8_init_42 : decode cX8_init 42 = .ok (.invokespecial 24, 3) := by decide +kernel
theorem dX8_init_45 : decode cX8_init 45 = .ok (.putfield 25, 3) := by decide +kernel
theorem dX8_init_48 : decode cX8_init 48 = .ok (.aload_n 0, 1) := by decide +kernel
theorem dX8_init_49 : decode cX8_init 49 = .ok (.iconst 0, 1) := by decide +kernel
theorem dX8_init_50 : decode cX8_init 50 = .ok (.putfield 29, 3) := by decide +kernel
theorem dX8_init_53 : decode cX8_init 53 = .ok (.aload_n 0, 1) := by decide +kernel
theorem dX8_init_54 : decode cX8_init 54 = .ok (.bipush 6, 2) := by decide +kernel
theorem dX8_init_56 : decode cX8_init 56 = .ok (.newarray .int, 2) := by decide +kernel
theorem dX8_init_58 : decode cX8_init 58 = .ok (.putfield 33, 3) := by decide +kernel
theorem dX8_init_61 : decode cX8_init 61 = .ok (.aload_n 0, 1) := by decide +kernel
theorem dX8_init_62 : decode cX8_init 62 = .ok (.new 37, 3) := by decide +kernel
theorem dX8_init_65 : decode cX8_init 65 = .ok (.dup, 1) := by decide +kernel
theorem dX8_init_66 : decode cX8_init 66 = .ok (.invokespecial 39, 3) := by decide +kernel
theorem dX8_init_69 : decode cX8_init 69 = .ok (.putfield 40, 3) := by decide +kernel
theorem dX8_init_72 : decode cX8_init 72 = .ok (.aload_n 0, 1) := by decide +kernel
theorem dX8_init_73 : decode cX8_init 73 = .ok (.new 37, 3) := by decide +kernel
theorem dX8_init_76 : decode cX8_init 76 = .ok (.dup, 1) := by decide +kernel
theorem dX8_init_77 : decode cX8_init 77 = .ok (.invokespecial 39, 3) := by decide +kernel
theorem dX8_init_80 : decode cX8_init 80 = .ok (.putfield 44, 3) := by decide +kernel
theorem dX8_init_83 : decode cX8_init 83 = .ok (.aload_n 0, 1) := by decide +kernel
theorem dX8_init_84 : decode cX8_init 84 = .ok (.new 47, 3) := by decide +kernel
theorem dX8_init_87 : decode cX8_init 87 = .ok (.dup, 1) := by decide +kernel
theorem dX8_init_88 : decode cX8_init 88 = .ok (.invokespecial 49, 3) := by decide +kernel
theorem dX8_init_91 : decode cX8_init 91 = .ok (.putfield 50, 3) := by decide +kernel
theorem dX8_init_94 : decode cX8_init 94 = .ok (.return_, 1) := by decide +kernel
set_option maxRecDepth 20000 in
theorem ggX8_plan_X8_refuse : GoodIn wsX8_plan wsX8_refuse := goodIn_r _ [9, 10, 153, 154, 155, 156, 157, 158, 159, 160, 161] (by decide +kernel) (by decide +kernel)
set_option maxRecDepth 20000 in
theorem gX8_plan_X8_refuse : GoodIn wsX8_plan (wsV RX8 54 RX8 yX8_refuse wsX8_refuse) := goodIn_app (goodIn_of _ (by decide +kernel)) ggX8_plan_X8_refuse
set_option maxRecDepth 20000 in
theorem ggX8_plan_X8_fewestOf : GoodIn wsX8_plan wsX8_fewestOf := goodIn_r _ [13] (by decide +kernel) (by decide +kernel)
set_option maxRecDepth 20000 in
theorem gX8_plan_X8_fewestOf : GoodIn wsX8_plan (va_wsS RX8 58 yX8_fewestOf wsX8_fewestOf) := goodIn_app (goodIn_of _ (by decide +kernel)) ggX8_plan_X8_fewestOf
set_option maxRecDepth 20000 in
theorem ggX8_plan_X8_mostOf : GoodIn wsX8_plan wsX8_mostOf := goodIn_r _ [16] (by decide +kernel) (by decide +kernel)
set_option maxRecDepth 20000 in
theorem gX8_plan_X8_mostOf : GoodIn wsX8_plan (va_wsS RX8 61 yX8_mostOf wsX8_mostOf) := goodIn_app (goodIn_of _ (by decide +kernel)) ggX8_plan_X8_mostOf
set_option maxRecDepth 20000 in
theorem ggX8_plan_X8_mostNamed : GoodIn wsX8_plan wsX8_mostNamed := goodIn_r _ [19] (by decide +kernel) (by decide +kernel)
set_option maxRecDepth 20000 in
theorem gX8_plan_X8_mostNamed : GoodIn wsX8_plan (va_wsS RX8 64 yX8_mostNamed wsX8_mostNamed) := goodIn_app (goodIn_of _ (by decide +kernel)) ggX8_plan_X8_mostNamed
set_option maxRecDepth 20000 in
theorem ggX8_plan_Jx4a65c_size_8abf5 : GoodIn wsX8_plan wsJx4a65c_size_8abf5 := goodIn_r _ [24, 25, 166, 167, 168] (by decide +kernel) (by decide +kernel)
set_option maxRecDepth 20000 in
theorem gX8_plan_Jx4a65c_size_8abf5 : GoodIn wsX8_plan (wsV RX8 68 RJx4a65c yJx4a65c_size_8abf5 wsJx4a65c_size_8abf5) := goodIn_app (goodIn_of _ (by decide +kernel)) ggX8_plan_Jx4a65c_size_8abf5
set_option maxRecDepth 20000 in
theorem ggX8_plan_X3_init : GoodIn wsX8_plan wsX3_init := goodIn_r _ [28, 29, 30, 31, 32, 33, 34, 35, 36, 37, 38, 39, 40, 41, 42, 43, 44, 45, 46, 47, 48, 49, 50, 51, 52, 53, 54, 55, 56, 57, 58, 59, 8, 60, 61, 62, 63, 64, 65, 66, 67, 68, 69, 70, 71, 72, 73, 74, 75, 76, 77, 78, 79, 80, 81, 82, 83, 84, 85, 86, 87, 88, 89, 90, 91, 92, 93, 94, 95, 96, 97, 98, 99, 100, 101, 102, 103, 104, 105, 169, 170, 171, 172, 173, 162, 163, 164, 165] (by decide +kernel) (by decide +kernel)
set_option maxRecDepth 20000 in
theorem gX8_plan_X3_init : GoodIn wsX8_plan (wsX3_init) := ggX8_plan_X3_init
set_option maxRecDepth 20000 in
theorem ggX8_plan_Jx4a65c_add_9ea2d : GoodIn wsX8_plan wsJx4a65c_add_9ea2d := goodIn_r _ [109, 110, 111, 112, 25, 113, 114, 115, 23, 116, 117, 118, 119, 120, 121, 122, 123, 124, 125, 126, 127, 100, 128, 129, 130, 131, 132, 133, 134, 135, 136, 137, 138, 139, 140, 57, 141, 142, 143, 144, 145, 146, 147, 148, 149, 150, 151, 99, 101, 152, 103, 104, 105, 166, 167, 168] (by decide +kernel) (by decide +kernel)
set_option maxRecDepth 20000 in
theorem gX8_plan_Jx4a65c_add_9ea2d : GoodIn wsX8_plan (wsV RX8 77 RJx4a65c yJx4a65c_add_9ea2d wsJx4a65c_add_9ea2d) := goodIn_app (goodIn_of _ (by decide +kernel)) ggX8_plan_Jx4a65c_add_9ea2d
theorem dX8_plan_0 : decode cX8_plan 0 = .ok (.iload_n 1, 1) := by decide +kernel
theorem dX8_plan_1 : decode cX8_plan 1 = .ok (.ifCond .lt 8, 3) := by decide +kernel
theorem dX8_plan_4 : decode cX8_plan 4 = .ok (.iload_n 1, 1) := by decide +kernel
theorem dX8_plan_5 : decode cX8_plan 5 = .ok (.iconst 4, 1) := by decide +kernel
theorem dX8_plan_6 : decode cX8_plan 6 = .ok (.if_icmp .le 10, 3) := by decide +kernel
theorem dX8_plan_9 : decode cX8_plan 9 = .ok (.aload_n 0, 1) := by decide +kernel
theorem dX8_plan_10 : decode cX8_plan 10 = .ok (.bipush (-2), 2) := by decide +kernel
theorem dX8_plan_12 : decode cX8_plan 12 = .ok (.invokevirtual 54, 3) := by decide +kernel
theorem dX8_plan_15 : decode cX8_plan 15 = .ok (.ireturn, 1) := by decide +kernel
theorem dX8_plan_16 : decode cX8_plan 16 = .ok (.iload_n 1, 1) := by decide +kernel
theorem dX8_plan_17 : decode cX8_plan 17 = .ok (.iconst 1, 1) := by decide +kernel
theorem dX8_plan_18 : decode cX8_plan 18 = .ok (.if_icmp .eq 8, 3) := by decide +kernel
theorem dX8_plan_21 : decode cX8_plan 21 = .ok (.iload_n 1, 1) := by decide +kernel
theorem dX8_plan_22 : decode cX8_plan 22 = .ok (.iconst 4, 1) := by decide +kernel
theorem dX8_plan_23 : decode cX8_plan 23 = .ok (.if_icmp .ne 7, 3) := by decide +kernel
theorem dX8_plan_26 : decode cX8_plan 26 = .ok (.iconst 1, 1) := by decide +kernel
theorem dX8_plan_27 : decode cX8_plan 27 = .ok (.goto 4, 3) := by decide +kernel
theorem dX8_plan_30 : decode cX8_plan 30 = .ok (.iconst 0, 1) := by decide +kernel
theorem dX8_plan_31 : decode cX8_plan 31 = .ok (.istore 4, 2) := by decide +kernel
theorem dX8_plan_33 : decode cX8_plan 33 = .ok (.iload_n 2, 1) := by decide +kernel
theorem dX8_plan_34 : decode cX8_plan 34 = .ok (.iload_n 1, 1) := by decide +kernel
theorem dX8_plan_35 : decode cX8_plan 35 = .ok (.invokestatic 58, 3) := by decide +kernel
theorem dX8_plan_38 : decode cX8_plan 38 = .ok (.if_icmp .lt 13, 3) := by decide +kernel
theorem dX8_plan_41 : decode cX8_plan 41 = .ok (.iload 4, 2) := by decide +kernel
theorem dX8_plan_43 : decode cX8_plan 43 = .ok (.ifCond .eq 15, 3) := by decide +kernel
theorem dX8_plan_46 : decode cX8_plan 46 = .ok (.iload_n 3, 1) := by decide +kernel
theorem dX8_plan_47 : decode cX8_plan 47 = .ok (.iconst 1, 1) := by decide +kernel
theorem dX8_plan_48 : decode cX8_plan 48 = .ok (.if_icmp .ge 10, 3) := by decide +kernel
theorem dX8_plan_51 : decode cX8_plan 51 = .ok (.aload_n 0, 1) := by decide +kernel
theorem dX8_plan_52 : decode cX8_plan 52 = .ok (.bipush (-4), 2) := by decide +kernel
theorem dX8_plan_54 : decode cX8_plan 54 = .ok (.invokevirtual 54, 3) := by decide +kernel
theorem dX8_plan_57 : decode cX8_plan 57 = .ok (.ireturn, 1) := by decide +kernel
theorem dX8_plan_58 : decode cX8_plan 58 = .ok (.iload_n 2, 1) := by decide +kernel
theorem dX8_plan_59 : decode cX8_plan 59 = .ok (.iload_n 1, 1) := by decide +kernel
theorem dX8_plan_60 : decode cX8_plan 60 = .ok (.invokestatic 61, 3) := by decide +kernel
theorem dX8_plan_63 : decode cX8_plan 63 = .ok (.if_icmp .gt 17, 3) := by decide +kernel
theorem dX8_plan_66 : decode cX8_plan 66 = .ok (.iload 4, 2) := by decide +kernel
theorem dX8_plan_68 : decode cX8_plan 68 = .ok (.ifCond .eq 19, 3) := by decide +kernel
theorem dX8_plan_71 : decode cX8_plan 71 = .ok (.iload_n 3, 1) := by decide +kernel
theorem dX8_plan_72 : decode cX8_plan 72 = .ok (.iload_n 1, 1) := by decide +kernel
theorem dX8_plan_73 : decode cX8_plan 73 = .ok (.iload_n 2, 1) := by decide +kernel
theorem dX8_plan_74 : decode cX8_plan 74 = .ok (.invokestatic 64, 3) := by decide +kernel
theorem dX8_plan_77 : decode cX8_plan 77 = .ok (.if_icmp .le 10, 3) := by decide +kernel
theorem dX8_plan_80 : decode cX8_plan 80 = .ok (.aload_n 0, 1) := by decide +kernel
theorem dX8_plan_81 : decode cX8_plan 81 = .ok (.bipush (-6), 2) := by decide +kernel
theorem dX8_plan_83 : decode cX8_plan 83 = .ok (.invokevirtual 54, 3) := by decide +kernel
theorem dX8_plan_86 : decode cX8_plan 86 = .ok (.ireturn, 1) := by decide +kernel
theorem dX8_plan_87 : decode cX8_plan 87 = .ok (.aload_n 0, 1) := by decide +kernel
theorem dX8_plan_88 : decode cX8_plan 88 = .ok (.getfield 10, 3) := by decide +kernel
theorem dX8_plan_91 : decode cX8_plan 91 = .ok (.invokevirtual 68, 3) := by decide +kernel
theorem dX8_plan_94 : decode cX8_plan 94 = .ok (.bipush 30, 2) := by decide +kernel
theorem dX8_plan_96 : decode cX8_plan 96 = .ok (.if_icmp .lt 10, 3) := by decide +kernel
theorem dX8_plan_99 : decode cX8_plan 99 = .ok (.aload_n 0, 1) := by decide +kernel
theorem dX8_plan_100 : decode cX8_plan 100 = .ok (.bipush (-6), 2) := by decide +kernel
theorem dX8_plan_102 : decode cX8_plan 102 = .ok (.invokevirtual 54, 3) := by decide +kernel
theorem dX8_plan_105 : decode cX8_plan 105 = .ok (.ireturn, 1) := by decide +kernel
theorem dX8_plan_106 : decode cX8_plan 106 = .ok (.aload_n 0, 1) := by decide +kernel
theorem dX8_plan_107 : decode cX8_plan 107 = .ok (.getfield 10, 3) := by decide +kernel
theorem dX8_plan_110 : decode cX8_plan 110 = .ok (.new 72, 3) := by decide +kernel
theorem dX8_plan_113 : decode cX8_plan 113 = .ok (.dup, 1) := by decide +kernel
theorem dX8_plan_114 : decode cX8_plan 114 = .ok (.iload_n 1, 1) := by decide +kernel
theorem dX8_plan_115 : decode cX8_plan 115 = .ok (.iload_n 2, 1) := by decide +kernel
theorem dX8_plan_116 : decode cX8_plan 116 = .ok (.iload 4, 2) := by decide +kernel
theorem dX8_plan_118 : decode cX8_plan 118 = .ok (.ifCond .eq 7, 3) := by decide +kernel
theorem dX8_plan_121 : decode cX8_plan 121 = .ok (.iload_n 3, 1) := by decide +kernel
theorem dX8_plan_122 : decode cX8_plan 122 = .ok (.goto 4, 3) := by decide +kernel
theorem dX8_plan_125 : decode cX8_plan 125 = .ok (.iconst 0, 1) := by decide +kernel
theorem dX8_plan_126 : decode cX8_plan 126 = .ok (.invokespecial 74, 3) := by decide +kernel
theorem dX8_plan_129 : decode cX8_plan 129 = .ok (.invokevirtual 77, 3) := by decide +kernel
theorem dX8_plan_132 : decode cX8_plan 132 = .ok (.pop, 1) := by decide +kernel
theorem dX8_plan_133 : decode cX8_plan 133 = .ok (.aload_n 0, 1) := by decide +kernel
theorem dX8_plan_134 : decode cX8_plan 134 = .ok (.getfield 10, 3) := by decide +kernel
theorem dX8_plan_137 : decode cX8_plan 137 = .ok (.invokevirtual 68, 3) := by decide +kernel
theorem dX8_plan_140 : decode cX8_plan 140 = .ok (.iconst 1, 1) := by decide +kernel
theorem dX8_plan_141 : decode cX8_plan 141 = .ok (.isub, 1) := by decide +kernel
theorem dX8_plan_142 : decode cX8_plan 142 = .ok (.ireturn, 1) := by decide +kernel
set_option maxRecDepth 20000 in
theorem ggX8_size_X8_planAt : GoodIn wsX8_size wsX8_planAt := goodIn_r _ [5, 6, 7, 8, 9, 10, 11, 12, 13, 14, 15, 16, 17, 18, 19, 20, 21, 22, 23, 24, 25, 26, 27, 28, 29, 30, 45, 46, 47, 48, 49, 50, 51, 52, 53, 54, 55, 56] (by decide +kernel) (by decide +kernel)
set_option maxRecDepth 20000 in
theorem gX8_size_X8_planAt : GoodIn wsX8_size (wsV RX8 81 RX8 yX8_planAt wsX8_planAt) := goodIn_app (goodIn_of _ (by decide +kernel)) ggX8_size_X8_planAt
set_option maxRecDepth 20000 in
theorem ggX8_size_X8_refuse : GoodIn wsX8_size wsX8_refuse := goodIn_r _ [34, 35, 45, 46, 47, 48, 49, 50, 51, 52, 53] (by decide +kernel) (by decide +kernel)
set_option maxRecDepth 20000 in
theorem gX8_size_X8_refuse : GoodIn wsX8_size (wsV RX8 54 RX8 yX8_refuse wsX8_refuse) := goodIn_app (goodIn_of _ (by decide +kernel)) ggX8_size_X8_refuse
set_option maxRecDepth 20000 in
theorem ggX8_size_X3_most : GoodIn wsX8_size wsX3_most := goodIn_r _ [40, 41, 42, 43, 4, 44, 57, 58, 59, 60] (by decide +kernel) (by decide +kernel)
set_option maxRecDepth 20000 in
theorem gX8_size_X3_most : GoodIn wsX8_size (wsV RX8 85 RX3 yX3_most wsX3_most) := goodIn_app (goodIn_of _ (by decide +kernel)) ggX8_size_X3_most
theorem dX8_size_0 : decode cX8_size 0 = .ok (.aload_n 0, 1) := by decide +kernel
theorem dX8_size_1 : decode cX8_size 1 = .ok (.iload_n 1, 1) := by decide +kernel
theorem dX8_size_2 : decode cX8_size 2 = .ok (.invokevirtual 81, 3) := by decide +kernel
theorem dX8_size_5 : decode cX8_size 5 = .ok (.astore_n 2, 1) := by decide +kernel
theorem dX8_size_6 : decode cX8_size 6 = .ok (.aload_n 2, 1) := by decide +kernel
theorem dX8_size_7 : decode cX8_size 7 = .ok (.ifnonnull 9, 3) := by decide +kernel
theorem dX8_size_10 : decode cX8_size 10 = .ok (.aload_n 0, 1) := by decide +kernel
theorem dX8_size_11 : decode cX8_size 11 = .ok (.iconst (-1), 1) := by decide +kernel
theorem dX8_size_12 : decode cX8_size 12 = .ok (.invokevirtual 54, 3) := by decide +kernel
theorem dX8_size_15 : decode cX8_size 15 = .ok (.ireturn, 1) := by decide +kernel
theorem dX8_size_16 : decode cX8_size 16 = .ok (.aload_n 2, 1) := by decide +kernel
theorem dX8_size_17 : decode cX8_size 17 = .ok (.invokevirtual 85, 3) := by decide +kernel
theorem dX8_size_20 : decode cX8_size 20 = .ok (.ireturn, 1) := by decide +kernel
set_option maxRecDepth 20000 in
theorem ggX8_odds_X8_noPart : GoodIn wsX8_odds wsX8_noPart := goodIn_r _ [4] (by decide +kernel) (by decide +kernel)
set_option maxRecDepth 20000 in
theorem gX8_odds_X8_noPart : GoodIn wsX8_odds (va_wsS RX8 88 yX8_noPart wsX8_noPart) := goodIn_app (goodIn_of _ (by decide +kernel)) ggX8_odds_X8_noPart
set_option maxRecDepth 20000 in
theorem ggX8_odds_X8_refuseLong : GoodIn wsX8_odds wsX8_refuseLong := goodIn_r _ [8, 9, 10, 11, 12, 3, 13, 14, 141, 142, 143, 144, 145, 146, 147, 148, 149] (by decide +kernel) (by decide +kernel)
set_option maxRecDepth 20000 in
theorem gX8_odds_X8_refuseLong : GoodIn wsX8_odds (wsV RX8 92 RX8 yX8_refuseLong wsX8_refuseLong) := goodIn_app (goodIn_of _ (by decide +kernel)) ggX8_odds_X8_refuseLong
set_option maxRecDepth 20000 in
theorem ggX8_odds_X8_planAt : GoodIn wsX8_odds wsX8_planAt := goodIn_r _ [18, 19, 20, 21, 22, 23, 24, 25, 26, 27, 28, 29, 30, 31, 32, 33, 34, 35, 36, 37, 38, 39, 40, 41, 42, 43, 141, 142, 143, 144, 145, 146, 147, 148, 149, 150, 151, 152] (by decide +kernel) (by decide +kernel)
set_option maxRecDepth 20000 in
theorem gX8_odds_X8_planAt : GoodIn wsX8_odds (wsV RX8 81 RX8 yX8_planAt wsX8_planAt) := goodIn_app (goodIn_of _ (by decide +kernel)) ggX8_odds_X8_planAt
set_option maxRecDepth 20000 in
theorem ggX8_odds_X3_most : GoodIn wsX8_odds wsX3_most := goodIn_r _ [48, 49, 50, 51, 3, 52, 153, 154, 155, 156] (by decide +kernel) (by decide +kernel)
set_option maxRecDepth 20000 in
theorem gX8_odds_X3_most : GoodIn wsX8_odds (wsV RX8 85 RX3 yX3_most wsX3_most) := goodIn_app (goodIn_of _ (by decide +kernel)) ggX8_odds_X3_most
set_option maxRecDepth 20000 in
theorem ggX8_odds_X8_endsOf : GoodIn wsX8_odds wsX8_endsOf := goodIn_r _ [56, 57, 58, 59, 60, 61, 62, 63, 64, 65, 66, 67, 68, 69, 70, 71, 72, 73, 74, 75, 76, 51, 3, 52, 77, 78, 79, 80, 81, 82, 83, 84, 85, 86, 87, 88, 89, 90, 91, 92, 93, 94, 95, 96, 97, 98, 99, 100, 101, 102, 103, 104, 105, 106, 107, 108, 109, 110, 111, 112, 113, 114, 115, 116, 117, 118, 119, 120, 121, 122, 123, 153, 154, 155, 156, 141, 142, 143, 144, 145, 146, 147, 148, 149, 157, 158, 159, 160, 161] (by decide +kernel) (by decide +kernel)
set_option maxRecDepth 20000 in
theorem gX8_odds_X8_endsOf : GoodIn wsX8_odds (wsV RX8 96 RX8 yX8_endsOf wsX8_endsOf) := goodIn_app (goodIn_of _ (by decide +kernel)) ggX8_odds_X8_endsOf
set_option maxRecDepth 20000 in
theorem ggX8_odds_X0_just : GoodIn wsX8_odds wsX0_just := goodIn_r _ [127, 67, 157, 158, 159, 160, 161] (by decide +kernel) (by decide +kernel)
set_option maxRecDepth 20000 in
theorem gX8_odds_X0_just : GoodIn wsX8_odds (wsV RX8 100 RX0 yX0_just wsX0_just) := goodIn_app (goodIn_of _ (by decide +kernel)) ggX8_odds_X0_just
set_option maxRecDepth 20000 in
theorem ggX8_odds_X0_all : GoodIn wsX8_odds wsX0_all := goodIn_r _ [131, 69, 157, 158, 159, 160, 161] (by decide +kernel) (by decide +kernel)
set_option maxRecDepth 20000 in
theorem gX8_odds_X0_all : GoodIn wsX8_odds (wsV RX8 103 RX0 yX0_all wsX0_all) := goodIn_app (goodIn_of _ (by decide +kernel)) ggX8_odds_X0_all
set_option maxRecDepth 20000 in
theorem ggX8_odds_X2_partOf : GoodIn wsX8_odds wsX2_partOf := goodIn_r _ [134, 135, 136, 82, 137, 138, 139, 118, 140] (by decide +kernel) (by decide +kernel)
set_option maxRecDepth 20000 in
theorem gX8_odds_X2_partOf : GoodIn wsX8_odds (va_wsS RX8 107 yX2_partOf wsX2_partOf) := goodIn_app (goodIn_of _ (by decide +kernel)) ggX8_odds_X2_partOf
theorem dX8_odds_0 : decode cX8_odds 0 = .ok (.iload 4, 2) := by decide +kernel
theorem dX8_odds_2 : decode cX8_odds 2 = .ok (.invokestatic 88, 3) := by decide +kernel
theorem dX8_odds_5 : decode cX8_odds 5 = .ok (.ifCond .eq 10, 3) := by decide +kernel
theorem dX8_odds_8 : decode cX8_odds 8 = .ok (.aload_n 0, 1) := by decide +kernel
theorem dX8_odds_9 : decode cX8_odds 9 = .ok (.bipush (-2), 2) := by decide +kernel
theorem dX8_odds_11 : decode cX8_odds 11 = .ok (.invokevirtual 92, 3) := by decide +kernel
theorem dX8_odds_14 : decode cX8_odds 14 = .ok (.lreturn, 1) := by decide +kernel
theorem dX8_odds_15 : decode cX8_odds 15 = .ok (.aload_n 0, 1) := by decide +kernel
theorem dX8_odds_16 : decode cX8_odds 16 = .ok (.iload_n 1, 1) := by decide +kernel
theorem dX8_odds_17 : decode cX8_odds 17 = .ok (.invokevirtual 81, 3) := by decide +kernel
theorem dX8_odds_20 : decode cX8_odds 20 = .ok (.astore 5, 2) := by decide +kernel
theorem dX8_odds_22 : decode cX8_odds 22 = .ok (.aload 5, 2) := by decide +kernel
theorem dX8_odds_24 : decode cX8_odds 24 = .ok (.ifnonnull 9, 3) := by decide +kernel
theorem dX8_odds_27 : decode cX8_odds 27 = .ok (.aload_n 0, 1) := by decide +kernel
theorem dX8_odds_28 : decode cX8_odds 28 = .ok (.iconst (-1), 1) := by decide +kernel
theorem dX8_odds_29 : decode cX8_odds 29 = .ok (.invokevirtual 92, 3) := by decide +kernel
theorem dX8_odds_32 : decode cX8_odds 32 = .ok (.lreturn, 1) := by decide +kernel
theorem dX8_odds_33 : decode cX8_odds 33 = .ok (.iload_n 2, 1) := by decide +kernel
theorem dX8_odds_34 : decode cX8_odds 34 = .ok (.ifCond .lt 7, 3) := by decide +kernel
theorem dX8_odds_37 : decode cX8_odds 37 = .ok (.iload_n 3, 1) := by decide +kernel
theorem dX8_odds_38 : decode cX8_odds 38 = .ok (.ifCond .ge 10, 3) := by decide +kernel
theorem dX8_odds_41 : decode cX8_odds 41 = .ok (.aload_n 0, 1) := by decide +kernel
theorem dX8_odds_42 : decode cX8_odds 42 = .ok (.bipush (-4), 2) := by decide +kernel
theorem dX8_odds_44 : decode cX8_odds 44 = .ok (.invokevirtual 92, 3) := by decide +kernel
theorem dX8_odds_47 : decode cX8_odds 47 = .ok (.lreturn, 1) := by decide +kernel
theorem dX8_odds_48 : decode cX8_odds 48 = .ok (.iload_n 2, 1) := by decide +kernel
theorem dX8_odds_49 : decode cX8_odds 49 = .ok (.bipush 10, 2) := by decide +kernel
theorem dX8_odds_51 : decode cX8_odds 51 = .ok (.if_icmp .gt 12, 3) := by decide +kernel
theorem dX8_odds_54 : decode cX8_odds 54 = .ok (.iload_n 3, 1) := by decide +kernel
theorem dX8_odds_55 : decode cX8_odds 55 = .ok (.aload 5, 2) := by decide +kernel
theorem dX8_odds_57 : decode cX8_odds 57 = .ok (.invokevirtual 85, 3) := by decide +kernel
theorem dX8_odds_60 : decode cX8_odds 60 = .ok (.if_icmp .le 10, 3) := by decide +kernel
theorem dX8_odds_63 : decode cX8_odds 63 = .ok (.aload_n 0, 1) := by decide +kernel
theorem dX8_odds_64 : decode cX8_odds 64 = .ok (.bipush (-6), 2) := by decide +kernel
theorem dX8_odds_66 : decode cX8_odds 66 = .ok (.invokevirtual 92, 3) := by decide +kernel
theorem dX8_odds_69 : decode cX8_odds 69 = .ok (.lreturn, 1) := by decide +kernel
theorem dX8_odds_70 : decode cX8_odds 70 = .ok (.aload_n 0, 1) := by decide +kernel
theorem dX8_odds_71 : decode cX8_odds 71 = .ok (.aload 5, 2) := by decide +kernel
theorem dX8_odds_73 : decode cX8_odds 73 = .ok (.iload_n 2, 1) := by decide +kernel
theorem dX8_odds_74 : decode cX8_odds 74 = .ok (.invokevirtual 96, 3) := by decide +kernel
theorem dX8_odds_77 : decode cX8_odds 77 = .ok (.astore 6, 2) := by decide +kernel
theorem dX8_odds_79 : decode cX8_odds 79 = .ok (.aload 6, 2) := by decide +kernel
theorem dX8_odds_81 : decode cX8_odds 81 = .ok (.iload_n 3, 1) := by decide +kernel
theorem dX8_odds_82 : decode cX8_odds 82 = .ok (.invokevirtual 100, 3) := by decide +kernel
theorem dX8_odds_85 : decode cX8_odds 85 = .ok (.aload 6, 2) := by decide +kernel
theorem dX8_odds_87 : decode cX8_odds 87 = .ok (.invokevirtual 103, 3) := by decide +kernel
theorem dX8_odds_90 : decode cX8_odds 90 = .ok (.iload 4, 2) := by decide +kernel
theorem dX8_odds_92 : decode cX8_odds 92 = .ok (.invokestatic 107, 3) := by decide +kernel
theorem dX8_odds_95 : decode cX8_odds 95 = .ok (.lreturn, 1) := by decide +kernel
set_option maxRecDepth 20000 in
theorem ggX8_least_X8_noPart : GoodIn wsX8_least wsX8_noPart := goodIn_r _ [4] (by decide +kernel) (by decide +kernel)
set_option maxRecDepth 20000 in
theorem gX8_least_X8_noPart : GoodIn wsX8_least (va_wsS RX8 88 yX8_noPart wsX8_noPart) := goodIn_app (goodIn_of _ (by decide +kernel)) ggX8_least_X8_noPart
set_option maxRecDepth 20000 in
theorem ggX8_least_X8_refuseLong : GoodIn wsX8_least wsX8_refuseLong := goodIn_r _ [8, 9, 10, 11, 12, 3, 13, 14, 144, 145, 146, 147, 148, 149, 150, 151, 152] (by decide +kernel) (by decide +kernel)
set_option maxRecDepth 20000 in
theorem gX8_least_X8_refuseLong : GoodIn wsX8_least (wsV RX8 92 RX8 yX8_refuseLong wsX8_refuseLong) := goodIn_app (goodIn_of _ (by decide +kernel)) ggX8_least_X8_refuseLong
set_option maxRecDepth 20000 in
theorem ggX8_least_X8_planAt : GoodIn wsX8_least wsX8_planAt := goodIn_r _ [18, 19, 20, 21, 22, 23, 24, 25, 26, 27, 28, 29, 30, 31, 32, 33, 34, 35, 36, 37, 38, 39, 40, 41, 42, 43, 144, 145, 146, 147, 148, 149, 150, 151, 152, 153, 154, 155] (by decide +kernel) (by decide +kernel)
set_option maxRecDepth 20000 in
theorem gX8_least_X8_planAt : GoodIn wsX8_least (wsV RX8 81 RX8 yX8_planAt wsX8_planAt) := goodIn_app (goodIn_of _ (by decide +kernel)) ggX8_least_X8_planAt
set_option maxRecDepth 20000 in
theorem ggX8_least_X3_most : GoodIn wsX8_least wsX3_most := goodIn_r _ [48, 49, 50, 51, 3, 52, 156, 157, 158, 159] (by decide +kernel) (by decide +kernel)
set_option maxRecDepth 20000 in
theorem gX8_least_X3_most : GoodIn wsX8_least (wsV RX8 85 RX3 yX3_most wsX3_most) := goodIn_app (goodIn_of _ (by decide +kernel)) ggX8_least_X3_most
set_option maxRecDepth 20000 in
theorem ggX8_least_X8_endsOf : GoodIn wsX8_least wsX8_endsOf := goodIn_r _ [56, 57, 58, 59, 60, 61, 62, 63, 64, 65, 66, 67, 68, 69, 70, 71, 72, 73, 74, 75, 76, 51, 3, 52, 77, 78, 79, 80, 81, 82, 83, 84, 85, 86, 87, 88, 89, 90, 91, 92, 93, 94, 95, 96, 97, 98, 99, 100, 101, 102, 103, 104, 105, 106, 107, 108, 109, 110, 111, 112, 113, 114, 115, 116, 117, 118, 119, 120, 121, 122, 123, 156, 157, 158, 159, 144, 145, 146, 147, 148, 149, 150, 151, 152, 160, 161, 162, 163, 164] (by decide +kernel) (by decide +kernel)
set_option maxRecDepth 20000 in
theorem gX8_least_X8_endsOf : GoodIn wsX8_least (wsV RX8 96 RX8 yX8_endsOf wsX8_endsOf) := goodIn_app (goodIn_of _ (by decide +kernel)) ggX8_least_X8_endsOf
set_option maxRecDepth 20000 in
theorem ggX8_least_X0_orMore : GoodIn wsX8_least wsX0_orMore := goodIn_r _ [127, 128, 129, 118, 130, 67, 160, 161, 162, 163, 164] (by decide +kernel) (by decide +kernel)
set_option maxRecDepth 20000 in
theorem gX8_least_X0_orMore : GoodIn wsX8_least (wsV RX8 113 RX0 yX0_orMore wsX0_orMore) := goodIn_app (goodIn_of _ (by decide +kernel)) ggX8_least_X0_orMore
set_option maxRecDepth 20000 in
theorem ggX8_least_X0_all : GoodIn wsX8_least wsX0_all := goodIn_r _ [134, 69, 160, 161, 162, 163, 164] (by decide +kernel) (by decide +kernel)
set_option maxRecDepth 20000 in
theorem gX8_least_X0_all : GoodIn wsX8_least (wsV RX8 103 RX0 yX0_all wsX0_all) := goodIn_app (goodIn_of _ (by decide +kernel)) ggX8_least_X0_all
set_option maxRecDepth 20000 in
theorem ggX8_least_X2_partOf : GoodIn wsX8_least wsX2_partOf := goodIn_r _ [137, 138, 139, 82, 140, 141, 142, 118, 143] (by decide +kernel) (by decide +kernel)
set_option maxRecDepth 20000 in
theorem gX8_least_X2_partOf : GoodIn wsX8_least (va_wsS RX8 107 yX2_partOf wsX2_partOf) := goodIn_app (goodIn_of _ (by decide +kernel)) ggX8_least_X2_partOf
theorem dX8_least_0 : decode cX8_least 0 = .ok (.iload 4, 2) := by decide +kernel
theorem dX8_least_2 : decode cX8_least 2 = .ok (.invokestatic 88, 3) := by decide +kernel
theorem dX8_least_5 : decode cX8_least 5 = .ok (.ifCond .eq 10, 3) := by decide +kernel
theorem dX8_least_8 : decode cX8_least 8 = .ok (.aload_n 0, 1) := by decide +kernel
theorem dX8_least_9 : decode cX8_least 9 = .ok (.bipush (-2), 2) := by decide +kernel
theorem dX8_least_11 : decode cX8_least 11 = .ok (.invokevirtual 92, 3) := by decide +kernel
theorem dX8_least_14 : decode cX8_least 14 = .ok (.lreturn, 1) := by decide +kernel
theorem dX8_least_15 : decode cX8_least 15 = .ok (.aload_n 0, 1) := by decide +kernel
theorem dX8_least_16 : decode cX8_least 16 = .ok (.iload_n 1, 1) := by decide +kernel
theorem dX8_least_17 : decode cX8_least 17 = .ok (.invokevirtual 81, 3) := by decide +kernel
theorem dX8_least_20 : decode cX8_least 20 = .ok (.astore 5, 2) := by decide +kernel
theorem dX8_least_22 : decode cX8_least 22 = .ok (.aload 5, 2) := by decide +kernel
theorem dX8_least_24 : decode cX8_least 24 = .ok (.ifnonnull 9, 3) := by decide +kernel
theorem dX8_least_27 : decode cX8_least 27 = .ok (.aload_n 0, 1) := by decide +kernel
theorem dX8_least_28 : decode cX8_least 28 = .ok (.iconst (-1), 1) := by decide +kernel
theorem dX8_least_29 : decode cX8_least 29 = .ok (.invokevirtual 92, 3) := by decide +kernel
theorem dX8_least_32 : decode cX8_least 32 = .ok (.lreturn, 1) := by decide +kernel
theorem dX8_least_33 : decode cX8_least 33 = .ok (.iload_n 2, 1) := by decide +kernel
theorem dX8_least_34 : decode cX8_least 34 = .ok (.ifCond .lt 7, 3) := by decide +kernel
theorem dX8_least_37 : decode cX8_least 37 = .ok (.iload_n 3, 1) := by decide +kernel
theorem dX8_least_38 : decode cX8_least 38 = .ok (.ifCond .ge 10, 3) := by decide +kernel
theorem dX8_least_41 : decode cX8_least 41 = .ok (.aload_n 0, 1) := by decide +kernel
theorem dX8_least_42 : decode cX8_least 42 = .ok (.bipush (-4), 2) := by decide +kernel
theorem dX8_least_44 : decode cX8_least 44 = .ok (.invokevirtual 92, 3) := by decide +kernel
theorem dX8_least_47 : decode cX8_least 47 = .ok (.lreturn, 1) := by decide +kernel
theorem dX8_least_48 : decode cX8_least 48 = .ok (.iload_n 2, 1) := by decide +kernel
theorem dX8_least_49 : decode cX8_least 49 = .ok (.bipush 10, 2) := by decide +kernel
theorem dX8_least_51 : decode cX8_least 51 = .ok (.if_icmp .gt 14, 3) := by decide +kernel
theorem dX8_least_54 : decode cX8_least 54 = .ok (.iload_n 3, 1) := by decide +kernel
theorem dX8_least_55 : decode cX8_least 55 = .ok (.aload 5, 2) := by decide +kernel
theorem dX8_least_57 : decode cX8_least 57 = .ok (.invokevirtual 85, 3) := by decide +kernel
theorem dX8_least_60 : decode cX8_least 60 = .ok (.iconst 1, 1) := by decide +kernel
theorem dX8_least_61 : decode cX8_least 61 = .ok (.iadd, 1) := by decide +kernel
theorem dX8_least_62 : decode cX8_least 62 = .ok (.if_icmp .le 10, 3) := by decide +kernel
theorem dX8_least_65 : decode cX8_least 65 = .ok (.aload_n 0, 1) := by decide +kernel
theorem dX8_least_66 : decode cX8_least 66 = .ok (.bipush (-6), 2) := by decide +kernel
theorem dX8_least_68 : decode cX8_least 68 = .ok (.invokevirtual 92, 3) := by decide +kernel
theorem dX8_least_71 : decode cX8_least 71 = .ok (.lreturn, 1) := by decide +kernel
theorem dX8_least_72 : decode cX8_least 72 = .ok (.aload_n 0, 1) := by decide +kernel
theorem dX8_least_73 : decode cX8_least 73 = .ok (.aload 5, 2) := by decide +kernel
theorem dX8_least_75 : decode cX8_least 75 = .ok (.iload_n 2, 1) := by decide +kernel
theorem dX8_least_76 : decode cX8_least 76 = .ok (.invokevirtual 96, 3) := by decide +kernel
theorem dX8_least_79 : decode cX8_least 79 = .ok (.astore 6, 2) := by decide +kernel
theorem dX8_least_81 : decode cX8_least 81 = .ok (.aload 6, 2) := by decide +kernel
theorem dX8_least_83 : decode cX8_least 83 = .ok (.iload_n 3, 1) := by decide +kernel
theorem dX8_least_84 : decode cX8_least 84 = .ok (.invokevirtual 113, 3) := by decide +kernel
theorem dX8_least_87 : decode cX8_least 87 = .ok (.aload 6, 2) := by decide +kernel
theorem dX8_least_89 : decode cX8_least 89 = .ok (.invokevirtual 103, 3) := by decide +kernel
theorem dX8_least_92 : decode cX8_least 92 = .ok (.iload 4, 2) := by decide +kernel
theorem dX8_least_94 : decode cX8_least 94 = .ok (.invokestatic 107, 3) := by decide +kernel
theorem dX8_least_97 : decode cX8_least 97 = .ok (.lreturn, 1) := by decide +kernel
set_option maxRecDepth 20000 in
theorem ggX8_mean_X8_noPart : GoodIn wsX8_mean wsX8_noPart := goodIn_r _ [4] (by decide +kernel) (by decide +kernel)
set_option maxRecDepth 20000 in
theorem gX8_mean_X8_noPart : GoodIn wsX8_mean (va_wsS RX8 88 yX8_noPart wsX8_noPart) := goodIn_app (goodIn_of _ (by decide +kernel)) ggX8_mean_X8_noPart
set_option maxRecDepth 20000 in
theorem ggX8_mean_X8_refuseLong : GoodIn wsX8_mean wsX8_refuseLong := goodIn_r _ [8, 9, 10, 11, 12, 3, 13, 14, 134, 135, 136, 137, 138, 139, 140, 141, 142] (by decide +kernel) (by decide +kernel)
set_option maxRecDepth 20000 in
theorem gX8_mean_X8_refuseLong : GoodIn wsX8_mean (wsV RX8 92 RX8 yX8_refuseLong wsX8_refuseLong) := goodIn_app (goodIn_of _ (by decide +kernel)) ggX8_mean_X8_refuseLong
set_option maxRecDepth 20000 in
theorem ggX8_mean_X8_planAt : GoodIn wsX8_mean wsX8_planAt := goodIn_r _ [18, 19, 20, 21, 22, 23, 24, 25, 26, 27, 28, 29, 30, 31, 32, 33, 34, 35, 36, 37, 38, 39, 40, 41, 42, 43, 134, 135, 136, 137, 138, 139, 140, 141, 142, 143, 144, 145] (by decide +kernel) (by decide +kernel)
set_option maxRecDepth 20000 in
theorem gX8_mean_X8_planAt : GoodIn wsX8_mean (wsV RX8 81 RX8 yX8_planAt wsX8_planAt) := goodIn_app (goodIn_of _ (by decide +kernel)) ggX8_mean_X8_planAt
set_option maxRecDepth 20000 in
theorem ggX8_mean_X8_endsOf : GoodIn wsX8_mean wsX8_endsOf := goodIn_r _ [47, 48, 49, 50, 51, 52, 53, 54, 55, 56, 57, 58, 59, 60, 61, 62, 63, 64, 65, 66, 67, 68, 3, 69, 70, 71, 72, 73, 74, 75, 76, 77, 78, 79, 80, 81, 82, 83, 84, 85, 86, 87, 88, 89, 90, 91, 92, 93, 94, 95, 96, 97, 98, 99, 100, 101, 102, 103, 104, 105, 106, 107, 108, 109, 110, 111, 112, 113, 114, 115, 116, 146, 147, 148, 149, 134, 135, 136, 137, 138, 139, 140, 141, 142, 150, 151, 152, 153, 154] (by decide +kernel) (by decide +kernel)
set_option maxRecDepth 20000 in
theorem gX8_mean_X8_endsOf : GoodIn wsX8_mean (wsV RX8 96 RX8 yX8_endsOf wsX8_endsOf) := goodIn_app (goodIn_of _ (by decide +kernel)) ggX8_mean_X8_endsOf
set_option maxRecDepth 20000 in
theorem ggX8_mean_X0_together : GoodIn wsX8_mean wsX0_together := goodIn_r _ [120, 58, 150, 151, 152, 153, 154] (by decide +kernel) (by decide +kernel)
set_option maxRecDepth 20000 in
theorem gX8_mean_X0_together : GoodIn wsX8_mean (wsV RX8 116 RX0 yX0_together wsX0_together) := goodIn_app (goodIn_of _ (by decide +kernel)) ggX8_mean_X0_together
set_option maxRecDepth 20000 in
theorem ggX8_mean_X0_all : GoodIn wsX8_mean wsX0_all := goodIn_r _ [124, 60, 150, 151, 152, 153, 154] (by decide +kernel) (by decide +kernel)
set_option maxRecDepth 20000 in
theorem gX8_mean_X0_all : GoodIn wsX8_mean (wsV RX8 103 RX0 yX0_all wsX0_all) := goodIn_app (goodIn_of _ (by decide +kernel)) ggX8_mean_X0_all
set_option maxRecDepth 20000 in
theorem ggX8_mean_X2_partOf : GoodIn wsX8_mean wsX2_partOf := goodIn_r _ [127, 128, 129, 75, 130, 131, 132, 111, 133] (by decide +kernel) (by decide +kernel)
set_option maxRecDepth 20000 in
theorem gX8_mean_X2_partOf : GoodIn wsX8_mean (va_wsS RX8 107 yX2_partOf wsX2_partOf) := goodIn_app (goodIn_of _ (by decide +kernel)) ggX8_mean_X2_partOf
theorem dX8_mean_0 : decode cX8_mean 0 = .ok (.iload_n 3, 1) := by decide +kernel
theorem dX8_mean_1 : decode cX8_mean 1 = .ok (.invokestatic 88, 3) := by decide +kernel
theorem dX8_mean_4 : decode cX8_mean 4 = .ok (.ifCond .eq 10, 3) := by decide +kernel
theorem dX8_mean_7 : decode cX8_mean 7 = .ok (.aload_n 0, 1) := by decide +kernel
theorem dX8_mean_8 : decode cX8_mean 8 = .ok (.bipush (-2), 2) := by decide +kernel
theorem dX8_mean_10 : decode cX8_mean 10 = .ok (.invokevirtual 92, 3) := by decide +kernel
theorem dX8_mean_13 : decode cX8_mean 13 = .ok (.lreturn, 1) := by decide +kernel
theorem dX8_mean_14 : decode cX8_mean 14 = .ok (.aload_n 0, 1) := by decide +kernel
theorem dX8_mean_15 : decode cX8_mean 15 = .ok (.iload_n 1, 1) := by decide +kernel
theorem dX8_mean_16 : decode cX8_mean 16 = .ok (.invokevirtual 81, 3) := by decide +kernel
theorem dX8_mean_19 : decode cX8_mean 19 = .ok (.astore 4, 2) := by decide +kernel
theorem dX8_mean_21 : decode cX8_mean 21 = .ok (.aload 4, 2) := by decide +kernel
theorem dX8_mean_23 : decode cX8_mean 23 = .ok (.ifnonnull 9, 3) := by decide +kernel
theorem dX8_mean_26 : decode cX8_mean 26 = .ok (.aload_n 0, 1) := by decide +kernel
theorem dX8_mean_27 : decode cX8_mean 27 = .ok (.iconst (-1), 1) := by decide +kernel
theorem dX8_mean_28 : decode cX8_mean 28 = .ok (.invokevirtual 92, 3) := by decide +kernel
theorem dX8_mean_31 : decode cX8_mean 31 = .ok (.lreturn, 1) := by decide +kernel
theorem dX8_mean_32 : decode cX8_mean 32 = .ok (.iload_n 2, 1) := by decide +kernel
theorem dX8_mean_33 : decode cX8_mean 33 = .ok (.ifCond .ge 10, 3) := by decide +kernel
theorem dX8_mean_36 : decode cX8_mean 36 = .ok (.aload_n 0, 1) := by decide +kernel
theorem dX8_mean_37 : decode cX8_mean 37 = .ok (.bipush (-4), 2) := by decide +kernel
theorem dX8_mean_39 : decode cX8_mean 39 = .ok (.invokevirtual 92, 3) := by decide +kernel
theorem dX8_mean_42 : decode cX8_mean 42 = .ok (.lreturn, 1) := by decide +kernel
theorem dX8_mean_43 : decode cX8_mean 43 = .ok (.iload_n 2, 1) := by decide +kernel
theorem dX8_mean_44 : decode cX8_mean 44 = .ok (.bipush 10, 2) := by decide +kernel
theorem dX8_mean_46 : decode cX8_mean 46 = .ok (.if_icmp .le 10, 3) := by decide +kernel
theorem dX8_mean_49 : decode cX8_mean 49 = .ok (.aload_n 0, 1) := by decide +kernel
theorem dX8_mean_50 : decode cX8_mean 50 = .ok (.bipush (-6), 2) := by decide +kernel
theorem dX8_mean_52 : decode cX8_mean 52 = .ok (.invokevirtual 92, 3) := by decide +kernel
theorem dX8_mean_55 : decode cX8_mean 55 = .ok (.lreturn, 1) := by decide +kernel
theorem dX8_mean_56 : decode cX8_mean 56 = .ok (.aload_n 0, 1) := by decide +kernel
theorem dX8_mean_57 : decode cX8_mean 57 = .ok (.aload 4, 2) := by decide +kernel
theorem dX8_mean_59 : decode cX8_mean 59 = .ok (.iload_n 2, 1) := by decide +kernel
theorem dX8_mean_60 : decode cX8_mean 60 = .ok (.invokevirtual 96, 3) := by decide +kernel
theorem dX8_mean_63 : decode cX8_mean 63 = .ok (.astore 5, 2) := by decide +kernel
theorem dX8_mean_65 : decode cX8_mean 65 = .ok (.aload 5, 2) := by decide +kernel
theorem dX8_mean_67 : decode cX8_mean 67 = .ok (.invokevirtual 116, 3) := by decide +kernel
theorem dX8_mean_70 : decode cX8_mean 70 = .ok (.aload 5, 2) := by decide +kernel
theorem dX8_mean_72 : decode cX8_mean 72 = .ok (.invokevirtual 103, 3) := by decide +kernel
theorem dX8_mean_75 : decode cX8_mean 75 = .ok (.iload_n 3, 1) := by decide +kernel
theorem dX8_mean_76 : decode cX8_mean 76 = .ok (.invokestatic 107, 3) := by decide +kernel
theorem dX8_mean_79 : decode cX8_mean 79 = .ok (.lreturn, 1) := by decide +kernel
set_option maxRecDepth 20000 in
theorem ggX8_feed_X8_refuse : GoodIn wsX8_feed wsX8_refuse := goodIn_r _ [7, 8, 20, 21, 22, 23, 24, 25, 26, 27, 28] (by decide +kernel) (by decide +kernel)
set_option maxRecDepth 20000 in
theorem gX8_feed_X8_refuse : GoodIn wsX8_feed (wsV RX8 54 RX8 yX8_refuse wsX8_refuse) := goodIn_app (goodIn_of _ (by decide +kernel)) ggX8_feed_X8_refuse
set_option maxRecDepth 20000 in
theorem ggX8_feed_X7_fed : GoodIn wsX8_feed wsX7_fed := goodIn_r _ [13, 14, 29, 30, 31, 32, 33, 34] (by decide +kernel) (by decide +kernel)
set_option maxRecDepth 20000 in
theorem gX8_feed_X7_fed : GoodIn wsX8_feed (wsV RX8 119 RX7 yX7_fed wsX7_fed) := goodIn_app (goodIn_of _ (by decide +kernel)) ggX8_feed_X7_fed
set_option maxRecDepth 20000 in
theorem ggX8_feed_X7_take : GoodIn wsX8_feed wsX7_take := goodIn_r _ [18, 14, 19, 29, 30, 31, 32, 33, 34] (by decide +kernel) (by decide +kernel)
set_option maxRecDepth 20000 in
theorem gX8_feed_X7_take : GoodIn wsX8_feed (wsV RX8 124 RX7 yX7_take wsX7_take) := goodIn_app (goodIn_of _ (by decide +kernel)) ggX8_feed_X7_take
theorem dX8_feed_0 : decode cX8_feed 0 = .ok (.iload_n 1, 1) := by decide +kernel
theorem dX8_feed_1 : decode cX8_feed 1 = .ok (.iconst 1, 1) := by decide +kernel
theorem dX8_feed_2 : decode cX8_feed 2 = .ok (.if_icmp .ge 10, 3) := by decide +kernel
theorem dX8_feed_5 : decode cX8_feed 5 = .ok (.aload_n 0, 1) := by decide +kernel
theorem dX8_feed_6 : decode cX8_feed 6 = .ok (.bipush (-4), 2) := by decide +kernel
theorem dX8_feed_8 : decode cX8_feed 8 = .ok (.invokevirtual 54, 3) := by decide +kernel
theorem dX8_feed_11 : decode cX8_feed 11 = .ok (.ireturn, 1) := by decide +kernel
theorem dX8_feed_12 : decode cX8_feed 12 = .ok (.iload_n 1, 1) := by decide +kernel
theorem dX8_feed_13 : decode cX8_feed 13 = .ok (.bipush 8, 2) := by decide +kernel
theorem dX8_feed_15 : decode cX8_feed 15 = .ok (.if_icmp .gt 17, 3) := by decide +kernel
theorem dX8_feed_18 : decode cX8_feed 18 = .ok (.aload_n 0, 1) := by decide +kernel
theorem dX8_feed_19 : decode cX8_feed 19 = .ok (.getfield 25, 3) := by decide +kernel
theorem dX8_feed_22 : decode cX8_feed 22 = .ok (.invokevirtual 119, 3) := by decide +kernel
theorem dX8_feed_25 : decode cX8_feed 25 = .ok (.iload_n 1, 1) := by decide +kernel
theorem dX8_feed_26 : decode cX8_feed 26 = .ok (.iadd, 1) := by decide +kernel
theorem dX8_feed_27 : decode cX8_feed 27 = .ok (.bipush 40, 2) := by decide +kernel
theorem dX8_feed_29 : decode cX8_feed 29 = .ok (.if_icmp .le 10, 3) := by decide +kernel
theorem dX8_feed_32 : decode cX8_feed 32 = .ok (.aload_n 0, 1) := by decide +kernel
theorem dX8_feed_33 : decode cX8_feed 33 = .ok (.bipush (-6), 2) := by decide +kernel
theorem dX8_feed_35 : decode cX8_feed 35 = .ok (.invokevirtual 54, 3) := by decide +kernel
theorem dX8_feed_38 : decode cX8_feed 38 = .ok (.ireturn, 1) := by decide +kernel
theorem dX8_feed_39 : decode cX8_feed 39 = .ok (.iconst 0, 1) := by decide +kernel
theorem dX8_feed_40 : decode cX8_feed 40 = .ok (.istore 4, 2) := by decide +kernel
theorem dX8_feed_42 : decode cX8_feed 42 = .ok (.iload 4, 2) := by decide +kernel
theorem dX8_feed_44 : decode cX8_feed 44 = .ok (.iload_n 1, 1) := by decide +kernel
theorem dX8_feed_45 : decode cX8_feed 45 = .ok (.if_icmp .ge 28, 3) := by decide +kernel
theorem dX8_feed_48 : decode cX8_feed 48 = .ok (.aload_n 0, 1) := by decide +kernel
theorem dX8_feed_49 : decode cX8_feed 49 = .ok (.getfield 25, 3) := by decide +kernel
theorem dX8_feed_52 : decode cX8_feed 52 = .ok (.lload_n 2, 1) := by decide +kernel
theorem dX8_feed_53 : decode cX8_feed 53 = .ok (.bipush 8, 2) := by decide +kernel
theorem dX8_feed_55 : decode cX8_feed 55 = .ok (.iload 4, 2) := by decide +kernel
theorem dX8_feed_57 : decode cX8_feed 57 = .ok (.imul, 1) := by decide +kernel
theorem dX8_feed_58 : decode cX8_feed 58 = .ok (.lushr, 1) := by decide +kernel
theorem dX8_feed_59 : decode cX8_feed 59 = .ok (.ldc2_w 122, 3) := by decide +kernel
theorem dX8_feed_62 : decode cX8_feed 62 = .ok (.land, 1) := by decide +kernel
theorem dX8_feed_63 : decode cX8_feed 63 = .ok (.l2i, 1) := by decide +kernel
theorem dX8_feed_64 : decode cX8_feed 64 = .ok (.invokevirtual 124, 3) := by decide +kernel
theorem dX8_feed_67 : decode cX8_feed 67 = .ok (.iinc 4 1, 3) := by decide +kernel
theorem dX8_feed_70 : decode cX8_feed 70 = .ok (.goto (-28), 3) := by decide +kernel
theorem dX8_feed_73 : decode cX8_feed 73 = .ok (.aload_n 0, 1) := by decide +kernel
theorem dX8_feed_74 : decode cX8_feed 74 = .ok (.getfield 25, 3) := by decide +kernel
theorem dX8_feed_77 : decode cX8_feed 77 = .ok (.invokevirtual 119, 3) := by decide +kernel
theorem dX8_feed_80 : decode cX8_feed 80 = .ok (.ireturn, 1) := by decide +kernel
set_option maxRecDepth 20000 in
theorem ggX8_rule_Jx4a65c_size_8abf5 : GoodIn wsX8_rule wsJx4a65c_size_8abf5 := goodIn_r _ [10, 11, 162, 163, 164] (by decide +kernel) (by decide +kernel)
set_option maxRecDepth 20000 in
theorem gX8_rule_Jx4a65c_size_8abf5 : GoodIn wsX8_rule (wsV RX8 68 RJx4a65c yJx4a65c_size_8abf5 wsJx4a65c_size_8abf5) := goodIn_app (goodIn_of _ (by decide +kernel)) ggX8_rule_Jx4a65c_size_8abf5
set_option maxRecDepth 20000 in
theorem ggX8_rule_X8_refuse : GoodIn wsX8_rule wsX8_refuse := goodIn_r _ [16, 17, 150, 151, 152, 153, 154, 155, 156, 157, 158] (by decide +kernel) (by decide +kernel)
set_option maxRecDepth 20000 in
theorem gX8_rule_X8_refuse : GoodIn wsX8_rule (wsV RX8 54 RX8 yX8_refuse wsX8_refuse) := goodIn_app (goodIn_of _ (by decide +kernel)) ggX8_rule_X8_refuse
set_option maxRecDepth 20000 in
theorem ggX8_rule_X7_read : GoodIn wsX8_rule wsX7_read := goodIn_r _ [22, 23, 24, 25, 26, 27, 28, 21, 29, 30, 31, 32, 33, 34, 35, 36, 37, 38, 39, 40, 41, 42, 43, 44, 45, 46, 47, 48, 49, 50, 51, 52, 53, 54, 55, 56, 57, 58, 59, 60, 61, 62, 63, 64, 65, 66, 165, 166, 167, 168, 169, 170] (by decide +kernel) (by decide +kernel)
set_option maxRecDepth 20000 in
theorem gX8_rule_X7_read : GoodIn wsX8_rule (wsV RX8 128 RX7 yX7_read wsX7_read) := goodIn_app (goodIn_of _ (by decide +kernel)) ggX8_rule_X7_read
set_option maxRecDepth 20000 in
theorem ggX8_rule_X7_clear : GoodIn wsX8_rule wsX7_clear := goodIn_r _ [70, 30, 165, 166, 167, 168, 169, 170] (by decide +kernel) (by decide +kernel)
set_option maxRecDepth 20000 in
theorem gX8_rule_X7_clear : GoodIn wsX8_rule (wsV RX8 131 RX7 yX7_clear wsX7_clear) := goodIn_app (goodIn_of _ (by decide +kernel)) ggX8_rule_X7_clear
set_option maxRecDepth 20000 in
theorem ggX8_rule_X7_codeRead : GoodIn wsX8_rule wsX7_codeRead := goodIn_r _ [74, 43, 23, 75, 76, 77, 78, 79, 80, 81, 82, 83, 84, 85, 86, 87, 88, 89, 90, 91, 92, 93, 94, 95, 96, 165, 166, 167, 168, 169, 170] (by decide +kernel) (by decide +kernel)
set_option maxRecDepth 20000 in
theorem gX8_rule_X7_codeRead : GoodIn wsX8_rule (wsV RX8 136 RX7 yX7_codeRead wsX7_codeRead) := goodIn_app (goodIn_of _ (by decide +kernel)) ggX8_rule_X7_codeRead
set_option maxRecDepth 20000 in
theorem ggX8_rule_X4_init : GoodIn wsX8_rule wsX4_init := goodIn_r _ [99, 100, 101, 102, 103, 104, 105, 106, 159, 160, 161] (by decide +kernel) (by decide +kernel)
set_option maxRecDepth 20000 in
theorem gX8_rule_X4_init : GoodIn wsX8_rule (wsX4_init) := ggX8_rule_X4_init
set_option maxRecDepth 20000 in
theorem ggX8_rule_Jx4a65c_add_9ea2d : GoodIn wsX8_rule wsJx4a65c_add_9ea2d := goodIn_r _ [110, 111, 112, 113, 11, 114, 115, 116, 9, 117, 118, 119, 120, 121, 122, 123, 124, 125, 126, 127, 76, 77, 78, 128, 129, 130, 131, 132, 133, 134, 135, 136, 137, 138, 139, 81, 140, 141, 142, 143, 144, 145, 146, 147, 148, 149, 90, 91, 92, 93, 94, 95, 96, 162, 163, 164] (by decide +kernel) (by decide +kernel)
set_option maxRecDepth 20000 in
theorem gX8_rule_Jx4a65c_add_9ea2d : GoodIn wsX8_rule (wsV RX8 77 RJx4a65c yJx4a65c_add_9ea2d wsJx4a65c_add_9ea2d) := goodIn_app (goodIn_of _ (by decide +kernel)) ggX8_rule_Jx4a65c_add_9ea2d
theorem dX8_rule_0 : decode cX8_rule 0 = .ok (.aload_n 0, 1) := by decide +kernel
theorem dX8_rule_1 : decode cX8_rule 1 = .ok (.getfield 16, 3) := by decide +kernel
theorem dX8_rule_4 : decode cX8_rule 4 = .ok (.invokevirtual 68, 3) := by decide +kernel
theorem dX8_rule_7 : decode cX8_rule 7 = .ok (.bipush 20, 2) := by decide +kernel
theorem dX8_rule_9 : decode cX8_rule 9 = .ok (.if_icmp .lt 10, 3) := by decide +kernel
theorem dX8_rule_12 : decode cX8_rule 12 = .ok (.aload_n 0, 1) := by decide +kernel
theorem dX8_rule_13 : decode cX8_rule 13 = .ok (.bipush (-6), 2) := by decide +kernel
theorem dX8_rule_15 : decode cX8_rule 15 = .ok (.invokevirtual 54, 3) := by decide +kernel
theorem dX8_rule_18 : decode cX8_rule 18 = .ok (.ireturn, 1) := by decide +kernel
theorem dX8_rule_19 : decode cX8_rule 19 = .ok (.aload_n 0, 1) := by decide +kernel
theorem dX8_rule_20 : decode cX8_rule 20 = .ok (.getfield 25, 3) := by decide +kernel
theorem dX8_rule_23 : decode cX8_rule 23 = .ok (.invokevirtual 128, 3) := by decide +kernel
theorem dX8_rule_26 : decode cX8_rule 26 = .ok (.istore_n 1, 1) := by decide +kernel
theorem dX8_rule_27 : decode cX8_rule 27 = .ok (.aload_n 0, 1) := by decide +kernel
theorem dX8_rule_28 : decode cX8_rule 28 = .ok (.getfield 25, 3) := by decide +kernel
theorem dX8_rule_31 : decode cX8_rule 31 = .ok (.invokevirtual 131, 3) := by decide +kernel
theorem dX8_rule_34 : decode cX8_rule 34 = .ok (.iload_n 1, 1) := by decide +kernel
theorem dX8_rule_35 : decode cX8_rule 35 = .ok (.ifCond .lt 8, 3) := by decide +kernel
theorem dX8_rule_38 : decode cX8_rule 38 = .ok (.bipush (-20), 2) := by decide +kernel
theorem dX8_rule_40 : decode cX8_rule 40 = .ok (.iload_n 1, 1) := by decide +kernel
theorem dX8_rule_41 : decode cX8_rule 41 = .ok (.isub, 1) := by decide +kernel
theorem dX8_rule_42 : decode cX8_rule 42 = .ok (.ireturn, 1) := by decide +kernel
theorem dX8_rule_43 : decode cX8_rule 43 = .ok (.aload_n 0, 1) := by decide +kernel
theorem dX8_rule_44 : decode cX8_rule 44 = .ok (.getfield 16, 3) := by decide +kernel
theorem dX8_rule_47 : decode cX8_rule 47 = .ok (.new 134, 3) := by decide +kernel
theorem dX8_rule_50 : decode cX8_rule 50 = .ok (.dup, 1) := by decide +kernel
theorem dX8_rule_51 : decode cX8_rule 51 = .ok (.aload_n 0, 1) := by decide +kernel
theorem dX8_rule_52 : decode cX8_rule 52 = .ok (.getfield 25, 3) := by decide +kernel
theorem dX8_rule_55 : decode cX8_rule 55 = .ok (.invokevirtual 136, 3) := by decide +kernel
theorem dX8_rule_58 : decode cX8_rule 58 = .ok (.invokespecial 140, 3) := by decide +kernel
theorem dX8_rule_61 : decode cX8_rule 61 = .ok (.invokevirtual 77, 3) := by decide +kernel
theorem dX8_rule_64 : decode cX8_rule 64 = .ok (.pop, 1) := by decide +kernel
theorem dX8_rule_65 : decode cX8_rule 65 = .ok (.aload_n 0, 1) := by decide +kernel
theorem dX8_rule_66 : decode cX8_rule 66 = .ok (.getfield 16, 3) := by decide +kernel
theorem dX8_rule_69 : decode cX8_rule 69 = .ok (.invokevirtual 68, 3) := by decide +kernel
theorem dX8_rule_72 : decode cX8_rule 72 = .ok (.iconst 1, 1) := by decide +kernel
theorem dX8_rule_73 : decode cX8_rule 73 = .ok (.isub, 1) := by decide +kernel
theorem dX8_rule_74 : decode cX8_rule 74 = .ok (.ireturn, 1) := by decide +kernel
set_option maxRecDepth 20000 in
theorem ggX8_believes_X8_ruleAt : GoodIn wsX8_believes wsX8_ruleAt := goodIn_r _ [5, 6, 7, 8, 9, 10, 11, 12, 13, 14, 15, 16, 17, 18, 19, 20, 21, 22, 23, 24, 25, 26, 27, 28, 29, 30, 81, 82, 83, 84, 85, 86, 87, 88, 89, 90, 91, 92] (by decide +kernel) (by decide +kernel)
set_option maxRecDepth 20000 in
theorem gX8_believes_X8_ruleAt : GoodIn wsX8_believes (wsV RX8 143 RX8 yX8_ruleAt wsX8_ruleAt) := goodIn_app (goodIn_of _ (by decide +kernel)) ggX8_believes_X8_ruleAt
set_option maxRecDepth 20000 in
theorem ggX8_believes_X8_planAt : GoodIn wsX8_believes wsX8_planAt := goodIn_r _ [34, 35, 36, 8, 9, 10, 11, 12, 13, 14, 15, 16, 17, 18, 19, 20, 21, 22, 23, 24, 25, 26, 27, 28, 29, 30, 81, 82, 83, 84, 85, 86, 87, 88, 89, 90, 91, 92] (by decide +kernel) (by decide +kernel)
set_option maxRecDepth 20000 in
theorem gX8_believes_X8_planAt : GoodIn wsX8_believes (wsV RX8 81 RX8 yX8_planAt wsX8_planAt) := goodIn_app (goodIn_of _ (by decide +kernel)) ggX8_believes_X8_planAt
set_option maxRecDepth 20000 in
theorem ggX8_believes_X8_refuse : GoodIn wsX8_believes wsX8_refuse := goodIn_r _ [40, 41, 81, 82, 83, 84, 85, 86, 87, 88, 89] (by decide +kernel) (by decide +kernel)
set_option maxRecDepth 20000 in
theorem gX8_believes_X8_refuse : GoodIn wsX8_believes (wsV RX8 54 RX8 yX8_refuse wsX8_refuse) := goodIn_app (goodIn_of _ (by decide +kernel)) ggX8_believes_X8_refuse
set_option maxRecDepth 20000 in
theorem ggX8_believes_X3_most : GoodIn wsX8_believes wsX3_most := goodIn_r _ [46, 47, 48, 49, 4, 50, 93, 94, 95, 96] (by decide +kernel) (by decide +kernel)
set_option maxRecDepth 20000 in
theorem gX8_believes_X3_most : GoodIn wsX8_believes (wsV RX8 85 RX3 yX3_most wsX3_most) := goodIn_app (goodIn_of _ (by decide +kernel)) ggX8_believes_X3_most
set_option maxRecDepth 20000 in
theorem ggX8_believes_X4_holds : GoodIn wsX8_believes wsX4_holds := goodIn_r _ [55, 56, 57, 58, 59, 60, 54, 61, 62, 63, 64, 65, 66, 67, 68, 69, 70, 71, 72, 73, 74, 75, 76, 77, 43, 44, 45, 46, 47, 48, 49, 4, 50, 78, 79, 80, 97, 98, 99, 93, 94, 95, 96] (by decide +kernel) (by decide +kernel)
set_option maxRecDepth 20000 in
theorem gX8_believes_X4_holds : GoodIn wsX8_believes (wsV RX8 147 RX4 yX4_holds wsX4_holds) := goodIn_app (goodIn_of _ (by decide +kernel)) ggX8_believes_X4_holds
theorem dX8_believes_0 : decode cX8_believes 0 = .ok (.aload_n 0, 1) := by decide +kernel
theorem dX8_believes_1 : decode cX8_believes 1 = .ok (.iload_n 1, 1) := by decide +kernel
theorem dX8_believes_2 : decode cX8_believes 2 = .ok (.invokevirtual 143, 3) := by decide +kernel
theorem dX8_believes_5 : decode cX8_believes 5 = .ok (.astore 4, 2) := by decide +kernel
theorem dX8_believes_7 : decode cX8_believes 7 = .ok (.aload_n 0, 1) := by decide +kernel
theorem dX8_believes_8 : decode cX8_believes 8 = .ok (.iload_n 2, 1) := by decide +kernel
theorem dX8_believes_9 : decode cX8_believes 9 = .ok (.invokevirtual 81, 3) := by decide +kernel
theorem dX8_believes_12 : decode cX8_believes 12 = .ok (.astore 5, 2) := by decide +kernel
theorem dX8_believes_14 : decode cX8_believes 14 = .ok (.aload 4, 2) := by decide +kernel
theorem dX8_believes_16 : decode cX8_believes 16 = .ok (.ifnull 8, 3) := by decide +kernel
theorem dX8_believes_19 : decode cX8_believes 19 = .ok (.aload 5, 2) := by decide +kernel
theorem dX8_believes_21 : decode cX8_believes 21 = .ok (.ifnonnull 9, 3) := by decide +kernel
theorem dX8_believes_24 : decode cX8_believes 24 = .ok (.aload_n 0, 1) := by decide +kernel
theorem dX8_believes_25 : decode cX8_believes 25 = .ok (.iconst (-1), 1) := by decide +kernel
theorem dX8_believes_26 : decode cX8_believes 26 = .ok (.invokevirtual 54, 3) := by decide +kernel
theorem dX8_believes_29 : decode cX8_believes 29 = .ok (.ireturn, 1) := by decide +kernel
theorem dX8_believes_30 : decode cX8_believes 30 = .ok (.iload_n 3, 1) := by decide +kernel
theorem dX8_believes_31 : decode cX8_believes 31 = .ok (.ifCond .ge 10, 3) := by decide +kernel
theorem dX8_believes_34 : decode cX8_believes 34 = .ok (.aload_n 0, 1) := by decide +kernel
theorem dX8_believes_35 : decode cX8_believes 35 = .ok (.bipush (-4), 2) := by decide +kernel
theorem dX8_believes_37 : decode cX8_believes 37 = .ok (.invokevirtual 54, 3) := by decide +kernel
theorem dX8_believes_40 : decode cX8_believes 40 = .ok (.ireturn, 1) := by decide +kernel
theorem dX8_believes_41 : decode cX8_believes 41 = .ok (.iload_n 3, 1) := by decide +kernel
theorem dX8_believes_42 : decode cX8_believes 42 = .ok (.aload 5, 2) := by decide +kernel
theorem dX8_believes_44 : decode cX8_believes 44 = .ok (.invokevirtual 85, 3) := by decide +kernel
theorem dX8_believes_47 : decode cX8_believes 47 = .ok (.if_icmp .le 10, 3) := by decide +kernel
theorem dX8_believes_50 : decode cX8_believes 50 = .ok (.aload_n 0, 1) := by decide +kernel
theorem dX8_believes_51 : decode cX8_believes 51 = .ok (.bipush (-6), 2) := by decide +kernel
theorem dX8_believes_53 : decode cX8_believes 53 = .ok (.invokevirtual 54, 3) := by decide +kernel
theorem dX8_believes_56 : decode cX8_believes 56 = .ok (.ireturn, 1) := by decide +kernel
theorem dX8_believes_57 : decode cX8_believes 57 = .ok (.aload 4, 2) := by decide +kernel
theorem dX8_believes_59 : decode cX8_believes 59 = .ok (.aload 5, 2) := by decide +kernel
theorem dX8_believes_61 : decode cX8_believes 61 = .ok (.iload_n 3, 1) := by decide +kernel
theorem dX8_believes_62 : decode cX8_believes 62 = .ok (.invokevirtual 147, 3) := by decide +kernel
theorem dX8_believes_65 : decode cX8_believes 65 = .ok (.ifCond .eq 7, 3) := by decide +kernel
theorem dX8_believes_68 : decode cX8_believes 68 = .ok (.iconst 1, 1) := by decide +kernel
theorem dX8_believes_69 : decode cX8_believes 69 = .ok (.goto 4, 3) := by decide +kernel
theorem dX8_believes_72 : decode cX8_believes 72 = .ok (.iconst 0, 1) := by decide +kernel
theorem dX8_believes_73 : decode cX8_believes 73 = .ok (.ireturn, 1) := by decide +kernel
set_option maxRecDepth 20000 in
theorem ggX8_believed_X8_noPart : GoodIn wsX8_believed wsX8_noPart := goodIn_r _ [4] (by decide +kernel) (by decide +kernel)
set_option maxRecDepth 20000 in
theorem gX8_believed_X8_noPart : GoodIn wsX8_believed (va_wsS RX8 88 yX8_noPart wsX8_noPart) := goodIn_app (goodIn_of _ (by decide +kernel)) ggX8_believed_X8_noPart
set_option maxRecDepth 20000 in
theorem ggX8_believed_X8_refuseLong : GoodIn wsX8_believed wsX8_refuseLong := goodIn_r _ [8, 9, 10, 11, 12, 3, 13, 14, 180, 181, 182, 183, 184, 185, 186, 187, 188] (by decide +kernel) (by decide +kernel)
set_option maxRecDepth 20000 in
theorem gX8_believed_X8_refuseLong : GoodIn wsX8_believed (wsV RX8 92 RX8 yX8_refuseLong wsX8_refuseLong) := goodIn_app (goodIn_of _ (by decide +kernel)) ggX8_believed_X8_refuseLong
set_option maxRecDepth 20000 in
theorem ggX8_believed_X8_ruleAt : GoodIn wsX8_believed wsX8_ruleAt := goodIn_r _ [18, 19, 20, 21, 22, 23, 24, 25, 26, 27, 28, 29, 30, 31, 32, 33, 34, 35, 36, 37, 38, 39, 40, 41, 42, 43, 180, 181, 182, 183, 184, 185, 186, 187, 188, 189, 190, 191] (by decide +kernel) (by decide +kernel)
set_option maxRecDepth 20000 in
theorem gX8_believed_X8_ruleAt : GoodIn wsX8_believed (wsV RX8 143 RX8 yX8_ruleAt wsX8_ruleAt) := goodIn_app (goodIn_of _ (by decide +kernel)) ggX8_believed_X8_ruleAt
set_option maxRecDepth 20000 in
theorem ggX8_believed_X8_planAt : GoodIn wsX8_believed wsX8_planAt := goodIn_r _ [47, 48, 49, 21, 22, 23, 24, 25, 26, 27, 28, 29, 30, 31, 32, 33, 34, 35, 36, 37, 38, 39, 40, 41, 42, 43, 180, 181, 182, 183, 184, 185, 186, 187, 188, 189, 190, 191] (by decide +kernel) (by decide +kernel)
set_option maxRecDepth 20000 in
theorem gX8_believed_X8_planAt : GoodIn wsX8_believed (wsV RX8 81 RX8 yX8_planAt wsX8_planAt) := goodIn_app (goodIn_of _ (by decide +kernel)) ggX8_believed_X8_planAt
set_option maxRecDepth 20000 in
theorem ggX8_believed_X8_endsOf : GoodIn wsX8_believed wsX8_endsOf := goodIn_r _ [53, 54, 55, 56, 57, 58, 59, 60, 61, 62, 63, 64, 65, 66, 67, 68, 69, 70, 71, 72, 73, 74, 3, 75, 76, 77, 78, 79, 80, 81, 82, 83, 84, 85, 86, 87, 88, 89, 90, 91, 92, 93, 94, 95, 96, 97, 98, 99, 100, 101, 102, 103, 104, 105, 106, 107, 108, 109, 110, 111, 112, 113, 114, 115, 116, 117, 118, 119, 120, 121, 122, 192, 193, 194, 195, 180, 181, 182, 183, 184, 185, 186, 187, 188, 196, 197, 198, 199, 200] (by decide +kernel) (by decide +kernel)
set_option maxRecDepth 20000 in
theorem gX8_believed_X8_endsOf : GoodIn wsX8_believed (wsV RX8 96 RX8 yX8_endsOf wsX8_endsOf) := goodIn_app (goodIn_of _ (by decide +kernel)) ggX8_believed_X8_endsOf
set_option maxRecDepth 20000 in
theorem ggX8_believed_X8_heldBy : GoodIn wsX8_believed wsX8_heldBy := goodIn_r _ [125, 126, 127, 128, 129, 130, 131, 132, 74, 3, 75, 133, 134, 135, 62, 136, 64, 137, 138, 139, 140, 141, 142, 143, 144, 145, 146, 147, 148, 149, 150, 151, 152, 153, 154, 155, 156, 157, 158, 159, 160, 161, 162, 163, 164, 165, 166, 192, 193, 194, 195, 196, 197, 198, 199, 200, 201, 202, 203] (by decide +kernel) (by decide +kernel)
set_option maxRecDepth 20000 in
theorem gX8_believed_X8_heldBy : GoodIn wsX8_believed (va_wsS RX8 151 yX8_heldBy wsX8_heldBy) := goodIn_app (goodIn_of _ (by decide +kernel)) ggX8_believed_X8_heldBy
set_option maxRecDepth 20000 in
theorem ggX8_believed_X0_all : GoodIn wsX8_believed wsX0_all := goodIn_r _ [170, 66, 196, 197, 198, 199, 200] (by decide +kernel) (by decide +kernel)
set_option maxRecDepth 20000 in
theorem gX8_believed_X0_all : GoodIn wsX8_believed (wsV RX8 103 RX0 yX0_all wsX0_all) := goodIn_app (goodIn_of _ (by decide +kernel)) ggX8_believed_X0_all
set_option maxRecDepth 20000 in
theorem ggX8_believed_X2_partOf : GoodIn wsX8_believed wsX2_partOf := goodIn_r _ [173, 174, 175, 81, 176, 177, 178, 117, 179] (by decide +kernel) (by decide +kernel)
set_option maxRecDepth 20000 in
theorem gX8_believed_X2_partOf : GoodIn wsX8_believed (va_wsS RX8 107 yX2_partOf wsX2_partOf) := goodIn_app (goodIn_of _ (by decide +kernel)) ggX8_believed_X2_partOf
theorem dX8_believed_0 : decode cX8_believed 0 = .ok (.iload 4, 2) := by decide +kernel
theorem dX8_believed_2 : decode cX8_believed 2 = .ok (.invokestatic 88, 3) := by decide +kernel
theorem dX8_believed_5 : decode cX8_believed 5 = .ok (.ifCond .eq 10, 3) := by decide +kernel
theorem dX8_believed_8 : decode cX8_believed 8 = .ok (.aload_n 0, 1) := by decide +kernel
theorem dX8_believed_9 : decode cX8_believed 9 = .ok (.bipush (-2), 2) := by decide +kernel
theorem dX8_believed_11 : decode cX8_believed 11 = .ok (.invokevirtual 92, 3) := by decide +kernel
theorem dX8_believed_14 : decode cX8_believed 14 = .ok (.lreturn, 1) := by decide +kernel
theorem dX8_believed_15 : decode cX8_believed 15 = .ok (.aload_n 0, 1) := by decide +kernel
theorem dX8_believed_16 : decode cX8_believed 16 = .ok (.iload_n 1, 1) := by decide +kernel
theorem dX8_believed_17 : decode cX8_believed 17 = .ok (.invokevirtual 143, 3) := by decide +kernel
theorem dX8_believed_20 : decode cX8_believed 20 = .ok (.astore 5, 2) := by decide +kernel
theorem dX8_believed_22 : decode cX8_believed 22 = .ok (.aload_n 0, 1) := by decide +kernel
theorem dX8_believed_23 : decode cX8_believed 23 = .ok (.iload_n 2, 1) := by decide +kernel
theorem dX8_believed_24 : decode cX8_believed 24 = .ok (.invokevirtual 81, 3) := by decide +kernel
theorem dX8_believed_27 : decode cX8_believed 27 = .ok (.astore 6, 2) := by decide +kernel
theorem dX8_believed_29 : decode cX8_believed 29 = .ok (.aload 5, 2) := by decide +kernel
theorem dX8_believed_31 : decode cX8_believed 31 = .ok (.ifnull 8, 3) := by decide +kernel
theorem dX8_believed_34 : decode cX8_believed 34 = .ok (.aload 6, 2) := by decide +kernel
theorem dX8_believed_36 : decode cX8_believed 36 = .ok (.ifnonnull 9, 3) := by decide +kernel
theorem dX8_believed_39 : decode cX8_believed 39 = .ok (.aload_n 0, 1) := by decide +kernel
theorem dX8_believed_40 : decode cX8_believed 40 = .ok (.iconst (-1), 1) := by decide +kernel
theorem dX8_believed_41 : decode cX8_believed 41 = .ok (.invokevirtual 92, 3) := by decide +kernel
theorem dX8_believed_44 : decode cX8_believed 44 = .ok (.lreturn, 1) := by decide +kernel
theorem dX8_believed_45 : decode cX8_believed 45 = .ok (.iload_n 3, 1) := by decide +kernel
theorem dX8_believed_46 : decode cX8_believed 46 = .ok (.ifCond .ge 10, 3) := by decide +kernel
theorem dX8_believed_49 : decode cX8_believed 49 = .ok (.aload_n 0, 1) := by decide +kernel
theorem dX8_believed_50 : decode cX8_believed 50 = .ok (.bipush (-4), 2) := by decide +kernel
theorem dX8_believed_52 : decode cX8_believed 52 = .ok (.invokevirtual 92, 3) := by decide +kernel
theorem dX8_believed_55 : decode cX8_believed 55 = .ok (.lreturn, 1) := by decide +kernel
theorem dX8_believed_56 : decode cX8_believed 56 = .ok (.iload_n 3, 1) := by decide +kernel
theorem dX8_believed_57 : decode cX8_believed 57 = .ok (.bipush 10, 2) := by decide +kernel
theorem dX8_believed_59 : decode cX8_believed 59 = .ok (.if_icmp .le 10, 3) := by decide +kernel
theorem dX8_believed_62 : decode cX8_believed 62 = .ok (.aload_n 0, 1) := by decide +kernel
theorem dX8_believed_63 : decode cX8_believed 63 = .ok (.bipush (-6), 2) := by decide +kernel
theorem dX8_believed_65 : decode cX8_believed 65 = .ok (.invokevirtual 92, 3) := by decide +kernel
theorem dX8_believed_68 : decode cX8_believed 68 = .ok (.lreturn, 1) := by decide +kernel
theorem dX8_believed_69 : decode cX8_believed 69 = .ok (.aload_n 0, 1) := by decide +kernel
theorem dX8_believed_70 : decode cX8_believed 70 = .ok (.aload 6, 2) := by decide +kernel
theorem dX8_believed_72 : decode cX8_believed 72 = .ok (.iload_n 3, 1) := by decide +kernel
theorem dX8_believed_73 : decode cX8_believed 73 = .ok (.invokevirtual 96, 3) := by decide +kernel
theorem dX8_believed_76 : decode cX8_believed 76 = .ok (.astore 7, 2) := by decide +kernel
theorem dX8_believed_78 : decode cX8_believed 78 = .ok (.aload 5, 2) := by decide +kernel
theorem dX8_believed_80 : decode cX8_believed 80 = .ok (.aload 6, 2) := by decide +kernel
theorem dX8_believed_82 : decode cX8_believed 82 = .ok (.aload 7, 2) := by decide +kernel
theorem dX8_believed_84 : decode cX8_believed 84 = .ok (.invokestatic 151, 3) := by decide +kernel
theorem dX8_believed_87 : decode cX8_believed 87 = .ok (.aload 7, 2) := by decide +kernel
theorem dX8_believed_89 : decode cX8_believed 89 = .ok (.invokevirtual 103, 3) := by decide +kernel
theorem dX8_believed_92 : decode cX8_believed 92 = .ok (.iload 4, 2) := by decide +kernel
theorem dX8_believed_94 : decode cX8_believed 94 = .ok (.invokestatic 107, 3) := by decide +kernel
theorem dX8_believed_97 : decode cX8_believed 97 = .ok (.lreturn, 1) := by decide +kernel
set_option maxRecDepth 20000 in
theorem ggX8_line_X8_planAt : GoodIn wsX8_line wsX8_planAt := goodIn_r _ [6, 7, 8, 9, 10, 11, 12, 13, 14, 15, 16, 17, 18, 19, 20, 21, 22, 23, 24, 25, 26, 27, 28, 29, 30, 31, 72, 73, 74, 75, 76, 77, 78, 79, 80, 81, 82, 83] (by decide +kernel) (by decide +kernel)
set_option maxRecDepth 20000 in
theorem gX8_line_X8_planAt : GoodIn wsX8_line (wsV RX8 81 RX8 yX8_planAt wsX8_planAt) := goodIn_app (goodIn_of _ (by decide +kernel)) ggX8_line_X8_planAt
set_option maxRecDepth 20000 in
theorem ggX8_line_X8_refuse : GoodIn wsX8_line wsX8_refuse := goodIn_r _ [35, 36, 72, 73, 74, 75, 76, 77, 78, 79, 80] (by decide +kernel) (by decide +kernel)
set_option maxRecDepth 20000 in
theorem gX8_line_X8_refuse : GoodIn wsX8_line (wsV RX8 54 RX8 yX8_refuse wsX8_refuse) := goodIn_app (goodIn_of _ (by decide +kernel)) ggX8_line_X8_refuse
set_option maxRecDepth 20000 in
theorem ggX8_line_X0_lineFor : GoodIn wsX8_line wsX0_lineFor := goodIn_r _ [41, 42, 43, 44, 45, 46, 40, 47, 48, 49, 50, 51, 52, 53, 54, 55, 56, 57, 58, 59, 60, 61, 62, 63, 64, 65, 66, 67, 84, 85, 86, 87, 88] (by decide +kernel) (by decide +kernel)
set_option maxRecDepth 20000 in
theorem gX8_line_X0_lineFor : GoodIn wsX8_line (wsV RX8 158 RX0 yX0_lineFor wsX0_lineFor) := goodIn_app (goodIn_of _ (by decide +kernel)) ggX8_line_X0_lineFor
theorem dX8_line_0 : decode cX8_line 0 = .ok (.aload_n 0, 1) := by decide +kernel
theorem dX8_line_1 : decode cX8_line 1 = .ok (.iload_n 1, 1) := by decide +kernel
theorem dX8_line_2 : decode cX8_line 2 = .ok (.invokevirtual 81, 3) := by decide +kernel
theorem dX8_line_5 : decode cX8_line 5 = .ok (.astore_n 3, 1) := by decide +kernel
theorem dX8_line_6 : decode cX8_line 6 = .ok (.aload_n 3, 1) := by decide +kernel
theorem dX8_line_7 : decode cX8_line 7 = .ok (.ifnonnull 9, 3) := by decide +kernel
theorem dX8_line_10 : decode cX8_line 10 = .ok (.aload_n 0, 1) := by decide +kernel
theorem dX8_line_11 : decode cX8_line 11 = .ok (.iconst (-1), 1) := by decide +kernel
theorem dX8_line_12 : decode cX8_line 12 = .ok (.invokevirtual 54, 3) := by decide +kernel
theorem dX8_line_15 : decode cX8_line 15 = .ok (.ireturn, 1) := by decide +kernel
theorem dX8_line_16 : decode cX8_line 16 = .ok (.iload_n 2, 1) := by decide +kernel
theorem dX8_line_17 : decode cX8_line 17 = .ok (.ifCond .ge 10, 3) := by decide +kernel
theorem dX8_line_20 : decode cX8_line 20 = .ok (.aload_n 0, 1) := by decide +kernel
theorem dX8_line_21 : decode cX8_line 21 = .ok (.bipush (-4), 2) := by decide +kernel
theorem dX8_line_23 : decode cX8_line 23 = .ok (.invokevirtual 54, 3) := by decide +kernel
theorem dX8_line_26 : decode cX8_line 26 = .ok (.ireturn, 1) := by decide +kernel
theorem dX8_line_27 : decode cX8_line 27 = .ok (.iload_n 2, 1) := by decide +kernel
theorem dX8_line_28 : decode cX8_line 28 = .ok (.sipush 1000, 3) := by decide +kernel
theorem dX8_line_31 : decode cX8_line 31 = .ok (.if_icmp .le 10, 3) := by decide +kernel
theorem dX8_line_34 : decode cX8_line 34 = .ok (.aload_n 0, 1) := by decide +kernel
theorem dX8_line_35 : decode cX8_line 35 = .ok (.bipush (-6), 2) := by decide +kernel
theorem dX8_line_37 : decode cX8_line 37 = .ok (.invokevirtual 54, 3) := by decide +kernel
theorem dX8_line_40 : decode cX8_line 40 = .ok (.ireturn, 1) := by decide +kernel
theorem dX8_line_41 : decode cX8_line 41 = .ok (.aload_n 3, 1) := by decide +kernel
theorem dX8_line_42 : decode cX8_line 42 = .ok (.getfield 155, 3) := by decide +kernel
theorem dX8_line_45 : decode cX8_line 45 = .ok (.iload_n 2, 1) := by decide +kernel
theorem dX8_line_46 : decode cX8_line 46 = .ok (.invokevirtual 158, 3) := by decide +kernel
theorem dX8_line_49 : decode cX8_line 49 = .ok (.ireturn, 1) := by decide +kernel
set_option maxRecDepth 20000 in
theorem ggX8_fewest_X8_refuse : GoodIn wsX8_fewest wsX8_refuse := goodIn_r _ [6, 7, 109, 110, 111, 112, 113, 114, 115, 116, 117] (by decide +kernel) (by decide +kernel)
set_option maxRecDepth 20000 in
theorem gX8_fewest_X8_refuse : GoodIn wsX8_fewest (wsV RX8 54 RX8 yX8_refuse wsX8_refuse) := goodIn_app (goodIn_of _ (by decide +kernel)) ggX8_fewest_X8_refuse
set_option maxRecDepth 20000 in
theorem ggX8_fewest_X8_fewestOf : GoodIn wsX8_fewest wsX8_fewestOf := goodIn_r _ [10] (by decide +kernel) (by decide +kernel)
set_option maxRecDepth 20000 in
theorem gX8_fewest_X8_fewestOf : GoodIn wsX8_fewest (va_wsS RX8 58 yX8_fewestOf wsX8_fewestOf) := goodIn_app (goodIn_of _ (by decide +kernel)) ggX8_fewest_X8_fewestOf
set_option maxRecDepth 20000 in
theorem ggX8_fewest_X8_mostOf : GoodIn wsX8_fewest wsX8_mostOf := goodIn_r _ [13] (by decide +kernel) (by decide +kernel)
set_option maxRecDepth 20000 in
theorem gX8_fewest_X8_mostOf : GoodIn wsX8_fewest (va_wsS RX8 61 yX8_mostOf wsX8_mostOf) := goodIn_app (goodIn_of _ (by decide +kernel)) ggX8_fewest_X8_mostOf
set_option maxRecDepth 20000 in
theorem ggX8_fewest_X0_fill : GoodIn wsX8_fewest wsX0_fill := goodIn_r _ [18, 19, 20, 21, 22, 23, 24, 25, 26, 27, 28, 29, 5, 30, 31, 32, 17, 33, 34, 35, 36, 37, 38, 39, 40, 41, 42, 43, 44, 45, 46, 47, 48, 49, 50, 51, 52, 53, 54, 55, 56, 57, 58, 59, 60, 61, 62, 63, 64, 65, 66, 67, 68, 69, 70, 71, 72, 73, 74, 75, 76, 77, 118, 119, 120, 121, 122] (by decide +kernel) (by decide +kernel)
set_option maxRecDepth 20000 in
theorem gX8_fewest_X0_fill : GoodIn wsX8_fewest (wsV RX8 161 RX0 yX0_fill wsX0_fill) := goodIn_app (goodIn_of _ (by decide +kernel)) ggX8_fewest_X0_fill
set_option maxRecDepth 20000 in
theorem ggX8_fewest_X0_lineFor : GoodIn wsX8_fewest wsX0_lineFor := goodIn_r _ [81, 20, 21, 82, 83, 84, 17, 85, 86, 87, 72, 88, 19, 89, 90, 36, 91, 92, 93, 94, 95, 96, 97, 98, 99, 100, 101, 102, 118, 119, 120, 121, 122] (by decide +kernel) (by decide +kernel)
set_option maxRecDepth 20000 in
theorem gX8_fewest_X0_lineFor : GoodIn wsX8_fewest (wsV RX8 158 RX0 yX0_lineFor wsX0_lineFor) := goodIn_app (goodIn_of _ (by decide +kernel)) ggX8_fewest_X0_lineFor
set_option maxRecDepth 20000 in
theorem ggX8_fewest_X0_orMore : GoodIn wsX8_fewest wsX0_orMore := goodIn_r _ [85, 86, 87, 72, 88, 19, 118, 119, 120, 121, 122] (by decide +kernel) (by decide +kernel)
set_option maxRecDepth 20000 in
theorem gX8_fewest_X0_orMore : GoodIn wsX8_fewest (wsV RX8 113 RX0 yX0_orMore wsX0_orMore) := goodIn_app (goodIn_of _ (by decide +kernel)) ggX8_fewest_X0_orMore
set_option maxRecDepth 20000 in
theorem ggX8_fewest_X0_all : GoodIn wsX8_fewest wsX0_all := goodIn_r _ [107, 21, 118, 119, 120, 121, 122] (by decide +kernel) (by decide +kernel)
set_option maxRecDepth 20000 in
theorem gX8_fewest_X0_all : GoodIn wsX8_fewest (wsV RX8 103 RX0 yX0_all wsX0_all) := goodIn_app (goodIn_of _ (by decide +kernel)) ggX8_fewest_X0_all
set_option maxRecDepth 20000 in
theorem ggX8_fewest_X2_against : GoodIn wsX8_fewest wsX2_against := goodIn_r _ [91, 92, 93, 94, 36, 95, 96, 97, 72, 98, 99, 100, 101, 102] (by decide +kernel) (by decide +kernel)
set_option maxRecDepth 20000 in
theorem gX8_fewest_X2_against : GoodIn wsX8_fewest (va_wsS RX8 165 yX2_against wsX2_against) := goodIn_app (goodIn_of _ (by decide +kernel)) ggX8_fewest_X2_against
theorem dX8_fewest_0 : decode cX8_fewest 0 = .ok (.iload_n 1, 1) := by decide +kernel
theorem dX8_fewest_1 : decode cX8_fewest 1 = .ok (.ifCond .lt 8, 3) := by decide +kernel
theorem dX8_fewest_4 : decode cX8_fewest 4 = .ok (.iload_n 1, 1) := by decide +kernel
theorem dX8_fewest_5 : decode cX8_fewest 5 = .ok (.iconst 3, 1) := by decide +kernel
theorem dX8_fewest_6 : decode cX8_fewest 6 = .ok (.if_icmp .le 10, 3) := by decide +kernel
theorem dX8_fewest_9 : decode cX8_fewest 9 = .ok (.aload_n 0, 1) := by decide +kernel
theorem dX8_fewest_10 : decode cX8_fewest 10 = .ok (.bipush (-2), 2) := by decide +kernel
theorem dX8_fewest_12 : decode cX8_fewest 12 = .ok (.invokevirtual 54, 3) := by decide +kernel
theorem dX8_fewest_15 : decode cX8_fewest 15 = .ok (.ireturn, 1) := by decide +kernel
theorem dX8_fewest_16 : decode cX8_fewest 16 = .ok (.iload_n 2, 1) := by decide +kernel
theorem dX8_fewest_17 : decode cX8_fewest 17 = .ok (.ifCond .lt 12, 3) := by decide +kernel
theorem dX8_fewest_20 : decode cX8_fewest 20 = .ok (.iload_n 3, 1) := by decide +kernel
theorem dX8_fewest_21 : decode cX8_fewest 21 = .ok (.ifCond .lt 8, 3) := by decide +kernel
theorem dX8_fewest_24 : decode cX8_fewest 24 = .ok (.iload 4, 2) := by decide +kernel
theorem dX8_fewest_26 : decode cX8_fewest 26 = .ok (.ifCond .ge 10, 3) := by decide +kernel
theorem dX8_fewest_29 : decode cX8_fewest 29 = .ok (.aload_n 0, 1) := by decide +kernel
theorem dX8_fewest_30 : decode cX8_fewest 30 = .ok (.bipush (-4), 2) := by decide +kernel
theorem dX8_fewest_32 : decode cX8_fewest 32 = .ok (.invokevirtual 54, 3) := by decide +kernel
theorem dX8_fewest_35 : decode cX8_fewest 35 = .ok (.ireturn, 1) := by decide +kernel
theorem dX8_fewest_36 : decode cX8_fewest 36 = .ok (.iload_n 2, 1) := by decide +kernel
theorem dX8_fewest_37 : decode cX8_fewest 37 = .ok (.sipush 1000, 3) := by decide +kernel
theorem dX8_fewest_40 : decode cX8_fewest 40 = .ok (.if_icmp .gt 17, 3) := by decide +kernel
theorem dX8_fewest_43 : decode cX8_fewest 43 = .ok (.iload_n 3, 1) := by decide +kernel
theorem dX8_fewest_44 : decode cX8_fewest 44 = .ok (.bipush 10, 2) := by decide +kernel
theorem dX8_fewest_46 : decode cX8_fewest 46 = .ok (.if_icmp .gt 11, 3) := by decide +kernel
theorem dX8_fewest_49 : decode cX8_fewest 49 = .ok (.iload 4, 2) := by decide +kernel
theorem dX8_fewest_51 : decode cX8_fewest 51 = .ok (.sipush 1000, 3) := by decide +kernel
theorem dX8_fewest_54 : decode cX8_fewest 54 = .ok (.if_icmp .le 10, 3) := by decide +kernel
theorem dX8_fewest_57 : decode cX8_fewest 57 = .ok (.aload_n 0, 1) := by decide +kernel
theorem dX8_fewest_58 : decode cX8_fewest 58 = .ok (.bipush (-6), 2) := by decide +kernel
theorem dX8_fewest_60 : decode cX8_fewest 60 = .ok (.invokevirtual 54, 3) := by decide +kernel
theorem dX8_fewest_63 : decode cX8_fewest 63 = .ok (.ireturn, 1) := by decide +kernel
theorem dX8_fewest_64 : decode cX8_fewest 64 = .ok (.iload_n 1, 1) := by decide +kernel
theorem dX8_fewest_65 : decode cX8_fewest 65 = .ok (.invokestatic 58, 3) := by decide +kernel
theorem dX8_fewest_68 : decode cX8_fewest 68 = .ok (.istore 5, 2) := by decide +kernel
theorem dX8_fewest_70 : decode cX8_fewest 70 = .ok (.iload 5, 2) := by decide +kernel
theorem dX8_fewest_72 : decode cX8_fewest 72 = .ok (.iload_n 1, 1) := by decide +kernel
theorem dX8_fewest_73 : decode cX8_fewest 73 = .ok (.invokestatic 61, 3) := by decide +kernel
theorem dX8_fewest_76 : decode cX8_fewest 76 = .ok (.if_icmp .gt 87, 3) := by decide +kernel
theorem dX8_fewest_79 : decode cX8_fewest 79 = .ok (.iload_n 1, 1) := by decide +kernel
theorem dX8_fewest_80 : decode cX8_fewest 80 = .ok (.iconst 1, 1) := by decide +kernel
theorem dX8_fewest_81 : decode cX8_fewest 81 = .ok (.if_icmp .ne 10, 3) := by decide +kernel
theorem dX8_fewest_84 : decode cX8_fewest 84 = .ok (.iload 5, 2) := by decide +kernel
theorem dX8_fewest_86 : decode cX8_fewest 86 = .ok (.iconst 2, 1) := by decide +kernel
theorem dX8_fewest_87 : decode cX8_fewest 87 = .ok (.idiv, 1) := by decide +kernel
theorem dX8_fewest_88 : decode cX8_fewest 88 = .ok (.goto 4, 3) := by decide +kernel
theorem dX8_fewest_91 : decode cX8_fewest 91 = .ok (.iconst 0, 1) := by decide +kernel
theorem dX8_fewest_92 : decode cX8_fewest 92 = .ok (.istore 6, 2) := by decide +kernel
theorem dX8_fewest_94 : decode cX8_fewest 94 = .ok (.aload_n 0, 1) := by decide +kernel
theorem dX8_fewest_95 : decode cX8_fewest 95 = .ok (.getfield 44, 3) := by decide +kernel
theorem dX8_fewest_98 : decode cX8_fewest 98 = .ok (.iload_n 1, 1) := by decide +kernel
theorem dX8_fewest_99 : decode cX8_fewest 99 = .ok (.iload 5, 2) := by decide +kernel
theorem dX8_fewest_101 : decode cX8_fewest 101 = .ok (.iload 6, 2) := by decide +kernel
theorem dX8_fewest_103 : decode cX8_fewest 103 = .ok (.iconst 5, 1) := by decide +kernel
theorem dX8_fewest_104 : decode cX8_fewest 104 = .ok (.invokevirtual 161, 3) := by decide +kernel
theorem dX8_fewest_107 : decode cX8_fewest 107 = .ok (.aload_n 0, 1) := by decide +kernel
theorem dX8_fewest_108 : decode cX8_fewest 108 = .ok (.getfield 44, 3) := by decide +kernel
theorem dX8_fewest_111 : decode cX8_fewest 111 = .ok (.iload_n 2, 1) := by decide +kernel
theorem dX8_fewest_112 : decode cX8_fewest 112 = .ok (.invokevirtual 158, 3) := by decide +kernel
theorem dX8_fewest_115 : decode cX8_fewest 115 = .ok (.istore 7, 2) := by decide +kernel
theorem dX8_fewest_117 : decode cX8_fewest 117 = .ok (.aload_n 0, 1) := by decide +kernel
theorem dX8_fewest_118 : decode cX8_fewest 118 = .ok (.getfield 44, 3) := by decide +kernel
theorem dX8_fewest_121 : decode cX8_fewest 121 = .ok (.iload_n 1, 1) := by decide +kernel
theorem dX8_fewest_122 : decode cX8_fewest 122 = .ok (.iload 5, 2) := by decide +kernel
theorem dX8_fewest_124 : decode cX8_fewest 124 = .ok (.iload 6, 2) := by decide +kernel
theorem dX8_fewest_126 : decode cX8_fewest 126 = .ok (.iload_n 3, 1) := by decide +kernel
theorem dX8_fewest_127 : decode cX8_fewest 127 = .ok (.invokevirtual 161, 3) := by decide +kernel
theorem dX8_fewest_130 : decode cX8_fewest 130 = .ok (.aload_n 0, 1) := by decide +kernel
theorem dX8_fewest_131 : decode cX8_fewest 131 = .ok (.getfield 44, 3) := by decide +kernel
theorem dX8_fewest_134 : decode cX8_fewest 134 = .ok (.iload 7, 2) := by decide +kernel
theorem dX8_fewest_136 : decode cX8_fewest 136 = .ok (.invokevirtual 113, 3) := by decide +kernel
theorem dX8_fewest_139 : decode cX8_fewest 139 = .ok (.aload_n 0, 1) := by decide +kernel
theorem dX8_fewest_140 : decode cX8_fewest 140 = .ok (.getfield 44, 3) := by decide +kernel
theorem dX8_fewest_143 : decode cX8_fewest 143 = .ok (.invokevirtual 103, 3) := by decide +kernel
theorem dX8_fewest_146 : decode cX8_fewest 146 = .ok (.iload 4, 2) := by decide +kernel
theorem dX8_fewest_148 : decode cX8_fewest 148 = .ok (.invokestatic 165, 3) := by decide +kernel
theorem dX8_fewest_151 : decode cX8_fewest 151 = .ok (.ifCond .lt 6, 3) := by decide +kernel
theorem dX8_fewest_154 : decode cX8_fewest 154 = .ok (.iload 5, 2) := by decide +kernel
theorem dX8_fewest_156 : decode cX8_fewest 156 = .ok (.ireturn, 1) := by decide +kernel
theorem dX8_fewest_157 : decode cX8_fewest 157 = .ok (.iinc 5 1, 3) := by decide +kernel
theorem dX8_fewest_160 : decode cX8_fewest 160 = .ok (.goto (-90), 3) := by decide +kernel
theorem dX8_fewest_163 : decode cX8_fewest 163 = .ok (.bipush (-9), 2) := by decide +kernel
theorem dX8_fewest_165 : decode cX8_fewest 165 = .ok (.ireturn, 1) := by decide +kernel
set_option maxRecDepth 20000 in
theorem ggX8_well_X8_noPart : GoodIn wsX8_well wsX8_noPart := goodIn_r _ [6] (by decide +kernel) (by decide +kernel)
set_option maxRecDepth 20000 in
theorem gX8_well_X8_noPart : GoodIn wsX8_well (va_wsS RX8 88 yX8_noPart wsX8_noPart) := goodIn_app (goodIn_of _ (by decide +kernel)) ggX8_well_X8_noPart
set_option maxRecDepth 20000 in
theorem ggX8_well_X8_refuseLong : GoodIn wsX8_well wsX8_refuseLong := goodIn_r _ [10, 11, 12, 13, 14, 5, 15, 16, 61, 62, 63, 64, 65, 66, 67, 68, 69] (by decide +kernel) (by decide +kernel)
set_option maxRecDepth 20000 in
theorem gX8_well_X8_refuseLong : GoodIn wsX8_well (wsV RX8 92 RX8 yX8_refuseLong wsX8_refuseLong) := goodIn_app (goodIn_of _ (by decide +kernel)) ggX8_well_X8_refuseLong
set_option maxRecDepth 20000 in
theorem ggX8_well_X1_stops : GoodIn wsX8_well wsX1_stops := goodIn_r _ [21, 22, 23, 24, 25, 26, 27, 28, 29, 30, 20, 31, 32, 33, 34, 35, 36, 37, 38, 39, 40, 41, 42, 43, 44, 45, 46, 47, 70, 71] (by decide +kernel) (by decide +kernel)
set_option maxRecDepth 20000 in
theorem gX8_well_X1_stops : GoodIn wsX8_well (wsV RX8 169 RX1 yX1_stops wsX1_stops) := goodIn_app (goodIn_of _ (by decide +kernel)) ggX8_well_X1_stops
set_option maxRecDepth 20000 in
theorem ggX8_well_X2_power : GoodIn wsX8_well wsX2_power := goodIn_r _ [51] (by decide +kernel) (by decide +kernel)
set_option maxRecDepth 20000 in
theorem gX8_well_X2_power : GoodIn wsX8_well (va_wsS RX8 175 yX2_power wsX2_power) := goodIn_app (goodIn_of _ (by decide +kernel)) ggX8_well_X2_power
set_option maxRecDepth 20000 in
theorem ggX8_well_X2_partOf : GoodIn wsX8_well wsX2_partOf := goodIn_r _ [54, 55, 56, 50, 57, 58, 59, 35, 60] (by decide +kernel) (by decide +kernel)
set_option maxRecDepth 20000 in
theorem gX8_well_X2_partOf : GoodIn wsX8_well (va_wsS RX8 107 yX2_partOf wsX2_partOf) := goodIn_app (goodIn_of _ (by decide +kernel)) ggX8_well_X2_partOf
theorem dX8_well_0 : decode cX8_well 0 = .ok (.iload 5, 2) := by decide +kernel
theorem dX8_well_2 : decode cX8_well 2 = .ok (.invokestatic 88, 3) := by decide +kernel
theorem dX8_well_5 : decode cX8_well 5 = .ok (.ifCond .eq 10, 3) := by decide +kernel
theorem dX8_well_8 : decode cX8_well 8 = .ok (.aload_n 0, 1) := by decide +kernel
theorem dX8_well_9 : decode cX8_well 9 = .ok (.bipush (-2), 2) := by decide +kernel
theorem dX8_well_11 : decode cX8_well 11 = .ok (.invokevirtual 92, 3) := by decide +kernel
theorem dX8_well_14 : decode cX8_well 14 = .ok (.lreturn, 1) := by decide +kernel
theorem dX8_well_15 : decode cX8_well 15 = .ok (.iload_n 1, 1) := by decide +kernel
theorem dX8_well_16 : decode cX8_well 16 = .ok (.iconst 1, 1) := by decide +kernel
theorem dX8_well_17 : decode cX8_well 17 = .ok (.if_icmp .lt 17, 3) := by decide +kernel
theorem dX8_well_20 : decode cX8_well 20 = .ok (.iload_n 2, 1) := by decide +kernel
theorem dX8_well_21 : decode cX8_well 21 = .ok (.ifCond .lt 13, 3) := by decide +kernel
theorem dX8_well_24 : decode cX8_well 24 = .ok (.iload_n 3, 1) := by decide +kernel
theorem dX8_well_25 : decode cX8_well 25 = .ok (.iconst 1, 1) := by decide +kernel
theorem dX8_well_26 : decode cX8_well 26 = .ok (.if_icmp .lt 8, 3) := by decide +kernel
theorem dX8_well_29 : decode cX8_well 29 = .ok (.iload 4, 2) := by decide +kernel
theorem dX8_well_31 : decode cX8_well 31 = .ok (.ifCond .ge 10, 3) := by decide +kernel
theorem dX8_well_34 : decode cX8_well 34 = .ok (.aload_n 0, 1) := by decide +kernel
theorem dX8_well_35 : decode cX8_well 35 = .ok (.bipush (-4), 2) := by decide +kernel
theorem dX8_well_37 : decode cX8_well 37 = .ok (.invokevirtual 92, 3) := by decide +kernel
theorem dX8_well_40 : decode cX8_well 40 = .ok (.lreturn, 1) := by decide +kernel
theorem dX8_well_41 : decode cX8_well 41 = .ok (.iload_n 1, 1) := by decide +kernel
theorem dX8_well_42 : decode cX8_well 42 = .ok (.bipush 12, 2) := by decide +kernel
theorem dX8_well_44 : decode cX8_well 44 = .ok (.if_icmp .gt 10, 3) := by decide +kernel
theorem dX8_well_47 : decode cX8_well 47 = .ok (.iload_n 2, 1) := by decide +kernel
theorem dX8_well_48 : decode cX8_well 48 = .ok (.sipush 4095, 3) := by decide +kernel
theorem dX8_well_51 : decode cX8_well 51 = .ok (.if_icmp .le 10, 3) := by decide +kernel
theorem dX8_well_54 : decode cX8_well 54 = .ok (.aload_n 0, 1) := by decide +kernel
theorem dX8_well_55 : decode cX8_well 55 = .ok (.bipush (-6), 2) := by decide +kernel
theorem dX8_well_57 : decode cX8_well 57 = .ok (.invokevirtual 92, 3) := by decide +kernel
theorem dX8_well_60 : decode cX8_well 60 = .ok (.lreturn, 1) := by decide +kernel
theorem dX8_well_61 : decode cX8_well 61 = .ok (.iload_n 3, 1) := by decide +kernel
theorem dX8_well_62 : decode cX8_well 62 = .ok (.bipush 12, 2) := by decide +kernel
theorem dX8_well_64 : decode cX8_well 64 = .ok (.if_icmp .gt 10, 3) := by decide +kernel
theorem dX8_well_67 : decode cX8_well 67 = .ok (.iload 4, 2) := by decide +kernel
theorem dX8_well_69 : decode cX8_well 69 = .ok (.bipush 10, 2) := by decide +kernel
theorem dX8_well_71 : decode cX8_well 71 = .ok (.if_icmp .le 10, 3) := by decide +kernel
theorem dX8_well_74 : decode cX8_well 74 = .ok (.aload_n 0, 1) := by decide +kernel
theorem dX8_well_75 : decode cX8_well 75 = .ok (.bipush (-6), 2) := by decide +kernel
theorem dX8_well_77 : decode cX8_well 77 = .ok (.invokevirtual 92, 3) := by decide +kernel
theorem dX8_well_80 : decode cX8_well 80 = .ok (.lreturn, 1) := by decide +kernel
theorem dX8_well_81 : decode cX8_well 81 = .ok (.aload_n 0, 1) := by decide +kernel
theorem dX8_well_82 : decode cX8_well 82 = .ok (.getfield 50, 3) := by decide +kernel
theorem dX8_well_85 : decode cX8_well 85 = .ok (.iload_n 1, 1) := by decide +kernel
theorem dX8_well_86 : decode cX8_well 86 = .ok (.iload_n 2, 1) := by decide +kernel
theorem dX8_well_87 : decode cX8_well 87 = .ok (.iload_n 3, 1) := by decide +kernel
theorem dX8_well_88 : decode cX8_well 88 = .ok (.iload 4, 2) := by decide +kernel
theorem dX8_well_90 : decode cX8_well 90 = .ok (.invokevirtual 169, 3) := by decide +kernel
theorem dX8_well_93 : decode cX8_well 93 = .ok (.ldc2_w 173, 3) := by decide +kernel
theorem dX8_well_96 : decode cX8_well 96 = .ok (.iload_n 1, 1) := by decide +kernel
theorem dX8_well_97 : decode cX8_well 97 = .ok (.invokestatic 175, 3) := by decide +kernel
theorem dX8_well_100 : decode cX8_well 100 = .ok (.iload 5, 2) := by decide +kernel
theorem dX8_well_102 : decode cX8_well 102 = .ok (.invokestatic 107, 3) := by decide +kernel
theorem dX8_well_105 : decode cX8_well 105 = .ok (.lreturn, 1) := by decide +kernel
set_option maxRecDepth 20000 in
theorem ggX8_kept_X8_refuse : GoodIn wsX8_kept wsX8_refuse := goodIn_r _ [7, 8, 58, 59, 60, 61, 62, 63, 64, 65, 66] (by decide +kernel) (by decide +kernel)
set_option maxRecDepth 20000 in
theorem gX8_kept_X8_refuse : GoodIn wsX8_kept (wsV RX8 54 RX8 yX8_refuse wsX8_refuse) := goodIn_app (goodIn_of _ (by decide +kernel)) ggX8_kept_X8_refuse
set_option maxRecDepth 20000 in
theorem ggX8_kept_X2_power : GoodIn wsX8_kept wsX2_power := goodIn_r _ [12] (by decide +kernel) (by decide +kernel)
set_option maxRecDepth 20000 in
theorem gX8_kept_X2_power : GoodIn wsX8_kept (va_wsS RX8 175 yX2_power wsX2_power) := goodIn_app (goodIn_of _ (by decide +kernel)) ggX8_kept_X2_power
set_option maxRecDepth 20000 in
theorem ggX8_kept_X1_stops : GoodIn wsX8_kept wsX1_stops := goodIn_r _ [17, 18, 19, 20, 21, 22, 23, 24, 25, 26, 16, 27, 28, 29, 30, 31, 32, 33, 34, 35, 36, 37, 38, 39, 40, 41, 42, 43, 67, 68] (by decide +kernel) (by decide +kernel)
set_option maxRecDepth 20000 in
theorem gX8_kept_X1_stops : GoodIn wsX8_kept (wsV RX8 169 RX1 yX1_stops wsX1_stops) := goodIn_app (goodIn_of _ (by decide +kernel)) ggX8_kept_X1_stops
set_option maxRecDepth 20000 in
theorem ggX8_kept_X2_against : GoodIn wsX8_kept wsX2_against := goodIn_r _ [46, 47, 48, 49, 11, 50, 51, 52, 31, 53, 54, 55, 56, 57] (by decide +kernel) (by decide +kernel)
set_option maxRecDepth 20000 in
theorem gX8_kept_X2_against : GoodIn wsX8_kept (va_wsS RX8 165 yX2_against wsX2_against) := goodIn_app (goodIn_of _ (by decide +kernel)) ggX8_kept_X2_against
theorem dX8_kept_0 : decode cX8_kept 0 = .ok (.iload_n 1, 1) := by decide +kernel
theorem dX8_kept_1 : decode cX8_kept 1 = .ok (.iconst 1, 1) := by decide +kernel
theorem dX8_kept_2 : decode cX8_kept 2 = .ok (.if_icmp .lt 11, 3) := by decide +kernel
theorem dX8_kept_5 : decode cX8_kept 5 = .ok (.iload_n 2, 1) := by decide +kernel
theorem dX8_kept_6 : decode cX8_kept 6 = .ok (.ifCond .lt 7, 3) := by decide +kernel
theorem dX8_kept_9 : decode cX8_kept 9 = .ok (.iload_n 3, 1) := by decide +kernel
theorem dX8_kept_10 : decode cX8_kept 10 = .ok (.ifCond .ge 10, 3) := by decide +kernel
theorem dX8_kept_13 : decode cX8_kept 13 = .ok (.aload_n 0, 1) := by decide +kernel
theorem dX8_kept_14 : decode cX8_kept 14 = .ok (.bipush (-4), 2) := by decide +kernel
theorem dX8_kept_16 : decode cX8_kept 16 = .ok (.invokevirtual 54, 3) := by decide +kernel
theorem dX8_kept_19 : decode cX8_kept 19 = .ok (.ireturn, 1) := by decide +kernel
theorem dX8_kept_20 : decode cX8_kept 20 = .ok (.iload_n 1, 1) := by decide +kernel
theorem dX8_kept_21 : decode cX8_kept 21 = .ok (.bipush 12, 2) := by decide +kernel
theorem dX8_kept_23 : decode cX8_kept 23 = .ok (.if_icmp .gt 17, 3) := by decide +kernel
theorem dX8_kept_26 : decode cX8_kept 26 = .ok (.iload_n 2, 1) := by decide +kernel
theorem dX8_kept_27 : decode cX8_kept 27 = .ok (.sipush 4095, 3) := by decide +kernel
theorem dX8_kept_30 : decode cX8_kept 30 = .ok (.if_icmp .gt 10, 3) := by decide +kernel
theorem dX8_kept_33 : decode cX8_kept 33 = .ok (.iload_n 3, 1) := by decide +kernel
theorem dX8_kept_34 : decode cX8_kept 34 = .ok (.sipush 1000, 3) := by decide +kernel
theorem dX8_kept_37 : decode cX8_kept 37 = .ok (.if_icmp .le 10, 3) := by decide +kernel
theorem dX8_kept_40 : decode cX8_kept 40 = .ok (.aload_n 0, 1) := by decide +kernel
theorem dX8_kept_41 : decode cX8_kept 41 = .ok (.bipush (-6), 2) := by decide +kernel
theorem dX8_kept_43 : decode cX8_kept 43 = .ok (.invokevirtual 54, 3) := by decide +kernel
theorem dX8_kept_46 : decode cX8_kept 46 = .ok (.ireturn, 1) := by decide +kernel
theorem dX8_kept_47 : decode cX8_kept 47 = .ok (.ldc2_w 173, 3) := by decide +kernel
theorem dX8_kept_50 : decode cX8_kept 50 = .ok (.iload_n 1, 1) := by decide +kernel
theorem dX8_kept_51 : decode cX8_kept 51 = .ok (.invokestatic 175, 3) := by decide +kernel
theorem dX8_kept_54 : decode cX8_kept 54 = .ok (.lstore 4, 2) := by decide +kernel
theorem dX8_kept_56 : decode cX8_kept 56 = .ok (.iconst 1, 1) := by decide +kernel
theorem dX8_kept_57 : decode cX8_kept 57 = .ok (.istore 6, 2) := by decide +kernel
theorem dX8_kept_59 : decode cX8_kept 59 = .ok (.iload 6, 2) := by decide +kernel
theorem dX8_kept_61 : decode cX8_kept 61 = .ok (.bipush 12, 2) := by decide +kernel
theorem dX8_kept_63 : decode cX8_kept 63 = .ok (.if_icmp .gt 33, 3) := by decide +kernel
theorem dX8_kept_66 : decode cX8_kept 66 = .ok (.aload_n 0, 1) := by decide +kernel
theorem dX8_kept_67 : decode cX8_kept 67 = .ok (.getfield 50, 3) := by decide +kernel
theorem dX8_kept_70 : decode cX8_kept 70 = .ok (.iload_n 1, 1) := by decide +kernel
theorem dX8_kept_71 : decode cX8_kept 71 = .ok (.iload_n 2, 1) := by decide +kernel
theorem dX8_kept_72 : decode cX8_kept 72 = .ok (.iload 6, 2) := by decide +kernel
theorem dX8_kept_74 : decode cX8_kept 74 = .ok (.iconst 5, 1) := by decide +kernel
theorem dX8_kept_75 : decode cX8_kept 75 = .ok (.invokevirtual 169, 3) := by decide +kernel
theorem dX8_kept_78 : decode cX8_kept 78 = .ok (.lload 4, 2) := by decide +kernel
theorem dX8_kept_80 : decode cX8_kept 80 = .ok (.iload_n 3, 1) := by decide +kernel
theorem dX8_kept_81 : decode cX8_kept 81 = .ok (.invokestatic 165, 3) := by decide +kernel
theorem dX8_kept_84 : decode cX8_kept 84 = .ok (.ifCond .gt 6, 3) := by decide +kernel
theorem dX8_kept_87 : decode cX8_kept 87 = .ok (.iload 6, 2) := by decide +kernel
theorem dX8_kept_89 : decode cX8_kept 89 = .ok (.ireturn, 1) := by decide +kernel
theorem dX8_kept_90 : decode cX8_kept 90 = .ok (.iinc 6 1, 3) := by decide +kernel
theorem dX8_kept_93 : decode cX8_kept 93 = .ok (.goto (-34), 3) := by decide +kernel
theorem dX8_kept_96 : decode cX8_kept 96 = .ok (.bipush 13, 2) := by decide +kernel
theorem dX8_kept_98 : decode cX8_kept 98 = .ok (.ireturn, 1) := by decide +kernel
set_option maxRecDepth 20000 in
theorem ggX8_many_X8_noPart : GoodIn wsX8_many wsX8_noPart := goodIn_r _ [5] (by decide +kernel) (by decide +kernel)
set_option maxRecDepth 20000 in
theorem gX8_many_X8_noPart : GoodIn wsX8_many (va_wsS RX8 88 yX8_noPart wsX8_noPart) := goodIn_app (goodIn_of _ (by decide +kernel)) ggX8_many_X8_noPart
set_option maxRecDepth 20000 in
theorem ggX8_many_X8_refuseLong : GoodIn wsX8_many wsX8_refuseLong := goodIn_r _ [9, 10, 11, 12, 13, 4, 14, 15, 122, 123, 124, 125, 126, 127, 128, 129, 130] (by decide +kernel) (by decide +kernel)
set_option maxRecDepth 20000 in
theorem gX8_many_X8_refuseLong : GoodIn wsX8_many (wsV RX8 92 RX8 yX8_refuseLong wsX8_refuseLong) := goodIn_app (goodIn_of _ (by decide +kernel)) ggX8_many_X8_refuseLong
set_option maxRecDepth 20000 in
theorem ggX8_many_X8_ruleAt : GoodIn wsX8_many wsX8_ruleAt := goodIn_r _ [19, 20, 21, 22, 23, 24, 25, 26, 27, 28, 29, 30, 31, 32, 33, 34, 35, 36, 37, 38, 39, 40, 41, 42, 43, 44, 122, 123, 124, 125, 126, 127, 128, 129, 130, 131, 132, 133] (by decide +kernel) (by decide +kernel)
set_option maxRecDepth 20000 in
theorem gX8_many_X8_ruleAt : GoodIn wsX8_many (wsV RX8 143 RX8 yX8_ruleAt wsX8_ruleAt) := goodIn_app (goodIn_of _ (by decide +kernel)) ggX8_many_X8_ruleAt
set_option maxRecDepth 20000 in
theorem ggX8_many_X8_planAt : GoodIn wsX8_many wsX8_planAt := goodIn_r _ [48, 49, 50, 22, 23, 24, 25, 26, 27, 28, 29, 30, 31, 32, 33, 34, 35, 36, 37, 38, 39, 40, 41, 42, 43, 44, 122, 123, 124, 125, 126, 127, 128, 129, 130, 131, 132, 133] (by decide +kernel) (by decide +kernel)
set_option maxRecDepth 20000 in
theorem gX8_many_X8_planAt : GoodIn wsX8_many (wsV RX8 81 RX8 yX8_planAt wsX8_planAt) := goodIn_app (goodIn_of _ (by decide +kernel)) ggX8_many_X8_planAt
set_option maxRecDepth 20000 in
theorem ggX8_many_X8_heldBy : GoodIn wsX8_many wsX8_heldBy := goodIn_r _ [53, 54, 55, 56, 57, 58, 59, 60, 61, 4, 62, 63, 64, 65, 66, 67, 68, 69, 70, 71, 72, 73, 74, 75, 76, 77, 78, 79, 80, 81, 82, 83, 84, 85, 86, 87, 88, 89, 90, 91, 92, 93, 94, 95, 96, 97, 98, 118, 119, 120, 121, 134, 135, 136, 137, 138, 139, 140, 141] (by decide +kernel) (by decide +kernel)
set_option maxRecDepth 20000 in
theorem gX8_many_X8_heldBy : GoodIn wsX8_many (va_wsS RX8 151 yX8_heldBy wsX8_heldBy) := goodIn_app (goodIn_of _ (by decide +kernel)) ggX8_many_X8_heldBy
set_option maxRecDepth 20000 in
theorem ggX8_many_X0_all : GoodIn wsX8_many wsX0_all := goodIn_r _ [102, 103, 134, 135, 136, 137, 138] (by decide +kernel) (by decide +kernel)
set_option maxRecDepth 20000 in
theorem gX8_many_X0_all : GoodIn wsX8_many (wsV RX8 103 RX0 yX0_all wsX0_all) := goodIn_app (goodIn_of _ (by decide +kernel)) ggX8_many_X0_all
set_option maxRecDepth 20000 in
theorem ggX8_many_X2_partOf : GoodIn wsX8_many wsX2_partOf := goodIn_r _ [107, 108, 109, 106, 110, 111, 112, 113, 114] (by decide +kernel) (by decide +kernel)
set_option maxRecDepth 20000 in
theorem gX8_many_X2_partOf : GoodIn wsX8_many (va_wsS RX8 107 yX2_partOf wsX2_partOf) := goodIn_app (goodIn_of _ (by decide +kernel)) ggX8_many_X2_partOf
set_option maxRecDepth 20000 in
theorem ggX8_many_X2_power : GoodIn wsX8_many wsX2_power := goodIn_r _ [117] (by decide +kernel) (by decide +kernel)
set_option maxRecDepth 20000 in
theorem gX8_many_X2_power : GoodIn wsX8_many (va_wsS RX8 175 yX2_power wsX2_power) := goodIn_app (goodIn_of _ (by decide +kernel)) ggX8_many_X2_power
theorem dX8_many_0 : decode cX8_many 0 = .ok (.iload 4, 2) := by decide +kernel
theorem dX8_many_2 : decode cX8_many 2 = .ok (.invokestatic 88, 3) := by decide +kernel
theorem dX8_many_5 : decode cX8_many 5 = .ok (.ifCond .eq 10, 3) := by decide +kernel
theorem dX8_many_8 : decode cX8_many 8 = .ok (.aload_n 0, 1) := by decide +kernel
theorem dX8_many_9 : decode cX8_many 9 = .ok (.bipush (-2), 2) := by decide +kernel
theorem dX8_many_11 : decode cX8_many 11 = .ok (.invokevirtual 92, 3) := by decide +kernel
theorem dX8_many_14 : decode cX8_many 14 = .ok (.lreturn, 1) := by decide +kernel
theorem dX8_many_15 : decode cX8_many 15 = .ok (.aload_n 0, 1) := by decide +kernel
theorem dX8_many_16 : decode cX8_many 16 = .ok (.iload_n 1, 1) := by decide +kernel
theorem dX8_many_17 : decode cX8_many 17 = .ok (.invokevirtual 143, 3) := by decide +kernel
theorem dX8_many_20 : decode cX8_many 20 = .ok (.astore 5, 2) := by decide +kernel
theorem dX8_many_22 : decode cX8_many 22 = .ok (.aload_n 0, 1) := by decide +kernel
theorem dX8_many_23 : decode cX8_many 23 = .ok (.iload_n 2, 1) := by decide +kernel
theorem dX8_many_24 : decode cX8_many 24 = .ok (.invokevirtual 81, 3) := by decide +kernel
theorem dX8_many_27 : decode cX8_many 27 = .ok (.astore 6, 2) := by decide +kernel
theorem dX8_many_29 : decode cX8_many 29 = .ok (.aload 5, 2) := by decide +kernel
theorem dX8_many_31 : decode cX8_many 31 = .ok (.ifnull 8, 3) := by decide +kernel
theorem dX8_many_34 : decode cX8_many 34 = .ok (.aload 6, 2) := by decide +kernel
theorem dX8_many_36 : decode cX8_many 36 = .ok (.ifnonnull 9, 3) := by decide +kernel
theorem dX8_many_39 : decode cX8_many 39 = .ok (.aload_n 0, 1) := by decide +kernel
theorem dX8_many_40 : decode cX8_many 40 = .ok (.iconst (-1), 1) := by decide +kernel
theorem dX8_many_41 : decode cX8_many 41 = .ok (.invokevirtual 92, 3) := by decide +kernel
theorem dX8_many_44 : decode cX8_many 44 = .ok (.lreturn, 1) := by decide +kernel
theorem dX8_many_45 : decode cX8_many 45 = .ok (.iload_n 3, 1) := by decide +kernel
theorem dX8_many_46 : decode cX8_many 46 = .ok (.iconst 1, 1) := by decide +kernel
theorem dX8_many_47 : decode cX8_many 47 = .ok (.if_icmp .ge 10, 3) := by decide +kernel
theorem dX8_many_50 : decode cX8_many 50 = .ok (.aload_n 0, 1) := by decide +kernel
theorem dX8_many_51 : decode cX8_many 51 = .ok (.bipush (-4), 2) := by decide +kernel
theorem dX8_many_53 : decode cX8_many 53 = .ok (.invokevirtual 92, 3) := by decide +kernel
theorem dX8_many_56 : decode cX8_many 56 = .ok (.lreturn, 1) := by decide +kernel
theorem dX8_many_57 : decode cX8_many 57 = .ok (.iload_n 3, 1) := by decide +kernel
theorem dX8_many_58 : decode cX8_many 58 = .ok (.iconst 4, 1) := by decide +kernel
theorem dX8_many_59 : decode cX8_many 59 = .ok (.if_icmp .le 10, 3) := by decide +kernel
theorem dX8_many_62 : decode cX8_many 62 = .ok (.aload_n 0, 1) := by decide +kernel
theorem dX8_many_63 : decode cX8_many 63 = .ok (.bipush (-6), 2) := by decide +kernel
theorem dX8_many_65 : decode cX8_many 65 = .ok (.invokevirtual 92, 3) := by decide +kernel
theorem dX8_many_68 : decode cX8_many 68 = .ok (.lreturn, 1) := by decide +kernel
theorem dX8_many_69 : decode cX8_many 69 = .ok (.aload 5, 2) := by decide +kernel
theorem dX8_many_71 : decode cX8_many 71 = .ok (.aload 6, 2) := by decide +kernel
theorem dX8_many_73 : decode cX8_many 73 = .ok (.aload 6, 2) := by decide +kernel
theorem dX8_many_75 : decode cX8_many 75 = .ok (.getfield 155, 3) := by decide +kernel
theorem dX8_many_78 : decode cX8_many 78 = .ok (.invokestatic 151, 3) := by decide +kernel
theorem dX8_many_81 : decode cX8_many 81 = .ok (.lstore 7, 2) := by decide +kernel
theorem dX8_many_83 : decode cX8_many 83 = .ok (.lload 7, 2) := by decide +kernel
theorem dX8_many_85 : decode cX8_many 85 = .ok (.aload 6, 2) := by decide +kernel
theorem dX8_many_87 : decode cX8_many 87 = .ok (.getfield 155, 3) := by decide +kernel
theorem dX8_many_90 : decode cX8_many 90 = .ok (.invokevirtual 103, 3) := by decide +kernel
theorem dX8_many_93 : decode cX8_many 93 = .ok (.iconst 0, 1) := by decide +kernel
theorem dX8_many_94 : decode cX8_many 94 = .ok (.invokestatic 107, 3) := by decide +kernel
theorem dX8_many_97 : decode cX8_many 97 = .ok (.lstore 9, 2) := by decide +kernel
theorem dX8_many_99 : decode cX8_many 99 = .ok (.lload 7, 2) := by decide +kernel
theorem dX8_many_101 : decode cX8_many 101 = .ok (.aload 6, 2) := by decide +kernel
theorem dX8_many_103 : decode cX8_many 103 = .ok (.getfield 155, 3) := by decide +kernel
theorem dX8_many_106 : decode cX8_many 106 = .ok (.invokevirtual 103, 3) := by decide +kernel
theorem dX8_many_109 : decode cX8_many 109 = .ok (.iconst 1, 1) := by decide +kernel
theorem dX8_many_110 : decode cX8_many 110 = .ok (.invokestatic 107, 3) := by decide +kernel
theorem dX8_many_113 : decode cX8_many 113 = .ok (.lstore 11, 2) := by decide +kernel
theorem dX8_many_115 : decode cX8_many 115 = .ok (.lload 11, 2) := by decide +kernel
theorem dX8_many_117 : decode cX8_many 117 = .ok (.iload_n 3, 1) := by decide +kernel
theorem dX8_many_118 : decode cX8_many 118 = .ok (.invokestatic 175, 3) := by decide +kernel
theorem dX8_many_121 : decode cX8_many 121 = .ok (.lstore 13, 2) := by decide +kernel
theorem dX8_many_123 : decode cX8_many 123 = .ok (.lload 13, 2) := by decide +kernel
theorem dX8_many_125 : decode cX8_many 125 = .ok (.lload 11, 2) := by decide +kernel
theorem dX8_many_127 : decode cX8_many 127 = .ok (.lload 9, 2) := by decide +kernel
theorem dX8_many_129 : decode cX8_many 129 = .ok (.lsub, 1) := by decide +kernel
theorem dX8_many_130 : decode cX8_many 130 = .ok (.iload_n 3, 1) := by decide +kernel
theorem dX8_many_131 : decode cX8_many 131 = .ok (.invokestatic 175, 3) := by decide +kernel
theorem dX8_many_134 : decode cX8_many 134 = .ok (.lsub, 1) := by decide +kernel
theorem dX8_many_135 : decode cX8_many 135 = .ok (.lload 13, 2) := by decide +kernel
theorem dX8_many_137 : decode cX8_many 137 = .ok (.iload 4, 2) := by decide +kernel
theorem dX8_many_139 : decode cX8_many 139 = .ok (.invokestatic 107, 3) := by decide +kernel
theorem dX8_many_142 : decode cX8_many 142 = .ok (.lreturn, 1) := by decide +kernel
set_option maxRecDepth 20000 in
theorem ggX8_gain_X8_noPart : GoodIn wsX8_gain wsX8_noPart := goodIn_r _ [7] (by decide +kernel) (by decide +kernel)
set_option maxRecDepth 20000 in
theorem gX8_gain_X8_noPart : GoodIn wsX8_gain (va_wsS RX8 88 yX8_noPart wsX8_noPart) := goodIn_app (goodIn_of _ (by decide +kernel)) ggX8_gain_X8_noPart
set_option maxRecDepth 20000 in
theorem ggX8_gain_X8_refuseLong : GoodIn wsX8_gain wsX8_refuseLong := goodIn_r _ [11, 12, 13, 14, 15, 6, 16, 17, 139, 140, 141, 142, 143, 144, 145, 146, 147] (by decide +kernel) (by decide +kernel)
set_option maxRecDepth 20000 in
theorem gX8_gain_X8_refuseLong : GoodIn wsX8_gain (wsV RX8 92 RX8 yX8_refuseLong wsX8_refuseLong) := goodIn_app (goodIn_of _ (by decide +kernel)) ggX8_gain_X8_refuseLong
set_option maxRecDepth 20000 in
theorem ggX8_gain_X8_planAt : GoodIn wsX8_gain wsX8_planAt := goodIn_r _ [21, 22, 23, 24, 25, 26, 27, 28, 29, 30, 31, 32, 33, 34, 35, 36, 37, 38, 39, 40, 41, 42, 43, 44, 45, 46, 139, 140, 141, 142, 143, 144, 145, 146, 147, 148, 149, 150] (by decide +kernel) (by decide +kernel)
set_option maxRecDepth 20000 in
theorem gX8_gain_X8_planAt : GoodIn wsX8_gain (wsV RX8 81 RX8 yX8_planAt wsX8_planAt) := goodIn_app (goodIn_of _ (by decide +kernel)) ggX8_gain_X8_planAt
set_option maxRecDepth 20000 in
theorem ggX8_gain_X8_endsOf : GoodIn wsX8_gain wsX8_endsOf := goodIn_r _ [50, 51, 52, 1, 3, 53, 54, 55, 56, 57, 58, 59, 60, 61, 62, 63, 64, 65, 66, 67, 68, 69, 6, 70, 71, 72, 73, 74, 75, 76, 77, 78, 79, 80, 81, 82, 83, 84, 85, 86, 87, 88, 89, 90, 91, 92, 93, 94, 95, 96, 97, 98, 99, 100, 101, 102, 103, 104, 105, 106, 107, 108, 109, 110, 111, 112, 113, 114, 115, 116, 117, 135, 136, 137, 138, 139, 140, 141, 142, 143, 144, 145, 146, 147, 151, 152, 153, 154, 155] (by decide +kernel) (by decide +kernel)
set_option maxRecDepth 20000 in
theorem gX8_gain_X8_endsOf : GoodIn wsX8_gain (wsV RX8 96 RX8 yX8_endsOf wsX8_endsOf) := goodIn_app (goodIn_of _ (by decide +kernel)) ggX8_gain_X8_endsOf
set_option maxRecDepth 20000 in
theorem ggX8_gain_X0_all : GoodIn wsX8_gain wsX0_all := goodIn_r _ [121, 61, 151, 152, 153, 154, 155] (by decide +kernel) (by decide +kernel)
set_option maxRecDepth 20000 in
theorem gX8_gain_X0_all : GoodIn wsX8_gain (wsV RX8 103 RX0 yX0_all wsX0_all) := goodIn_app (goodIn_of _ (by decide +kernel)) ggX8_gain_X0_all
set_option maxRecDepth 20000 in
theorem ggX8_gain_X0_together : GoodIn wsX8_gain wsX0_together := goodIn_r _ [125, 59, 151, 152, 153, 154, 155] (by decide +kernel) (by decide +kernel)
set_option maxRecDepth 20000 in
theorem gX8_gain_X0_together : GoodIn wsX8_gain (wsV RX8 116 RX0 yX0_together wsX0_together) := goodIn_app (goodIn_of _ (by decide +kernel)) ggX8_gain_X0_together
set_option maxRecDepth 20000 in
theorem ggX8_gain_X2_partOf : GoodIn wsX8_gain wsX2_partOf := goodIn_r _ [128, 129, 130, 76, 131, 132, 133, 112, 134] (by decide +kernel) (by decide +kernel)
set_option maxRecDepth 20000 in
theorem gX8_gain_X2_partOf : GoodIn wsX8_gain (va_wsS RX8 107 yX2_partOf wsX2_partOf) := goodIn_app (goodIn_of _ (by decide +kernel)) ggX8_gain_X2_partOf
theorem dX8_gain_0 : decode cX8_gain 0 = .ok (.iload_n 3, 1) := by decide +kernel
theorem dX8_gain_1 : decode cX8_gain 1 = .ok (.invokestatic 88, 3) := by decide +kernel
theorem dX8_gain_4 : decode cX8_gain 4 = .ok (.ifCond .eq 10, 3) := by decide +kernel
theorem dX8_gain_7 : decode cX8_gain 7 = .ok (.aload_n 0, 1) := by decide +kernel
theorem dX8_gain_8 : decode cX8_gain 8 = .ok (.bipush (-2), 2) := by decide +kernel
theorem dX8_gain_10 : decode cX8_gain 10 = .ok (.invokevirtual 92, 3) := by decide +kernel
theorem dX8_gain_13 : decode cX8_gain 13 = .ok (.lreturn, 1) := by decide +kernel
theorem dX8_gain_14 : decode cX8_gain 14 = .ok (.aload_n 0, 1) := by decide +kernel
theorem dX8_gain_15 : decode cX8_gain 15 = .ok (.iload_n 1, 1) := by decide +kernel
theorem dX8_gain_16 : decode cX8_gain 16 = .ok (.invokevirtual 81, 3) := by decide +kernel
theorem dX8_gain_19 : decode cX8_gain 19 = .ok (.astore 4, 2) := by decide +kernel
theorem dX8_gain_21 : decode cX8_gain 21 = .ok (.aload 4, 2) := by decide +kernel
theorem dX8_gain_23 : decode cX8_gain 23 = .ok (.ifnonnull 9, 3) := by decide +kernel
theorem dX8_gain_26 : decode cX8_gain 26 = .ok (.aload_n 0, 1) := by decide +kernel
theorem dX8_gain_27 : decode cX8_gain 27 = .ok (.iconst (-1), 1) := by decide +kernel
theorem dX8_gain_28 : decode cX8_gain 28 = .ok (.invokevirtual 92, 3) := by decide +kernel
theorem dX8_gain_31 : decode cX8_gain 31 = .ok (.lreturn, 1) := by decide +kernel
theorem dX8_gain_32 : decode cX8_gain 32 = .ok (.aload 4, 2) := by decide +kernel
theorem dX8_gain_34 : decode cX8_gain 34 = .ok (.getfield 179, 3) := by decide +kernel
theorem dX8_gain_37 : decode cX8_gain 37 = .ok (.iconst 1, 1) := by decide +kernel
theorem dX8_gain_38 : decode cX8_gain 38 = .ok (.if_icmp .eq 10, 3) := by decide +kernel
theorem dX8_gain_41 : decode cX8_gain 41 = .ok (.aload_n 0, 1) := by decide +kernel
theorem dX8_gain_42 : decode cX8_gain 42 = .ok (.bipush (-3), 2) := by decide +kernel
theorem dX8_gain_44 : decode cX8_gain 44 = .ok (.invokevirtual 92, 3) := by decide +kernel
theorem dX8_gain_47 : decode cX8_gain 47 = .ok (.lreturn, 1) := by decide +kernel
theorem dX8_gain_48 : decode cX8_gain 48 = .ok (.iload_n 2, 1) := by decide +kernel
theorem dX8_gain_49 : decode cX8_gain 49 = .ok (.ifCond .ge 10, 3) := by decide +kernel
theorem dX8_gain_52 : decode cX8_gain 52 = .ok (.aload_n 0, 1) := by decide +kernel
theorem dX8_gain_53 : decode cX8_gain 53 = .ok (.bipush (-4), 2) := by decide +kernel
theorem dX8_gain_55 : decode cX8_gain 55 = .ok (.invokevirtual 92, 3) := by decide +kernel
theorem dX8_gain_58 : decode cX8_gain 58 = .ok (.lreturn, 1) := by decide +kernel
theorem dX8_gain_59 : decode cX8_gain 59 = .ok (.iload_n 2, 1) := by decide +kernel
theorem dX8_gain_60 : decode cX8_gain 60 = .ok (.bipush 10, 2) := by decide +kernel
theorem dX8_gain_62 : decode cX8_gain 62 = .ok (.if_icmp .le 10, 3) := by decide +kernel
theorem dX8_gain_65 : decode cX8_gain 65 = .ok (.aload_n 0, 1) := by decide +kernel
theorem dX8_gain_66 : decode cX8_gain 66 = .ok (.bipush (-6), 2) := by decide +kernel
theorem dX8_gain_68 : decode cX8_gain 68 = .ok (.invokevirtual 92, 3) := by decide +kernel
theorem dX8_gain_71 : decode cX8_gain 71 = .ok (.lreturn, 1) := by decide +kernel
theorem dX8_gain_72 : decode cX8_gain 72 = .ok (.aload_n 0, 1) := by decide +kernel
theorem dX8_gain_73 : decode cX8_gain 73 = .ok (.aload 4, 2) := by decide +kernel
theorem dX8_gain_75 : decode cX8_gain 75 = .ok (.iload_n 2, 1) := by decide +kernel
theorem dX8_gain_76 : decode cX8_gain 76 = .ok (.invokevirtual 96, 3) := by decide +kernel
theorem dX8_gain_79 : decode cX8_gain 79 = .ok (.astore 5, 2) := by decide +kernel
theorem dX8_gain_81 : decode cX8_gain 81 = .ok (.aload 5, 2) := by decide +kernel
theorem dX8_gain_83 : decode cX8_gain 83 = .ok (.invokevirtual 103, 3) := by decide +kernel
theorem dX8_gain_86 : decode cX8_gain 86 = .ok (.ldc2_w 173, 3) := by decide +kernel
theorem dX8_gain_89 : decode cX8_gain 89 = .ok (.ldiv, 1) := by decide +kernel
theorem dX8_gain_90 : decode cX8_gain 90 = .ok (.iload_n 2, 1) := by decide +kernel
theorem dX8_gain_91 : decode cX8_gain 91 = .ok (.i2l, 1) := by decide +kernel
theorem dX8_gain_92 : decode cX8_gain 92 = .ok (.lmul, 1) := by decide +kernel
theorem dX8_gain_93 : decode cX8_gain 93 = .ok (.aload 4, 2) := by decide +kernel
theorem dX8_gain_95 : decode cX8_gain 95 = .ok (.getfield 182, 3) := by decide +kernel
theorem dX8_gain_98 : decode cX8_gain 98 = .ok (.i2l, 1) := by decide +kernel
theorem dX8_gain_99 : decode cX8_gain 99 = .ok (.lmul, 1) := by decide +kernel
theorem dX8_gain_100 : decode cX8_gain 100 = .ok (.lstore 6, 2) := by decide +kernel
theorem dX8_gain_102 : decode cX8_gain 102 = .ok (.aload 5, 2) := by decide +kernel
theorem dX8_gain_104 : decode cX8_gain 104 = .ok (.invokevirtual 116, 3) := by decide +kernel
theorem dX8_gain_107 : decode cX8_gain 107 = .ok (.lload 6, 2) := by decide +kernel
theorem dX8_gain_109 : decode cX8_gain 109 = .ok (.lsub, 1) := by decide +kernel
theorem dX8_gain_110 : decode cX8_gain 110 = .ok (.aload 5, 2) := by decide +kernel
theorem dX8_gain_112 : decode cX8_gain 112 = .ok (.invokevirtual 103, 3) := by decide +kernel
theorem dX8_gain_115 : decode cX8_gain 115 = .ok (.iload_n 3, 1) := by decide +kernel
theorem dX8_gain_116 : decode cX8_gain 116 = .ok (.invokestatic 107, 3) := by decide +kernel
theorem dX8_gain_119 : decode cX8_gain 119 = .ok (.lreturn, 1) := by decide +kernel
set_option maxRecDepth 20000 in
theorem ggX8_belief_X8_noPart : GoodIn wsX8_belief wsX8_noPart := goodIn_r _ [5] (by decide +kernel) (by decide +kernel)
set_option maxRecDepth 20000 in
theorem gX8_belief_X8_noPart : GoodIn wsX8_belief (va_wsS RX8 88 yX8_noPart wsX8_noPart) := goodIn_app (goodIn_of _ (by decide +kernel)) ggX8_belief_X8_noPart
set_option maxRecDepth 20000 in
theorem ggX8_belief_X8_refuseLong : GoodIn wsX8_belief wsX8_refuseLong := goodIn_r _ [9, 10, 11, 12, 13, 4, 14, 15, 141, 142, 143, 144, 145, 146, 147, 148, 149] (by decide +kernel) (by decide +kernel)
set_option maxRecDepth 20000 in
theorem gX8_belief_X8_refuseLong : GoodIn wsX8_belief (wsV RX8 92 RX8 yX8_refuseLong wsX8_refuseLong) := goodIn_app (goodIn_of _ (by decide +kernel)) ggX8_belief_X8_refuseLong
set_option maxRecDepth 20000 in
theorem ggX8_belief_X8_planAt : GoodIn wsX8_belief wsX8_planAt := goodIn_r _ [19, 20, 21, 22, 23, 24, 25, 26, 27, 28, 29, 30, 31, 32, 33, 34, 35, 36, 37, 38, 39, 40, 41, 42, 43, 44, 141, 142, 143, 144, 145, 146, 147, 148, 149, 150, 151, 152] (by decide +kernel) (by decide +kernel)
set_option maxRecDepth 20000 in
theorem gX8_belief_X8_planAt : GoodIn wsX8_belief (wsV RX8 81 RX8 yX8_planAt wsX8_planAt) := goodIn_app (goodIn_of _ (by decide +kernel)) ggX8_belief_X8_planAt
set_option maxRecDepth 20000 in
theorem ggX8_belief_X3_most : GoodIn wsX8_belief wsX3_most := goodIn_r _ [49, 50, 51, 52, 4, 53, 137, 138, 139, 140] (by decide +kernel) (by decide +kernel)
set_option maxRecDepth 20000 in
theorem gX8_belief_X3_most : GoodIn wsX8_belief (wsV RX8 85 RX3 yX3_most wsX3_most) := goodIn_app (goodIn_of _ (by decide +kernel)) ggX8_belief_X3_most
set_option maxRecDepth 20000 in
theorem ggX8_belief_X8_endsOf : GoodIn wsX8_belief wsX8_endsOf := goodIn_r _ [57, 1, 58, 59, 60, 61, 62, 63, 64, 65, 66, 67, 68, 69, 70, 71, 72, 73, 74, 75, 76, 52, 4, 53, 77, 78, 79, 80, 81, 82, 83, 84, 85, 86, 87, 88, 89, 90, 91, 92, 93, 94, 95, 96, 97, 98, 99, 100, 101, 102, 103, 104, 105, 106, 107, 108, 109, 110, 111, 112, 113, 114, 115, 116, 117, 118, 119, 120, 121, 122, 123, 137, 138, 139, 140, 141, 142, 143, 144, 145, 146, 147, 148, 149, 153, 154, 155, 156, 157] (by decide +kernel) (by decide +kernel)
set_option maxRecDepth 20000 in
theorem gX8_belief_X8_endsOf : GoodIn wsX8_belief (wsV RX8 96 RX8 yX8_endsOf wsX8_endsOf) := goodIn_app (goodIn_of _ (by decide +kernel)) ggX8_belief_X8_endsOf
set_option maxRecDepth 20000 in
theorem ggX8_belief_X0_just : GoodIn wsX8_belief wsX0_just := goodIn_r _ [127, 67, 153, 154, 155, 156, 157] (by decide +kernel) (by decide +kernel)
set_option maxRecDepth 20000 in
theorem gX8_belief_X0_just : GoodIn wsX8_belief (wsV RX8 100 RX0 yX0_just wsX0_just) := goodIn_app (goodIn_of _ (by decide +kernel)) ggX8_belief_X0_just
set_option maxRecDepth 20000 in
theorem ggX8_belief_X2_partOf : GoodIn wsX8_belief wsX2_partOf := goodIn_r _ [130, 131, 132, 82, 133, 134, 135, 118, 136] (by decide +kernel) (by decide +kernel)
set_option maxRecDepth 20000 in
theorem gX8_belief_X2_partOf : GoodIn wsX8_belief (va_wsS RX8 107 yX2_partOf wsX2_partOf) := goodIn_app (goodIn_of _ (by decide +kernel)) ggX8_belief_X2_partOf
theorem dX8_belief_0 : decode cX8_belief 0 = .ok (.iload 5, 2) := by decide +kernel
theorem dX8_belief_2 : decode cX8_belief 2 = .ok (.bipush 10, 2) := by decide +kernel
theorem dX8_belief_4 : decode cX8_belief 4 = .ok (.idiv, 1) := by decide +kernel
theorem dX8_belief_5 : decode cX8_belief 5 = .ok (.istore 6, 2) := by decide +kernel
theorem dX8_belief_7 : decode cX8_belief 7 = .ok (.iload 5, 2) := by decide +kernel
theorem dX8_belief_9 : decode cX8_belief 9 = .ok (.bipush 10, 2) := by decide +kernel
theorem dX8_belief_11 : decode cX8_belief 11 = .ok (.irem, 1) := by decide +kernel
theorem dX8_belief_12 : decode cX8_belief 12 = .ok (.istore 7, 2) := by decide +kernel
theorem dX8_belief_14 : decode cX8_belief 14 = .ok (.iload 7, 2) := by decide +kernel
theorem dX8_belief_16 : decode cX8_belief 16 = .ok (.invokestatic 88, 3) := by decide +kernel
theorem dX8_belief_19 : decode cX8_belief 19 = .ok (.ifCond .eq 10, 3) := by decide +kernel
theorem dX8_belief_22 : decode cX8_belief 22 = .ok (.aload_n 0, 1) := by decide +kernel
theorem dX8_belief_23 : decode cX8_belief 23 = .ok (.bipush (-2), 2) := by decide +kernel
theorem dX8_belief_25 : decode cX8_belief 25 = .ok (.invokevirtual 92, 3) := by decide +kernel
theorem dX8_belief_28 : decode cX8_belief 28 = .ok (.lreturn, 1) := by decide +kernel
theorem dX8_belief_29 : decode cX8_belief 29 = .ok (.aload_n 0, 1) := by decide +kernel
theorem dX8_belief_30 : decode cX8_belief 30 = .ok (.iload_n 1, 1) := by decide +kernel
theorem dX8_belief_31 : decode cX8_belief 31 = .ok (.invokevirtual 81, 3) := by decide +kernel
theorem dX8_belief_34 : decode cX8_belief 34 = .ok (.astore 8, 2) := by decide +kernel
theorem dX8_belief_36 : decode cX8_belief 36 = .ok (.aload 8, 2) := by decide +kernel
theorem dX8_belief_38 : decode cX8_belief 38 = .ok (.ifnonnull 9, 3) := by decide +kernel
theorem dX8_belief_41 : decode cX8_belief 41 = .ok (.aload_n 0, 1) := by decide +kernel
theorem dX8_belief_42 : decode cX8_belief 42 = .ok (.iconst (-1), 1) := by decide +kernel
theorem dX8_belief_43 : decode cX8_belief 43 = .ok (.invokevirtual 92, 3) := by decide +kernel
theorem dX8_belief_46 : decode cX8_belief 46 = .ok (.lreturn, 1) := by decide +kernel
theorem dX8_belief_47 : decode cX8_belief 47 = .ok (.iload_n 2, 1) := by decide +kernel
theorem dX8_belief_48 : decode cX8_belief 48 = .ok (.ifCond .lt 17, 3) := by decide +kernel
theorem dX8_belief_51 : decode cX8_belief 51 = .ok (.iload_n 3, 1) := by decide +kernel
theorem dX8_belief_52 : decode cX8_belief 52 = .ok (.ifCond .lt 13, 3) := by decide +kernel
theorem dX8_belief_55 : decode cX8_belief 55 = .ok (.iload 4, 2) := by decide +kernel
theorem dX8_belief_57 : decode cX8_belief 57 = .ok (.ifCond .lt 8, 3) := by decide +kernel
theorem dX8_belief_60 : decode cX8_belief 60 = .ok (.iload 6, 2) := by decide +kernel
theorem dX8_belief_62 : decode cX8_belief 62 = .ok (.ifCond .ge 10, 3) := by decide +kernel
theorem dX8_belief_65 : decode cX8_belief 65 = .ok (.aload_n 0, 1) := by decide +kernel
theorem dX8_belief_66 : decode cX8_belief 66 = .ok (.bipush (-4), 2) := by decide +kernel
theorem dX8_belief_68 : decode cX8_belief 68 = .ok (.invokevirtual 92, 3) := by decide +kernel
theorem dX8_belief_71 : decode cX8_belief 71 = .ok (.lreturn, 1) := by decide +kernel
theorem dX8_belief_72 : decode cX8_belief 72 = .ok (.iload_n 2, 1) := by decide +kernel
theorem dX8_belief_73 : decode cX8_belief 73 = .ok (.bipush 99, 2) := by decide +kernel
theorem dX8_belief_75 : decode cX8_belief 75 = .ok (.if_icmp .gt 9, 3) := by decide +kernel
theorem dX8_belief_78 : decode cX8_belief 78 = .ok (.iload_n 3, 1) := by decide +kernel
theorem dX8_belief_79 : decode cX8_belief 79 = .ok (.bipush 99, 2) := by decide +kernel
theorem dX8_belief_81 : decode cX8_belief 81 = .ok (.if_icmp .le 10, 3) := by decide +kernel
theorem dX8_belief_84 : decode cX8_belief 84 = .ok (.aload_n 0, 1) := by decide +kernel
theorem dX8_belief_85 : decode cX8_belief 85 = .ok (.bipush (-6), 2) := by decide +kernel
theorem dX8_belief_87 : decode cX8_belief 87 = .ok (.invokevirtual 92, 3) := by decide +kernel
theorem dX8_belief_90 : decode cX8_belief 90 = .ok (.lreturn, 1) := by decide +kernel
theorem dX8_belief_91 : decode cX8_belief 91 = .ok (.iload 4, 2) := by decide +kernel
theorem dX8_belief_93 : decode cX8_belief 93 = .ok (.bipush 10, 2) := by decide +kernel
theorem dX8_belief_95 : decode cX8_belief 95 = .ok (.if_icmp .gt 13, 3) := by decide +kernel
theorem dX8_belief_98 : decode cX8_belief 98 = .ok (.iload 6, 2) := by decide +kernel
theorem dX8_belief_100 : decode cX8_belief 100 = .ok (.aload 8, 2) := by decide +kernel
theorem dX8_belief_102 : decode cX8_belief 102 = .ok (.invokevirtual 85, 3) := by decide +kernel
theorem dX8_belief_105 : decode cX8_belief 105 = .ok (.if_icmp .le 10, 3) := by decide +kernel
theorem dX8_belief_108 : decode cX8_belief 108 = .ok (.aload_n 0, 1) := by decide +kernel
theorem dX8_belief_109 : decode cX8_belief 109 = .ok (.bipush (-6), 2) := by decide +kernel
theorem dX8_belief_111 : decode cX8_belief 111 = .ok (.invokevirtual 92, 3) := by decide +kernel
theorem dX8_belief_114 : decode cX8_belief 114 = .ok (.lreturn, 1) := by decide +kernel
theorem dX8_belief_115 : decode cX8_belief 115 = .ok (.iload_n 3, 1) := by decide +kernel
theorem dX8_belief_116 : decode cX8_belief 116 = .ok (.i2l, 1) := by decide +kernel
theorem dX8_belief_117 : decode cX8_belief 117 = .ok (.aload_n 0, 1) := by decide +kernel
theorem dX8_belief_118 : decode cX8_belief 118 = .ok (.aload 8, 2) := by decide +kernel
theorem dX8_belief_120 : decode cX8_belief 120 = .ok (.iload 4, 2) := by decide +kernel
theorem dX8_belief_122 : decode cX8_belief 122 = .ok (.invokevirtual 96, 3) := by decide +kernel
theorem dX8_belief_125 : decode cX8_belief 125 = .ok (.iload 6, 2) := by decide +kernel
theorem dX8_belief_127 : decode cX8_belief 127 = .ok (.invokevirtual 100, 3) := by decide +kernel
theorem dX8_belief_130 : decode cX8_belief 130 = .ok (.lmul, 1) := by decide +kernel
theorem dX8_belief_131 : decode cX8_belief 131 = .ok (.lstore 9, 2) := by decide +kernel
theorem dX8_belief_133 : decode cX8_belief 133 = .ok (.iload_n 2, 1) := by decide +kernel
theorem dX8_belief_134 : decode cX8_belief 134 = .ok (.i2l, 1) := by decide +kernel
theorem dX8_belief_135 : decode cX8_belief 135 = .ok (.aload 8, 2) := by decide +kernel
theorem dX8_belief_137 : decode cX8_belief 137 = .ok (.getfield 155, 3) := by decide +kernel
theorem dX8_belief_140 : decode cX8_belief 140 = .ok (.iload 6, 2) := by decide +kernel
theorem dX8_belief_142 : decode cX8_belief 142 = .ok (.invokevirtual 100, 3) := by decide +kernel
theorem dX8_belief_145 : decode cX8_belief 145 = .ok (.lmul, 1) := by decide +kernel
theorem dX8_belief_146 : decode cX8_belief 146 = .ok (.lload 9, 2) := by decide +kernel
theorem dX8_belief_148 : decode cX8_belief 148 = .ok (.ladd, 1) := by decide +kernel
theorem dX8_belief_149 : decode cX8_belief 149 = .ok (.lstore 11, 2) := by decide +kernel
theorem dX8_belief_151 : decode cX8_belief 151 = .ok (.lload 11, 2) := by decide +kernel
theorem dX8_belief_153 : decode cX8_belief 153 = .ok (.lconst 0, 1) := by decide +kernel
theorem dX8_belief_154 : decode cX8_belief 154 = .ok (.lcmp, 1) := by decide +kernel
theorem dX8_belief_155 : decode cX8_belief 155 = .ok (.ifCond .ne 10, 3) := by decide +kernel
theorem dX8_belief_158 : decode cX8_belief 158 = .ok (.aload_n 0, 1) := by decide +kernel
theorem dX8_belief_159 : decode cX8_belief 159 = .ok (.bipush (-3), 2) := by decide +kernel
theorem dX8_belief_161 : decode cX8_belief 161 = .ok (.invokevirtual 92, 3) := by decide +kernel
theorem dX8_belief_164 : decode cX8_belief 164 = .ok (.lreturn, 1) := by decide +kernel
theorem dX8_belief_165 : decode cX8_belief 165 = .ok (.lload 9, 2) := by decide +kernel
theorem dX8_belief_167 : decode cX8_belief 167 = .ok (.lload 11, 2) := by decide +kernel
theorem dX8_belief_169 : decode cX8_belief 169 = .ok (.iload 7, 2) := by decide +kernel
theorem dX8_belief_171 : decode cX8_belief 171 = .ok (.invokestatic 107, 3) := by decide +kernel
theorem dX8_belief_174 : decode cX8_belief 174 = .ok (.lreturn, 1) := by decide +kernel
set_option maxRecDepth 20000 in
theorem ggX8_letter_X8_noPart : GoodIn wsX8_letter wsX8_noPart := goodIn_r _ [8] (by decide +kernel) (by decide +kernel)
set_option maxRecDepth 20000 in
theorem gX8_letter_X8_noPart : GoodIn wsX8_letter (va_wsS RX8 88 yX8_noPart wsX8_noPart) := goodIn_app (goodIn_of _ (by decide +kernel)) ggX8_letter_X8_noPart
set_option maxRecDepth 20000 in
theorem ggX8_letter_X8_refuseLong : GoodIn wsX8_letter wsX8_refuseLong := goodIn_r _ [12, 13, 14, 15, 16, 7, 17, 18, 120, 121, 122, 123, 124, 125, 126, 127, 128] (by decide +kernel) (by decide +kernel)
set_option maxRecDepth 20000 in
theorem gX8_letter_X8_refuseLong : GoodIn wsX8_letter (wsV RX8 92 RX8 yX8_refuseLong wsX8_refuseLong) := goodIn_app (goodIn_of _ (by decide +kernel)) ggX8_letter_X8_refuseLong
set_option maxRecDepth 20000 in
theorem ggX8_letter_X8_ruleAt : GoodIn wsX8_letter wsX8_ruleAt := goodIn_r _ [22, 23, 24, 25, 26, 27, 28, 29, 30, 31, 32, 33, 34, 35, 36, 37, 38, 39, 40, 41, 42, 43, 44, 45, 46, 47, 120, 121, 122, 123, 124, 125, 126, 127, 128, 133, 134, 135] (by decide +kernel) (by decide +kernel)
set_option maxRecDepth 20000 in
theorem gX8_letter_X8_ruleAt : GoodIn wsX8_letter (wsV RX8 143 RX8 yX8_ruleAt wsX8_ruleAt) := goodIn_app (goodIn_of _ (by decide +kernel)) ggX8_letter_X8_ruleAt
set_option maxRecDepth 20000 in
theorem ggX8_letter_X8_planAt : GoodIn wsX8_letter wsX8_planAt := goodIn_r _ [51, 1, 2, 25, 26, 27, 28, 29, 30, 31, 32, 33, 34, 35, 36, 37, 38, 39, 40, 41, 42, 43, 44, 45, 46, 47, 120, 121, 122, 123, 124, 125, 126, 127, 128, 133, 134, 135] (by decide +kernel) (by decide +kernel)
set_option maxRecDepth 20000 in
theorem gX8_letter_X8_planAt : GoodIn wsX8_letter (wsV RX8 81 RX8 yX8_planAt wsX8_planAt) := goodIn_app (goodIn_of _ (by decide +kernel)) ggX8_letter_X8_planAt
set_option maxRecDepth 20000 in
theorem ggX8_letter_Jx4a65c_size_8abf5 : GoodIn wsX8_letter wsJx4a65c_size_8abf5 := goodIn_r _ [29, 30, 133, 134, 135] (by decide +kernel) (by decide +kernel)
set_option maxRecDepth 20000 in
theorem gX8_letter_Jx4a65c_size_8abf5 : GoodIn wsX8_letter (wsV RX8 68 RJx4a65c yJx4a65c_size_8abf5 wsJx4a65c_size_8abf5) := goodIn_app (goodIn_of _ (by decide +kernel)) ggX8_letter_Jx4a65c_size_8abf5
set_option maxRecDepth 20000 in
theorem ggX8_letter_Jx4a65c_get_915e3 : GoodIn wsX8_letter wsJx4a65c_get_915e3 := goodIn_r _ [34, 30, 35, 36, 37, 38, 39, 40, 41, 42, 43, 44, 45, 28, 46, 47, 133, 134, 135] (by decide +kernel) (by decide +kernel)
set_option maxRecDepth 20000 in
theorem gX8_letter_Jx4a65c_get_915e3 : GoodIn wsX8_letter (wsV RX8 185 RJx4a65c yJx4a65c_get_915e3 wsJx4a65c_get_915e3) := goodIn_app (goodIn_of _ (by decide +kernel)) ggX8_letter_Jx4a65c_get_915e3
set_option maxRecDepth 20000 in
theorem ggX8_letter_X8_heldBy : GoodIn wsX8_letter wsX8_heldBy := goodIn_r _ [54, 55, 56, 57, 58, 59, 60, 61, 62, 7, 63, 64, 65, 66, 67, 68, 69, 70, 71, 72, 73, 74, 75, 76, 77, 78, 79, 80, 81, 82, 83, 84, 85, 86, 87, 88, 89, 90, 91, 92, 93, 94, 95, 96, 97, 98, 99, 129, 130, 131, 132, 136, 137, 138, 139, 140, 141, 142, 143] (by decide +kernel) (by decide +kernel)
set_option maxRecDepth 20000 in
theorem gX8_letter_X8_heldBy : GoodIn wsX8_letter (va_wsS RX8 151 yX8_heldBy wsX8_heldBy) := goodIn_app (goodIn_of _ (by decide +kernel)) ggX8_letter_X8_heldBy
set_option maxRecDepth 20000 in
theorem ggX8_letter_X0_all : GoodIn wsX8_letter wsX0_all := goodIn_r _ [103, 104, 136, 137, 138, 139, 140] (by decide +kernel) (by decide +kernel)
set_option maxRecDepth 20000 in
theorem gX8_letter_X0_all : GoodIn wsX8_letter (wsV RX8 103 RX0 yX0_all wsX0_all) := goodIn_app (goodIn_of _ (by decide +kernel)) ggX8_letter_X0_all
set_option maxRecDepth 20000 in
theorem ggX8_letter_X2_inPartsOf : GoodIn wsX8_letter wsX2_inPartsOf := goodIn_r _ [108, 109, 110, 107, 111, 112, 113, 114, 115, 116, 117, 118] (by decide +kernel) (by decide +kernel)
set_option maxRecDepth 20000 in
theorem gX8_letter_X2_inPartsOf : GoodIn wsX8_letter (va_wsS RX8 191 yX2_inPartsOf wsX2_inPartsOf) := goodIn_app (goodIn_of _ (by decide +kernel)) ggX8_letter_X2_inPartsOf
set_option maxRecDepth 20000 in
theorem ggX8_letter_X2_partOf : GoodIn wsX8_letter wsX2_partOf := goodIn_r _ [111, 112, 113, 107, 114, 115, 116, 117, 118] (by decide +kernel) (by decide +kernel)
set_option maxRecDepth 20000 in
theorem gX8_letter_X2_partOf : GoodIn wsX8_letter (va_wsS RX8 107 yX2_partOf wsX2_partOf) := goodIn_app (goodIn_of _ (by decide +kernel)) ggX8_letter_X2_partOf
theorem dX8_letter_0 : decode cX8_letter 0 = .ok (.iload_n 3, 1) := by decide +kernel
theorem dX8_letter_1 : decode cX8_letter 1 = .ok (.invokestatic 88, 3) := by decide +kernel
theorem dX8_letter_4 : decode cX8_letter 4 = .ok (.ifCond .eq 10, 3) := by decide +kernel
theorem dX8_letter_7 : decode cX8_letter 7 = .ok (.aload_n 0, 1) := by decide +kernel
theorem dX8_letter_8 : decode cX8_letter 8 = .ok (.bipush (-2), 2) := by decide +kernel
theorem dX8_letter_10 : decode cX8_letter 10 = .ok (.invokevirtual 92, 3) := by decide +kernel
theorem dX8_letter_13 : decode cX8_letter 13 = .ok (.lreturn, 1) := by decide +kernel
theorem dX8_letter_14 : decode cX8_letter 14 = .ok (.aload_n 0, 1) := by decide +kernel
theorem dX8_letter_15 : decode cX8_letter 15 = .ok (.iload_n 1, 1) := by decide +kernel
theorem dX8_letter_16 : decode cX8_letter 16 = .ok (.invokevirtual 143, 3) := by decide +kernel
theorem dX8_letter_19 : decode cX8_letter 19 = .ok (.astore 4, 2) := by decide +kernel
theorem dX8_letter_21 : decode cX8_letter 21 = .ok (.aload 4, 2) := by decide +kernel
theorem dX8_letter_23 : decode cX8_letter 23 = .ok (.ifnull 11, 3) := by decide +kernel
theorem dX8_letter_26 : decode cX8_letter 26 = .ok (.aload_n 0, 1) := by decide +kernel
theorem dX8_letter_27 : decode cX8_letter 27 = .ok (.iload_n 2, 1) := by decide +kernel
theorem dX8_letter_28 : decode cX8_letter 28 = .ok (.invokevirtual 81, 3) := by decide +kernel
theorem dX8_letter_31 : decode cX8_letter 31 = .ok (.ifnonnull 9, 3) := by decide +kernel
theorem dX8_letter_34 : decode cX8_letter 34 = .ok (.aload_n 0, 1) := by decide +kernel
theorem dX8_letter_35 : decode cX8_letter 35 = .ok (.iconst (-1), 1) := by decide +kernel
theorem dX8_letter_36 : decode cX8_letter 36 = .ok (.invokevirtual 92, 3) := by decide +kernel
theorem dX8_letter_39 : decode cX8_letter 39 = .ok (.lreturn, 1) := by decide +kernel
theorem dX8_letter_40 : decode cX8_letter 40 = .ok (.lconst 0, 1) := by decide +kernel
theorem dX8_letter_41 : decode cX8_letter 41 = .ok (.lstore 5, 2) := by decide +kernel
theorem dX8_letter_43 : decode cX8_letter 43 = .ok (.lconst 0, 1) := by decide +kernel
theorem dX8_letter_44 : decode cX8_letter 44 = .ok (.lstore 7, 2) := by decide +kernel
theorem dX8_letter_46 : decode cX8_letter 46 = .ok (.iconst 0, 1) := by decide +kernel
theorem dX8_letter_47 : decode cX8_letter 47 = .ok (.istore 9, 2) := by decide +kernel
theorem dX8_letter_49 : decode cX8_letter 49 = .ok (.iload 9, 2) := by decide +kernel
theorem dX8_letter_51 : decode cX8_letter 51 = .ok (.aload_n 0, 1) := by decide +kernel
theorem dX8_letter_52 : decode cX8_letter 52 = .ok (.getfield 10, 3) := by decide +kernel
theorem dX8_letter_55 : decode cX8_letter 55 = .ok (.invokevirtual 68, 3) := by decide +kernel
theorem dX8_letter_58 : decode cX8_letter 58 = .ok (.if_icmp .ge 77, 3) := by decide +kernel
theorem dX8_letter_61 : decode cX8_letter 61 = .ok (.aload_n 0, 1) := by decide +kernel
theorem dX8_letter_62 : decode cX8_letter 62 = .ok (.getfield 10, 3) := by decide +kernel
theorem dX8_letter_65 : decode cX8_letter 65 = .ok (.iload 9, 2) := by decide +kernel
theorem dX8_letter_67 : decode cX8_letter 67 = .ok (.invokevirtual 185, 3) := by decide +kernel
theorem dX8_letter_70 : decode cX8_letter 70 = .ok (.checkcast 72, 3) := by decide +kernel
theorem dX8_letter_73 : decode cX8_letter 73 = .ok (.astore 10, 2) := by decide +kernel
theorem dX8_letter_75 : decode cX8_letter 75 = .ok (.aload 10, 2) := by decide +kernel
theorem dX8_letter_77 : decode cX8_letter 77 = .ok (.ifnull 52, 3) := by decide +kernel
theorem dX8_letter_80 : decode cX8_letter 80 = .ok (.aload 4, 2) := by decide +kernel
theorem dX8_letter_82 : decode cX8_letter 82 = .ok (.aload 10, 2) := by decide +kernel
theorem dX8_letter_84 : decode cX8_letter 84 = .ok (.aload 10, 2) := by decide +kernel
theorem dX8_letter_86 : decode cX8_letter 86 = .ok (.getfield 155, 3) := by decide +kernel
theorem dX8_letter_89 : decode cX8_letter 89 = .ok (.invokestatic 151, 3) := by decide +kernel
theorem dX8_letter_92 : decode cX8_letter 92 = .ok (.lstore 11, 2) := by decide +kernel
theorem dX8_letter_94 : decode cX8_letter 94 = .ok (.ldc2_w 189, 3) := by decide +kernel
theorem dX8_letter_97 : decode cX8_letter 97 = .ok (.lload 11, 2) := by decide +kernel
theorem dX8_letter_99 : decode cX8_letter 99 = .ok (.aload 10, 2) := by decide +kernel
theorem dX8_letter_101 : decode cX8_letter 101 = .ok (.getfield 155, 3) := by decide +kernel
theorem dX8_letter_104 : decode cX8_letter 104 = .ok (.invokevirtual 103, 3) := by decide +kernel
theorem dX8_letter_107 : decode cX8_letter 107 = .ok (.invokestatic 191, 3) := by decide +kernel
theorem dX8_letter_110 : decode cX8_letter 110 = .ok (.lstore 13, 2) := by decide +kernel
theorem dX8_letter_112 : decode cX8_letter 112 = .ok (.lload 5, 2) := by decide +kernel
theorem dX8_letter_114 : decode cX8_letter 114 = .ok (.lload 13, 2) := by decide +kernel
theorem dX8_letter_116 : decode cX8_letter 116 = .ok (.ladd, 1) := by decide +kernel
theorem dX8_letter_117 : decode cX8_letter 117 = .ok (.lstore 5, 2) := by decide +kernel
theorem dX8_letter_119 : decode cX8_letter 119 = .ok (.iload 9, 2) := by decide +kernel
theorem dX8_letter_121 : decode cX8_letter 121 = .ok (.iload_n 2, 1) := by decide +kernel
theorem dX8_letter_122 : decode cX8_letter 122 = .ok (.if_icmp .ne 7, 3) := by decide +kernel
theorem dX8_letter_125 : decode cX8_letter 125 = .ok (.lload 13, 2) := by decide +kernel
theorem dX8_letter_127 : decode cX8_letter 127 = .ok (.lstore 7, 2) := by decide +kernel
theorem dX8_letter_129 : decode cX8_letter 129 = .ok (.iinc 9 1, 3) := by decide +kernel
theorem dX8_letter_132 : decode cX8_letter 132 = .ok (.goto (-83), 3) := by decide +kernel
theorem dX8_letter_135 : decode cX8_letter 135 = .ok (.lload 5, 2) := by decide +kernel
theorem dX8_letter_137 : decode cX8_letter 137 = .ok (.lconst 0, 1) := by decide +kernel
theorem dX8_letter_138 : decode cX8_letter 138 = .ok (.lcmp, 1) := by decide +kernel
theorem dX8_letter_139 : decode cX8_letter 139 = .ok (.ifCond .ne 10, 3) := by decide +kernel
theorem dX8_letter_142 : decode cX8_letter 142 = .ok (.aload_n 0, 1) := by decide +kernel
theorem dX8_letter_143 : decode cX8_letter 143 = .ok (.bipush (-3), 2) := by decide +kernel
theorem dX8_letter_145 : decode cX8_letter 145 = .ok (.invokevirtual 92, 3) := by decide +kernel
theorem dX8_letter_148 : decode cX8_letter 148 = .ok (.lreturn, 1) := by decide +kernel
theorem dX8_letter_149 : decode cX8_letter 149 = .ok (.lload 7, 2) := by decide +kernel
theorem dX8_letter_151 : decode cX8_letter 151 = .ok (.lload 5, 2) := by decide +kernel
theorem dX8_letter_153 : decode cX8_letter 153 = .ok (.iload_n 3, 1) := by decide +kernel
theorem dX8_letter_154 : decode cX8_letter 154 = .ok (.invokestatic 107, 3) := by decide +kernel
theorem dX8_letter_157 : decode cX8_letter 157 = .ok (.lreturn, 1) := by decide +kernel
set_option maxRecDepth 20000 in
theorem ggX8_lots_X8_planAt : GoodIn wsX8_lots wsX8_planAt := goodIn_r _ [5, 6, 7, 8, 9, 10, 11, 12, 13, 14, 15, 16, 17, 18, 19, 20, 21, 22, 23, 24, 25, 26, 27, 28, 29, 30, 52, 53, 54, 55, 56, 57, 58, 59, 60, 61, 62, 63] (by decide +kernel) (by decide +kernel)
set_option maxRecDepth 20000 in
theorem gX8_lots_X8_planAt : GoodIn wsX8_lots (wsV RX8 81 RX8 yX8_planAt wsX8_planAt) := goodIn_app (goodIn_of _ (by decide +kernel)) ggX8_lots_X8_planAt
set_option maxRecDepth 20000 in
theorem ggX8_lots_X8_lotRefusal : GoodIn wsX8_lots wsX8_lotRefusal := goodIn_r _ [33, 34, 64, 65, 66, 67] (by decide +kernel) (by decide +kernel)
set_option maxRecDepth 20000 in
theorem gX8_lots_X8_lotRefusal : GoodIn wsX8_lots (va_wsS RX8 195 yX8_lotRefusal wsX8_lotRefusal) := goodIn_app (goodIn_of _ (by decide +kernel)) ggX8_lots_X8_lotRefusal
set_option maxRecDepth 20000 in
theorem ggX8_lots_X8_refuse : GoodIn wsX8_lots wsX8_refuse := goodIn_r _ [38, 39, 52, 53, 54, 55, 56, 57, 58, 59, 60] (by decide +kernel) (by decide +kernel)
set_option maxRecDepth 20000 in
theorem gX8_lots_X8_refuse : GoodIn wsX8_lots (wsV RX8 54 RX8 yX8_refuse wsX8_refuse) := goodIn_app (goodIn_of _ (by decide +kernel)) ggX8_lots_X8_refuse
set_option maxRecDepth 20000 in
theorem ggX8_lots_X3_lotCount : GoodIn wsX8_lots wsX3_lotCount := goodIn_r _ [44, 45, 46, 47, 48, 49, 50, 51, 64, 65, 66, 67] (by decide +kernel) (by decide +kernel)
set_option maxRecDepth 20000 in
theorem gX8_lots_X3_lotCount : GoodIn wsX8_lots (wsV RX8 199 RX3 yX3_lotCount wsX3_lotCount) := goodIn_app (goodIn_of _ (by decide +kernel)) ggX8_lots_X3_lotCount
theorem dX8_lots_0 : decode cX8_lots 0 = .ok (.aload_n 0, 1) := by decide +kernel
theorem dX8_lots_1 : decode cX8_lots 1 = .ok (.iload_n 1, 1) := by decide +kernel
theorem dX8_lots_2 : decode cX8_lots 2 = .ok (.invokevirtual 81, 3) := by decide +kernel
theorem dX8_lots_5 : decode cX8_lots 5 = .ok (.astore_n 2, 1) := by decide +kernel
theorem dX8_lots_6 : decode cX8_lots 6 = .ok (.aload_n 2, 1) := by decide +kernel
theorem dX8_lots_7 : decode cX8_lots 7 = .ok (.invokestatic 195, 3) := by decide +kernel
theorem dX8_lots_10 : decode cX8_lots 10 = .ok (.istore_n 3, 1) := by decide +kernel
theorem dX8_lots_11 : decode cX8_lots 11 = .ok (.aload_n 2, 1) := by decide +kernel
theorem dX8_lots_12 : decode cX8_lots 12 = .ok (.ifnull 7, 3) := by decide +kernel
theorem dX8_lots_15 : decode cX8_lots 15 = .ok (.iload_n 3, 1) := by decide +kernel
theorem dX8_lots_16 : decode cX8_lots 16 = .ok (.ifCond .eq 9, 3) := by decide +kernel
theorem dX8_lots_19 : decode cX8_lots 19 = .ok (.aload_n 0, 1) := by decide +kernel
theorem dX8_lots_20 : decode cX8_lots 20 = .ok (.iload_n 3, 1) := by decide +kernel
theorem dX8_lots_21 : decode cX8_lots 21 = .ok (.invokevirtual 54, 3) := by decide +kernel
theorem dX8_lots_24 : decode cX8_lots 24 = .ok (.ireturn, 1) := by decide +kernel
theorem dX8_lots_25 : decode cX8_lots 25 = .ok (.aload_n 2, 1) := by decide +kernel
theorem dX8_lots_26 : decode cX8_lots 26 = .ok (.invokevirtual 199, 3) := by decide +kernel
theorem dX8_lots_29 : decode cX8_lots 29 = .ok (.ireturn, 1) := by decide +kernel
set_option maxRecDepth 20000 in
theorem ggX8_lot_X8_planAt : GoodIn wsX8_lot wsX8_planAt := goodIn_r _ [7, 8, 9, 10, 11, 12, 13, 14, 15, 16, 17, 18, 19, 20, 21, 22, 23, 24, 25, 26, 27, 28, 29, 30, 31, 32, 63, 64, 65, 66, 67, 68, 69, 70, 71, 72, 73, 74] (by decide +kernel) (by decide +kernel)
set_option maxRecDepth 20000 in
theorem gX8_lot_X8_planAt : GoodIn wsX8_lot (wsV RX8 81 RX8 yX8_planAt wsX8_planAt) := goodIn_app (goodIn_of _ (by decide +kernel)) ggX8_lot_X8_planAt
set_option maxRecDepth 20000 in
theorem ggX8_lot_X8_lotRefusal : GoodIn wsX8_lot wsX8_lotRefusal := goodIn_r _ [35, 36, 59, 60, 61, 62] (by decide +kernel) (by decide +kernel)
set_option maxRecDepth 20000 in
theorem gX8_lot_X8_lotRefusal : GoodIn wsX8_lot (va_wsS RX8 195 yX8_lotRefusal wsX8_lotRefusal) := goodIn_app (goodIn_of _ (by decide +kernel)) ggX8_lot_X8_lotRefusal
set_option maxRecDepth 20000 in
theorem ggX8_lot_X8_refuse : GoodIn wsX8_lot wsX8_refuse := goodIn_r _ [40, 41, 63, 64, 65, 66, 67, 68, 69, 70, 71] (by decide +kernel) (by decide +kernel)
set_option maxRecDepth 20000 in
theorem gX8_lot_X8_refuse : GoodIn wsX8_lot (wsV RX8 54 RX8 yX8_refuse wsX8_refuse) := goodIn_app (goodIn_of _ (by decide +kernel)) ggX8_lot_X8_refuse
set_option maxRecDepth 20000 in
theorem ggX8_lot_X3_lotCount : GoodIn wsX8_lot wsX3_lotCount := goodIn_r _ [46, 47, 48, 49, 50, 51, 52, 53, 59, 60, 61, 62] (by decide +kernel) (by decide +kernel)
set_option maxRecDepth 20000 in
theorem gX8_lot_X3_lotCount : GoodIn wsX8_lot (wsV RX8 199 RX3 yX3_lotCount wsX3_lotCount) := goodIn_app (goodIn_of _ (by decide +kernel)) ggX8_lot_X3_lotCount
set_option maxRecDepth 20000 in
theorem ggX8_lot_X5_numbered : GoodIn wsX8_lot wsX5_numbered := goodIn_r _ [57, 58, 50, 51, 52, 53] (by decide +kernel) (by decide +kernel)
set_option maxRecDepth 20000 in
theorem gX8_lot_X5_numbered : GoodIn wsX8_lot (va_wsS RX8 205 yX5_numbered wsX5_numbered) := goodIn_app (goodIn_of _ (by decide +kernel)) ggX8_lot_X5_numbered
theorem dX8_lot_0 : decode cX8_lot 0 = .ok (.aload_n 0, 1) := by decide +kernel
theorem dX8_lot_1 : decode cX8_lot 1 = .ok (.iload_n 1, 1) := by decide +kernel
theorem dX8_lot_2 : decode cX8_lot 2 = .ok (.invokevirtual 81, 3) := by decide +kernel
theorem dX8_lot_5 : decode cX8_lot 5 = .ok (.astore_n 3, 1) := by decide +kernel
theorem dX8_lot_6 : decode cX8_lot 6 = .ok (.aload_n 3, 1) := by decide +kernel
theorem dX8_lot_7 : decode cX8_lot 7 = .ok (.invokestatic 195, 3) := by decide +kernel
theorem dX8_lot_10 : decode cX8_lot 10 = .ok (.istore 4, 2) := by decide +kernel
theorem dX8_lot_12 : decode cX8_lot 12 = .ok (.aload_n 3, 1) := by decide +kernel
theorem dX8_lot_13 : decode cX8_lot 13 = .ok (.ifnull 8, 3) := by decide +kernel
theorem dX8_lot_16 : decode cX8_lot 16 = .ok (.iload 4, 2) := by decide +kernel
theorem dX8_lot_18 : decode cX8_lot 18 = .ok (.ifCond .eq 10, 3) := by decide +kernel
theorem dX8_lot_21 : decode cX8_lot 21 = .ok (.aload_n 0, 1) := by decide +kernel
theorem dX8_lot_22 : decode cX8_lot 22 = .ok (.iload 4, 2) := by decide +kernel
theorem dX8_lot_24 : decode cX8_lot 24 = .ok (.invokevirtual 54, 3) := by decide +kernel
theorem dX8_lot_27 : decode cX8_lot 27 = .ok (.ireturn, 1) := by decide +kernel
theorem dX8_lot_28 : decode cX8_lot 28 = .ok (.iload_n 2, 1) := by decide +kernel
theorem dX8_lot_29 : decode cX8_lot 29 = .ok (.ifCond .lt 11, 3) := by decide +kernel
theorem dX8_lot_32 : decode cX8_lot 32 = .ok (.iload_n 2, 1) := by decide +kernel
theorem dX8_lot_33 : decode cX8_lot 33 = .ok (.aload_n 3, 1) := by decide +kernel
theorem dX8_lot_34 : decode cX8_lot 34 = .ok (.invokevirtual 199, 3) := by decide +kernel
theorem dX8_lot_37 : decode cX8_lot 37 = .ok (.if_icmp .lt 9, 3) := by decide +kernel
theorem dX8_lot_40 : decode cX8_lot 40 = .ok (.aload_n 0, 1) := by decide +kernel
theorem dX8_lot_41 : decode cX8_lot 41 = .ok (.iconst (-1), 1) := by decide +kernel
theorem dX8_lot_42 : decode cX8_lot 42 = .ok (.invokevirtual 54, 3) := by decide +kernel
theorem dX8_lot_45 : decode cX8_lot 45 = .ok (.ireturn, 1) := by decide +kernel
theorem dX8_lot_46 : decode cX8_lot 46 = .ok (.aload_n 3, 1) := by decide +kernel
theorem dX8_lot_47 : decode cX8_lot 47 = .ok (.getfield 182, 3) := by decide +kernel
theorem dX8_lot_50 : decode cX8_lot 50 = .ok (.aload_n 3, 1) := by decide +kernel
theorem dX8_lot_51 : decode cX8_lot 51 = .ok (.getfield 202, 3) := by decide +kernel
theorem dX8_lot_54 : decode cX8_lot 54 = .ok (.iload_n 2, 1) := by decide +kernel
theorem dX8_lot_55 : decode cX8_lot 55 = .ok (.invokestatic 205, 3) := by decide +kernel
theorem dX8_lot_58 : decode cX8_lot 58 = .ok (.ireturn, 1) := by decide +kernel
set_option maxRecDepth 20000 in
theorem ggX8_rank_X8_planAt : GoodIn wsX8_rank wsX8_planAt := goodIn_r _ [6, 7, 8, 9, 10, 11, 12, 13, 14, 15, 16, 17, 18, 19, 20, 21, 22, 23, 24, 25, 26, 27, 28, 29, 30, 31, 68, 69, 70, 71, 72, 73, 74, 75, 76, 77, 78, 79] (by decide +kernel) (by decide +kernel)
set_option maxRecDepth 20000 in
theorem gX8_rank_X8_planAt : GoodIn wsX8_rank (wsV RX8 81 RX8 yX8_planAt wsX8_planAt) := goodIn_app (goodIn_of _ (by decide +kernel)) ggX8_rank_X8_planAt
set_option maxRecDepth 20000 in
theorem ggX8_rank_X8_lotRefusal : GoodIn wsX8_rank wsX8_lotRefusal := goodIn_r _ [34, 35, 64, 65, 66, 67] (by decide +kernel) (by decide +kernel)
set_option maxRecDepth 20000 in
theorem gX8_rank_X8_lotRefusal : GoodIn wsX8_rank (va_wsS RX8 195 yX8_lotRefusal wsX8_lotRefusal) := goodIn_app (goodIn_of _ (by decide +kernel)) ggX8_rank_X8_lotRefusal
set_option maxRecDepth 20000 in
theorem ggX8_rank_X8_refuse : GoodIn wsX8_rank wsX8_refuse := goodIn_r _ [39, 40, 68, 69, 70, 71, 72, 73, 74, 75, 76] (by decide +kernel) (by decide +kernel)
set_option maxRecDepth 20000 in
theorem gX8_rank_X8_refuse : GoodIn wsX8_rank (wsV RX8 54 RX8 yX8_refuse wsX8_refuse) := goodIn_app (goodIn_of _ (by decide +kernel)) ggX8_rank_X8_refuse
set_option maxRecDepth 20000 in
theorem ggX8_rank_X3_hasLot : GoodIn wsX8_rank wsX3_hasLot := goodIn_r _ [45, 46, 47, 48, 49, 50, 51, 52, 53, 54, 64, 65, 66, 67] (by decide +kernel) (by decide +kernel)
set_option maxRecDepth 20000 in
theorem gX8_rank_X3_hasLot : GoodIn wsX8_rank (wsV RX8 211 RX3 yX3_hasLot wsX3_hasLot) := goodIn_app (goodIn_of _ (by decide +kernel)) ggX8_rank_X3_hasLot
set_option maxRecDepth 20000 in
theorem ggX8_rank_X5_numberOf : GoodIn wsX8_rank wsX5_numberOf := goodIn_r _ [58, 59, 60, 61, 62, 63] (by decide +kernel) (by decide +kernel)
set_option maxRecDepth 20000 in
theorem gX8_rank_X5_numberOf : GoodIn wsX8_rank (va_wsS RX8 214 yX5_numberOf wsX5_numberOf) := goodIn_app (goodIn_of _ (by decide +kernel)) ggX8_rank_X5_numberOf
theorem dX8_rank_0 : decode cX8_rank 0 = .ok (.aload_n 0, 1) := by decide +kernel
theorem dX8_rank_1 : decode cX8_rank 1 = .ok (.iload_n 1, 1) := by decide +kernel
theorem dX8_rank_2 : decode cX8_rank 2 = .ok (.invokevirtual 81, 3) := by decide +kernel
theorem dX8_rank_5 : decode cX8_rank 5 = .ok (.astore_n 3, 1) := by decide +kernel
theorem dX8_rank_6 : decode cX8_rank 6 = .ok (.aload_n 3, 1) := by decide +kernel
theorem dX8_rank_7 : decode cX8_rank 7 = .ok (.invokestatic 195, 3) := by decide +kernel
theorem dX8_rank_10 : decode cX8_rank 10 = .ok (.istore 4, 2) := by decide +kernel
theorem dX8_rank_12 : decode cX8_rank 12 = .ok (.aload_n 3, 1) := by decide +kernel
theorem dX8_rank_13 : decode cX8_rank 13 = .ok (.ifnull 8, 3) := by decide +kernel
theorem dX8_rank_16 : decode cX8_rank 16 = .ok (.iload 4, 2) := by decide +kernel
theorem dX8_rank_18 : decode cX8_rank 18 = .ok (.ifCond .eq 10, 3) := by decide +kernel
theorem dX8_rank_21 : decode cX8_rank 21 = .ok (.aload_n 0, 1) := by decide +kernel
theorem dX8_rank_22 : decode cX8_rank 22 = .ok (.iload 4, 2) := by decide +kernel
theorem dX8_rank_24 : decode cX8_rank 24 = .ok (.invokevirtual 54, 3) := by decide +kernel
theorem dX8_rank_27 : decode cX8_rank 27 = .ok (.ireturn, 1) := by decide +kernel
theorem dX8_rank_28 : decode cX8_rank 28 = .ok (.aload_n 3, 1) := by decide +kernel
theorem dX8_rank_29 : decode cX8_rank 29 = .ok (.iload_n 2, 1) := by decide +kernel
theorem dX8_rank_30 : decode cX8_rank 30 = .ok (.invokevirtual 211, 3) := by decide +kernel
theorem dX8_rank_33 : decode cX8_rank 33 = .ok (.ifCond .ne 9, 3) := by decide +kernel
theorem dX8_rank_36 : decode cX8_rank 36 = .ok (.aload_n 0, 1) := by decide +kernel
theorem dX8_rank_37 : decode cX8_rank 37 = .ok (.iconst (-1), 1) := by decide +kernel
theorem dX8_rank_38 : decode cX8_rank 38 = .ok (.invokevirtual 54, 3) := by decide +kernel
theorem dX8_rank_41 : decode cX8_rank 41 = .ok (.ireturn, 1) := by decide +kernel
theorem dX8_rank_42 : decode cX8_rank 42 = .ok (.aload_n 3, 1) := by decide +kernel
theorem dX8_rank_43 : decode cX8_rank 43 = .ok (.getfield 182, 3) := by decide +kernel
theorem dX8_rank_46 : decode cX8_rank 46 = .ok (.iload_n 2, 1) := by decide +kernel
theorem dX8_rank_47 : decode cX8_rank 47 = .ok (.invokestatic 214, 3) := by decide +kernel
theorem dX8_rank_50 : decode cX8_rank 50 = .ok (.ireturn, 1) := by decide +kernel
set_option maxRecDepth 20000 in
theorem ggX8_lean_X8_planAt : GoodIn wsX8_lean wsX8_planAt := goodIn_r _ [6, 7, 8, 9, 10, 11, 12, 13, 14, 15, 16, 17, 18, 19, 20, 21, 22, 23, 24, 25, 26, 27, 28, 29, 30, 31, 63, 64, 65, 66, 67, 68, 69, 70, 71, 72, 73, 74] (by decide +kernel) (by decide +kernel)
set_option maxRecDepth 20000 in
theorem gX8_lean_X8_planAt : GoodIn wsX8_lean (wsV RX8 81 RX8 yX8_planAt wsX8_planAt) := goodIn_app (goodIn_of _ (by decide +kernel)) ggX8_lean_X8_planAt
set_option maxRecDepth 20000 in
theorem ggX8_lean_X8_lotRefusal : GoodIn wsX8_lean wsX8_lotRefusal := goodIn_r _ [34, 35, 75, 76, 77, 78] (by decide +kernel) (by decide +kernel)
set_option maxRecDepth 20000 in
theorem gX8_lean_X8_lotRefusal : GoodIn wsX8_lean (va_wsS RX8 195 yX8_lotRefusal wsX8_lotRefusal) := goodIn_app (goodIn_of _ (by decide +kernel)) ggX8_lean_X8_lotRefusal
set_option maxRecDepth 20000 in
theorem ggX8_lean_X8_refuse : GoodIn wsX8_lean wsX8_refuse := goodIn_r _ [39, 40, 63, 64, 65, 66, 67, 68, 69, 70, 71] (by decide +kernel) (by decide +kernel)
set_option maxRecDepth 20000 in
theorem gX8_lean_X8_refuse : GoodIn wsX8_lean (wsV RX8 54 RX8 yX8_refuse wsX8_refuse) := goodIn_app (goodIn_of _ (by decide +kernel)) ggX8_lean_X8_refuse
set_option maxRecDepth 20000 in
theorem ggX8_lean_X3_hasLot : GoodIn wsX8_lean wsX3_hasLot := goodIn_r _ [45, 46, 47, 48, 49, 50, 51, 52, 53, 54, 75, 76, 77, 78] (by decide +kernel) (by decide +kernel)
set_option maxRecDepth 20000 in
theorem gX8_lean_X3_hasLot : GoodIn wsX8_lean (wsV RX8 211 RX3 yX3_hasLot wsX3_hasLot) := goodIn_app (goodIn_of _ (by decide +kernel)) ggX8_lean_X3_hasLot
set_option maxRecDepth 20000 in
theorem ggX8_lean_X3_leanOf : GoodIn wsX8_lean wsX3_leanOf := goodIn_r _ [58, 46, 47, 59, 60, 61, 62, 75, 76, 77, 78] (by decide +kernel) (by decide +kernel)
set_option maxRecDepth 20000 in
theorem gX8_lean_X3_leanOf : GoodIn wsX8_lean (wsV RX8 218 RX3 yX3_leanOf wsX3_leanOf) := goodIn_app (goodIn_of _ (by decide +kernel)) ggX8_lean_X3_leanOf
theorem dX8_lean_0 : decode cX8_lean 0 = .ok (.aload_n 0, 1) := by decide +kernel
theorem dX8_lean_1 : decode cX8_lean 1 = .ok (.iload_n 1, 1) := by decide +kernel
theorem dX8_lean_2 : decode cX8_lean 2 = .ok (.invokevirtual 81, 3) := by decide +kernel
theorem dX8_lean_5 : decode cX8_lean 5 = .ok (.astore_n 3, 1) := by decide +kernel
theorem dX8_lean_6 : decode cX8_lean 6 = .ok (.aload_n 3, 1) := by decide +kernel
theorem dX8_lean_7 : decode cX8_lean 7 = .ok (.invokestatic 195, 3) := by decide +kernel
theorem dX8_lean_10 : decode cX8_lean 10 = .ok (.istore 4, 2) := by decide +kernel
theorem dX8_lean_12 : decode cX8_lean 12 = .ok (.aload_n 3, 1) := by decide +kernel
theorem dX8_lean_13 : decode cX8_lean 13 = .ok (.ifnull 8, 3) := by decide +kernel
theorem dX8_lean_16 : decode cX8_lean 16 = .ok (.iload 4, 2) := by decide +kernel
theorem dX8_lean_18 : decode cX8_lean 18 = .ok (.ifCond .eq 13, 3) := by decide +kernel
theorem dX8_lean_21 : decode cX8_lean 21 = .ok (.ldc 217, 2) := by decide +kernel
theorem dX8_lean_23 : decode cX8_lean 23 = .ok (.aload_n 0, 1) := by decide +kernel
theorem dX8_lean_24 : decode cX8_lean 24 = .ok (.iload 4, 2) := by decide +kernel
theorem dX8_lean_26 : decode cX8_lean 26 = .ok (.invokevirtual 54, 3) := by decide +kernel
theorem dX8_lean_29 : decode cX8_lean 29 = .ok (.isub, 1) := by decide +kernel
theorem dX8_lean_30 : decode cX8_lean 30 = .ok (.ireturn, 1) := by decide +kernel
theorem dX8_lean_31 : decode cX8_lean 31 = .ok (.aload_n 3, 1) := by decide +kernel
theorem dX8_lean_32 : decode cX8_lean 32 = .ok (.iload_n 2, 1) := by decide +kernel
theorem dX8_lean_33 : decode cX8_lean 33 = .ok (.invokevirtual 211, 3) := by decide +kernel
theorem dX8_lean_36 : decode cX8_lean 36 = .ok (.ifCond .ne 12, 3) := by decide +kernel
theorem dX8_lean_39 : decode cX8_lean 39 = .ok (.ldc 217, 2) := by decide +kernel
theorem dX8_lean_41 : decode cX8_lean 41 = .ok (.aload_n 0, 1) := by decide +kernel
theorem dX8_lean_42 : decode cX8_lean 42 = .ok (.iconst (-1), 1) := by decide +kernel
theorem dX8_lean_43 : decode cX8_lean 43 = .ok (.invokevirtual 54, 3) := by decide +kernel
theorem dX8_lean_46 : decode cX8_lean 46 = .ok (.isub, 1) := by decide +kernel
theorem dX8_lean_47 : decode cX8_lean 47 = .ok (.ireturn, 1) := by decide +kernel
theorem dX8_lean_48 : decode cX8_lean 48 = .ok (.aload_n 3, 1) := by decide +kernel
theorem dX8_lean_49 : decode cX8_lean 49 = .ok (.iload_n 2, 1) := by decide +kernel
theorem dX8_lean_50 : decode cX8_lean 50 = .ok (.invokevirtual 218, 3) := by decide +kernel
theorem dX8_lean_53 : decode cX8_lean 53 = .ok (.ireturn, 1) := by decide +kernel
set_option maxRecDepth 20000 in
theorem ggX8_even_X8_planAt : GoodIn wsX8_even wsX8_planAt := goodIn_r _ [5, 6, 7, 8, 9, 10, 11, 12, 13, 14, 15, 16, 17, 18, 19, 20, 21, 22, 23, 24, 25, 26, 27, 28, 29, 30, 78, 79, 80, 81, 82, 83, 84, 85, 86, 87, 88, 89] (by decide +kernel) (by decide +kernel)
set_option maxRecDepth 20000 in
theorem gX8_even_X8_planAt : GoodIn wsX8_even (wsV RX8 81 RX8 yX8_planAt wsX8_planAt) := goodIn_app (goodIn_of _ (by decide +kernel)) ggX8_even_X8_planAt
set_option maxRecDepth 20000 in
theorem ggX8_even_X8_lotRefusal : GoodIn wsX8_even wsX8_lotRefusal := goodIn_r _ [33, 34, 90, 91, 92, 93] (by decide +kernel) (by decide +kernel)
set_option maxRecDepth 20000 in
theorem gX8_even_X8_lotRefusal : GoodIn wsX8_even (va_wsS RX8 195 yX8_lotRefusal wsX8_lotRefusal) := goodIn_app (goodIn_of _ (by decide +kernel)) ggX8_even_X8_lotRefusal
set_option maxRecDepth 20000 in
theorem ggX8_even_X8_refuse : GoodIn wsX8_even wsX8_refuse := goodIn_r _ [38, 39, 78, 79, 80, 81, 82, 83, 84, 85, 86] (by decide +kernel) (by decide +kernel)
set_option maxRecDepth 20000 in
theorem gX8_even_X8_refuse : GoodIn wsX8_even (wsV RX8 54 RX8 yX8_refuse wsX8_refuse) := goodIn_app (goodIn_of _ (by decide +kernel)) ggX8_even_X8_refuse
set_option maxRecDepth 20000 in
theorem ggX8_even_X3_firstLot : GoodIn wsX8_even wsX3_firstLot := goodIn_r _ [44, 45, 90, 91, 92, 93] (by decide +kernel) (by decide +kernel)
set_option maxRecDepth 20000 in
theorem gX8_even_X3_firstLot : GoodIn wsX8_even (wsV RX8 221 RX3 yX3_firstLot wsX3_firstLot) := goodIn_app (goodIn_of _ (by decide +kernel)) ggX8_even_X3_firstLot
set_option maxRecDepth 20000 in
theorem ggX8_even_X3_lotCount : GoodIn wsX8_even wsX3_lotCount := goodIn_r _ [49, 50, 45, 51, 52, 53, 54, 55, 90, 91, 92, 93] (by decide +kernel) (by decide +kernel)
set_option maxRecDepth 20000 in
theorem gX8_even_X3_lotCount : GoodIn wsX8_even (wsV RX8 199 RX3 yX3_lotCount wsX3_lotCount) := goodIn_app (goodIn_of _ (by decide +kernel)) ggX8_even_X3_lotCount
set_option maxRecDepth 20000 in
theorem ggX8_even_X3_leanOf : GoodIn wsX8_even wsX3_leanOf := goodIn_r _ [59, 50, 45, 60, 61, 62, 63, 90, 91, 92, 93] (by decide +kernel) (by decide +kernel)
set_option maxRecDepth 20000 in
theorem gX8_even_X3_leanOf : GoodIn wsX8_even (wsV RX8 218 RX3 yX3_leanOf wsX3_leanOf) := goodIn_app (goodIn_of _ (by decide +kernel)) ggX8_even_X3_leanOf
set_option maxRecDepth 20000 in
theorem ggX8_even_X5_next : GoodIn wsX8_even wsX5_next := goodIn_r _ [66, 67, 68, 69, 70, 71, 72, 73, 74, 75, 76, 77] (by decide +kernel) (by decide +kernel)
set_option maxRecDepth 20000 in
theorem gX8_even_X5_next : GoodIn wsX8_even (va_wsS RX8 224 yX5_next wsX5_next) := goodIn_app (goodIn_of _ (by decide +kernel)) ggX8_even_X5_next
theorem dX8_even_0 : decode cX8_even 0 = .ok (.aload_n 0, 1) := by decide +kernel
theorem dX8_even_1 : decode cX8_even 1 = .ok (.iload_n 1, 1) := by decide +kernel
theorem dX8_even_2 : decode cX8_even 2 = .ok (.invokevirtual 81, 3) := by decide +kernel
theorem dX8_even_5 : decode cX8_even 5 = .ok (.astore_n 2, 1) := by decide +kernel
theorem dX8_even_6 : decode cX8_even 6 = .ok (.aload_n 2, 1) := by decide +kernel
theorem dX8_even_7 : decode cX8_even 7 = .ok (.invokestatic 195, 3) := by decide +kernel
theorem dX8_even_10 : decode cX8_even 10 = .ok (.istore_n 3, 1) := by decide +kernel
theorem dX8_even_11 : decode cX8_even 11 = .ok (.aload_n 2, 1) := by decide +kernel
theorem dX8_even_12 : decode cX8_even 12 = .ok (.ifnull 7, 3) := by decide +kernel
theorem dX8_even_15 : decode cX8_even 15 = .ok (.iload_n 3, 1) := by decide +kernel
theorem dX8_even_16 : decode cX8_even 16 = .ok (.ifCond .eq 9, 3) := by decide +kernel
theorem dX8_even_19 : decode cX8_even 19 = .ok (.aload_n 0, 1) := by decide +kernel
theorem dX8_even_20 : decode cX8_even 20 = .ok (.iload_n 3, 1) := by decide +kernel
theorem dX8_even_21 : decode cX8_even 21 = .ok (.invokevirtual 54, 3) := by decide +kernel
theorem dX8_even_24 : decode cX8_even 24 = .ok (.ireturn, 1) := by decide +kernel
theorem dX8_even_25 : decode cX8_even 25 = .ok (.iconst 0, 1) := by decide +kernel
theorem dX8_even_26 : decode cX8_even 26 = .ok (.istore 4, 2) := by decide +kernel
theorem dX8_even_28 : decode cX8_even 28 = .ok (.aload_n 2, 1) := by decide +kernel
theorem dX8_even_29 : decode cX8_even 29 = .ok (.invokevirtual 221, 3) := by decide +kernel
theorem dX8_even_32 : decode cX8_even 32 = .ok (.istore 5, 2) := by decide +kernel
theorem dX8_even_34 : decode cX8_even 34 = .ok (.iconst 0, 1) := by decide +kernel
theorem dX8_even_35 : decode cX8_even 35 = .ok (.istore 6, 2) := by decide +kernel
theorem dX8_even_37 : decode cX8_even 37 = .ok (.iload 6, 2) := by decide +kernel
theorem dX8_even_39 : decode cX8_even 39 = .ok (.aload_n 2, 1) := by decide +kernel
theorem dX8_even_40 : decode cX8_even 40 = .ok (.invokevirtual 199, 3) := by decide +kernel
theorem dX8_even_43 : decode cX8_even 43 = .ok (.if_icmp .ge 28, 3) := by decide +kernel
theorem dX8_even_46 : decode cX8_even 46 = .ok (.aload_n 2, 1) := by decide +kernel
theorem dX8_even_47 : decode cX8_even 47 = .ok (.iload 5, 2) := by decide +kernel
theorem dX8_even_49 : decode cX8_even 49 = .ok (.invokevirtual 218, 3) := by decide +kernel
theorem dX8_even_52 : decode cX8_even 52 = .ok (.ifCond .ne 6, 3) := by decide +kernel
theorem dX8_even_55 : decode cX8_even 55 = .ok (.iinc 4 1, 3) := by decide +kernel
theorem dX8_even_58 : decode cX8_even 58 = .ok (.iload 5, 2) := by decide +kernel
theorem dX8_even_60 : decode cX8_even 60 = .ok (.invokestatic 224, 3) := by decide +kernel
theorem dX8_even_63 : decode cX8_even 63 = .ok (.istore 5, 2) := by decide +kernel
theorem dX8_even_65 : decode cX8_even 65 = .ok (.iinc 6 1, 3) := by decide +kernel
theorem dX8_even_68 : decode cX8_even 68 = .ok (.goto (-31), 3) := by decide +kernel
theorem dX8_even_71 : decode cX8_even 71 = .ok (.iload 4, 2) := by decide +kernel
theorem dX8_even_73 : decode cX8_even 73 = .ok (.ireturn, 1) := by decide +kernel
set_option maxRecDepth 20000 in
theorem ggX8_bestLot_X8_planAt : GoodIn wsX8_bestLot wsX8_planAt := goodIn_r _ [9, 10, 11, 12, 13, 14, 15, 16, 17, 18, 19, 20, 21, 22, 23, 24, 25, 26, 27, 28, 29, 30, 31, 32, 33, 34, 81, 82, 83, 84, 85, 86, 87, 88, 89, 90, 91, 92] (by decide +kernel) (by decide +kernel)
set_option maxRecDepth 20000 in
theorem gX8_bestLot_X8_planAt : GoodIn wsX8_bestLot (wsV RX8 81 RX8 yX8_planAt wsX8_planAt) := goodIn_app (goodIn_of _ (by decide +kernel)) ggX8_bestLot_X8_planAt
set_option maxRecDepth 20000 in
theorem ggX8_bestLot_X8_lotRefusal : GoodIn wsX8_bestLot wsX8_lotRefusal := goodIn_r _ [37, 38, 93, 94, 95, 96] (by decide +kernel) (by decide +kernel)
set_option maxRecDepth 20000 in
theorem gX8_bestLot_X8_lotRefusal : GoodIn wsX8_bestLot (va_wsS RX8 195 yX8_lotRefusal wsX8_lotRefusal) := goodIn_app (goodIn_of _ (by decide +kernel)) ggX8_bestLot_X8_lotRefusal
set_option maxRecDepth 20000 in
theorem ggX8_bestLot_X8_refuse : GoodIn wsX8_bestLot wsX8_refuse := goodIn_r _ [42, 43, 81, 82, 83, 84, 85, 86, 87, 88, 89] (by decide +kernel) (by decide +kernel)
set_option maxRecDepth 20000 in
theorem gX8_bestLot_X8_refuse : GoodIn wsX8_bestLot (wsV RX8 54 RX8 yX8_refuse wsX8_refuse) := goodIn_app (goodIn_of _ (by decide +kernel)) ggX8_bestLot_X8_refuse
set_option maxRecDepth 20000 in
theorem ggX8_bestLot_X3_firstLot : GoodIn wsX8_bestLot wsX3_firstLot := goodIn_r _ [48, 49, 93, 94, 95, 96] (by decide +kernel) (by decide +kernel)
set_option maxRecDepth 20000 in
theorem gX8_bestLot_X3_firstLot : GoodIn wsX8_bestLot (wsV RX8 221 RX3 yX3_firstLot wsX3_firstLot) := goodIn_app (goodIn_of _ (by decide +kernel)) ggX8_bestLot_X3_firstLot
set_option maxRecDepth 20000 in
theorem ggX8_bestLot_X3_lotCount : GoodIn wsX8_bestLot wsX3_lotCount := goodIn_r _ [53, 54, 49, 55, 56, 57, 58, 59, 93, 94, 95, 96] (by decide +kernel) (by decide +kernel)
set_option maxRecDepth 20000 in
theorem gX8_bestLot_X3_lotCount : GoodIn wsX8_bestLot (wsV RX8 199 RX3 yX3_lotCount wsX3_lotCount) := goodIn_app (goodIn_of _ (by decide +kernel)) ggX8_bestLot_X3_lotCount
set_option maxRecDepth 20000 in
theorem ggX8_bestLot_X3_leanOf : GoodIn wsX8_bestLot wsX3_leanOf := goodIn_r _ [63, 54, 49, 64, 65, 66, 67, 93, 94, 95, 96] (by decide +kernel) (by decide +kernel)
set_option maxRecDepth 20000 in
theorem gX8_bestLot_X3_leanOf : GoodIn wsX8_bestLot (wsV RX8 218 RX3 yX3_leanOf wsX3_leanOf) := goodIn_app (goodIn_of _ (by decide +kernel)) ggX8_bestLot_X3_leanOf
set_option maxRecDepth 20000 in
theorem ggX8_bestLot_X5_next : GoodIn wsX8_bestLot wsX5_next := goodIn_r _ [70, 71, 72, 3, 73, 74, 75, 76, 77, 78, 79, 80] (by decide +kernel) (by decide +kernel)
set_option maxRecDepth 20000 in
theorem gX8_bestLot_X5_next : GoodIn wsX8_bestLot (va_wsS RX8 224 yX5_next wsX5_next) := goodIn_app (goodIn_of _ (by decide +kernel)) ggX8_bestLot_X5_next
theorem dX8_bestLot_0 : decode cX8_bestLot 0 = .ok (.aload_n 0, 1) := by decide +kernel
theorem dX8_bestLot_1 : decode cX8_bestLot 1 = .ok (.iload_n 1, 1) := by decide +kernel
theorem dX8_bestLot_2 : decode cX8_bestLot 2 = .ok (.invokevirtual 81, 3) := by decide +kernel
theorem dX8_bestLot_5 : decode cX8_bestLot 5 = .ok (.astore_n 2, 1) := by decide +kernel
theorem dX8_bestLot_6 : decode cX8_bestLot 6 = .ok (.aload_n 2, 1) := by decide +kernel
theorem dX8_bestLot_7 : decode cX8_bestLot 7 = .ok (.invokestatic 195, 3) := by decide +kernel
theorem dX8_bestLot_10 : decode cX8_bestLot 10 = .ok (.istore_n 3, 1) := by decide +kernel
theorem dX8_bestLot_11 : decode cX8_bestLot 11 = .ok (.aload_n 2, 1) := by decide +kernel
theorem dX8_bestLot_12 : decode cX8_bestLot 12 = .ok (.ifnull 7, 3) := by decide +kernel
theorem dX8_bestLot_15 : decode cX8_bestLot 15 = .ok (.iload_n 3, 1) := by decide +kernel
theorem dX8_bestLot_16 : decode cX8_bestLot 16 = .ok (.ifCond .eq 9, 3) := by decide +kernel
theorem dX8_bestLot_19 : decode cX8_bestLot 19 = .ok (.aload_n 0, 1) := by decide +kernel
theorem dX8_bestLot_20 : decode cX8_bestLot 20 = .ok (.iload_n 3, 1) := by decide +kernel
theorem dX8_bestLot_21 : decode cX8_bestLot 21 = .ok (.invokevirtual 54, 3) := by decide +kernel
theorem dX8_bestLot_24 : decode cX8_bestLot 24 = .ok (.ireturn, 1) := by decide +kernel
theorem dX8_bestLot_25 : decode cX8_bestLot 25 = .ok (.aload_n 2, 1) := by decide +kernel
theorem dX8_bestLot_26 : decode cX8_bestLot 26 = .ok (.invokevirtual 221, 3) := by decide +kernel
theorem dX8_bestLot_29 : decode cX8_bestLot 29 = .ok (.istore 4, 2) := by decide +kernel
theorem dX8_bestLot_31 : decode cX8_bestLot 31 = .ok (.iload 4, 2) := by decide +kernel
theorem dX8_bestLot_33 : decode cX8_bestLot 33 = .ok (.istore 5, 2) := by decide +kernel
theorem dX8_bestLot_35 : decode cX8_bestLot 35 = .ok (.iconst 0, 1) := by decide +kernel
theorem dX8_bestLot_36 : decode cX8_bestLot 36 = .ok (.istore 6, 2) := by decide +kernel
theorem dX8_bestLot_38 : decode cX8_bestLot 38 = .ok (.iload 6, 2) := by decide +kernel
theorem dX8_bestLot_40 : decode cX8_bestLot 40 = .ok (.aload_n 2, 1) := by decide +kernel
theorem dX8_bestLot_41 : decode cX8_bestLot 41 = .ok (.invokevirtual 199, 3) := by decide +kernel
theorem dX8_bestLot_44 : decode cX8_bestLot 44 = .ok (.if_icmp .ge 41, 3) := by decide +kernel
theorem dX8_bestLot_47 : decode cX8_bestLot 47 = .ok (.aload_n 2, 1) := by decide +kernel
theorem dX8_bestLot_48 : decode cX8_bestLot 48 = .ok (.iload 4, 2) := by decide +kernel
theorem dX8_bestLot_50 : decode cX8_bestLot 50 = .ok (.invokevirtual 218, 3) := by decide +kernel
theorem dX8_bestLot_53 : decode cX8_bestLot 53 = .ok (.invokestatic 227, 3) := by decide +kernel
theorem dX8_bestLot_56 : decode cX8_bestLot 56 = .ok (.aload_n 2, 1) := by decide +kernel
theorem dX8_bestLot_57 : decode cX8_bestLot 57 = .ok (.iload 5, 2) := by decide +kernel
theorem dX8_bestLot_59 : decode cX8_bestLot 59 = .ok (.invokevirtual 218, 3) := by decide +kernel
theorem dX8_bestLot_62 : decode cX8_bestLot 62 = .ok (.invokestatic 227, 3) := by decide +kernel
theorem dX8_bestLot_65 : decode cX8_bestLot 65 = .ok (.if_icmp .ge 7, 3) := by decide +kernel
theorem dX8_bestLot_68 : decode cX8_bestLot 68 = .ok (.iload 4, 2) := by decide +kernel
theorem dX8_bestLot_70 : decode cX8_bestLot 70 = .ok (.istore 5, 2) := by decide +kernel
theorem dX8_bestLot_72 : decode cX8_bestLot 72 = .ok (.iload 4, 2) := by decide +kernel
theorem dX8_bestLot_74 : decode cX8_bestLot 74 = .ok (.invokestatic 224, 3) := by decide +kernel
theorem dX8_bestLot_77 : decode cX8_bestLot 77 = .ok (.istore 4, 2) := by decide +kernel
theorem dX8_bestLot_79 : decode cX8_bestLot 79 = .ok (.iinc 6 1, 3) := by decide +kernel
theorem dX8_bestLot_82 : decode cX8_bestLot 82 = .ok (.goto (-44), 3) := by decide +kernel
theorem dX8_bestLot_85 : decode cX8_bestLot 85 = .ok (.iload 5, 2) := by decide +kernel
theorem dX8_bestLot_87 : decode cX8_bestLot 87 = .ok (.ireturn, 1) := by decide +kernel
set_option maxRecDepth 20000 in
theorem ggX8_marked_X8_planAt : GoodIn wsX8_marked wsX8_planAt := goodIn_r _ [6, 7, 8, 9, 10, 11, 12, 13, 14, 15, 16, 17, 18, 19, 20, 21, 22, 23, 24, 25, 26, 27, 28, 29, 30, 31, 64, 65, 66, 67, 68, 69, 70, 71, 72, 73, 74, 75] (by decide +kernel) (by decide +kernel)
set_option maxRecDepth 20000 in
theorem gX8_marked_X8_planAt : GoodIn wsX8_marked (wsV RX8 81 RX8 yX8_planAt wsX8_planAt) := goodIn_app (goodIn_of _ (by decide +kernel)) ggX8_marked_X8_planAt
set_option maxRecDepth 20000 in
theorem ggX8_marked_X8_lotRefusal : GoodIn wsX8_marked wsX8_lotRefusal := goodIn_r _ [34, 35, 60, 61, 62, 63] (by decide +kernel) (by decide +kernel)
set_option maxRecDepth 20000 in
theorem gX8_marked_X8_lotRefusal : GoodIn wsX8_marked (va_wsS RX8 195 yX8_lotRefusal wsX8_lotRefusal) := goodIn_app (goodIn_of _ (by decide +kernel)) ggX8_marked_X8_lotRefusal
set_option maxRecDepth 20000 in
theorem ggX8_marked_X8_refuse : GoodIn wsX8_marked wsX8_refuse := goodIn_r _ [39, 40, 64, 65, 66, 67, 68, 69, 70, 71, 72] (by decide +kernel) (by decide +kernel)
set_option maxRecDepth 20000 in
theorem gX8_marked_X8_refuse : GoodIn wsX8_marked (wsV RX8 54 RX8 yX8_refuse wsX8_refuse) := goodIn_app (goodIn_of _ (by decide +kernel)) ggX8_marked_X8_refuse
set_option maxRecDepth 20000 in
theorem ggX8_marked_X3_hasLot : GoodIn wsX8_marked wsX3_hasLot := goodIn_r _ [45, 46, 47, 48, 49, 50, 51, 52, 53, 54, 60, 61, 62, 63] (by decide +kernel) (by decide +kernel)
set_option maxRecDepth 20000 in
theorem gX8_marked_X3_hasLot : GoodIn wsX8_marked (wsV RX8 211 RX3 yX3_hasLot wsX3_hasLot) := goodIn_app (goodIn_of _ (by decide +kernel)) ggX8_marked_X3_hasLot
set_option maxRecDepth 20000 in
theorem ggX8_marked_X5_alike : GoodIn wsX8_marked wsX5_alike := goodIn_r _ [58, 59, 49, 50, 51, 52, 53, 54] (by decide +kernel) (by decide +kernel)
set_option maxRecDepth 20000 in
theorem gX8_marked_X5_alike : GoodIn wsX8_marked (va_wsS RX8 232 yX5_alike wsX5_alike) := goodIn_app (goodIn_of _ (by decide +kernel)) ggX8_marked_X5_alike
theorem dX8_marked_0 : decode cX8_marked 0 = .ok (.aload_n 0, 1) := by decide +kernel
theorem dX8_marked_1 : decode cX8_marked 1 = .ok (.iload_n 1, 1) := by decide +kernel
theorem dX8_marked_2 : decode cX8_marked 2 = .ok (.invokevirtual 81, 3) := by decide +kernel
theorem dX8_marked_5 : decode cX8_marked 5 = .ok (.astore 4, 2) := by decide +kernel
theorem dX8_marked_7 : decode cX8_marked 7 = .ok (.aload 4, 2) := by decide +kernel
theorem dX8_marked_9 : decode cX8_marked 9 = .ok (.invokestatic 195, 3) := by decide +kernel
theorem dX8_marked_12 : decode cX8_marked 12 = .ok (.istore 5, 2) := by decide +kernel
theorem dX8_marked_14 : decode cX8_marked 14 = .ok (.aload 4, 2) := by decide +kernel
theorem dX8_marked_16 : decode cX8_marked 16 = .ok (.ifnull 8, 3) := by decide +kernel
theorem dX8_marked_19 : decode cX8_marked 19 = .ok (.iload 5, 2) := by decide +kernel
theorem dX8_marked_21 : decode cX8_marked 21 = .ok (.ifCond .eq 10, 3) := by decide +kernel
theorem dX8_marked_24 : decode cX8_marked 24 = .ok (.aload_n 0, 1) := by decide +kernel
theorem dX8_marked_25 : decode cX8_marked 25 = .ok (.iload 5, 2) := by decide +kernel
theorem dX8_marked_27 : decode cX8_marked 27 = .ok (.invokevirtual 54, 3) := by decide +kernel
theorem dX8_marked_30 : decode cX8_marked 30 = .ok (.ireturn, 1) := by decide +kernel
theorem dX8_marked_31 : decode cX8_marked 31 = .ok (.aload 4, 2) := by decide +kernel
theorem dX8_marked_33 : decode cX8_marked 33 = .ok (.iload_n 2, 1) := by decide +kernel
theorem dX8_marked_34 : decode cX8_marked 34 = .ok (.invokevirtual 211, 3) := by decide +kernel
theorem dX8_marked_37 : decode cX8_marked 37 = .ok (.ifCond .ne 9, 3) := by decide +kernel
theorem dX8_marked_40 : decode cX8_marked 40 = .ok (.aload_n 0, 1) := by decide +kernel
theorem dX8_marked_41 : decode cX8_marked 41 = .ok (.iconst (-1), 1) := by decide +kernel
theorem dX8_marked_42 : decode cX8_marked 42 = .ok (.invokevirtual 54, 3) := by decide +kernel
theorem dX8_marked_45 : decode cX8_marked 45 = .ok (.ireturn, 1) := by decide +kernel
theorem dX8_marked_46 : decode cX8_marked 46 = .ok (.iload_n 3, 1) := by decide +kernel
theorem dX8_marked_47 : decode cX8_marked 47 = .ok (.ifCond .ge 10, 3) := by decide +kernel
theorem dX8_marked_50 : decode cX8_marked 50 = .ok (.aload_n 0, 1) := by decide +kernel
theorem dX8_marked_51 : decode cX8_marked 51 = .ok (.bipush (-4), 2) := by decide +kernel
theorem dX8_marked_53 : decode cX8_marked 53 = .ok (.invokevirtual 54, 3) := by decide +kernel
theorem dX8_marked_56 : decode cX8_marked 56 = .ok (.ireturn, 1) := by decide +kernel
theorem dX8_marked_57 : decode cX8_marked 57 = .ok (.iload_n 3, 1) := by decide +kernel
theorem dX8_marked_58 : decode cX8_marked 58 = .ok (.sipush 4095, 3) := by decide +kernel
theorem dX8_marked_61 : decode cX8_marked 61 = .ok (.if_icmp .le 10, 3) := by decide +kernel
theorem dX8_marked_64 : decode cX8_marked 64 = .ok (.aload_n 0, 1) := by decide +kernel
theorem dX8_marked_65 : decode cX8_marked 65 = .ok (.bipush (-6), 2) := by decide +kernel
theorem dX8_marked_67 : decode cX8_marked 67 = .ok (.invokevirtual 54, 3) := by decide +kernel
theorem dX8_marked_70 : decode cX8_marked 70 = .ok (.ireturn, 1) := by decide +kernel
theorem dX8_marked_71 : decode cX8_marked 71 = .ok (.aload 4, 2) := by decide +kernel
theorem dX8_marked_73 : decode cX8_marked 73 = .ok (.getfield 182, 3) := by decide +kernel
theorem dX8_marked_76 : decode cX8_marked 76 = .ok (.iload_n 2, 1) := by decide +kernel
theorem dX8_marked_77 : decode cX8_marked 77 = .ok (.iload_n 3, 1) := by decide +kernel
theorem dX8_marked_78 : decode cX8_marked 78 = .ok (.invokestatic 232, 3) := by decide +kernel
theorem dX8_marked_81 : decode cX8_marked 81 = .ok (.ireturn, 1) := by decide +kernel
set_option maxRecDepth 20000 in
theorem ggX8_free_X8_planAt : GoodIn wsX8_free wsX8_planAt := goodIn_r _ [6, 7, 8, 9, 10, 11, 12, 13, 14, 15, 16, 17, 18, 19, 20, 21, 22, 23, 24, 25, 26, 27, 28, 29, 30, 31, 79, 80, 81, 82, 83, 84, 85, 86, 87, 88, 89, 90] (by decide +kernel) (by decide +kernel)
set_option maxRecDepth 20000 in
theorem gX8_free_X8_planAt : GoodIn wsX8_free (wsV RX8 81 RX8 yX8_planAt wsX8_planAt) := goodIn_app (goodIn_of _ (by decide +kernel)) ggX8_free_X8_planAt
set_option maxRecDepth 20000 in
theorem ggX8_free_X8_lotRefusal : GoodIn wsX8_free wsX8_lotRefusal := goodIn_r _ [34, 35, 75, 76, 77, 78] (by decide +kernel) (by decide +kernel)
set_option maxRecDepth 20000 in
theorem gX8_free_X8_lotRefusal : GoodIn wsX8_free (va_wsS RX8 195 yX8_lotRefusal wsX8_lotRefusal) := goodIn_app (goodIn_of _ (by decide +kernel)) ggX8_free_X8_lotRefusal
set_option maxRecDepth 20000 in
theorem ggX8_free_X8_refuse : GoodIn wsX8_free wsX8_refuse := goodIn_r _ [39, 40, 79, 80, 81, 82, 83, 84, 85, 86, 87] (by decide +kernel) (by decide +kernel)
set_option maxRecDepth 20000 in
theorem gX8_free_X8_refuse : GoodIn wsX8_free (wsV RX8 54 RX8 yX8_refuse wsX8_refuse) := goodIn_app (goodIn_of _ (by decide +kernel)) ggX8_free_X8_refuse
set_option maxRecDepth 20000 in
theorem ggX8_free_X3_firstLot : GoodIn wsX8_free wsX3_firstLot := goodIn_r _ [45, 46, 75, 76, 77, 78] (by decide +kernel) (by decide +kernel)
set_option maxRecDepth 20000 in
theorem gX8_free_X3_firstLot : GoodIn wsX8_free (wsV RX8 221 RX3 yX3_firstLot wsX3_firstLot) := goodIn_app (goodIn_of _ (by decide +kernel)) ggX8_free_X3_firstLot
set_option maxRecDepth 20000 in
theorem ggX8_free_X3_lotCount : GoodIn wsX8_free wsX3_lotCount := goodIn_r _ [50, 51, 46, 52, 53, 54, 55, 56, 75, 76, 77, 78] (by decide +kernel) (by decide +kernel)
set_option maxRecDepth 20000 in
theorem gX8_free_X3_lotCount : GoodIn wsX8_free (wsV RX8 199 RX3 yX3_lotCount wsX3_lotCount) := goodIn_app (goodIn_of _ (by decide +kernel)) ggX8_free_X3_lotCount
set_option maxRecDepth 20000 in
theorem ggX8_free_X5_alike : GoodIn wsX8_free wsX5_alike := goodIn_r _ [60, 61, 62, 63, 64, 65, 66, 67] (by decide +kernel) (by decide +kernel)
set_option maxRecDepth 20000 in
theorem gX8_free_X5_alike : GoodIn wsX8_free (va_wsS RX8 232 yX5_alike wsX5_alike) := goodIn_app (goodIn_of _ (by decide +kernel)) ggX8_free_X5_alike
set_option maxRecDepth 20000 in
theorem ggX8_free_X5_next : GoodIn wsX8_free wsX5_next := goodIn_r _ [70, 71, 72, 73, 74, 61, 62, 63, 64, 65, 66, 67] (by decide +kernel) (by decide +kernel)
set_option maxRecDepth 20000 in
theorem gX8_free_X5_next : GoodIn wsX8_free (va_wsS RX8 224 yX5_next wsX5_next) := goodIn_app (goodIn_of _ (by decide +kernel)) ggX8_free_X5_next
theorem dX8_free_0 : decode cX8_free 0 = .ok (.aload_n 0, 1) := by decide +kernel
theorem dX8_free_1 : decode cX8_free 1 = .ok (.iload_n 1, 1) := by decide +kernel
theorem dX8_free_2 : decode cX8_free 2 = .ok (.invokevirtual 81, 3) := by decide +kernel
theorem dX8_free_5 : decode cX8_free 5 = .ok (.astore 4, 2) := by decide +kernel
theorem dX8_free_7 : decode cX8_free 7 = .ok (.aload 4, 2) := by decide +kernel
theorem dX8_free_9 : decode cX8_free 9 = .ok (.invokestatic 195, 3) := by decide +kernel
theorem dX8_free_12 : decode cX8_free 12 = .ok (.istore 5, 2) := by decide +kernel
theorem dX8_free_14 : decode cX8_free 14 = .ok (.aload 4, 2) := by decide +kernel
theorem dX8_free_16 : decode cX8_free 16 = .ok (.ifnull 8, 3) := by decide +kernel
theorem dX8_free_19 : decode cX8_free 19 = .ok (.iload 5, 2) := by decide +kernel
theorem dX8_free_21 : decode cX8_free 21 = .ok (.ifCond .eq 10, 3) := by decide +kernel
theorem dX8_free_24 : decode cX8_free 24 = .ok (.aload_n 0, 1) := by decide +kernel
theorem dX8_free_25 : decode cX8_free 25 = .ok (.iload 5, 2) := by decide +kernel
theorem dX8_free_27 : decode cX8_free 27 = .ok (.invokevirtual 54, 3) := by decide +kernel
theorem dX8_free_30 : decode cX8_free 30 = .ok (.ireturn, 1) := by decide +kernel
theorem dX8_free_31 : decode cX8_free 31 = .ok (.iload_n 2, 1) := by decide +kernel
theorem dX8_free_32 : decode cX8_free 32 = .ok (.ifCond .lt 7, 3) := by decide +kernel
theorem dX8_free_35 : decode cX8_free 35 = .ok (.iload_n 3, 1) := by decide +kernel
theorem dX8_free_36 : decode cX8_free 36 = .ok (.ifCond .ge 10, 3) := by decide +kernel
theorem dX8_free_39 : decode cX8_free 39 = .ok (.aload_n 0, 1) := by decide +kernel
theorem dX8_free_40 : decode cX8_free 40 = .ok (.bipush (-4), 2) := by decide +kernel
theorem dX8_free_42 : decode cX8_free 42 = .ok (.invokevirtual 54, 3) := by decide +kernel
theorem dX8_free_45 : decode cX8_free 45 = .ok (.ireturn, 1) := by decide +kernel
theorem dX8_free_46 : decode cX8_free 46 = .ok (.iload_n 2, 1) := by decide +kernel
theorem dX8_free_47 : decode cX8_free 47 = .ok (.sipush 4095, 3) := by decide +kernel
theorem dX8_free_50 : decode cX8_free 50 = .ok (.if_icmp .gt 12, 3) := by decide +kernel
theorem dX8_free_53 : decode cX8_free 53 = .ok (.iload_n 3, 1) := by decide +kernel
theorem dX8_free_54 : decode cX8_free 54 = .ok (.aload 4, 2) := by decide +kernel
theorem dX8_free_56 : decode cX8_free 56 = .ok (.getfield 182, 3) := by decide +kernel
theorem dX8_free_59 : decode cX8_free 59 = .ok (.if_icmp .le 10, 3) := by decide +kernel
theorem dX8_free_62 : decode cX8_free 62 = .ok (.aload_n 0, 1) := by decide +kernel
theorem dX8_free_63 : decode cX8_free 63 = .ok (.bipush (-6), 2) := by decide +kernel
theorem dX8_free_65 : decode cX8_free 65 = .ok (.invokevirtual 54, 3) := by decide +kernel
theorem dX8_free_68 : decode cX8_free 68 = .ok (.ireturn, 1) := by decide +kernel
theorem dX8_free_69 : decode cX8_free 69 = .ok (.iconst 0, 1) := by decide +kernel
theorem dX8_free_70 : decode cX8_free 70 = .ok (.istore 6, 2) := by decide +kernel
theorem dX8_free_72 : decode cX8_free 72 = .ok (.aload 4, 2) := by decide +kernel
theorem dX8_free_74 : decode cX8_free 74 = .ok (.invokevirtual 221, 3) := by decide +kernel
theorem dX8_free_77 : decode cX8_free 77 = .ok (.istore 7, 2) := by decide +kernel
theorem dX8_free_79 : decode cX8_free 79 = .ok (.iconst 0, 1) := by decide +kernel
theorem dX8_free_80 : decode cX8_free 80 = .ok (.istore 8, 2) := by decide +kernel
theorem dX8_free_82 : decode cX8_free 82 = .ok (.iload 8, 2) := by decide +kernel
theorem dX8_free_84 : decode cX8_free 84 = .ok (.aload 4, 2) := by decide +kernel
theorem dX8_free_86 : decode cX8_free 86 = .ok (.invokevirtual 199, 3) := by decide +kernel
theorem dX8_free_89 : decode cX8_free 89 = .ok (.if_icmp .ge 34, 3) := by decide +kernel
theorem dX8_free_92 : decode cX8_free 92 = .ok (.aload 4, 2) := by decide +kernel
theorem dX8_free_94 : decode cX8_free 94 = .ok (.getfield 182, 3) := by decide +kernel
theorem dX8_free_97 : decode cX8_free 97 = .ok (.iload 7, 2) := by decide +kernel
theorem dX8_free_99 : decode cX8_free 99 = .ok (.iload_n 2, 1) := by decide +kernel
theorem dX8_free_100 : decode cX8_free 100 = .ok (.invokestatic 232, 3) := by decide +kernel
theorem dX8_free_103 : decode cX8_free 103 = .ok (.iload_n 3, 1) := by decide +kernel
theorem dX8_free_104 : decode cX8_free 104 = .ok (.if_icmp .ne 6, 3) := by decide +kernel
theorem dX8_free_107 : decode cX8_free 107 = .ok (.iinc 6 1, 3) := by decide +kernel
theorem dX8_free_110 : decode cX8_free 110 = .ok (.iload 7, 2) := by decide +kernel
theorem dX8_free_112 : decode cX8_free 112 = .ok (.invokestatic 224, 3) := by decide +kernel
theorem dX8_free_115 : decode cX8_free 115 = .ok (.istore 7, 2) := by decide +kernel
theorem dX8_free_117 : decode cX8_free 117 = .ok (.iinc 8 1, 3) := by decide +kernel
theorem dX8_free_120 : decode cX8_free 120 = .ok (.goto (-38), 3) := by decide +kernel
theorem dX8_free_123 : decode cX8_free 123 = .ok (.iload 6, 2) := by decide +kernel
theorem dX8_free_125 : decode cX8_free 125 = .ok (.ireturn, 1) := by decide +kernel
set_option maxRecDepth 20000 in
theorem ggX8_sit_X8_planAt : GoodIn wsX8_sit wsX8_planAt := goodIn_r _ [10, 11, 12, 13, 14, 15, 16, 17, 18, 19, 20, 21, 22, 23, 24, 25, 26, 27, 28, 29, 30, 31, 32, 33, 34, 35, 112, 113, 114, 115, 116, 117, 118, 119, 120, 124, 125, 126] (by decide +kernel) (by decide +kernel)
set_option maxRecDepth 20000 in
theorem gX8_sit_X8_planAt : GoodIn wsX8_sit (wsV RX8 81 RX8 yX8_planAt wsX8_planAt) := goodIn_app (goodIn_of _ (by decide +kernel)) ggX8_sit_X8_planAt
set_option maxRecDepth 20000 in
theorem ggX8_sit_X8_refuse : GoodIn wsX8_sit wsX8_refuse := goodIn_r _ [39, 40, 112, 113, 114, 115, 116, 117, 118, 119, 120] (by decide +kernel) (by decide +kernel)
set_option maxRecDepth 20000 in
theorem gX8_sit_X8_refuse : GoodIn wsX8_sit (wsV RX8 54 RX8 yX8_refuse wsX8_refuse) := goodIn_app (goodIn_of _ (by decide +kernel)) ggX8_sit_X8_refuse
set_option maxRecDepth 20000 in
theorem ggX8_sit_X3_most : GoodIn wsX8_sit wsX3_most := goodIn_r _ [45, 46, 47, 48, 9, 49, 127, 128, 129, 130] (by decide +kernel) (by decide +kernel)
set_option maxRecDepth 20000 in
theorem gX8_sit_X3_most : GoodIn wsX8_sit (wsV RX8 85 RX3 yX3_most wsX3_most) := goodIn_app (goodIn_of _ (by decide +kernel)) ggX8_sit_X3_most
set_option maxRecDepth 20000 in
theorem ggX8_sit_Jx4a65c_size_8abf5 : GoodIn wsX8_sit wsJx4a65c_size_8abf5 := goodIn_r _ [17, 18, 124, 125, 126] (by decide +kernel) (by decide +kernel)
set_option maxRecDepth 20000 in
theorem gX8_sit_Jx4a65c_size_8abf5 : GoodIn wsX8_sit (wsV RX8 68 RJx4a65c yJx4a65c_size_8abf5 wsJx4a65c_size_8abf5) := goodIn_app (goodIn_of _ (by decide +kernel)) ggX8_sit_Jx4a65c_size_8abf5
set_option maxRecDepth 20000 in
theorem ggX8_sit_X6_init : GoodIn wsX8_sit wsX6_init := goodIn_r _ [52, 53, 54, 55, 56, 57, 58, 121, 122, 123] (by decide +kernel) (by decide +kernel)
set_option maxRecDepth 20000 in
theorem gX8_sit_X6_init : GoodIn wsX8_sit (wsX6_init) := ggX8_sit_X6_init
set_option maxRecDepth 20000 in
theorem ggX8_sit_Jx4a65c_add_9ea2d : GoodIn wsX8_sit wsJx4a65c_add_9ea2d := goodIn_r _ [62, 63, 64, 35, 18, 65, 66, 67, 16, 68, 69, 70, 71, 72, 73, 74, 75, 76, 77, 78, 79, 80, 81, 82, 83, 84, 85, 86, 87, 88, 89, 90, 91, 92, 93, 94, 95, 96, 97, 98, 99, 100, 101, 102, 103, 104, 105, 106, 107, 108, 109, 110, 111, 124, 125, 126] (by decide +kernel) (by decide +kernel)
set_option maxRecDepth 20000 in
theorem gX8_sit_Jx4a65c_add_9ea2d : GoodIn wsX8_sit (wsV RX8 77 RJx4a65c yJx4a65c_add_9ea2d wsJx4a65c_add_9ea2d) := goodIn_app (goodIn_of _ (by decide +kernel)) ggX8_sit_Jx4a65c_add_9ea2d
theorem dX8_sit_0 : decode cX8_sit 0 = .ok (.aload_n 0, 1) := by decide +kernel
theorem dX8_sit_1 : decode cX8_sit 1 = .ok (.iload_n 1, 1) := by decide +kernel
theorem dX8_sit_2 : decode cX8_sit 2 = .ok (.invokevirtual 81, 3) := by decide +kernel
theorem dX8_sit_5 : decode cX8_sit 5 = .ok (.astore 4, 2) := by decide +kernel
theorem dX8_sit_7 : decode cX8_sit 7 = .ok (.aload 4, 2) := by decide +kernel
theorem dX8_sit_9 : decode cX8_sit 9 = .ok (.ifnonnull 9, 3) := by decide +kernel
theorem dX8_sit_12 : decode cX8_sit 12 = .ok (.aload_n 0, 1) := by decide +kernel
theorem dX8_sit_13 : decode cX8_sit 13 = .ok (.iconst (-1), 1) := by decide +kernel
theorem dX8_sit_14 : decode cX8_sit 14 = .ok (.invokevirtual 54, 3) := by decide +kernel
theorem dX8_sit_17 : decode cX8_sit 17 = .ok (.ireturn, 1) := by decide +kernel
theorem dX8_sit_18 : decode cX8_sit 18 = .ok (.iload_n 2, 1) := by decide +kernel
theorem dX8_sit_19 : decode cX8_sit 19 = .ok (.ifCond .ge 10, 3) := by decide +kernel
theorem dX8_sit_22 : decode cX8_sit 22 = .ok (.aload_n 0, 1) := by decide +kernel
theorem dX8_sit_23 : decode cX8_sit 23 = .ok (.bipush (-4), 2) := by decide +kernel
theorem dX8_sit_25 : decode cX8_sit 25 = .ok (.invokevirtual 54, 3) := by decide +kernel
theorem dX8_sit_28 : decode cX8_sit 28 = .ok (.ireturn, 1) := by decide +kernel
theorem dX8_sit_29 : decode cX8_sit 29 = .ok (.iload_n 2, 1) := by decide +kernel
theorem dX8_sit_30 : decode cX8_sit 30 = .ok (.aload 4, 2) := by decide +kernel
theorem dX8_sit_32 : decode cX8_sit 32 = .ok (.invokevirtual 85, 3) := by decide +kernel
theorem dX8_sit_35 : decode cX8_sit 35 = .ok (.if_icmp .gt 15, 3) := by decide +kernel
theorem dX8_sit_38 : decode cX8_sit 38 = .ok (.aload_n 0, 1) := by decide +kernel
theorem dX8_sit_39 : decode cX8_sit 39 = .ok (.getfield 19, 3) := by decide +kernel
theorem dX8_sit_42 : decode cX8_sit 42 = .ok (.invokevirtual 68, 3) := by decide +kernel
theorem dX8_sit_45 : decode cX8_sit 45 = .ok (.bipush 30, 2) := by decide +kernel
theorem dX8_sit_47 : decode cX8_sit 47 = .ok (.if_icmp .lt 10, 3) := by decide +kernel
theorem dX8_sit_50 : decode cX8_sit 50 = .ok (.aload_n 0, 1) := by decide +kernel
theorem dX8_sit_51 : decode cX8_sit 51 = .ok (.bipush (-6), 2) := by decide +kernel
theorem dX8_sit_53 : decode cX8_sit 53 = .ok (.invokevirtual 54, 3) := by decide +kernel
theorem dX8_sit_56 : decode cX8_sit 56 = .ok (.ireturn, 1) := by decide +kernel
theorem dX8_sit_57 : decode cX8_sit 57 = .ok (.aload_n 0, 1) := by decide +kernel
theorem dX8_sit_58 : decode cX8_sit 58 = .ok (.getfield 19, 3) := by decide +kernel
theorem dX8_sit_61 : decode cX8_sit 61 = .ok (.new 235, 3) := by decide +kernel
theorem dX8_sit_64 : decode cX8_sit 64 = .ok (.dup, 1) := by decide +kernel
theorem dX8_sit_65 : decode cX8_sit 65 = .ok (.iload_n 1, 1) := by decide +kernel
theorem dX8_sit_66 : decode cX8_sit 66 = .ok (.iload_n 2, 1) := by decide +kernel
theorem dX8_sit_67 : decode cX8_sit 67 = .ok (.iload_n 3, 1) := by decide +kernel
theorem dX8_sit_68 : decode cX8_sit 68 = .ok (.invokespecial 237, 3) := by decide +kernel
theorem dX8_sit_71 : decode cX8_sit 71 = .ok (.invokevirtual 77, 3) := by decide +kernel
theorem dX8_sit_74 : decode cX8_sit 74 = .ok (.pop, 1) := by decide +kernel
theorem dX8_sit_75 : decode cX8_sit 75 = .ok (.iload_n 3, 1) := by decide +kernel
theorem dX8_sit_76 : decode cX8_sit 76 = .ok (.ifCond .eq 13, 3) := by decide +kernel
theorem dX8_sit_79 : decode cX8_sit 79 = .ok (.aload_n 0, 1) := by decide +kernel
theorem dX8_sit_80 : decode cX8_sit 80 = .ok (.dup, 1) := by decide +kernel
theorem dX8_sit_81 : decode cX8_sit 81 = .ok (.getfield 29, 3) := by decide +kernel
theorem dX8_sit_84 : decode cX8_sit 84 = .ok (.iconst 1, 1) := by decide +kernel
theorem dX8_sit_85 : decode cX8_sit 85 = .ok (.iadd, 1) := by decide +kernel
theorem dX8_sit_86 : decode cX8_sit 86 = .ok (.putfield 29, 3) := by decide +kernel
theorem dX8_sit_89 : decode cX8_sit 89 = .ok (.aload_n 0, 1) := by decide +kernel
theorem dX8_sit_90 : decode cX8_sit 90 = .ok (.getfield 19, 3) := by decide +kernel
theorem dX8_sit_93 : decode cX8_sit 93 = .ok (.invokevirtual 68, 3) := by decide +kernel
theorem dX8_sit_96 : decode cX8_sit 96 = .ok (.iconst 1, 1) := by decide +kernel
theorem dX8_sit_97 : decode cX8_sit 97 = .ok (.isub, 1) := by decide +kernel
theorem dX8_sit_98 : decode cX8_sit 98 = .ok (.ireturn, 1) := by decide +kernel
set_option maxRecDepth 20000 in
theorem ggX8_show_Jx4a65c_size_8abf5 : GoodIn wsX8_show wsJx4a65c_size_8abf5 := goodIn_r _ [9, 10, 46, 47, 48] (by decide +kernel) (by decide +kernel)
set_option maxRecDepth 20000 in
theorem gX8_show_Jx4a65c_size_8abf5 : GoodIn wsX8_show (wsV RX8 68 RJx4a65c yJx4a65c_size_8abf5 wsJx4a65c_size_8abf5) := goodIn_app (goodIn_of _ (by decide +kernel)) ggX8_show_Jx4a65c_size_8abf5
set_option maxRecDepth 20000 in
theorem ggX8_show_X8_refuse : GoodIn wsX8_show wsX8_refuse := goodIn_r _ [15, 16, 34, 35, 36, 37, 38, 39, 40, 41, 42] (by decide +kernel) (by decide +kernel)
set_option maxRecDepth 20000 in
theorem gX8_show_X8_refuse : GoodIn wsX8_show (wsV RX8 54 RX8 yX8_refuse wsX8_refuse) := goodIn_app (goodIn_of _ (by decide +kernel)) ggX8_show_X8_refuse
set_option maxRecDepth 20000 in
theorem ggX8_show_Jx4a65c_get_915e3 : GoodIn wsX8_show wsJx4a65c_get_915e3 := goodIn_r _ [20, 10, 21, 22, 23, 24, 25, 26, 27, 28, 29, 30, 31, 8, 32, 33, 46, 47, 48] (by decide +kernel) (by decide +kernel)
set_option maxRecDepth 20000 in
theorem gX8_show_Jx4a65c_get_915e3 : GoodIn wsX8_show (wsV RX8 185 RJx4a65c yJx4a65c_get_915e3 wsJx4a65c_get_915e3) := goodIn_app (goodIn_of _ (by decide +kernel)) ggX8_show_Jx4a65c_get_915e3
theorem dX8_show_0 : decode cX8_show 0 = .ok (.iload_n 1, 1) := by decide +kernel
theorem dX8_show_1 : decode cX8_show 1 = .ok (.ifCond .lt 14, 3) := by decide +kernel
theorem dX8_show_4 : decode cX8_show 4 = .ok (.iload_n 1, 1) := by decide +kernel
theorem dX8_show_5 : decode cX8_show 5 = .ok (.aload_n 0, 1) := by decide +kernel
theorem dX8_show_6 : decode cX8_show 6 = .ok (.getfield 19, 3) := by decide +kernel
theorem dX8_show_9 : decode cX8_show 9 = .ok (.invokevirtual 68, 3) := by decide +kernel
theorem dX8_show_12 : decode cX8_show 12 = .ok (.if_icmp .lt 9, 3) := by decide +kernel
theorem dX8_show_15 : decode cX8_show 15 = .ok (.aload_n 0, 1) := by decide +kernel
theorem dX8_show_16 : decode cX8_show 16 = .ok (.iconst (-1), 1) := by decide +kernel
theorem dX8_show_17 : decode cX8_show 17 = .ok (.invokevirtual 54, 3) := by decide +kernel
theorem dX8_show_20 : decode cX8_show 20 = .ok (.ireturn, 1) := by decide +kernel
theorem dX8_show_21 : decode cX8_show 21 = .ok (.aload_n 0, 1) := by decide +kernel
theorem dX8_show_22 : decode cX8_show 22 = .ok (.getfield 19, 3) := by decide +kernel
theorem dX8_show_25 : decode cX8_show 25 = .ok (.iload_n 1, 1) := by decide +kernel
theorem dX8_show_26 : decode cX8_show 26 = .ok (.invokevirtual 185, 3) := by decide +kernel
theorem dX8_show_29 : decode cX8_show 29 = .ok (.checkcast 235, 3) := by decide +kernel
theorem dX8_show_32 : decode cX8_show 32 = .ok (.astore_n 2, 1) := by decide +kernel
theorem dX8_show_33 : decode cX8_show 33 = .ok (.aload_n 2, 1) := by decide +kernel
theorem dX8_show_34 : decode cX8_show 34 = .ok (.ifnonnull 9, 3) := by decide +kernel
theorem dX8_show_37 : decode cX8_show 37 = .ok (.aload_n 0, 1) := by decide +kernel
theorem dX8_show_38 : decode cX8_show 38 = .ok (.iconst (-1), 1) := by decide +kernel
theorem dX8_show_39 : decode cX8_show 39 = .ok (.invokevirtual 54, 3) := by decide +kernel
theorem dX8_show_42 : decode cX8_show 42 = .ok (.ireturn, 1) := by decide +kernel
theorem dX8_show_43 : decode cX8_show 43 = .ok (.aload_n 2, 1) := by decide +kernel
theorem dX8_show_44 : decode cX8_show 44 = .ok (.getfield 240, 3) := by decide +kernel
theorem dX8_show_47 : decode cX8_show 47 = .ok (.ifCond .eq 10, 3) := by decide +kernel
theorem dX8_show_50 : decode cX8_show 50 = .ok (.aload_n 0, 1) := by decide +kernel
theorem dX8_show_51 : decode cX8_show 51 = .ok (.bipush (-3), 2) := by decide +kernel
theorem dX8_show_53 : decode cX8_show 53 = .ok (.invokevirtual 54, 3) := by decide +kernel
theorem dX8_show_56 : decode cX8_show 56 = .ok (.ireturn, 1) := by decide +kernel
theorem dX8_show_57 : decode cX8_show 57 = .ok (.aload_n 2, 1) := by decide +kernel
theorem dX8_show_58 : decode cX8_show 58 = .ok (.iconst 1, 1) := by decide +kernel
theorem dX8_show_59 : decode cX8_show 59 = .ok (.putfield 240, 3) := by decide +kernel
theorem dX8_show_62 : decode cX8_show 62 = .ok (.aload_n 0, 1) := by decide +kernel
theorem dX8_show_63 : decode cX8_show 63 = .ok (.dup, 1) := by decide +kernel
theorem dX8_show_64 : decode cX8_show 64 = .ok (.getfield 29, 3) := by decide +kernel
theorem dX8_show_67 : decode cX8_show 67 = .ok (.iconst 1, 1) := by decide +kernel
theorem dX8_show_68 : decode cX8_show 68 = .ok (.iadd, 1) := by decide +kernel
theorem dX8_show_69 : decode cX8_show 69 = .ok (.putfield 29, 3) := by decide +kernel
theorem dX8_show_72 : decode cX8_show 72 = .ok (.iconst 1, 1) := by decide +kernel
theorem dX8_show_73 : decode cX8_show 73 = .ok (.ireturn, 1) := by decide +kernel
set_option maxRecDepth 20000 in
theorem ggX8_drawer_X8_planAt : GoodIn wsX8_drawer wsX8_planAt := goodIn_r _ [5, 6, 7, 8, 9, 10, 11, 12, 13, 14, 15, 16, 17, 18, 19, 20, 21, 22, 23, 24, 25, 26, 27, 28, 29, 30, 62, 63, 64, 65, 66, 67, 68, 69, 70, 71, 72, 73] (by decide +kernel) (by decide +kernel)
set_option maxRecDepth 20000 in
theorem gX8_drawer_X8_planAt : GoodIn wsX8_drawer (wsV RX8 81 RX8 yX8_planAt wsX8_planAt) := goodIn_app (goodIn_of _ (by decide +kernel)) ggX8_drawer_X8_planAt
set_option maxRecDepth 20000 in
theorem ggX8_drawer_X8_refuse : GoodIn wsX8_drawer wsX8_refuse := goodIn_r _ [34, 35, 62, 63, 64, 65, 66, 67, 68, 69, 70] (by decide +kernel) (by decide +kernel)
set_option maxRecDepth 20000 in
theorem gX8_drawer_X8_refuse : GoodIn wsX8_drawer (wsV RX8 54 RX8 yX8_refuse wsX8_refuse) := goodIn_app (goodIn_of _ (by decide +kernel)) ggX8_drawer_X8_refuse
set_option maxRecDepth 20000 in
theorem ggX8_drawer_X8_sittingsOf : GoodIn wsX8_drawer wsX8_sittingsOf := goodIn_r _ [39, 40, 41, 42, 8, 9, 10, 11, 12, 13, 14, 15, 16, 17, 18, 19, 20, 21, 22, 23, 24, 25, 26, 27, 28, 29, 30, 62, 63, 64, 65, 66, 67, 68, 69, 70, 74, 75, 76, 71, 72, 73] (by decide +kernel) (by decide +kernel)
set_option maxRecDepth 20000 in
theorem gX8_drawer_X8_sittingsOf : GoodIn wsX8_drawer (wsV RX8 244 RX8 yX8_sittingsOf wsX8_sittingsOf) := goodIn_app (goodIn_of _ (by decide +kernel)) ggX8_drawer_X8_sittingsOf
set_option maxRecDepth 20000 in
theorem ggX8_drawer_X8_toldOf : GoodIn wsX8_drawer wsX8_toldOf := goodIn_r _ [46, 40, 41, 47, 42, 8, 9, 10, 11, 12, 13, 14, 15, 16, 17, 18, 19, 20, 21, 22, 23, 24, 25, 26, 27, 28, 29, 30, 62, 63, 64, 65, 66, 67, 68, 69, 70, 74, 75, 76, 71, 72, 73] (by decide +kernel) (by decide +kernel)
set_option maxRecDepth 20000 in
theorem gX8_drawer_X8_toldOf : GoodIn wsX8_drawer (wsV RX8 247 RX8 yX8_toldOf wsX8_toldOf) := goodIn_app (goodIn_of _ (by decide +kernel)) ggX8_drawer_X8_toldOf
set_option maxRecDepth 20000 in
theorem ggX8_drawer_X8_rightOf : GoodIn wsX8_drawer wsX8_rightOf := goodIn_r _ [51, 40, 41, 47, 42, 52, 8, 9, 10, 11, 12, 13, 14, 15, 16, 17, 18, 19, 20, 21, 22, 23, 24, 25, 26, 27, 28, 29, 30, 62, 63, 64, 65, 66, 67, 68, 69, 70, 74, 75, 76, 71, 72, 73] (by decide +kernel) (by decide +kernel)
set_option maxRecDepth 20000 in
theorem gX8_drawer_X8_rightOf : GoodIn wsX8_drawer (wsV RX8 250 RX8 yX8_rightOf wsX8_rightOf) := goodIn_app (goodIn_of _ (by decide +kernel)) ggX8_drawer_X8_rightOf
set_option maxRecDepth 20000 in
theorem ggX8_drawer_X3_most : GoodIn wsX8_drawer wsX3_most := goodIn_r _ [57, 58, 59, 60, 4, 61, 77, 78, 79, 80] (by decide +kernel) (by decide +kernel)
set_option maxRecDepth 20000 in
theorem gX8_drawer_X3_most : GoodIn wsX8_drawer (wsV RX8 85 RX3 yX3_most wsX3_most) := goodIn_app (goodIn_of _ (by decide +kernel)) ggX8_drawer_X3_most
theorem dX8_drawer_0 : decode cX8_drawer 0 = .ok (.aload_n 0, 1) := by decide +kernel
theorem dX8_drawer_1 : decode cX8_drawer 1 = .ok (.iload_n 1, 1) := by decide +kernel
theorem dX8_drawer_2 : decode cX8_drawer 2 = .ok (.invokevirtual 81, 3) := by decide +kernel
theorem dX8_drawer_5 : decode cX8_drawer 5 = .ok (.astore_n 3, 1) := by decide +kernel
theorem dX8_drawer_6 : decode cX8_drawer 6 = .ok (.aload_n 3, 1) := by decide +kernel
theorem dX8_drawer_7 : decode cX8_drawer 7 = .ok (.ifnonnull 9, 3) := by decide +kernel
theorem dX8_drawer_10 : decode cX8_drawer 10 = .ok (.aload_n 0, 1) := by decide +kernel
theorem dX8_drawer_11 : decode cX8_drawer 11 = .ok (.iconst (-1), 1) := by decide +kernel
theorem dX8_drawer_12 : decode cX8_drawer 12 = .ok (.invokevirtual 54, 3) := by decide +kernel
theorem dX8_drawer_15 : decode cX8_drawer 15 = .ok (.ireturn, 1) := by decide +kernel
theorem dX8_drawer_16 : decode cX8_drawer 16 = .ok (.iload_n 2, 1) := by decide +kernel
theorem dX8_drawer_17 : decode cX8_drawer 17 = .ok (.tableswitch 82 0 4 #[35, 41, 47, 53, 59], 35) := by decide +kernel
theorem dX8_drawer_52 : decode cX8_drawer 52 = .ok (.aload_n 0, 1) := by decide +kernel
theorem dX8_drawer_53 : decode cX8_drawer 53 = .ok (.iload_n 1, 1) := by decide +kernel
theorem dX8_drawer_54 : decode cX8_drawer 54 = .ok (.invokevirtual 244, 3) := by decide +kernel
theorem dX8_drawer_57 : decode cX8_drawer 57 = .ok (.ireturn, 1) := by decide +kernel
theorem dX8_drawer_58 : decode cX8_drawer 58 = .ok (.aload_n 0, 1) := by decide +kernel
theorem dX8_drawer_59 : decode cX8_drawer 59 = .ok (.iload_n 1, 1) := by decide +kernel
theorem dX8_drawer_60 : decode cX8_drawer 60 = .ok (.invokevirtual 247, 3) := by decide +kernel
theorem dX8_drawer_63 : decode cX8_drawer 63 = .ok (.ireturn, 1) := by decide +kernel
theorem dX8_drawer_64 : decode cX8_drawer 64 = .ok (.aload_n 0, 1) := by decide +kernel
theorem dX8_drawer_65 : decode cX8_drawer 65 = .ok (.iload_n 1, 1) := by decide +kernel
theorem dX8_drawer_66 : decode cX8_drawer 66 = .ok (.invokevirtual 250, 3) := by decide +kernel
theorem dX8_drawer_69 : decode cX8_drawer 69 = .ok (.ireturn, 1) := by decide +kernel
theorem dX8_drawer_70 : decode cX8_drawer 70 = .ok (.aload_n 0, 1) := by decide +kernel
theorem dX8_drawer_71 : decode cX8_drawer 71 = .ok (.iload_n 1, 1) := by decide +kernel
theorem dX8_drawer_72 : decode cX8_drawer 72 = .ok (.invokevirtual 250, 3) := by decide +kernel
theorem dX8_drawer_75 : decode cX8_drawer 75 = .ok (.ireturn, 1) := by decide +kernel
theorem dX8_drawer_76 : decode cX8_drawer 76 = .ok (.aload_n 0, 1) := by decide +kernel
theorem dX8_drawer_77 : decode cX8_drawer 77 = .ok (.iload_n 1, 1) := by decide +kernel
theorem dX8_drawer_78 : decode cX8_drawer 78 = .ok (.invokevirtual 250, 3) := by decide +kernel
theorem dX8_drawer_81 : decode cX8_drawer 81 = .ok (.aload_n 0, 1) := by decide +kernel
theorem dX8_drawer_82 : decode cX8_drawer 82 = .ok (.iload_n 1, 1) := by decide +kernel
theorem dX8_drawer_83 : decode cX8_drawer 83 = .ok (.invokevirtual 244, 3) := by decide +kernel
theorem dX8_drawer_86 : decode cX8_drawer 86 = .ok (.aload_n 0, 1) := by decide +kernel
theorem dX8_drawer_87 : decode cX8_drawer 87 = .ok (.iload_n 1, 1) := by decide +kernel
theorem dX8_drawer_88 : decode cX8_drawer 88 = .ok (.invokevirtual 247, 3) := by decide +kernel
theorem dX8_drawer_91 : decode cX8_drawer 91 = .ok (.isub, 1) := by decide +kernel
theorem dX8_drawer_92 : decode cX8_drawer 92 = .ok (.aload_n 3, 1) := by decide +kernel
theorem dX8_drawer_93 : decode cX8_drawer 93 = .ok (.invokevirtual 85, 3) := by decide +kernel
theorem dX8_drawer_96 : decode cX8_drawer 96 = .ok (.imul, 1) := by decide +kernel
theorem dX8_drawer_97 : decode cX8_drawer 97 = .ok (.iadd, 1) := by decide +kernel
theorem dX8_drawer_98 : decode cX8_drawer 98 = .ok (.ireturn, 1) := by decide +kernel
theorem dX8_drawer_99 : decode cX8_drawer 99 = .ok (.aload_n 0, 1) := by decide +kernel
theorem dX8_drawer_100 : decode cX8_drawer 100 = .ok (.bipush (-2), 2) := by decide +kernel
theorem dX8_drawer_102 : decode cX8_drawer 102 = .ok (.invokevirtual 54, 3) := by decide +kernel
theorem dX8_drawer_105 : decode cX8_drawer 105 = .ok (.ireturn, 1) := by decide +kernel
set_option maxRecDepth 20000 in
theorem ggX8_turned_X8_planAt : GoodIn wsX8_turned wsX8_planAt := goodIn_r _ [5, 6, 7, 8, 9, 10, 11, 12, 13, 14, 15, 16, 17, 18, 19, 20, 21, 22, 23, 24, 25, 26, 27, 28, 29, 30, 62, 63, 64, 65, 66, 67, 68, 69, 70, 71, 72, 73] (by decide +kernel) (by decide +kernel)
set_option maxRecDepth 20000 in
theorem gX8_turned_X8_planAt : GoodIn wsX8_turned (wsV RX8 81 RX8 yX8_planAt wsX8_planAt) := goodIn_app (goodIn_of _ (by decide +kernel)) ggX8_turned_X8_planAt
set_option maxRecDepth 20000 in
theorem ggX8_turned_X8_refuse : GoodIn wsX8_turned wsX8_refuse := goodIn_r _ [34, 35, 62, 63, 64, 65, 66, 67, 68, 69, 70] (by decide +kernel) (by decide +kernel)
set_option maxRecDepth 20000 in
theorem gX8_turned_X8_refuse : GoodIn wsX8_turned (wsV RX8 54 RX8 yX8_refuse wsX8_refuse) := goodIn_app (goodIn_of _ (by decide +kernel)) ggX8_turned_X8_refuse
set_option maxRecDepth 20000 in
theorem ggX8_turned_X8_sittingsOf : GoodIn wsX8_turned wsX8_sittingsOf := goodIn_r _ [39, 40, 41, 42, 8, 9, 10, 11, 12, 13, 14, 15, 16, 17, 18, 19, 20, 21, 22, 23, 24, 25, 26, 27, 28, 29, 30, 62, 63, 64, 65, 66, 67, 68, 69, 70, 74, 75, 76, 71, 72, 73] (by decide +kernel) (by decide +kernel)
set_option maxRecDepth 20000 in
theorem gX8_turned_X8_sittingsOf : GoodIn wsX8_turned (wsV RX8 244 RX8 yX8_sittingsOf wsX8_sittingsOf) := goodIn_app (goodIn_of _ (by decide +kernel)) ggX8_turned_X8_sittingsOf
set_option maxRecDepth 20000 in
theorem ggX8_turned_X8_toldOf : GoodIn wsX8_turned wsX8_toldOf := goodIn_r _ [46, 40, 41, 47, 42, 8, 9, 10, 11, 12, 13, 14, 15, 16, 17, 18, 19, 20, 21, 22, 23, 24, 25, 26, 27, 28, 29, 30, 62, 63, 64, 65, 66, 67, 68, 69, 70, 74, 75, 76, 71, 72, 73] (by decide +kernel) (by decide +kernel)
set_option maxRecDepth 20000 in
theorem gX8_turned_X8_toldOf : GoodIn wsX8_turned (wsV RX8 247 RX8 yX8_toldOf wsX8_toldOf) := goodIn_app (goodIn_of _ (by decide +kernel)) ggX8_turned_X8_toldOf
set_option maxRecDepth 20000 in
theorem ggX8_turned_X8_rightOf : GoodIn wsX8_turned wsX8_rightOf := goodIn_r _ [51, 40, 41, 47, 42, 52, 8, 9, 10, 11, 12, 13, 14, 15, 16, 17, 18, 19, 20, 21, 22, 23, 24, 25, 26, 27, 28, 29, 30, 62, 63, 64, 65, 66, 67, 68, 69, 70, 74, 75, 76, 71, 72, 73] (by decide +kernel) (by decide +kernel)
set_option maxRecDepth 20000 in
theorem gX8_turned_X8_rightOf : GoodIn wsX8_turned (wsV RX8 250 RX8 yX8_rightOf wsX8_rightOf) := goodIn_app (goodIn_of _ (by decide +kernel)) ggX8_turned_X8_rightOf
set_option maxRecDepth 20000 in
theorem ggX8_turned_X3_most : GoodIn wsX8_turned wsX3_most := goodIn_r _ [57, 58, 59, 60, 4, 61, 77, 78, 79, 80] (by decide +kernel) (by decide +kernel)
set_option maxRecDepth 20000 in
theorem gX8_turned_X3_most : GoodIn wsX8_turned (wsV RX8 85 RX3 yX3_most wsX3_most) := goodIn_app (goodIn_of _ (by decide +kernel)) ggX8_turned_X3_most
theorem dX8_turned_0 : decode cX8_turned 0 = .ok (.aload_n 0, 1) := by decide +kernel
theorem dX8_turned_1 : decode cX8_turned 1 = .ok (.iload_n 1, 1) := by decide +kernel
theorem dX8_turned_2 : decode cX8_turned 2 = .ok (.invokevirtual 81, 3) := by decide +kernel
theorem dX8_turned_5 : decode cX8_turned 5 = .ok (.astore_n 3, 1) := by decide +kernel
theorem dX8_turned_6 : decode cX8_turned 6 = .ok (.aload_n 3, 1) := by decide +kernel
theorem dX8_turned_7 : decode cX8_turned 7 = .ok (.ifnonnull 9, 3) := by decide +kernel
theorem dX8_turned_10 : decode cX8_turned 10 = .ok (.aload_n 0, 1) := by decide +kernel
theorem dX8_turned_11 : decode cX8_turned 11 = .ok (.iconst (-1), 1) := by decide +kernel
theorem dX8_turned_12 : decode cX8_turned 12 = .ok (.invokevirtual 54, 3) := by decide +kernel
theorem dX8_turned_15 : decode cX8_turned 15 = .ok (.ireturn, 1) := by decide +kernel
theorem dX8_turned_16 : decode cX8_turned 16 = .ok (.aload_n 0, 1) := by decide +kernel
theorem dX8_turned_17 : decode cX8_turned 17 = .ok (.iload_n 1, 1) := by decide +kernel
theorem dX8_turned_18 : decode cX8_turned 18 = .ok (.invokevirtual 244, 3) := by decide +kernel
theorem dX8_turned_21 : decode cX8_turned 21 = .ok (.istore 4, 2) := by decide +kernel
theorem dX8_turned_23 : decode cX8_turned 23 = .ok (.iload 4, 2) := by decide +kernel
theorem dX8_turned_25 : decode cX8_turned 25 = .ok (.ifCond .ne 10, 3) := by decide +kernel
theorem dX8_turned_28 : decode cX8_turned 28 = .ok (.aload_n 0, 1) := by decide +kernel
theorem dX8_turned_29 : decode cX8_turned 29 = .ok (.bipush (-3), 2) := by decide +kernel
theorem dX8_turned_31 : decode cX8_turned 31 = .ok (.invokevirtual 54, 3) := by decide +kernel
theorem dX8_turned_34 : decode cX8_turned 34 = .ok (.ireturn, 1) := by decide +kernel
theorem dX8_turned_35 : decode cX8_turned 35 = .ok (.iload_n 2, 1) := by decide +kernel
theorem dX8_turned_36 : decode cX8_turned 36 = .ok (.ifCond .ge 10, 3) := by decide +kernel
theorem dX8_turned_39 : decode cX8_turned 39 = .ok (.aload_n 0, 1) := by decide +kernel
theorem dX8_turned_40 : decode cX8_turned 40 = .ok (.bipush (-4), 2) := by decide +kernel
theorem dX8_turned_42 : decode cX8_turned 42 = .ok (.invokevirtual 54, 3) := by decide +kernel
theorem dX8_turned_45 : decode cX8_turned 45 = .ok (.ireturn, 1) := by decide +kernel
theorem dX8_turned_46 : decode cX8_turned 46 = .ok (.iload_n 2, 1) := by decide +kernel
theorem dX8_turned_47 : decode cX8_turned 47 = .ok (.sipush 1000, 3) := by decide +kernel
theorem dX8_turned_50 : decode cX8_turned 50 = .ok (.if_icmp .le 10, 3) := by decide +kernel
theorem dX8_turned_53 : decode cX8_turned 53 = .ok (.aload_n 0, 1) := by decide +kernel
theorem dX8_turned_54 : decode cX8_turned 54 = .ok (.bipush (-6), 2) := by decide +kernel
theorem dX8_turned_56 : decode cX8_turned 56 = .ok (.invokevirtual 54, 3) := by decide +kernel
theorem dX8_turned_59 : decode cX8_turned 59 = .ok (.ireturn, 1) := by decide +kernel
theorem dX8_turned_60 : decode cX8_turned 60 = .ok (.iload 4, 2) := by decide +kernel
theorem dX8_turned_62 : decode cX8_turned 62 = .ok (.aload_n 0, 1) := by decide +kernel
theorem dX8_turned_63 : decode cX8_turned 63 = .ok (.iload_n 1, 1) := by decide +kernel
theorem dX8_turned_64 : decode cX8_turned 64 = .ok (.invokevirtual 247, 3) := by decide +kernel
theorem dX8_turned_67 : decode cX8_turned 67 = .ok (.isub, 1) := by decide +kernel
theorem dX8_turned_68 : decode cX8_turned 68 = .ok (.istore 5, 2) := by decide +kernel
theorem dX8_turned_70 : decode cX8_turned 70 = .ok (.aload_n 0, 1) := by decide +kernel
theorem dX8_turned_71 : decode cX8_turned 71 = .ok (.iload_n 1, 1) := by decide +kernel
theorem dX8_turned_72 : decode cX8_turned 72 = .ok (.invokevirtual 250, 3) := by decide +kernel
theorem dX8_turned_75 : decode cX8_turned 75 = .ok (.istore 6, 2) := by decide +kernel
theorem dX8_turned_77 : decode cX8_turned 77 = .ok (.iconst 0, 1) := by decide +kernel
theorem dX8_turned_78 : decode cX8_turned 78 = .ok (.istore 7, 2) := by decide +kernel
theorem dX8_turned_80 : decode cX8_turned 80 = .ok (.iload 7, 2) := by decide +kernel
theorem dX8_turned_82 : decode cX8_turned 82 = .ok (.iload 5, 2) := by decide +kernel
theorem dX8_turned_84 : decode cX8_turned 84 = .ok (.if_icmp .gt 45, 3) := by decide +kernel
theorem dX8_turned_87 : decode cX8_turned 87 = .ok (.iload 6, 2) := by decide +kernel
theorem dX8_turned_89 : decode cX8_turned 89 = .ok (.iload 5, 2) := by decide +kernel
theorem dX8_turned_91 : decode cX8_turned 91 = .ok (.iload 7, 2) := by decide +kernel
theorem dX8_turned_93 : decode cX8_turned 93 = .ok (.isub, 1) := by decide +kernel
theorem dX8_turned_94 : decode cX8_turned 94 = .ok (.aload_n 3, 1) := by decide +kernel
theorem dX8_turned_95 : decode cX8_turned 95 = .ok (.invokevirtual 85, 3) := by decide +kernel
theorem dX8_turned_98 : decode cX8_turned 98 = .ok (.imul, 1) := by decide +kernel
theorem dX8_turned_99 : decode cX8_turned 99 = .ok (.iadd, 1) := by decide +kernel
theorem dX8_turned_100 : decode cX8_turned 100 = .ok (.istore 8, 2) := by decide +kernel
theorem dX8_turned_102 : decode cX8_turned 102 = .ok (.iload 8, 2) := by decide +kernel
theorem dX8_turned_104 : decode cX8_turned 104 = .ok (.sipush 1000, 3) := by decide +kernel
theorem dX8_turned_107 : decode cX8_turned 107 = .ok (.imul, 1) := by decide +kernel
theorem dX8_turned_108 : decode cX8_turned 108 = .ok (.iload_n 2, 1) := by decide +kernel
theorem dX8_turned_109 : decode cX8_turned 109 = .ok (.aload_n 3, 1) := by decide +kernel
theorem dX8_turned_110 : decode cX8_turned 110 = .ok (.invokevirtual 85, 3) := by decide +kernel
theorem dX8_turned_113 : decode cX8_turned 113 = .ok (.imul, 1) := by decide +kernel
theorem dX8_turned_114 : decode cX8_turned 114 = .ok (.iload 4, 2) := by decide +kernel
theorem dX8_turned_116 : decode cX8_turned 116 = .ok (.imul, 1) := by decide +kernel
theorem dX8_turned_117 : decode cX8_turned 117 = .ok (.if_icmp .gt 6, 3) := by decide +kernel
theorem dX8_turned_120 : decode cX8_turned 120 = .ok (.iload 7, 2) := by decide +kernel
theorem dX8_turned_122 : decode cX8_turned 122 = .ok (.ireturn, 1) := by decide +kernel
theorem dX8_turned_123 : decode cX8_turned 123 = .ok (.iinc 7 1, 3) := by decide +kernel
theorem dX8_turned_126 : decode cX8_turned 126 = .ok (.goto (-46), 3) := by decide +kernel
theorem dX8_turned_129 : decode cX8_turned 129 = .ok (.bipush (-9), 2) := by decide +kernel
theorem dX8_turned_131 : decode cX8_turned 131 = .ok (.ireturn, 1) := by decide +kernel
set_option maxRecDepth 20000 in
theorem ggX8_count_Jx4a65c_size_8abf5 : GoodIn wsX8_count wsJx4a65c_size_8abf5 := goodIn_r _ [10, 11, 33, 34, 35] (by decide +kernel) (by decide +kernel)
set_option maxRecDepth 20000 in
theorem gX8_count_Jx4a65c_size_8abf5 : GoodIn wsX8_count (wsV RX8 68 RJx4a65c yJx4a65c_size_8abf5 wsJx4a65c_size_8abf5) := goodIn_app (goodIn_of _ (by decide +kernel)) ggX8_count_Jx4a65c_size_8abf5
set_option maxRecDepth 20000 in
theorem ggX8_count_X7_fed : GoodIn wsX8_count wsX7_fed := goodIn_r _ [16, 17, 36, 37, 38, 39, 40, 41] (by decide +kernel) (by decide +kernel)
set_option maxRecDepth 20000 in
theorem gX8_count_X7_fed : GoodIn wsX8_count (wsV RX8 119 RX7 yX7_fed wsX7_fed) := goodIn_app (goodIn_of _ (by decide +kernel)) ggX8_count_X7_fed
set_option maxRecDepth 20000 in
theorem ggX8_count_X8_refusalsCounted : GoodIn wsX8_count wsX8_refusalsCounted := goodIn_r _ [22, 23, 24, 25, 26, 27, 28, 29, 30, 31, 32] (by decide +kernel) (by decide +kernel)
set_option maxRecDepth 20000 in
theorem gX8_count_X8_refusalsCounted : GoodIn wsX8_count (wsV RX8 253 RX8 yX8_refusalsCounted wsX8_refusalsCounted) := goodIn_app (goodIn_of _ (by decide +kernel)) ggX8_count_X8_refusalsCounted
theorem dX8_count_0 : decode cX8_count 0 = .ok (.iload_n 1, 1) := by decide +kernel
theorem dX8_count_1 : decode cX8_count 1 = .ok (.tableswitch 72 0 4 #[35, 43, 51, 59, 64], 35) := by decide +kernel
theorem dX8_count_36 : decode cX8_count 36 = .ok (.aload_n 0, 1) := by decide +kernel
theorem dX8_count_37 : decode cX8_count 37 = .ok (.getfield 10, 3) := by decide +kernel
theorem dX8_count_40 : decode cX8_count 40 = .ok (.invokevirtual 68, 3) := by decide +kernel
theorem dX8_count_43 : decode cX8_count 43 = .ok (.ireturn, 1) := by decide +kernel
theorem dX8_count_44 : decode cX8_count 44 = .ok (.aload_n 0, 1) := by decide +kernel
theorem dX8_count_45 : decode cX8_count 45 = .ok (.getfield 16, 3) := by decide +kernel
theorem dX8_count_48 : decode cX8_count 48 = .ok (.invokevirtual 68, 3) := by decide +kernel
theorem dX8_count_51 : decode cX8_count 51 = .ok (.ireturn, 1) := by decide +kernel
theorem dX8_count_52 : decode cX8_count 52 = .ok (.aload_n 0, 1) := by decide +kernel
theorem dX8_count_53 : decode cX8_count 53 = .ok (.getfield 19, 3) := by decide +kernel
theorem dX8_count_56 : decode cX8_count 56 = .ok (.invokevirtual 68, 3) := by decide +kernel
theorem dX8_count_59 : decode cX8_count 59 = .ok (.ireturn, 1) := by decide +kernel
theorem dX8_count_60 : decode cX8_count 60 = .ok (.aload_n 0, 1) := by decide +kernel
theorem dX8_count_61 : decode cX8_count 61 = .ok (.getfield 29, 3) := by decide +kernel
theorem dX8_count_64 : decode cX8_count 64 = .ok (.ireturn, 1) := by decide +kernel
theorem dX8_count_65 : decode cX8_count 65 = .ok (.aload_n 0, 1) := by decide +kernel
theorem dX8_count_66 : decode cX8_count 66 = .ok (.getfield 25, 3) := by decide +kernel
theorem dX8_count_69 : decode cX8_count 69 = .ok (.invokevirtual 119, 3) := by decide +kernel
theorem dX8_count_72 : decode cX8_count 72 = .ok (.ireturn, 1) := by decide +kernel
theorem dX8_count_73 : decode cX8_count 73 = .ok (.aload_n 0, 1) := by decide +kernel
theorem dX8_count_74 : decode cX8_count 74 = .ok (.iload_n 1, 1) := by decide +kernel
theorem dX8_count_75 : decode cX8_count 75 = .ok (.bipush 11, 2) := by decide +kernel
theorem dX8_count_77 : decode cX8_count 77 = .ok (.isub, 1) := by decide +kernel
theorem dX8_count_78 : decode cX8_count 78 = .ok (.invokevirtual 253, 3) := by decide +kernel
theorem dX8_count_81 : decode cX8_count 81 = .ok (.ireturn, 1) := by decide +kernel
theorem dX8_refuse_0 : decode cX8_refuse 0 = .ok (.iconst (-1), 1) := by decide +kernel
theorem dX8_refuse_1 : decode cX8_refuse 1 = .ok (.iload_n 1, 1) := by decide +kernel
theorem dX8_refuse_2 : decode cX8_refuse 2 = .ok (.isub, 1) := by decide +kernel
theorem dX8_refuse_3 : decode cX8_refuse 3 = .ok (.istore_n 2, 1) := by decide +kernel
theorem dX8_refuse_4 : decode cX8_refuse 4 = .ok (.iload_n 2, 1) := by decide +kernel
theorem dX8_refuse_5 : decode cX8_refuse 5 = .ok (.ifCond .lt 22, 3) := by decide +kernel
theorem dX8_refuse_8 : decode cX8_refuse 8 = .ok (.iload_n 2, 1) := by decide +kernel
theorem dX8_refuse_9 : decode cX8_refuse 9 = .ok (.aload_n 0, 1) := by decide +kernel
theorem dX8_refuse_10 : decode cX8_refuse 10 = .ok (.getfield 33, 3) := by decide +kernel
theorem dX8_refuse_13 : decode cX8_refuse 13 = .ok (.arraylength, 1) := by decide +kernel
theorem dX8_refuse_14 : decode cX8_refuse 14 = .ok (.if_icmp .ge 13, 3) := by decide +kernel
theorem dX8_refuse_17 : decode cX8_refuse 17 = .ok (.aload_n 0, 1) := by decide +kernel
theorem dX8_refuse_18 : decode cX8_refuse 18 = .ok (.getfield 33, 3) := by decide +kernel
theorem dX8_refuse_21 : decode cX8_refuse 21 = .ok (.iload_n 2, 1) := by decide +kernel
theorem dX8_refuse_22 : decode cX8_refuse 22 = .ok (.dup2, 1) := by decide +kernel
theorem dX8_refuse_23 : decode cX8_refuse 23 = .ok (.iaload, 1) := by decide +kernel
theorem dX8_refuse_24 : decode cX8_refuse 24 = .ok (.iconst 1, 1) := by decide +kernel
theorem dX8_refuse_25 : decode cX8_refuse 25 = .ok (.iadd, 1) := by decide +kernel
theorem dX8_refuse_26 : decode cX8_refuse 26 = .ok (.iastore, 1) := by decide +kernel
theorem dX8_refuse_27 : decode cX8_refuse 27 = .ok (.iload_n 1, 1) := by decide +kernel
theorem dX8_refuse_28 : decode cX8_refuse 28 = .ok (.ireturn, 1) := by decide +kernel
set_option maxRecDepth 20000 in
theorem ggX8_refuseLong_X8_refuse : GoodIn wsX8_refuseLong wsX8_refuse := goodIn_r _ [6, 7, 8, 9, 10, 11, 12, 13, 14, 15, 16] (by decide +kernel) (by decide +kernel)
set_option maxRecDepth 20000 in
theorem gX8_refuseLong_X8_refuse : GoodIn wsX8_refuseLong (wsV RX8 54 RX8 yX8_refuse wsX8_refuse) := goodIn_app (goodIn_of _ (by decide +kernel)) ggX8_refuseLong_X8_refuse
theorem dX8_refuseLong_0 : decode cX8_refuseLong 0 = .ok (.ldc2_w 256, 3) := by decide +kernel
theorem dX8_refuseLong_3 : decode cX8_refuseLong 3 = .ok (.aload_n 0, 1) := by decide +kernel
theorem dX8_refuseLong_4 : decode cX8_refuseLong 4 = .ok (.iload_n 1, 1) := by decide +kernel
theorem dX8_refuseLong_5 : decode cX8_refuseLong 5 = .ok (.invokevirtual 54, 3) := by decide +kernel
theorem dX8_refuseLong_8 : decode cX8_refuseLong 8 = .ok (.i2l, 1) := by decide +kernel
theorem dX8_refuseLong_9 : decode cX8_refuseLong 9 = .ok (.lsub, 1) := by decide +kernel
theorem dX8_refuseLong_10 : decode cX8_refuseLong 10 = .ok (.lreturn, 1) := by decide +kernel
theorem dX8_refusalsCounted_0 : decode cX8_refusalsCounted 0 = .ok (.iload_n 1, 1) := by decide +kernel
theorem dX8_refusalsCounted_1 : decode cX8_refusalsCounted 1 = .ok (.ifCond .lt 21, 3) := by decide +kernel
theorem dX8_refusalsCounted_4 : decode cX8_refusalsCounted 4 = .ok (.iload_n 1, 1) := by decide +kernel
theorem dX8_refusalsCounted_5 : decode cX8_refusalsCounted 5 = .ok (.aload_n 0, 1) := by decide +kernel
theorem dX8_refusalsCounted_6 : decode cX8_refusalsCounted 6 = .ok (.getfield 33, 3) := by decide +kernel
theorem dX8_refusalsCounted_9 : decode cX8_refusalsCounted 9 = .ok (.arraylength, 1) := by decide +kernel
theorem dX8_refusalsCounted_10 : decode cX8_refusalsCounted 10 = .ok (.if_icmp .ge 12, 3) := by decide +kernel
theorem dX8_refusalsCounted_13 : decode cX8_refusalsCounted 13 = .ok (.aload_n 0, 1) := by decide +kernel
theorem dX8_refusalsCounted_14 : decode cX8_refusalsCounted 14 = .ok (.getfield 33, 3) := by decide +kernel
theorem dX8_refusalsCounted_17 : decode cX8_refusalsCounted 17 = .ok (.iload_n 1, 1) := by decide +kernel
theorem dX8_refusalsCounted_18 : decode cX8_refusalsCounted 18 = .ok (.iaload, 1) := by decide +kernel
theorem dX8_refusalsCounted_19 : decode cX8_refusalsCounted 19 = .ok (.goto 5, 3) := by decide +kernel
theorem dX8_refusalsCounted_22 : decode cX8_refusalsCounted 22 = .ok (.bipush (-9), 2) := by decide +kernel
theorem dX8_refusalsCounted_24 : decode cX8_refusalsCounted 24 = .ok (.ireturn, 1) := by decide +kernel
theorem dX8_noPart_0 : decode cX8_noPart 0 = .ok (.iload_n 0, 1) := by decide +kernel
theorem dX8_noPart_1 : decode cX8_noPart 1 = .ok (.ifCond .eq 12, 3) := by decide +kernel
theorem dX8_noPart_4 : decode cX8_noPart 4 = .ok (.iload_n 0, 1) := by decide +kernel
theorem dX8_noPart_5 : decode cX8_noPart 5 = .ok (.iconst 1, 1) := by decide +kernel
theorem dX8_noPart_6 : decode cX8_noPart 6 = .ok (.if_icmp .eq 7, 3) := by decide +kernel
theorem dX8_noPart_9 : decode cX8_noPart 9 = .ok (.iconst 1, 1) := by decide +kernel
theorem dX8_noPart_10 : decode cX8_noPart 10 = .ok (.goto 4, 3) := by decide +kernel
theorem dX8_noPart_13 : decode cX8_noPart 13 = .ok (.iconst 0, 1) := by decide +kernel
theorem dX8_noPart_14 : decode cX8_noPart 14 = .ok (.ireturn, 1) := by decide +kernel
theorem dX8_lotRefusal_0 : decode cX8_lotRefusal 0 = .ok (.aload_n 0, 1) := by decide +kernel
theorem dX8_lotRefusal_1 : decode cX8_lotRefusal 1 = .ok (.ifnonnull 5, 3) := by decide +kernel
theorem dX8_lotRefusal_4 : decode cX8_lotRefusal 4 = .ok (.iconst (-1), 1) := by decide +kernel
theorem dX8_lotRefusal_5 : decode cX8_lotRefusal 5 = .ok (.ireturn, 1) := by decide +kernel
theorem dX8_lotRefusal_6 : decode cX8_lotRefusal 6 = .ok (.aload_n 0, 1) := by decide +kernel
theorem dX8_lotRefusal_7 : decode cX8_lotRefusal 7 = .ok (.getfield 179, 3) := by decide +kernel
theorem dX8_lotRefusal_10 : decode cX8_lotRefusal 10 = .ok (.iconst 1, 1) := by decide +kernel
theorem dX8_lotRefusal_11 : decode cX8_lotRefusal 11 = .ok (.if_icmp .ne 7, 3) := by decide +kernel
theorem dX8_lotRefusal_14 : decode cX8_lotRefusal 14 = .ok (.iconst 0, 1) := by decide +kernel
theorem dX8_lotRefusal_15 : decode cX8_lotRefusal 15 = .ok (.goto 5, 3) := by decide +kernel
theorem dX8_lotRefusal_18 : decode cX8_lotRefusal 18 = .ok (.bipush (-3), 2) := by decide +kernel
theorem dX8_lotRefusal_20 : decode cX8_lotRefusal 20 = .ok (.ireturn, 1) := by decide +kernel
set_option maxRecDepth 20000 in
theorem ggX8_planAt_Jx4a65c_size_8abf5 : GoodIn wsX8_planAt wsJx4a65c_size_8abf5 := goodIn_r _ [7, 8, 35, 36, 37] (by decide +kernel) (by decide +kernel)
set_option maxRecDepth 20000 in
theorem gX8_planAt_Jx4a65c_size_8abf5 : GoodIn wsX8_planAt (wsV RX8 68 RJx4a65c yJx4a65c_size_8abf5 wsJx4a65c_size_8abf5) := goodIn_app (goodIn_of _ (by decide +kernel)) ggX8_planAt_Jx4a65c_size_8abf5
set_option maxRecDepth 20000 in
theorem ggX8_planAt_Jx4a65c_get_915e3 : GoodIn wsX8_planAt wsJx4a65c_get_915e3 := goodIn_r _ [12, 8, 13, 14, 15, 16, 17, 18, 19, 20, 21, 22, 23, 6, 24, 25, 35, 36, 37] (by decide +kernel) (by decide +kernel)
set_option maxRecDepth 20000 in
theorem gX8_planAt_Jx4a65c_get_915e3 : GoodIn wsX8_planAt (wsV RX8 185 RJx4a65c yJx4a65c_get_915e3 wsJx4a65c_get_915e3) := goodIn_app (goodIn_of _ (by decide +kernel)) ggX8_planAt_Jx4a65c_get_915e3
theorem dX8_planAt_0 : decode cX8_planAt 0 = .ok (.iload_n 1, 1) := by decide +kernel
theorem dX8_planAt_1 : decode cX8_planAt 1 = .ok (.ifCond .lt 28, 3) := by decide +kernel
theorem dX8_planAt_4 : decode cX8_planAt 4 = .ok (.iload_n 1, 1) := by decide +kernel
theorem dX8_planAt_5 : decode cX8_planAt 5 = .ok (.aload_n 0, 1) := by decide +kernel
theorem dX8_planAt_6 : decode cX8_planAt 6 = .ok (.getfield 10, 3) := by decide +kernel
theorem dX8_planAt_9 : decode cX8_planAt 9 = .ok (.invokevirtual 68, 3) := by decide +kernel
theorem dX8_planAt_12 : decode cX8_planAt 12 = .ok (.if_icmp .ge 17, 3) := by decide +kernel
theorem dX8_planAt_15 : decode cX8_planAt 15 = .ok (.aload_n 0, 1) := by decide +kernel
theorem dX8_planAt_16 : decode cX8_planAt 16 = .ok (.getfield 10, 3) := by decide +kernel
theorem dX8_planAt_19 : decode cX8_planAt 19 = .ok (.iload_n 1, 1) := by decide +kernel
theorem dX8_planAt_20 : decode cX8_planAt 20 = .ok (.invokevirtual 185, 3) := by decide +kernel
theorem dX8_planAt_23 : decode cX8_planAt 23 = .ok (.checkcast 72, 3) := by decide +kernel
theorem dX8_planAt_26 : decode cX8_planAt 26 = .ok (.goto 4, 3) := by decide +kernel
theorem dX8_planAt_29 : decode cX8_planAt 29 = .ok (.aconst_null, 1) := by decide +kernel
theorem dX8_planAt_30 : decode cX8_planAt 30 = .ok (.areturn, 1) := by decide +kernel
set_option maxRecDepth 20000 in
theorem ggX8_ruleAt_Jx4a65c_size_8abf5 : GoodIn wsX8_ruleAt wsJx4a65c_size_8abf5 := goodIn_r _ [7, 8, 35, 36, 37] (by decide +kernel) (by decide +kernel)
set_option maxRecDepth 20000 in
theorem gX8_ruleAt_Jx4a65c_size_8abf5 : GoodIn wsX8_ruleAt (wsV RX8 68 RJx4a65c yJx4a65c_size_8abf5 wsJx4a65c_size_8abf5) := goodIn_app (goodIn_of _ (by decide +kernel)) ggX8_ruleAt_Jx4a65c_size_8abf5
set_option maxRecDepth 20000 in
theorem ggX8_ruleAt_Jx4a65c_get_915e3 : GoodIn wsX8_ruleAt wsJx4a65c_get_915e3 := goodIn_r _ [12, 8, 13, 14, 15, 16, 17, 18, 19, 20, 21, 22, 23, 6, 24, 25, 35, 36, 37] (by decide +kernel) (by decide +kernel)
set_option maxRecDepth 20000 in
theorem gX8_ruleAt_Jx4a65c_get_915e3 : GoodIn wsX8_ruleAt (wsV RX8 185 RJx4a65c yJx4a65c_get_915e3 wsJx4a65c_get_915e3) := goodIn_app (goodIn_of _ (by decide +kernel)) ggX8_ruleAt_Jx4a65c_get_915e3
theorem dX8_ruleAt_0 : decode cX8_ruleAt 0 = .ok (.iload_n 1, 1) := by decide +kernel
theorem dX8_ruleAt_1 : decode cX8_ruleAt 1 = .ok (.ifCond .lt 28, 3) := by decide +kernel
theorem dX8_ruleAt_4 : decode cX8_ruleAt 4 = .ok (.iload_n 1, 1) := by decide +kernel
theorem dX8_ruleAt_5 : decode cX8_ruleAt 5 = .ok (.aload_n 0, 1) := by decide +kernel
theorem dX8_ruleAt_6 : decode cX8_ruleAt 6 = .ok (.getfield 16, 3) := by decide +kernel
theorem dX8_ruleAt_9 : decode cX8_ruleAt 9 = .ok (.invokevirtual 68, 3) := by decide +kernel
theorem dX8_ruleAt_12 : decode cX8_ruleAt 12 = .ok (.if_icmp .ge 17, 3) := by decide +kernel
theorem dX8_ruleAt_15 : decode cX8_ruleAt 15 = .ok (.aload_n 0, 1) := by decide +kernel
theorem dX8_ruleAt_16 : decode cX8_ruleAt 16 = .ok (.getfield 16, 3) := by decide +kernel
theorem dX8_ruleAt_19 : decode cX8_ruleAt 19 = .ok (.iload_n 1, 1) := by decide +kernel
theorem dX8_ruleAt_20 : decode cX8_ruleAt 20 = .ok (.invokevirtual 185, 3) := by decide +kernel
theorem dX8_ruleAt_23 : decode cX8_ruleAt 23 = .ok (.checkcast 134, 3) := by decide +kernel
theorem dX8_ruleAt_26 : decode cX8_ruleAt 26 = .ok (.goto 4, 3) := by decide +kernel
theorem dX8_ruleAt_29 : decode cX8_ruleAt 29 = .ok (.aconst_null, 1) := by decide +kernel
theorem dX8_ruleAt_30 : decode cX8_ruleAt 30 = .ok (.areturn, 1) := by decide +kernel
set_option maxRecDepth 20000 in
theorem ggX8_endsOf_X0_fill : GoodIn wsX8_endsOf wsX0_fill := goodIn_r _ [10, 11, 12, 13, 14, 15, 16, 17, 18, 19, 20, 21, 22, 23, 24, 25, 9, 26, 27, 28, 29, 30, 31, 32, 33, 34, 35, 36, 37, 38, 39, 40, 41, 42, 43, 44, 45, 46, 47, 48, 49, 50, 51, 52, 53, 54, 55, 56, 57, 58, 59, 60, 61, 62, 63, 64, 65, 66, 67, 68, 69, 70, 84, 85, 86, 87, 88] (by decide +kernel) (by decide +kernel)
set_option maxRecDepth 20000 in
theorem gX8_endsOf_X0_fill : GoodIn wsX8_endsOf (wsV RX8 161 RX0 yX0_fill wsX0_fill) := goodIn_app (goodIn_of _ (by decide +kernel)) ggX8_endsOf_X0_fill
theorem dX8_endsOf_0 : decode cX8_endsOf 0 = .ok (.iload_n 2, 1) := by decide +kernel
theorem dX8_endsOf_1 : decode cX8_endsOf 1 = .ok (.iconst 5, 1) := by decide +kernel
theorem dX8_endsOf_2 : decode cX8_endsOf 2 = .ok (.if_icmp .ne 8, 3) := by decide +kernel
theorem dX8_endsOf_5 : decode cX8_endsOf 5 = .ok (.aload_n 1, 1) := by decide +kernel
theorem dX8_endsOf_6 : decode cX8_endsOf 6 = .ok (.getfield 155, 3) := by decide +kernel
theorem dX8_endsOf_9 : decode cX8_endsOf 9 = .ok (.areturn, 1) := by decide +kernel
theorem dX8_endsOf_10 : decode cX8_endsOf 10 = .ok (.aload_n 0, 1) := by decide +kernel
theorem dX8_endsOf_11 : decode cX8_endsOf 11 = .ok (.getfield 40, 3) := by decide +kernel
theorem dX8_endsOf_14 : decode cX8_endsOf 14 = .ok (.aload_n 1, 1) := by decide +kernel
theorem dX8_endsOf_15 : decode cX8_endsOf 15 = .ok (.getfield 179, 3) := by decide +kernel
theorem dX8_endsOf_18 : decode cX8_endsOf 18 = .ok (.aload_n 1, 1) := by decide +kernel
theorem dX8_endsOf_19 : decode cX8_endsOf 19 = .ok (.getfield 182, 3) := by decide +kernel
theorem dX8_endsOf_22 : decode cX8_endsOf 22 = .ok (.aload_n 1, 1) := by decide +kernel
theorem dX8_endsOf_23 : decode cX8_endsOf 23 = .ok (.getfield 202, 3) := by decide +kernel
theorem dX8_endsOf_26 : decode cX8_endsOf 26 = .ok (.iload_n 2, 1) := by decide +kernel
theorem dX8_endsOf_27 : decode cX8_endsOf 27 = .ok (.invokevirtual 161, 3) := by decide +kernel
theorem dX8_endsOf_30 : decode cX8_endsOf 30 = .ok (.aload_n 0, 1) := by decide +kernel
theorem dX8_endsOf_31 : decode cX8_endsOf 31 = .ok (.getfield 40, 3) := by decide +kernel
theorem dX8_endsOf_34 : decode cX8_endsOf 34 = .ok (.areturn, 1) := by decide +kernel
set_option maxRecDepth 20000 in
theorem ggX8_heldBy_X3_most : GoodIn wsX8_heldBy wsX3_most := goodIn_r _ [5, 6, 7, 8, 9, 10, 47, 48, 49, 50] (by decide +kernel) (by decide +kernel)
set_option maxRecDepth 20000 in
theorem gX8_heldBy_X3_most : GoodIn wsX8_heldBy (wsV RX8 85 RX3 yX3_most wsX3_most) := goodIn_app (goodIn_of _ (by decide +kernel)) ggX8_heldBy_X3_most
set_option maxRecDepth 20000 in
theorem ggX8_heldBy_X0_just : GoodIn wsX8_heldBy wsX0_just := goodIn_r _ [15, 16, 51, 52, 53, 54, 55] (by decide +kernel) (by decide +kernel)
set_option maxRecDepth 20000 in
theorem gX8_heldBy_X0_just : GoodIn wsX8_heldBy (wsV RX8 100 RX0 yX0_just wsX0_just) := goodIn_app (goodIn_of _ (by decide +kernel)) ggX8_heldBy_X0_just
set_option maxRecDepth 20000 in
theorem ggX8_heldBy_X4_holds : GoodIn wsX8_heldBy wsX4_holds := goodIn_r _ [21, 22, 23, 24, 25, 26, 20, 27, 28, 29, 30, 31, 32, 33, 34, 35, 36, 37, 38, 39, 40, 41, 42, 43, 2, 3, 4, 5, 6, 7, 8, 9, 10, 44, 45, 46, 56, 57, 58, 47, 48, 49, 50] (by decide +kernel) (by decide +kernel)
set_option maxRecDepth 20000 in
theorem gX8_heldBy_X4_holds : GoodIn wsX8_heldBy (wsV RX8 147 RX4 yX4_holds wsX4_holds) := goodIn_app (goodIn_of _ (by decide +kernel)) ggX8_heldBy_X4_holds
theorem dX8_heldBy_0 : decode cX8_heldBy 0 = .ok (.lconst 0, 1) := by decide +kernel
theorem dX8_heldBy_1 : decode cX8_heldBy 1 = .ok (.lstore_n 3, 1) := by decide +kernel
theorem dX8_heldBy_2 : decode cX8_heldBy 2 = .ok (.iconst 0, 1) := by decide +kernel
theorem dX8_heldBy_3 : decode cX8_heldBy 3 = .ok (.istore 5, 2) := by decide +kernel
theorem dX8_heldBy_5 : decode cX8_heldBy 5 = .ok (.iload 5, 2) := by decide +kernel
theorem dX8_heldBy_7 : decode cX8_heldBy 7 = .ok (.aload_n 1, 1) := by decide +kernel
theorem dX8_heldBy_8 : decode cX8_heldBy 8 = .ok (.invokevirtual 85, 3) := by decide +kernel
theorem dX8_heldBy_11 : decode cX8_heldBy 11 = .ok (.if_icmp .gt 39, 3) := by decide +kernel
theorem dX8_heldBy_14 : decode cX8_heldBy 14 = .ok (.aload_n 2, 1) := by decide +kernel
theorem dX8_heldBy_15 : decode cX8_heldBy 15 = .ok (.iload 5, 2) := by decide +kernel
theorem dX8_heldBy_17 : decode cX8_heldBy 17 = .ok (.invokevirtual 100, 3) := by decide +kernel
theorem dX8_heldBy_20 : decode cX8_heldBy 20 = .ok (.lstore 6, 2) := by decide +kernel
theorem dX8_heldBy_22 : decode cX8_heldBy 22 = .ok (.lload 6, 2) := by decide +kernel
theorem dX8_heldBy_24 : decode cX8_heldBy 24 = .ok (.lconst 0, 1) := by decide +kernel
theorem dX8_heldBy_25 : decode cX8_heldBy 25 = .ok (.lcmp, 1) := by decide +kernel
theorem dX8_heldBy_26 : decode cX8_heldBy 26 = .ok (.ifCond .eq 18, 3) := by decide +kernel
theorem dX8_heldBy_29 : decode cX8_heldBy 29 = .ok (.aload_n 0, 1) := by decide +kernel
theorem dX8_heldBy_30 : decode cX8_heldBy 30 = .ok (.aload_n 1, 1) := by decide +kernel
theorem dX8_heldBy_31 : decode cX8_heldBy 31 = .ok (.iload 5, 2) := by decide +kernel
theorem dX8_heldBy_33 : decode cX8_heldBy 33 = .ok (.invokevirtual 147, 3) := by decide +kernel
theorem dX8_heldBy_36 : decode cX8_heldBy 36 = .ok (.ifCond .eq 8, 3) := by decide +kernel
theorem dX8_heldBy_39 : decode cX8_heldBy 39 = .ok (.lload_n 3, 1) := by decide +kernel
theorem dX8_heldBy_40 : decode cX8_heldBy 40 = .ok (.lload 6, 2) := by decide +kernel
theorem dX8_heldBy_42 : decode cX8_heldBy 42 = .ok (.ladd, 1) := by decide +kernel
theorem dX8_heldBy_43 : decode cX8_heldBy 43 = .ok (.lstore_n 3, 1) := by decide +kernel
theorem dX8_heldBy_44 : decode cX8_heldBy 44 = .ok (.iinc 5 1, 3) := by decide +kernel
theorem dX8_heldBy_47 : decode cX8_heldBy 47 = .ok (.goto (-42), 3) := by decide +kernel
theorem dX8_heldBy_50 : decode cX8_heldBy 50 = .ok (.lload_n 3, 1) := by decide +kernel
theorem dX8_heldBy_51 : decode cX8_heldBy 51 = .ok (.lreturn, 1) := by decide +kernel
set_option maxRecDepth 20000 in
theorem ggX8_sittingsOf_Jx4a65c_size_8abf5 : GoodIn wsX8_sittingsOf wsJx4a65c_size_8abf5 := goodIn_r _ [8, 9, 39, 40, 41] (by decide +kernel) (by decide +kernel)
set_option maxRecDepth 20000 in
theorem gX8_sittingsOf_Jx4a65c_size_8abf5 : GoodIn wsX8_sittingsOf (wsV RX8 68 RJx4a65c yJx4a65c_size_8abf5 wsJx4a65c_size_8abf5) := goodIn_app (goodIn_of _ (by decide +kernel)) ggX8_sittingsOf_Jx4a65c_size_8abf5
set_option maxRecDepth 20000 in
theorem ggX8_sittingsOf_Jx4a65c_get_915e3 : GoodIn wsX8_sittingsOf wsJx4a65c_get_915e3 := goodIn_r _ [13, 9, 14, 15, 16, 17, 18, 19, 20, 21, 22, 23, 24, 7, 25, 26, 39, 40, 41] (by decide +kernel) (by decide +kernel)
set_option maxRecDepth 20000 in
theorem gX8_sittingsOf_Jx4a65c_get_915e3 : GoodIn wsX8_sittingsOf (wsV RX8 185 RJx4a65c yJx4a65c_get_915e3 wsJx4a65c_get_915e3) := goodIn_app (goodIn_of _ (by decide +kernel)) ggX8_sittingsOf_Jx4a65c_get_915e3
theorem dX8_sittingsOf_0 : decode cX8_sittingsOf 0 = .ok (.iconst 0, 1) := by decide +kernel
theorem dX8_sittingsOf_1 : decode cX8_sittingsOf 1 = .ok (.istore_n 2, 1) := by decide +kernel
theorem dX8_sittingsOf_2 : decode cX8_sittingsOf 2 = .ok (.iconst 0, 1) := by decide +kernel
theorem dX8_sittingsOf_3 : decode cX8_sittingsOf 3 = .ok (.istore_n 3, 1) := by decide +kernel
theorem dX8_sittingsOf_4 : decode cX8_sittingsOf 4 = .ok (.iload_n 3, 1) := by decide +kernel
theorem dX8_sittingsOf_5 : decode cX8_sittingsOf 5 = .ok (.aload_n 0, 1) := by decide +kernel
theorem dX8_sittingsOf_6 : decode cX8_sittingsOf 6 = .ok (.getfield 19, 3) := by decide +kernel
theorem dX8_sittingsOf_9 : decode cX8_sittingsOf 9 = .ok (.invokevirtual 68, 3) := by decide +kernel
theorem dX8_sittingsOf_12 : decode cX8_sittingsOf 12 = .ok (.if_icmp .ge 39, 3) := by decide +kernel
theorem dX8_sittingsOf_15 : decode cX8_sittingsOf 15 = .ok (.aload_n 0, 1) := by decide +kernel
theorem dX8_sittingsOf_16 : decode cX8_sittingsOf 16 = .ok (.getfield 19, 3) := by decide +kernel
theorem dX8_sittingsOf_19 : decode cX8_sittingsOf 19 = .ok (.iload_n 3, 1) := by decide +kernel
theorem dX8_sittingsOf_20 : decode cX8_sittingsOf 20 = .ok (.invokevirtual 185, 3) := by decide +kernel
theorem dX8_sittingsOf_23 : decode cX8_sittingsOf 23 = .ok (.checkcast 235, 3) := by decide +kernel
theorem dX8_sittingsOf_26 : decode cX8_sittingsOf 26 = .ok (.astore 4, 2) := by decide +kernel
theorem dX8_sittingsOf_28 : decode cX8_sittingsOf 28 = .ok (.aload 4, 2) := by decide +kernel
theorem dX8_sittingsOf_30 : decode cX8_sittingsOf 30 = .ok (.ifnull 15, 3) := by decide +kernel
theorem dX8_sittingsOf_33 : decode cX8_sittingsOf 33 = .ok (.aload 4, 2) := by decide +kernel
theorem dX8_sittingsOf_35 : decode cX8_sittingsOf 35 = .ok (.getfield 258, 3) := by decide +kernel
theorem dX8_sittingsOf_38 : decode cX8_sittingsOf 38 = .ok (.iload_n 1, 1) := by decide +kernel
theorem dX8_sittingsOf_39 : decode cX8_sittingsOf 39 = .ok (.if_icmp .ne 6, 3) := by decide +kernel
theorem dX8_sittingsOf_42 : decode cX8_sittingsOf 42 = .ok (.iinc 2 1, 3) := by decide +kernel
theorem dX8_sittingsOf_45 : decode cX8_sittingsOf 45 = .ok (.iinc 3 1, 3) := by decide +kernel
theorem dX8_sittingsOf_48 : decode cX8_sittingsOf 48 = .ok (.goto (-44), 3) := by decide +kernel
theorem dX8_sittingsOf_51 : decode cX8_sittingsOf 51 = .ok (.iload_n 2, 1) := by decide +kernel
theorem dX8_sittingsOf_52 : decode cX8_sittingsOf 52 = .ok (.ireturn, 1) := by decide +kernel
set_option maxRecDepth 20000 in
theorem ggX8_toldOf_Jx4a65c_size_8abf5 : GoodIn wsX8_toldOf wsJx4a65c_size_8abf5 := goodIn_r _ [9, 10, 40, 41, 42] (by decide +kernel) (by decide +kernel)
set_option maxRecDepth 20000 in
theorem gX8_toldOf_Jx4a65c_size_8abf5 : GoodIn wsX8_toldOf (wsV RX8 68 RJx4a65c yJx4a65c_size_8abf5 wsJx4a65c_size_8abf5) := goodIn_app (goodIn_of _ (by decide +kernel)) ggX8_toldOf_Jx4a65c_size_8abf5
set_option maxRecDepth 20000 in
theorem ggX8_toldOf_Jx4a65c_get_915e3 : GoodIn wsX8_toldOf wsJx4a65c_get_915e3 := goodIn_r _ [14, 10, 15, 16, 17, 18, 19, 20, 21, 22, 23, 24, 25, 8, 26, 27, 40, 41, 42] (by decide +kernel) (by decide +kernel)
set_option maxRecDepth 20000 in
theorem gX8_toldOf_Jx4a65c_get_915e3 : GoodIn wsX8_toldOf (wsV RX8 185 RJx4a65c yJx4a65c_get_915e3 wsJx4a65c_get_915e3) := goodIn_app (goodIn_of _ (by decide +kernel)) ggX8_toldOf_Jx4a65c_get_915e3
theorem dX8_toldOf_0 : decode cX8_toldOf 0 = .ok (.iconst 0, 1) := by decide +kernel
theorem dX8_toldOf_1 : decode cX8_toldOf 1 = .ok (.istore_n 2, 1) := by decide +kernel
theorem dX8_toldOf_2 : decode cX8_toldOf 2 = .ok (.iconst 0, 1) := by decide +kernel
theorem dX8_toldOf_3 : decode cX8_toldOf 3 = .ok (.istore_n 3, 1) := by decide +kernel
theorem dX8_toldOf_4 : decode cX8_toldOf 4 = .ok (.iload_n 3, 1) := by decide +kernel
theorem dX8_toldOf_5 : decode cX8_toldOf 5 = .ok (.aload_n 0, 1) := by decide +kernel
theorem dX8_toldOf_6 : decode cX8_toldOf 6 = .ok (.getfield 19, 3) := by decide +kernel
theorem dX8_toldOf_9 : decode cX8_toldOf 9 = .ok (.invokevirtual 68, 3) := by decide +kernel
theorem dX8_toldOf_12 : decode cX8_toldOf 12 = .ok (.if_icmp .ge 47, 3) := by decide +kernel
theorem dX8_toldOf_15 : decode cX8_toldOf 15 = .ok (.aload_n 0, 1) := by decide +kernel
theorem dX8_toldOf_16 : decode cX8_toldOf 16 = .ok (.getfield 19, 3) := by decide +kernel
theorem dX8_toldOf_19 : decode cX8_toldOf 19 = .ok (.iload_n 3, 1) := by decide +kernel
theorem dX8_toldOf_20 : decode cX8_toldOf 20 = .ok (.invokevirtual 185, 3) := by decide +kernel
theorem dX8_toldOf_23 : decode cX8_toldOf 23 = .ok (.checkcast 235, 3) := by decide +kernel
theorem dX8_toldOf_26 : decode cX8_toldOf 26 = .ok (.astore 4, 2) := by decide +kernel
theorem dX8_toldOf_28 : decode cX8_toldOf 28 = .ok (.aload 4, 2) := by decide +kernel
theorem dX8_toldOf_30 : decode cX8_toldOf 30 = .ok (.ifnull 23, 3) := by decide +kernel
theorem dX8_toldOf_33 : decode cX8_toldOf 33 = .ok (.aload 4, 2) := by decide +kernel
theorem dX8_toldOf_35 : decode cX8_toldOf 35 = .ok (.getfield 240, 3) := by decide +kernel
theorem dX8_toldOf_38 : decode cX8_toldOf 38 = .ok (.ifCond .eq 15, 3) := by decide +kernel
theorem dX8_toldOf_41 : decode cX8_toldOf 41 = .ok (.aload 4, 2) := by decide +kernel
theorem dX8_toldOf_43 : decode cX8_toldOf 43 = .ok (.getfield 258, 3) := by decide +kernel
theorem dX8_toldOf_46 : decode cX8_toldOf 46 = .ok (.iload_n 1, 1) := by decide +kernel
theorem dX8_toldOf_47 : decode cX8_toldOf 47 = .ok (.if_icmp .ne 6, 3) := by decide +kernel
theorem dX8_toldOf_50 : decode cX8_toldOf 50 = .ok (.iinc 2 1, 3) := by decide +kernel
theorem dX8_toldOf_53 : decode cX8_toldOf 53 = .ok (.iinc 3 1, 3) := by decide +kernel
theorem dX8_toldOf_56 : decode cX8_toldOf 56 = .ok (.goto (-52), 3) := by decide +kernel
theorem dX8_toldOf_59 : decode cX8_toldOf 59 = .ok (.iload_n 2, 1) := by decide +kernel
theorem dX8_toldOf_60 : decode cX8_toldOf 60 = .ok (.ireturn, 1) := by decide +kernel
set_option maxRecDepth 20000 in
theorem ggX8_rightOf_Jx4a65c_size_8abf5 : GoodIn wsX8_rightOf wsJx4a65c_size_8abf5 := goodIn_r _ [10, 11, 41, 42, 43] (by decide +kernel) (by decide +kernel)
set_option maxRecDepth 20000 in
theorem gX8_rightOf_Jx4a65c_size_8abf5 : GoodIn wsX8_rightOf (wsV RX8 68 RJx4a65c yJx4a65c_size_8abf5 wsJx4a65c_size_8abf5) := goodIn_app (goodIn_of _ (by decide +kernel)) ggX8_rightOf_Jx4a65c_size_8abf5
set_option maxRecDepth 20000 in
theorem ggX8_rightOf_Jx4a65c_get_915e3 : GoodIn wsX8_rightOf wsJx4a65c_get_915e3 := goodIn_r _ [15, 11, 16, 17, 18, 19, 20, 21, 22, 23, 24, 25, 26, 9, 27, 28, 41, 42, 43] (by decide +kernel) (by decide +kernel)
set_option maxRecDepth 20000 in
theorem gX8_rightOf_Jx4a65c_get_915e3 : GoodIn wsX8_rightOf (wsV RX8 185 RJx4a65c yJx4a65c_get_915e3 wsJx4a65c_get_915e3) := goodIn_app (goodIn_of _ (by decide +kernel)) ggX8_rightOf_Jx4a65c_get_915e3
theorem dX8_rightOf_0 : decode cX8_rightOf 0 = .ok (.iconst 0, 1) := by decide +kernel
theorem dX8_rightOf_1 : decode cX8_rightOf 1 = .ok (.istore_n 2, 1) := by decide +kernel
theorem dX8_rightOf_2 : decode cX8_rightOf 2 = .ok (.iconst 0, 1) := by decide +kernel
theorem dX8_rightOf_3 : decode cX8_rightOf 3 = .ok (.istore_n 3, 1) := by decide +kernel
theorem dX8_rightOf_4 : decode cX8_rightOf 4 = .ok (.iload_n 3, 1) := by decide +kernel
theorem dX8_rightOf_5 : decode cX8_rightOf 5 = .ok (.aload_n 0, 1) := by decide +kernel
theorem dX8_rightOf_6 : decode cX8_rightOf 6 = .ok (.getfield 19, 3) := by decide +kernel
theorem dX8_rightOf_9 : decode cX8_rightOf 9 = .ok (.invokevirtual 68, 3) := by decide +kernel
theorem dX8_rightOf_12 : decode cX8_rightOf 12 = .ok (.if_icmp .ge 52, 3) := by decide +kernel
theorem dX8_rightOf_15 : decode cX8_rightOf 15 = .ok (.aload_n 0, 1) := by decide +kernel
theorem dX8_rightOf_16 : decode cX8_rightOf 16 = .ok (.getfield 19, 3) := by decide +kernel
theorem dX8_rightOf_19 : decode cX8_rightOf 19 = .ok (.iload_n 3, 1) := by decide +kernel
theorem dX8_rightOf_20 : decode cX8_rightOf 20 = .ok (.invokevirtual 185, 3) := by decide +kernel
theorem dX8_rightOf_23 : decode cX8_rightOf 23 = .ok (.checkcast 235, 3) := by decide +kernel
theorem dX8_rightOf_26 : decode cX8_rightOf 26 = .ok (.astore 4, 2) := by decide +kernel
theorem dX8_rightOf_28 : decode cX8_rightOf 28 = .ok (.aload 4, 2) := by decide +kernel
theorem dX8_rightOf_30 : decode cX8_rightOf 30 = .ok (.ifnull 28, 3) := by decide +kernel
theorem dX8_rightOf_33 : decode cX8_rightOf 33 = .ok (.aload 4, 2) := by decide +kernel
theorem dX8_rightOf_35 : decode cX8_rightOf 35 = .ok (.getfield 240, 3) := by decide +kernel
theorem dX8_rightOf_38 : decode cX8_rightOf 38 = .ok (.ifCond .eq 20, 3) := by decide +kernel
theorem dX8_rightOf_41 : decode cX8_rightOf 41 = .ok (.aload 4, 2) := by decide +kernel
theorem dX8_rightOf_43 : decode cX8_rightOf 43 = .ok (.getfield 258, 3) := by decide +kernel
theorem dX8_rightOf_46 : decode cX8_rightOf 46 = .ok (.iload_n 1, 1) := by decide +kernel
theorem dX8_rightOf_47 : decode cX8_rightOf 47 = .ok (.if_icmp .ne 11, 3) := by decide +kernel
theorem dX8_rightOf_50 : decode cX8_rightOf 50 = .ok (.iload_n 2, 1) := by decide +kernel
theorem dX8_rightOf_51 : decode cX8_rightOf 51 = .ok (.aload 4, 2) := by decide +kernel
theorem dX8_rightOf_53 : decode cX8_rightOf 53 = .ok (.getfield 261, 3) := by decide +kernel
theorem dX8_rightOf_56 : decode cX8_rightOf 56 = .ok (.iadd, 1) := by decide +kernel
theorem dX8_rightOf_57 : decode cX8_rightOf 57 = .ok (.istore_n 2, 1) := by decide +kernel
theorem dX8_rightOf_58 : decode cX8_rightOf 58 = .ok (.iinc 3 1, 3) := by decide +kernel
theorem dX8_rightOf_61 : decode cX8_rightOf 61 = .ok (.goto (-57), 3) := by decide +kernel
theorem dX8_rightOf_64 : decode cX8_rightOf 64 = .ok (.iload_n 2, 1) := by decide +kernel
theorem dX8_rightOf_65 : decode cX8_rightOf 65 = .ok (.ireturn, 1) := by decide +kernel
theorem dX8_fewestOf_0 : decode cX8_fewestOf 0 = .ok (.iload_n 0, 1) := by decide +kernel
theorem dX8_fewestOf_1 : decode cX8_fewestOf 1 = .ok (.iconst 1, 1) := by decide +kernel
theorem dX8_fewestOf_2 : decode cX8_fewestOf 2 = .ok (.if_icmp .ne 7, 3) := by decide +kernel
theorem dX8_fewestOf_5 : decode cX8_fewestOf 5 = .ok (.iconst 2, 1) := by decide +kernel
theorem dX8_fewestOf_6 : decode cX8_fewestOf 6 = .ok (.goto 4, 3) := by decide +kernel
theorem dX8_fewestOf_9 : decode cX8_fewestOf 9 = .ok (.iconst 1, 1) := by decide +kernel
theorem dX8_fewestOf_10 : decode cX8_fewestOf 10 = .ok (.ireturn, 1) := by decide +kernel
theorem dX8_mostOf_0 : decode cX8_mostOf 0 = .ok (.iload_n 0, 1) := by decide +kernel
theorem dX8_mostOf_1 : decode cX8_mostOf 1 = .ok (.tableswitch 34 2 4 #[27, 30, 32], 27) := by decide +kernel
theorem dX8_mostOf_28 : decode cX8_mostOf 28 = .ok (.bipush 6, 2) := by decide +kernel
theorem dX8_mostOf_30 : decode cX8_mostOf 30 = .ok (.ireturn, 1) := by decide +kernel
theorem dX8_mostOf_31 : decode cX8_mostOf 31 = .ok (.iconst 4, 1) := by decide +kernel
theorem dX8_mostOf_32 : decode cX8_mostOf 32 = .ok (.ireturn, 1) := by decide +kernel
theorem dX8_mostOf_33 : decode cX8_mostOf 33 = .ok (.iconst 3, 1) := by decide +kernel
theorem dX8_mostOf_34 : decode cX8_mostOf 34 = .ok (.ireturn, 1) := by decide +kernel
theorem dX8_mostOf_35 : decode cX8_mostOf 35 = .ok (.bipush 12, 2) := by decide +kernel
theorem dX8_mostOf_37 : decode cX8_mostOf 37 = .ok (.ireturn, 1) := by decide +kernel
theorem dX8_mostRight_0 : decode cX8_mostRight 0 = .ok (.iload_n 0, 1) := by decide +kernel
theorem dX8_mostRight_1 : decode cX8_mostRight 1 = .ok (.iconst 4, 1) := by decide +kernel
theorem dX8_mostRight_2 : decode cX8_mostRight 2 = .ok (.if_icmp .ne 9, 3) := by decide +kernel
theorem dX8_mostRight_5 : decode cX8_mostRight 5 = .ok (.iconst 4, 1) := by decide +kernel
theorem dX8_mostRight_6 : decode cX8_mostRight 6 = .ok (.iload_n 1, 1) := by decide +kernel
theorem dX8_mostRight_7 : decode cX8_mostRight 7 = .ok (.imul, 1) := by decide +kernel
theorem dX8_mostRight_8 : decode cX8_mostRight 8 = .ok (.goto 4, 3) := by decide +kernel
theorem dX8_mostRight_11 : decode cX8_mostRight 11 = .ok (.iload_n 1, 1) := by decide +kernel
theorem dX8_mostRight_12 : decode cX8_mostRight 12 = .ok (.ireturn, 1) := by decide +kernel
theorem dX8_mostNamed_0 : decode cX8_mostNamed 0 = .ok (.iload_n 0, 1) := by decide +kernel
theorem dX8_mostNamed_1 : decode cX8_mostNamed 1 = .ok (.iconst 4, 1) := by decide +kernel
theorem dX8_mostNamed_2 : decode cX8_mostNamed 2 = .ok (.if_icmp .ne 7, 3) := by decide +kernel
theorem dX8_mostNamed_5 : decode cX8_mostNamed 5 = .ok (.iconst 3, 1) := by decide +kernel
theorem dX8_mostNamed_6 : decode cX8_mostNamed 6 = .ok (.goto 6, 3) := by decide +kernel
theorem dX8_mostNamed_9 : decode cX8_mostNamed 9 = .ok (.iload_n 1, 1) := by decide +kernel
theorem dX8_mostNamed_10 : decode cX8_mostNamed 10 = .ok (.iconst 1, 1) := by decide +kernel
theorem dX8_mostNamed_11 : decode cX8_mostNamed 11 = .ok (.isub, 1) := by decide +kernel
theorem dX8_mostNamed_12 : decode cX8_mostNamed 12 = .ok (.ireturn, 1) := by decide +kernel
theorem dX9_init_0 : decode cX9_init 0 = .ok (.aload_n 0, 1) := by decide +kernel
theorem dX9_init_1 : decode cX9_init 1 = .ok (.invokespecial 1, 3) := by decide +kernel
theorem dX9_init_4 : decode cX9_init 4 = .ok (.aload_n 0, 1) := by decide +kernel
theorem dX9_init_5 : decode cX9_init 5 = .ok (.bipush 7, 2) := by decide +kernel
theorem dX9_init_7 : decode cX9_init 7 = .ok (.newarray .int, 2) := by decide +kernel
theorem dX9_init_9 : decode cX9_init 9 = .ok (.putfield 7, 3) := by decide +kernel
theorem dX9_init_12 : decode cX9_init 12 = .ok (.aload_n 0, 1) := by decide +kernel
theorem dX9_init_13 : decode cX9_init 13 = .ok (.bipush 30, 2) := by decide +kernel
theorem dX9_init_15 : decode cX9_init 15 = .ok (.newarray .int, 2) := by decide +kernel
theorem dX9_init_17 : decode cX9_init 17 = .ok (.putfield 13, 3) := by decide +kernel
theorem dX9_init_20 : decode cX9_init 20 = .ok (.aload_n 0, 1) := by decide +kernel
theorem dX9_init_21 : decode cX9_init 21 = .ok (.bipush 30, 2) := by decide +kernel
theorem dX9_init_23 : decode cX9_init 23 = .ok (.newarray .int, 2) := by decide +kernel
theorem dX9_init_25 : decode cX9_init 25 = .ok (.putfield 16, 3) := by decide +kernel
theorem dX9_init_28 : decode cX9_init 28 = .ok (.aload_n 0, 1) := by decide +kernel
theorem dX9_init_29 : decode cX9_init 29 = .ok (.bipush 30, 2) := by decide +kernel
theorem dX9_init_31 : decode cX9_init 31 = .ok (.newarray .int, 2) := by decide +kernel
theorem dX9_init_33 : decode cX9_init 33 = .ok (.putfield 19, 3) := by decide +kernel
theorem dX9_init_36 : decode cX9_init 36 = .ok (.aload_n 0, 1) := by decide +kernel
theorem dX9_init_37 : decode cX9_init 37 = .ok (.sipush 800, 3) := by decide +kernel
theorem dX9_init_40 : decode cX9_init 40 = .ok (.newarray .int, 2) := by decide +kernel
theorem dX9_init_42 : decode cX9_init 42 = .ok (.putfield 22, 3) := by decide +kernel
theorem dX9_init_45 : decode cX9_init 45 = .ok (.aload_n 0, 1) := by decide +kernel
theorem dX9_init_46 : decode cX9_init 46 = .ok (.bipush 20, 2) := by decide +kernel
theorem dX9_init_48 : decode cX9_init 48 = .ok (.newarray .int, 2) := by decide +kernel
theorem dX9_init_50 : decode cX9_init 50 = .ok (.putfield 25, 3) := by decide +kernel
theorem dX9_init_53 : decode cX9_init 53 = .ok (.aload_n 0, 1) := by decide +kernel
theorem dX9_init_54 : decode cX9_init 54 = .ok (.bipush 30, 2) := by decide +kernel
theorem dX9_init_56 : decode cX9_init 56 = .ok (.newarray .int, 2) := by decide +kernel
theorem dX9_init_58 : decode cX9_init 58 = .ok (.putfield 28, 3) := by decide +kernel
theorem dX9_init_61 : decode cX9_init 61 = .ok (.aload_n 0, 1) := by decide +kernel
theorem dX9_init_62 : decode cX9_init 62 = .ok (.bipush 30, 2) := by decide +kernel
theorem dX9_init_64 : decode cX9_init 64 = .ok (.newarray .int, 2) := by decide +kernel
theorem dX9_init_66 : decode cX9_init 66 = .ok (.putfield 31, 3) := by decide +kernel
theorem dX9_init_69 : decode cX9_init 69 = .ok (.aload_n 0, 1) := by decide +kernel
theorem dX9_init_70 : decode cX9_init 70 = .ok (.bipush 30, 2) := by decide +kernel
theorem dX9_init_72 : decode cX9_init 72 = .ok (.newarray .boolean, 2) := by decide +kernel
theorem dX9_init_74 : decode cX9_init 74 = .ok (.putfield 34, 3) := by decide +kernel
theorem dX9_init_77 : decode cX9_init 77 = .ok (.aload_n 0, 1) := by decide +kernel
theorem dX9_init_78 : decode cX9_init 78 = .ok (.bipush 13, 2) := by decide +kernel
theorem dX9_init_80 : decode cX9_init 80 = .ok (.newarray .long, 2) := by decide +kernel
theorem dX9_init_82 : decode cX9_init 82 = .ok (.putfield 38, 3) := by decide +kernel
theorem dX9_init_85 : decode cX9_init 85 = .ok (.aload_n 0, 1) := by decide +kernel
theorem dX9_init_86 : decode cX9_init 86 = .ok (.bipush 13, 2) := by decide +kernel
theorem dX9_init_88 : decode cX9_init 88 = .ok (.newarray .long, 2) := by decide +kernel
theorem dX9_init_90 : decode cX9_init 90 = .ok (.putfield 42, 3) := by decide +kernel
theorem dX9_init_93 : decode cX9_init 93 = .ok (.aload_n 0, 1) := by decide +kernel
theorem dX9_init_94 : decode cX9_init 94 = .ok (.bipush 40, 2) := by decide +kernel
theorem dX9_init_96 : decode cX9_init 96 = .ok (.newarray .int, 2) := by decide +kernel
theorem dX9_init_98 : decode cX9_init 98 = .ok (.putfield 45, 3) := by decide +kernel
theorem dX9_init_101 : decode cX9_init 101 = .ok (.aload_n 0, 1) := by decide +kernel
theorem dX9_init_102 : decode cX9_init 102 = .ok (.sipush 128, 3) := by decide +kernel
theorem dX9_init_105 : decode cX9_init 105 = .ok (.newarray .int, 2) := by decide +kernel
theorem dX9_init_107 : decode cX9_init 107 = .ok (.putfield 48, 3) := by decide +kernel
theorem dX9_init_110 : decode cX9_init 110 = .ok (.aload_n 0, 1) := by decide +kernel
theorem dX9_init_111 : decode cX9_init 111 = .ok (.aload_n 0, 1) := by decide +kernel
theorem dX9_init_112 : decode cX9_init 112 = .ok (.getfield 45, 3) := by decide +kernel
theorem dX9_init_115 : decode cX9_init 115 = .ok (.putfield 51, 3) := by decide +kernel
theorem dX9_init_118 : decode cX9_init 118 = .ok (.return_, 1) := by decide +kernel
theorem dX9_refuse_0 : decode cX9_refuse 0 = .ok (.aload_n 0, 1) := by decide +kernel
theorem dX9_refuse_1 : decode cX9_refuse 1 = .ok (.getfield 7, 3) := by decide +kernel
theorem dX9_refuse_4 : decode cX9_refuse 4 = .ok (.iload_n 1, 1) := by decide +kernel
theorem dX9_refuse_5 : decode cX9_refuse 5 = .ok (.ineg, 1) := by decide +kernel
theorem dX9_refuse_6 : decode cX9_refuse 6 = .ok (.dup2, 1) := by decide +kernel
theorem dX9_refuse_7 : decode cX9_refuse 7 = .ok (.iaload, 1) := by decide +kernel
theorem dX9_refuse_8 : decode cX9_refuse 8 = .ok (.iconst 1, 1) := by decide +kernel
theorem dX9_refuse_9 : decode cX9_refuse 9 = .ok (.iadd, 1) := by decide +kernel
theorem dX9_refuse_10 : decode cX9_refuse 10 = .ok (.iastore, 1) := by decide +kernel
theorem dX9_refuse_11 : decode cX9_refuse 11 = .ok (.iload_n 1, 1) := by decide +kernel
theorem dX9_refuse_12 : decode cX9_refuse 12 = .ok (.ireturn, 1) := by decide +kernel
set_option maxRecDepth 20000 in
theorem ggX9_refuseFar_X9_refuse : GoodIn wsX9_refuseFar wsX9_refuse := goodIn_r _ [6, 7, 8, 9, 10, 11, 12, 13, 14, 15, 16, 17, 18, 19, 20, 21, 22, 23, 24, 25, 26, 27, 28, 29, 30, 31, 32, 33, 34] (by decide +kernel) (by decide +kernel)
set_option maxRecDepth 20000 in
theorem gX9_refuseFar_X9_refuse : GoodIn wsX9_refuseFar (wsV RX9 56 RX9 yX9_refuse wsX9_refuse) := goodIn_app (goodIn_of _ (by decide +kernel)) ggX9_refuseFar_X9_refuse
theorem dX9_refuseFar_0 : decode cX9_refuseFar 0 = .ok (.ldc2_w 54, 3) := by decide +kernel
theorem dX9_refuseFar_3 : decode cX9_refuseFar 3 = .ok (.aload_n 0, 1) := by decide +kernel
theorem dX9_refuseFar_4 : decode cX9_refuseFar 4 = .ok (.iload_n 1, 1) := by decide +kernel
theorem dX9_refuseFar_5 : decode cX9_refuseFar 5 = .ok (.invokevirtual 56, 3) := by decide +kernel
theorem dX9_refuseFar_8 : decode cX9_refuseFar 8 = .ok (.i2l, 1) := by decide +kernel
theorem dX9_refuseFar_9 : decode cX9_refuseFar 9 = .ok (.lsub, 1) := by decide +kernel
theorem dX9_refuseFar_10 : decode cX9_refuseFar 10 = .ok (.lreturn, 1) := by decide +kernel
theorem dX9_isIn_0 : decode cX9_isIn 0 = .ok (.iload_n 0, 1) := by decide +kernel
theorem dX9_isIn_1 : decode cX9_isIn 1 = .ok (.ifCond .lt 12, 3) := by decide +kernel
theorem dX9_isIn_4 : decode cX9_isIn 4 = .ok (.iload_n 0, 1) := by decide +kernel
theorem dX9_isIn_5 : decode cX9_isIn 5 = .ok (.iload_n 1, 1) := by decide +kernel
theorem dX9_isIn_6 : decode cX9_isIn 6 = .ok (.if_icmp .ge 7, 3) := by decide +kernel
theorem dX9_isIn_9 : decode cX9_isIn 9 = .ok (.iconst 1, 1) := by decide +kernel
theorem dX9_isIn_10 : decode cX9_isIn 10 = .ok (.goto 4, 3) := by decide +kernel
theorem dX9_isIn_13 : decode cX9_isIn 13 = .ok (.iconst 0, 1) := by decide +kernel
theorem dX9_isIn_14 : decode cX9_isIn 14 = .ok (.ireturn, 1) := by decide +kernel
theorem dX9_within_0 : decode cX9_within 0 = .ok (.iload_n 0, 1) := by decide +kernel
theorem dX9_within_1 : decode cX9_within 1 = .ok (.iload_n 1, 1) := by decide +kernel
theorem dX9_within_2 : decode cX9_within 2 = .ok (.if_icmp .ge 8, 3) := by decide +kernel
theorem dX9_within_5 : decode cX9_within 5 = .ok (.bipush (-4), 2) := by decide +kernel
theorem dX9_within_7 : decode cX9_within 7 = .ok (.goto 14, 3) := by decide +kernel
theorem dX9_within_10 : decode cX9_within 10 = .ok (.iload_n 0, 1) := by decide +kernel
theorem dX9_within_11 : decode cX9_within 11 = .ok (.iload_n 2, 1) := by decide +kernel
theorem dX9_within_12 : decode cX9_within 12 = .ok (.if_icmp .le 8, 3) := by decide +kernel
theorem dX9_within_15 : decode cX9_within 15 = .ok (.bipush (-6), 2) := by decide +kernel
theorem dX9_within_17 : decode cX9_within 17 = .ok (.goto 4, 3) := by decide +kernel
theorem dX9_within_20 : decode cX9_within 20 = .ok (.iconst 0, 1) := by decide +kernel
theorem dX9_within_21 : decode cX9_within 21 = .ok (.ireturn, 1) := by decide +kernel
set_option maxRecDepth 20000 in
theorem ggX9_isPlan_X9_isIn : GoodIn wsX9_isPlan wsX9_isIn := goodIn_r _ [5] (by decide +kernel) (by decide +kernel)
set_option maxRecDepth 20000 in
theorem gX9_isPlan_X9_isIn : GoodIn wsX9_isPlan (va_wsS RX9 64 yX9_isIn wsX9_isIn) := goodIn_app (goodIn_of _ (by decide +kernel)) ggX9_isPlan_X9_isIn
theorem dX9_isPlan_0 : decode cX9_isPlan 0 = .ok (.iload_n 1, 1) := by decide +kernel
theorem dX9_isPlan_1 : decode cX9_isPlan 1 = .ok (.aload_n 0, 1) := by decide +kernel
theorem dX9_isPlan_2 : decode cX9_isPlan 2 = .ok (.getfield 60, 3) := by decide +kernel
theorem dX9_isPlan_5 : decode cX9_isPlan 5 = .ok (.invokestatic 64, 3) := by decide +kernel
theorem dX9_isPlan_8 : decode cX9_isPlan 8 = .ok (.ireturn, 1) := by decide +kernel
theorem dX9_common_0 : decode cX9_common 0 = .ok (.lload_n 0, 1) := by decide +kernel
theorem dX9_common_1 : decode cX9_common 1 = .ok (.lconst 0, 1) := by decide +kernel
theorem dX9_common_2 : decode cX9_common 2 = .ok (.lcmp, 1) := by decide +kernel
theorem dX9_common_3 : decode cX9_common 3 = .ok (.ifCond .ge 8, 3) := by decide +kernel
theorem dX9_common_6 : decode cX9_common 6 = .ok (.lload_n 0, 1) := by decide +kernel
theorem dX9_common_7 : decode cX9_common 7 = .ok (.lneg, 1) := by decide +kernel
theorem dX9_common_8 : decode cX9_common 8 = .ok (.goto 4, 3) := by decide +kernel
theorem dX9_common_11 : decode cX9_common 11 = .ok (.lload_n 0, 1) := by decide +kernel
theorem dX9_common_12 : decode cX9_common 12 = .ok (.lstore 4, 2) := by decide +kernel
theorem dX9_common_14 : decode cX9_common 14 = .ok (.lload_n 2, 1) := by decide +kernel
theorem dX9_common_15 : decode cX9_common 15 = .ok (.lstore 6, 2) := by decide +kernel
theorem dX9_common_17 : decode cX9_common 17 = .ok (.lload 6, 2) := by decide +kernel
theorem dX9_common_19 : decode cX9_common 19 = .ok (.lconst 0, 1) := by decide +kernel
theorem dX9_common_20 : decode cX9_common 20 = .ok (.lcmp, 1) := by decide +kernel
theorem dX9_common_21 : decode cX9_common 21 = .ok (.ifCond .eq 21, 3) := by decide +kernel
theorem dX9_common_24 : decode cX9_common 24 = .ok (.lload 4, 2) := by decide +kernel
theorem dX9_common_26 : decode cX9_common 26 = .ok (.lload 6, 2) := by decide +kernel
theorem dX9_common_28 : decode cX9_common 28 = .ok (.lrem, 1) := by decide +kernel
theorem dX9_common_29 : decode cX9_common 29 = .ok (.lstore 8, 2) := by decide +kernel
theorem dX9_common_31 : decode cX9_common 31 = .ok (.lload 6, 2) := by decide +kernel
theorem dX9_common_33 : decode cX9_common 33 = .ok (.lstore 4, 2) := by decide +kernel
theorem dX9_common_35 : decode cX9_common 35 = .ok (.lload 8, 2) := by decide +kernel
theorem dX9_common_37 : decode cX9_common 37 = .ok (.lstore 6, 2) := by decide +kernel
theorem dX9_common_39 : decode cX9_common 39 = .ok (.goto (-22), 3) := by decide +kernel
theorem dX9_common_42 : decode cX9_common 42 = .ok (.lload 4, 2) := by decide +kernel
theorem dX9_common_44 : decode cX9_common 44 = .ok (.lreturn, 1) := by decide +kernel
set_option maxRecDepth 20000 in
theorem ggX9_told_X9_common : GoodIn wsX9_told wsX9_common := goodIn_r _ [4] (by decide +kernel) (by decide +kernel)
set_option maxRecDepth 20000 in
theorem gX9_told_X9_common : GoodIn wsX9_told (va_wsS RX9 68 yX9_common wsX9_common) := goodIn_app (goodIn_of _ (by decide +kernel)) ggX9_told_X9_common
theorem dX9_told_0 : decode cX9_told 0 = .ok (.lload_n 0, 1) := by decide +kernel
theorem dX9_told_1 : decode cX9_told 1 = .ok (.lload_n 2, 1) := by decide +kernel
theorem dX9_told_2 : decode cX9_told 2 = .ok (.invokestatic 68, 3) := by decide +kernel
theorem dX9_told_5 : decode cX9_told 5 = .ok (.lstore 5, 2) := by decide +kernel
theorem dX9_told_7 : decode cX9_told 7 = .ok (.iload 4, 2) := by decide +kernel
theorem dX9_told_9 : decode cX9_told 9 = .ok (.ifCond .ne 10, 3) := by decide +kernel
theorem dX9_told_12 : decode cX9_told 12 = .ok (.lload_n 0, 1) := by decide +kernel
theorem dX9_told_13 : decode cX9_told 13 = .ok (.lload 5, 2) := by decide +kernel
theorem dX9_told_15 : decode cX9_told 15 = .ok (.ldiv, 1) := by decide +kernel
theorem dX9_told_16 : decode cX9_told 16 = .ok (.goto 7, 3) := by decide +kernel
theorem dX9_told_19 : decode cX9_told 19 = .ok (.lload_n 2, 1) := by decide +kernel
theorem dX9_told_20 : decode cX9_told 20 = .ok (.lload 5, 2) := by decide +kernel
theorem dX9_told_22 : decode cX9_told 22 = .ok (.ldiv, 1) := by decide +kernel
theorem dX9_told_23 : decode cX9_told 23 = .ok (.lreturn, 1) := by decide +kernel
theorem dX9_ways_0 : decode cX9_ways 0 = .ok (.iload_n 1, 1) := by decide +kernel
theorem dX9_ways_1 : decode cX9_ways 1 = .ok (.ifCond .lt 8, 3) := by decide +kernel
theorem dX9_ways_4 : decode cX9_ways 4 = .ok (.iload_n 1, 1) := by decide +kernel
theorem dX9_ways_5 : decode cX9_ways 5 = .ok (.iload_n 0, 1) := by decide +kernel
theorem dX9_ways_6 : decode cX9_ways 6 = .ok (.if_icmp .le 5, 3) := by decide +kernel
theorem dX9_ways_9 : decode cX9_ways 9 = .ok (.lconst 0, 1) := by decide +kernel
theorem dX9_ways_10 : decode cX9_ways 10 = .ok (.lreturn, 1) := by decide +kernel
theorem dX9_ways_11 : decode cX9_ways 11 = .ok (.lconst 1, 1) := by decide +kernel
theorem dX9_ways_12 : decode cX9_ways 12 = .ok (.lstore_n 2, 1) := by decide +kernel
theorem dX9_ways_13 : decode cX9_ways 13 = .ok (.iconst 1, 1) := by decide +kernel
theorem dX9_ways_14 : decode cX9_ways 14 = .ok (.istore 4, 2) := by decide +kernel
theorem dX9_ways_16 : decode cX9_ways 16 = .ok (.iload 4, 2) := by decide +kernel
theorem dX9_ways_18 : decode cX9_ways 18 = .ok (.iload_n 1, 1) := by decide +kernel
theorem dX9_ways_19 : decode cX9_ways 19 = .ok (.if_icmp .gt 23, 3) := by decide +kernel
theorem dX9_ways_22 : decode cX9_ways 22 = .ok (.lload_n 2, 1) := by decide +kernel
theorem dX9_ways_23 : decode cX9_ways 23 = .ok (.iload_n 0, 1) := by decide +kernel
theorem dX9_ways_24 : decode cX9_ways 24 = .ok (.iload_n 1, 1) := by decide +kernel
theorem dX9_ways_25 : decode cX9_ways 25 = .ok (.isub, 1) := by decide +kernel
theorem dX9_ways_26 : decode cX9_ways 26 = .ok (.iload 4, 2) := by decide +kernel
theorem dX9_ways_28 : decode cX9_ways 28 = .ok (.iadd, 1) := by decide +kernel
theorem dX9_ways_29 : decode cX9_ways 29 = .ok (.i2l, 1) := by decide +kernel
theorem dX9_ways_30 : decode cX9_ways 30 = .ok (.lmul, 1) := by decide +kernel
theorem dX9_ways_31 : decode cX9_ways 31 = .ok (.iload 4, 2) := by decide +kernel
theorem dX9_ways_33 : decode cX9_ways 33 = .ok (.i2l, 1) := by decide +kernel
theorem dX9_ways_34 : decode cX9_ways 34 = .ok (.ldiv, 1) := by decide +kernel
theorem dX9_ways_35 : decode cX9_ways 35 = .ok (.lstore_n 2, 1) := by decide +kernel
theorem dX9_ways_36 : decode cX9_ways 36 = .ok (.iinc 4 1, 3) := by decide +kernel
theorem dX9_ways_39 : decode cX9_ways 39 = .ok (.goto (-23), 3) := by decide +kernel
theorem dX9_ways_42 : decode cX9_ways 42 = .ok (.lload_n 2, 1) := by decide +kernel
theorem dX9_ways_43 : decode cX9_ways 43 = .ok (.lreturn, 1) := by decide +kernel
theorem dX9_power_0 : decode cX9_power 0 = .ok (.lconst 1, 1) := by decide +kernel
theorem dX9_power_1 : decode cX9_power 1 = .ok (.lstore_n 3, 1) := by decide +kernel
theorem dX9_power_2 : decode cX9_power 2 = .ok (.iconst 0, 1) := by decide +kernel
theorem dX9_power_3 : decode cX9_power 3 = .ok (.istore 5, 2) := by decide +kernel
theorem dX9_power_5 : decode cX9_power 5 = .ok (.iload 5, 2) := by decide +kernel
theorem dX9_power_7 : decode cX9_power 7 = .ok (.iload_n 2, 1) := by decide +kernel
theorem dX9_power_8 : decode cX9_power 8 = .ok (.if_icmp .ge 13, 3) := by decide +kernel
theorem dX9_power_11 : decode cX9_power 11 = .ok (.lload_n 3, 1) := by decide +kernel
theorem dX9_power_12 : decode cX9_power 12 = .ok (.lload_n 0, 1) := by decide +kernel
theorem dX9_power_13 : decode cX9_power 13 = .ok (.lmul, 1) := by decide +kernel
theorem dX9_power_14 : decode cX9_power 14 = .ok (.lstore_n 3, 1) := by decide +kernel
theorem dX9_power_15 : decode cX9_power 15 = .ok (.iinc 5 1, 3) := by decide +kernel
theorem dX9_power_18 : decode cX9_power 18 = .ok (.goto (-13), 3) := by decide +kernel
theorem dX9_power_21 : decode cX9_power 21 = .ok (.lload_n 3, 1) := by decide +kernel
theorem dX9_power_22 : decode cX9_power 22 = .ok (.lreturn, 1) := by decide +kernel
theorem dX9_mostCups_0 : decode cX9_mostCups 0 = .ok (.iload_n 0, 1) := by decide +kernel
theorem dX9_mostCups_1 : decode cX9_mostCups 1 = .ok (.iconst 2, 1) := by decide +kernel
