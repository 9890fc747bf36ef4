theorem dX9_mostCups_2 : decode cX9_mostCups 2 = .ok (.if_icmp .ge 8, 3) := by decide +kernel
theorem dX9_mostCups_5 : decode cX9_mostCups 5 = .ok (.bipush 12, 2) := by decide +kernel
theorem dX9_mostCups_7 : decode cX9_mostCups 7 = .ok (.goto 23, 3) := by decide +kernel
theorem dX9_mostCups_10 : decode cX9_mostCups 10 = .ok (.iload_n 0, 1) := by decide +kernel
theorem dX9_mostCups_11 : decode cX9_mostCups 11 = .ok (.iconst 2, 1) := by decide +kernel
theorem dX9_mostCups_12 : decode cX9_mostCups 12 = .ok (.if_icmp .ne 8, 3) := by decide +kernel
theorem dX9_mostCups_15 : decode cX9_mostCups 15 = .ok (.bipush 6, 2) := by decide +kernel
theorem dX9_mostCups_17 : decode cX9_mostCups 17 = .ok (.goto 13, 3) := by decide +kernel
theorem dX9_mostCups_20 : decode cX9_mostCups 20 = .ok (.iload_n 0, 1) := by decide +kernel
theorem dX9_mostCups_21 : decode cX9_mostCups 21 = .ok (.iconst 3, 1) := by decide +kernel
theorem dX9_mostCups_22 : decode cX9_mostCups 22 = .ok (.if_icmp .ne 7, 3) := by decide +kernel
theorem dX9_mostCups_25 : decode cX9_mostCups 25 = .ok (.iconst 4, 1) := by decide +kernel
theorem dX9_mostCups_26 : decode cX9_mostCups 26 = .ok (.goto 4, 3) := by decide +kernel
theorem dX9_mostCups_29 : decode cX9_mostCups 29 = .ok (.iconst 3, 1) := by decide +kernel
theorem dX9_mostCups_30 : decode cX9_mostCups 30 = .ok (.ireturn, 1) := by decide +kernel
set_option maxRecDepth 20000 in
theorem ggX9_plan_X9_isIn : GoodIn wsX9_plan wsX9_isIn := goodIn_r _ [8] (by decide +kernel) (by decide +kernel)
set_option maxRecDepth 20000 in
theorem gX9_plan_X9_isIn : GoodIn wsX9_plan (va_wsS RX9 64 yX9_isIn wsX9_isIn) := goodIn_app (goodIn_of _ (by decide +kernel)) ggX9_plan_X9_isIn
set_option maxRecDepth 20000 in
theorem ggX9_plan_X9_refuse : GoodIn wsX9_plan wsX9_refuse := goodIn_r _ [12, 13, 17, 18, 19, 20, 21, 22, 23, 24, 25, 26, 27, 28, 29, 30, 31, 32, 33, 34, 35, 36, 37, 38, 39, 40, 41, 42, 43] (by decide +kernel) (by decide +kernel)
set_option maxRecDepth 20000 in
theorem gX9_plan_X9_refuse : GoodIn wsX9_plan (wsV RX9 56 RX9 yX9_refuse wsX9_refuse) := goodIn_app (goodIn_of _ (by decide +kernel)) ggX9_plan_X9_refuse
set_option maxRecDepth 20000 in
theorem ggX9_plan_X9_mostCups : GoodIn wsX9_plan wsX9_mostCups := goodIn_r _ [16] (by decide +kernel) (by decide +kernel)
set_option maxRecDepth 20000 in
theorem gX9_plan_X9_mostCups : GoodIn wsX9_plan (va_wsS RX9 72 yX9_mostCups wsX9_mostCups) := goodIn_app (goodIn_of _ (by decide +kernel)) ggX9_plan_X9_mostCups
theorem dX9_plan_0 : decode cX9_plan 0 = .ok (.iload_n 1, 1) := by decide +kernel
theorem dX9_plan_1 : decode cX9_plan 1 = .ok (.iconst 5, 1) := by decide +kernel
theorem dX9_plan_2 : decode cX9_plan 2 = .ok (.invokestatic 64, 3) := by decide +kernel
theorem dX9_plan_5 : decode cX9_plan 5 = .ok (.ifCond .ne 10, 3) := by decide +kernel
theorem dX9_plan_8 : decode cX9_plan 8 = .ok (.aload_n 0, 1) := by decide +kernel
theorem dX9_plan_9 : decode cX9_plan 9 = .ok (.bipush (-2), 2) := by decide +kernel
theorem dX9_plan_11 : decode cX9_plan 11 = .ok (.invokevirtual 56, 3) := by decide +kernel
theorem dX9_plan_14 : decode cX9_plan 14 = .ok (.ireturn, 1) := by decide +kernel
theorem dX9_plan_15 : decode cX9_plan 15 = .ok (.iload_n 1, 1) := by decide +kernel
theorem dX9_plan_16 : decode cX9_plan 16 = .ok (.iconst 1, 1) := by decide +kernel
theorem dX9_plan_17 : decode cX9_plan 17 = .ok (.if_icmp .eq 8, 3) := by decide +kernel
theorem dX9_plan_20 : decode cX9_plan 20 = .ok (.iload_n 1, 1) := by decide +kernel
theorem dX9_plan_21 : decode cX9_plan 21 = .ok (.iconst 4, 1) := by decide +kernel
theorem dX9_plan_22 : decode cX9_plan 22 = .ok (.if_icmp .ne 7, 3) := by decide +kernel
theorem dX9_plan_25 : decode cX9_plan 25 = .ok (.iconst 1, 1) := by decide +kernel
theorem dX9_plan_26 : decode cX9_plan 26 = .ok (.goto 4, 3) := by decide +kernel
theorem dX9_plan_29 : decode cX9_plan 29 = .ok (.iconst 0, 1) := by decide +kernel
theorem dX9_plan_30 : decode cX9_plan 30 = .ok (.istore 4, 2) := by decide +kernel
theorem dX9_plan_32 : decode cX9_plan 32 = .ok (.iload_n 2, 1) := by decide +kernel
theorem dX9_plan_33 : decode cX9_plan 33 = .ok (.iload_n 1, 1) := by decide +kernel
theorem dX9_plan_34 : decode cX9_plan 34 = .ok (.iconst 1, 1) := by decide +kernel
theorem dX9_plan_35 : decode cX9_plan 35 = .ok (.if_icmp .ne 7, 3) := by decide +kernel
theorem dX9_plan_38 : decode cX9_plan 38 = .ok (.iconst 2, 1) := by decide +kernel
theorem dX9_plan_39 : decode cX9_plan 39 = .ok (.goto 4, 3) := by decide +kernel
theorem dX9_plan_42 : decode cX9_plan 42 = .ok (.iconst 1, 1) := by decide +kernel
theorem dX9_plan_43 : decode cX9_plan 43 = .ok (.if_icmp .lt 13, 3) := by decide +kernel
theorem dX9_plan_46 : decode cX9_plan 46 = .ok (.iload 4, 2) := by decide +kernel
theorem dX9_plan_48 : decode cX9_plan 48 = .ok (.ifCond .eq 15, 3) := by decide +kernel
theorem dX9_plan_51 : decode cX9_plan 51 = .ok (.iload_n 3, 1) := by decide +kernel
theorem dX9_plan_52 : decode cX9_plan 52 = .ok (.iconst 1, 1) := by decide +kernel
theorem dX9_plan_53 : decode cX9_plan 53 = .ok (.if_icmp .ge 10, 3) := by decide +kernel
theorem dX9_plan_56 : decode cX9_plan 56 = .ok (.aload_n 0, 1) := by decide +kernel
theorem dX9_plan_57 : decode cX9_plan 57 = .ok (.bipush (-4), 2) := by decide +kernel
theorem dX9_plan_59 : decode cX9_plan 59 = .ok (.invokevirtual 56, 3) := by decide +kernel
theorem dX9_plan_62 : decode cX9_plan 62 = .ok (.ireturn, 1) := by decide +kernel
theorem dX9_plan_63 : decode cX9_plan 63 = .ok (.iload_n 2, 1) := by decide +kernel
theorem dX9_plan_64 : decode cX9_plan 64 = .ok (.iload_n 1, 1) := by decide +kernel
theorem dX9_plan_65 : decode cX9_plan 65 = .ok (.invokestatic 72, 3) := by decide +kernel
theorem dX9_plan_68 : decode cX9_plan 68 = .ok (.if_icmp .gt 33, 3) := by decide +kernel
theorem dX9_plan_71 : decode cX9_plan 71 = .ok (.iload 4, 2) := by decide +kernel
theorem dX9_plan_73 : decode cX9_plan 73 = .ok (.ifCond .eq 19, 3) := by decide +kernel
theorem dX9_plan_76 : decode cX9_plan 76 = .ok (.iload_n 3, 1) := by decide +kernel
theorem dX9_plan_77 : decode cX9_plan 77 = .ok (.iload_n 1, 1) := by decide +kernel
theorem dX9_plan_78 : decode cX9_plan 78 = .ok (.iconst 1, 1) := by decide +kernel
theorem dX9_plan_79 : decode cX9_plan 79 = .ok (.if_icmp .ne 9, 3) := by decide +kernel
theorem dX9_plan_82 : decode cX9_plan 82 = .ok (.iload_n 2, 1) := by decide +kernel
theorem dX9_plan_83 : decode cX9_plan 83 = .ok (.iconst 1, 1) := by decide +kernel
theorem dX9_plan_84 : decode cX9_plan 84 = .ok (.isub, 1) := by decide +kernel
theorem dX9_plan_85 : decode cX9_plan 85 = .ok (.goto 4, 3) := by decide +kernel
theorem dX9_plan_88 : decode cX9_plan 88 = .ok (.iconst 3, 1) := by decide +kernel
theorem dX9_plan_89 : decode cX9_plan 89 = .ok (.if_icmp .gt 12, 3) := by decide +kernel
theorem dX9_plan_92 : decode cX9_plan 92 = .ok (.aload_n 0, 1) := by decide +kernel
theorem dX9_plan_93 : decode cX9_plan 93 = .ok (.getfield 60, 3) := by decide +kernel
theorem dX9_plan_96 : decode cX9_plan 96 = .ok (.bipush 30, 2) := by decide +kernel
theorem dX9_plan_98 : decode cX9_plan 98 = .ok (.if_icmp .ne 10, 3) := by decide +kernel
theorem dX9_plan_101 : decode cX9_plan 101 = .ok (.aload_n 0, 1) := by decide +kernel
theorem dX9_plan_102 : decode cX9_plan 102 = .ok (.bipush (-6), 2) := by decide +kernel
theorem dX9_plan_104 : decode cX9_plan 104 = .ok (.invokevirtual 56, 3) := by decide +kernel
theorem dX9_plan_107 : decode cX9_plan 107 = .ok (.ireturn, 1) := by decide +kernel
theorem dX9_plan_108 : decode cX9_plan 108 = .ok (.aload_n 0, 1) := by decide +kernel
theorem dX9_plan_109 : decode cX9_plan 109 = .ok (.getfield 13, 3) := by decide +kernel
theorem dX9_plan_112 : decode cX9_plan 112 = .ok (.aload_n 0, 1) := by decide +kernel
theorem dX9_plan_113 : decode cX9_plan 113 = .ok (.getfield 60, 3) := by decide +kernel
theorem dX9_plan_116 : decode cX9_plan 116 = .ok (.iload_n 1, 1) := by decide +kernel
theorem dX9_plan_117 : decode cX9_plan 117 = .ok (.iastore, 1) := by decide +kernel
theorem dX9_plan_118 : decode cX9_plan 118 = .ok (.aload_n 0, 1) := by decide +kernel
theorem dX9_plan_119 : decode cX9_plan 119 = .ok (.getfield 16, 3) := by decide +kernel
theorem dX9_plan_122 : decode cX9_plan 122 = .ok (.aload_n 0, 1) := by decide +kernel
theorem dX9_plan_123 : decode cX9_plan 123 = .ok (.getfield 60, 3) := by decide +kernel
theorem dX9_plan_126 : decode cX9_plan 126 = .ok (.iload_n 2, 1) := by decide +kernel
theorem dX9_plan_127 : decode cX9_plan 127 = .ok (.iastore, 1) := by decide +kernel
theorem dX9_plan_128 : decode cX9_plan 128 = .ok (.aload_n 0, 1) := by decide +kernel
theorem dX9_plan_129 : decode cX9_plan 129 = .ok (.getfield 19, 3) := by decide +kernel
theorem dX9_plan_132 : decode cX9_plan 132 = .ok (.aload_n 0, 1) := by decide +kernel
theorem dX9_plan_133 : decode cX9_plan 133 = .ok (.getfield 60, 3) := by decide +kernel
theorem dX9_plan_136 : decode cX9_plan 136 = .ok (.iload 4, 2) := by decide +kernel
theorem dX9_plan_138 : decode cX9_plan 138 = .ok (.ifCond .eq 7, 3) := by decide +kernel
theorem dX9_plan_141 : decode cX9_plan 141 = .ok (.iload_n 3, 1) := by decide +kernel
theorem dX9_plan_142 : decode cX9_plan 142 = .ok (.goto 4, 3) := by decide +kernel
theorem dX9_plan_145 : decode cX9_plan 145 = .ok (.iconst 0, 1) := by decide +kernel
theorem dX9_plan_146 : decode cX9_plan 146 = .ok (.iastore, 1) := by decide +kernel
theorem dX9_plan_147 : decode cX9_plan 147 = .ok (.aload_n 0, 1) := by decide +kernel
theorem dX9_plan_148 : decode cX9_plan 148 = .ok (.dup, 1) := by decide +kernel
theorem dX9_plan_149 : decode cX9_plan 149 = .ok (.getfield 60, 3) := by decide +kernel
theorem dX9_plan_152 : decode cX9_plan 152 = .ok (.iconst 1, 1) := by decide +kernel
theorem dX9_plan_153 : decode cX9_plan 153 = .ok (.iadd, 1) := by decide +kernel
theorem dX9_plan_154 : decode cX9_plan 154 = .ok (.putfield 60, 3) := by decide +kernel
theorem dX9_plan_157 : decode cX9_plan 157 = .ok (.aload_n 0, 1) := by decide +kernel
theorem dX9_plan_158 : decode cX9_plan 158 = .ok (.getfield 60, 3) := by decide +kernel
theorem dX9_plan_161 : decode cX9_plan 161 = .ok (.iconst 1, 1) := by decide +kernel
theorem dX9_plan_162 : decode cX9_plan 162 = .ok (.isub, 1) := by decide +kernel
theorem dX9_plan_163 : decode cX9_plan 163 = .ok (.ireturn, 1) := by decide +kernel
theorem dX9_sizeOf_0 : decode cX9_sizeOf 0 = .ok (.iload_n 0, 1) := by decide +kernel
theorem dX9_sizeOf_1 : decode cX9_sizeOf 1 = .ok (.iconst 4, 1) := by decide +kernel
theorem dX9_sizeOf_2 : decode cX9_sizeOf 2 = .ok (.if_icmp .ne 9, 3) := by decide +kernel
theorem dX9_sizeOf_5 : decode cX9_sizeOf 5 = .ok (.iconst 4, 1) := by decide +kernel
theorem dX9_sizeOf_6 : decode cX9_sizeOf 6 = .ok (.iload_n 1, 1) := by decide +kernel
theorem dX9_sizeOf_7 : decode cX9_sizeOf 7 = .ok (.imul, 1) := by decide +kernel
theorem dX9_sizeOf_8 : decode cX9_sizeOf 8 = .ok (.goto 4, 3) := by decide +kernel
theorem dX9_sizeOf_11 : decode cX9_sizeOf 11 = .ok (.iload_n 1, 1) := by decide +kernel
theorem dX9_sizeOf_12 : decode cX9_sizeOf 12 = .ok (.ireturn, 1) := by decide +kernel
set_option maxRecDepth 20000 in
theorem ggX9_size_X9_isPlan : GoodIn wsX9_size wsX9_isPlan := goodIn_r _ [7, 8, 9, 10, 6, 11, 20, 21, 22, 23, 24, 25, 26, 27, 28, 29, 30, 31, 32, 33, 34, 35, 36, 37, 38, 39, 40, 41, 42, 43, 44, 45, 46] (by decide +kernel) (by decide +kernel)
set_option maxRecDepth 20000 in
theorem gX9_size_X9_isPlan : GoodIn wsX9_size (wsV RX9 75 RX9 yX9_isPlan wsX9_isPlan) := goodIn_app (goodIn_of _ (by decide +kernel)) ggX9_size_X9_isPlan
set_option maxRecDepth 20000 in
theorem ggX9_size_X9_sizeOf : GoodIn wsX9_size wsX9_sizeOf := goodIn_r _ [14] (by decide +kernel) (by decide +kernel)
set_option maxRecDepth 20000 in
theorem gX9_size_X9_sizeOf : GoodIn wsX9_size (va_wsS RX9 79 yX9_sizeOf wsX9_sizeOf) := goodIn_app (goodIn_of _ (by decide +kernel)) ggX9_size_X9_sizeOf
set_option maxRecDepth 20000 in
theorem ggX9_size_X9_refuse : GoodIn wsX9_size wsX9_refuse := goodIn_r _ [18, 19, 20, 21, 22, 23, 24, 25, 26, 27, 28, 29, 30, 31, 32, 33, 34, 35, 36, 37, 38, 39, 40, 41, 42, 43, 44, 45, 46] (by decide +kernel) (by decide +kernel)
set_option maxRecDepth 20000 in
theorem gX9_size_X9_refuse : GoodIn wsX9_size (wsV RX9 56 RX9 yX9_refuse wsX9_refuse) := goodIn_app (goodIn_of _ (by decide +kernel)) ggX9_size_X9_refuse
theorem dX9_size_0 : decode cX9_size 0 = .ok (.aload_n 0, 1) := by decide +kernel
theorem dX9_size_1 : decode cX9_size 1 = .ok (.iload_n 1, 1) := by decide +kernel
theorem dX9_size_2 : decode cX9_size 2 = .ok (.invokevirtual 75, 3) := by decide +kernel
theorem dX9_size_5 : decode cX9_size 5 = .ok (.ifCond .eq 21, 3) := by decide +kernel
theorem dX9_size_8 : decode cX9_size 8 = .ok (.aload_n 0, 1) := by decide +kernel
theorem dX9_size_9 : decode cX9_size 9 = .ok (.getfield 13, 3) := by decide +kernel
theorem dX9_size_12 : decode cX9_size 12 = .ok (.iload_n 1, 1) := by decide +kernel
theorem dX9_size_13 : decode cX9_size 13 = .ok (.iaload, 1) := by decide +kernel
theorem dX9_size_14 : decode cX9_size 14 = .ok (.aload_n 0, 1) := by decide +kernel
theorem dX9_size_15 : decode cX9_size 15 = .ok (.getfield 16, 3) := by decide +kernel
theorem dX9_size_18 : decode cX9_size 18 = .ok (.iload_n 1, 1) := by decide +kernel
theorem dX9_size_19 : decode cX9_size 19 = .ok (.iaload, 1) := by decide +kernel
theorem dX9_size_20 : decode cX9_size 20 = .ok (.invokestatic 79, 3) := by decide +kernel
theorem dX9_size_23 : decode cX9_size 23 = .ok (.goto 8, 3) := by decide +kernel
theorem dX9_size_26 : decode cX9_size 26 = .ok (.aload_n 0, 1) := by decide +kernel
theorem dX9_size_27 : decode cX9_size 27 = .ok (.iconst (-1), 1) := by decide +kernel
theorem dX9_size_28 : decode cX9_size 28 = .ok (.invokevirtual 56, 3) := by decide +kernel
theorem dX9_size_31 : decode cX9_size 31 = .ok (.ireturn, 1) := by decide +kernel
set_option maxRecDepth 20000 in
theorem ggX9_independent_X9_power : GoodIn wsX9_independent wsX9_power := goodIn_r _ [6] (by decide +kernel) (by decide +kernel)
set_option maxRecDepth 20000 in
theorem gX9_independent_X9_power : GoodIn wsX9_independent (va_wsS RX9 83 yX9_power wsX9_power) := goodIn_app (goodIn_of _ (by decide +kernel)) ggX9_independent_X9_power
set_option maxRecDepth 20000 in
theorem ggX9_independent_X9_ways : GoodIn wsX9_independent wsX9_ways := goodIn_r _ [9] (by decide +kernel) (by decide +kernel)
set_option maxRecDepth 20000 in
theorem gX9_independent_X9_ways : GoodIn wsX9_independent (va_wsS RX9 91 yX9_ways wsX9_ways) := goodIn_app (goodIn_of _ (by decide +kernel)) ggX9_independent_X9_ways
theorem dX9_independent_0 : decode cX9_independent 0 = .ok (.aload_n 0, 1) := by decide +kernel
theorem dX9_independent_1 : decode cX9_independent 1 = .ok (.lload 4, 2) := by decide +kernel
theorem dX9_independent_3 : decode cX9_independent 3 = .ok (.iload_n 1, 1) := by decide +kernel
theorem dX9_independent_4 : decode cX9_independent 4 = .ok (.invokestatic 83, 3) := by decide +kernel
theorem dX9_independent_7 : decode cX9_independent 7 = .ok (.putfield 87, 3) := by decide +kernel
theorem dX9_independent_10 : decode cX9_independent 10 = .ok (.iconst 0, 1) := by decide +kernel
theorem dX9_independent_11 : decode cX9_independent 11 = .ok (.istore 6, 2) := by decide +kernel
theorem dX9_independent_13 : decode cX9_independent 13 = .ok (.iload 6, 2) := by decide +kernel
theorem dX9_independent_15 : decode cX9_independent 15 = .ok (.bipush 13, 2) := by decide +kernel
theorem dX9_independent_17 : decode cX9_independent 17 = .ok (.if_icmp .ge 51, 3) := by decide +kernel
theorem dX9_independent_20 : decode cX9_independent 20 = .ok (.aload_n 0, 1) := by decide +kernel
theorem dX9_independent_21 : decode cX9_independent 21 = .ok (.getfield 38, 3) := by decide +kernel
theorem dX9_independent_24 : decode cX9_independent 24 = .ok (.iload 6, 2) := by decide +kernel
theorem dX9_independent_26 : decode cX9_independent 26 = .ok (.iload 6, 2) := by decide +kernel
theorem dX9_independent_28 : decode cX9_independent 28 = .ok (.iload_n 1, 1) := by decide +kernel
theorem dX9_independent_29 : decode cX9_independent 29 = .ok (.if_icmp .le 7, 3) := by decide +kernel
theorem dX9_independent_32 : decode cX9_independent 32 = .ok (.lconst 0, 1) := by decide +kernel
theorem dX9_independent_33 : decode cX9_independent 33 = .ok (.goto 28, 3) := by decide +kernel
theorem dX9_independent_36 : decode cX9_independent 36 = .ok (.iload_n 1, 1) := by decide +kernel
theorem dX9_independent_37 : decode cX9_independent 37 = .ok (.iload 6, 2) := by decide +kernel
theorem dX9_independent_39 : decode cX9_independent 39 = .ok (.invokestatic 91, 3) := by decide +kernel
theorem dX9_independent_42 : decode cX9_independent 42 = .ok (.lload_n 2, 1) := by decide +kernel
theorem dX9_independent_43 : decode cX9_independent 43 = .ok (.iload 6, 2) := by decide +kernel
theorem dX9_independent_45 : decode cX9_independent 45 = .ok (.invokestatic 83, 3) := by decide +kernel
theorem dX9_independent_48 : decode cX9_independent 48 = .ok (.lmul, 1) := by decide +kernel
theorem dX9_independent_49 : decode cX9_independent 49 = .ok (.lload 4, 2) := by decide +kernel
theorem dX9_independent_51 : decode cX9_independent 51 = .ok (.lload_n 2, 1) := by decide +kernel
theorem dX9_independent_52 : decode cX9_independent 52 = .ok (.lsub, 1) := by decide +kernel
theorem dX9_independent_53 : decode cX9_independent 53 = .ok (.iload_n 1, 1) := by decide +kernel
theorem dX9_independent_54 : decode cX9_independent 54 = .ok (.iload 6, 2) := by decide +kernel
theorem dX9_independent_56 : decode cX9_independent 56 = .ok (.isub, 1) := by decide +kernel
theorem dX9_independent_57 : decode cX9_independent 57 = .ok (.invokestatic 83, 3) := by decide +kernel
theorem dX9_independent_60 : decode cX9_independent 60 = .ok (.lmul, 1) := by decide +kernel
theorem dX9_independent_61 : decode cX9_independent 61 = .ok (.lastore, 1) := by decide +kernel
theorem dX9_independent_62 : decode cX9_independent 62 = .ok (.iinc 6 1, 3) := by decide +kernel
theorem dX9_independent_65 : decode cX9_independent 65 = .ok (.goto (-52), 3) := by decide +kernel
theorem dX9_independent_68 : decode cX9_independent 68 = .ok (.return_, 1) := by decide +kernel
set_option maxRecDepth 20000 in
theorem ggX9_fixed_X9_power : GoodIn wsX9_fixed wsX9_power := goodIn_r _ [7] (by decide +kernel) (by decide +kernel)
set_option maxRecDepth 20000 in
theorem gX9_fixed_X9_power : GoodIn wsX9_fixed (va_wsS RX9 83 yX9_power wsX9_power) := goodIn_app (goodIn_of _ (by decide +kernel)) ggX9_fixed_X9_power
set_option maxRecDepth 20000 in
theorem ggX9_fixed_X9_ways : GoodIn wsX9_fixed wsX9_ways := goodIn_r _ [10] (by decide +kernel) (by decide +kernel)
set_option maxRecDepth 20000 in
theorem gX9_fixed_X9_ways : GoodIn wsX9_fixed (va_wsS RX9 91 yX9_ways wsX9_ways) := goodIn_app (goodIn_of _ (by decide +kernel)) ggX9_fixed_X9_ways
theorem dX9_fixed_0 : decode cX9_fixed 0 = .ok (.aload_n 0, 1) := by decide +kernel
theorem dX9_fixed_1 : decode cX9_fixed 1 = .ok (.ldc2_w 95, 3) := by decide +kernel
theorem dX9_fixed_4 : decode cX9_fixed 4 = .ok (.iload_n 1, 1) := by decide +kernel
theorem dX9_fixed_5 : decode cX9_fixed 5 = .ok (.invokestatic 83, 3) := by decide +kernel
theorem dX9_fixed_8 : decode cX9_fixed 8 = .ok (.lload 4, 2) := by decide +kernel
theorem dX9_fixed_10 : decode cX9_fixed 10 = .ok (.lmul, 1) := by decide +kernel
theorem dX9_fixed_11 : decode cX9_fixed 11 = .ok (.putfield 87, 3) := by decide +kernel
theorem dX9_fixed_14 : decode cX9_fixed 14 = .ok (.iconst 0, 1) := by decide +kernel
theorem dX9_fixed_15 : decode cX9_fixed 15 = .ok (.istore 6, 2) := by decide +kernel
theorem dX9_fixed_17 : decode cX9_fixed 17 = .ok (.iload 6, 2) := by decide +kernel
theorem dX9_fixed_19 : decode cX9_fixed 19 = .ok (.bipush 13, 2) := by decide +kernel
theorem dX9_fixed_21 : decode cX9_fixed 21 = .ok (.if_icmp .ge 17, 3) := by decide +kernel
theorem dX9_fixed_24 : decode cX9_fixed 24 = .ok (.aload_n 0, 1) := by decide +kernel
theorem dX9_fixed_25 : decode cX9_fixed 25 = .ok (.getfield 38, 3) := by decide +kernel
theorem dX9_fixed_28 : decode cX9_fixed 28 = .ok (.iload 6, 2) := by decide +kernel
theorem dX9_fixed_30 : decode cX9_fixed 30 = .ok (.lconst 0, 1) := by decide +kernel
theorem dX9_fixed_31 : decode cX9_fixed 31 = .ok (.lastore, 1) := by decide +kernel
theorem dX9_fixed_32 : decode cX9_fixed 32 = .ok (.iinc 6 1, 3) := by decide +kernel
theorem dX9_fixed_35 : decode cX9_fixed 35 = .ok (.goto (-18), 3) := by decide +kernel
theorem dX9_fixed_38 : decode cX9_fixed 38 = .ok (.iconst 0, 1) := by decide +kernel
theorem dX9_fixed_39 : decode cX9_fixed 39 = .ok (.istore 6, 2) := by decide +kernel
theorem dX9_fixed_41 : decode cX9_fixed 41 = .ok (.iload 6, 2) := by decide +kernel
theorem dX9_fixed_43 : decode cX9_fixed 43 = .ok (.iload_n 2, 1) := by decide +kernel
theorem dX9_fixed_44 : decode cX9_fixed 44 = .ok (.if_icmp .gt 262, 3) := by decide +kernel
theorem dX9_fixed_47 : decode cX9_fixed 47 = .ok (.iconst 0, 1) := by decide +kernel
theorem dX9_fixed_48 : decode cX9_fixed 48 = .ok (.istore 7, 2) := by decide +kernel
theorem dX9_fixed_50 : decode cX9_fixed 50 = .ok (.iload 7, 2) := by decide +kernel
theorem dX9_fixed_52 : decode cX9_fixed 52 = .ok (.iload_n 1, 1) := by decide +kernel
theorem dX9_fixed_53 : decode cX9_fixed 53 = .ok (.iload_n 2, 1) := by decide +kernel
theorem dX9_fixed_54 : decode cX9_fixed 54 = .ok (.isub, 1) := by decide +kernel
theorem dX9_fixed_55 : decode cX9_fixed 55 = .ok (.if_icmp .gt 245, 3) := by decide +kernel
theorem dX9_fixed_58 : decode cX9_fixed 58 = .ok (.iload_n 2, 1) := by decide +kernel
theorem dX9_fixed_59 : decode cX9_fixed 59 = .ok (.iload 6, 2) := by decide +kernel
theorem dX9_fixed_61 : decode cX9_fixed 61 = .ok (.invokestatic 91, 3) := by decide +kernel
theorem dX9_fixed_64 : decode cX9_fixed 64 = .ok (.iload_n 3, 1) := by decide +kernel
theorem dX9_fixed_65 : decode cX9_fixed 65 = .ok (.i2l, 1) := by decide +kernel
theorem dX9_fixed_66 : decode cX9_fixed 66 = .ok (.iload 6, 2) := by decide +kernel
theorem dX9_fixed_68 : decode cX9_fixed 68 = .ok (.invokestatic 83, 3) := by decide +kernel
theorem dX9_fixed_71 : decode cX9_fixed 71 = .ok (.lmul, 1) := by decide +kernel
theorem dX9_fixed_72 : decode cX9_fixed 72 = .ok (.ldc2_w 95, 3) := by decide +kernel
theorem dX9_fixed_75 : decode cX9_fixed 75 = .ok (.iload_n 3, 1) := by decide +kernel
theorem dX9_fixed_76 : decode cX9_fixed 76 = .ok (.i2l, 1) := by decide +kernel
theorem dX9_fixed_77 : decode cX9_fixed 77 = .ok (.lsub, 1) := by decide +kernel
theorem dX9_fixed_78 : decode cX9_fixed 78 = .ok (.iload_n 2, 1) := by decide +kernel
theorem dX9_fixed_79 : decode cX9_fixed 79 = .ok (.iload 6, 2) := by decide +kernel
theorem dX9_fixed_81 : decode cX9_fixed 81 = .ok (.isub, 1) := by decide +kernel
theorem dX9_fixed_82 : decode cX9_fixed 82 = .ok (.invokestatic 83, 3) := by decide +kernel
theorem dX9_fixed_85 : decode cX9_fixed 85 = .ok (.lmul, 1) := by decide +kernel
theorem dX9_fixed_86 : decode cX9_fixed 86 = .ok (.iload_n 1, 1) := by decide +kernel
theorem dX9_fixed_87 : decode cX9_fixed 87 = .ok (.iload_n 2, 1) := by decide +kernel
theorem dX9_fixed_88 : decode cX9_fixed 88 = .ok (.isub, 1) := by decide +kernel
theorem dX9_fixed_89 : decode cX9_fixed 89 = .ok (.iload 7, 2) := by decide +kernel
theorem dX9_fixed_91 : decode cX9_fixed 91 = .ok (.invokestatic 91, 3) := by decide +kernel
theorem dX9_fixed_94 : decode cX9_fixed 94 = .ok (.lmul, 1) := by decide +kernel
theorem dX9_fixed_95 : decode cX9_fixed 95 = .ok (.ldc2_w 95, 3) := by decide +kernel
theorem dX9_fixed_98 : decode cX9_fixed 98 = .ok (.iload_n 3, 1) := by decide +kernel
theorem dX9_fixed_99 : decode cX9_fixed 99 = .ok (.i2l, 1) := by decide +kernel
theorem dX9_fixed_100 : decode cX9_fixed 100 = .ok (.lsub, 1) := by decide +kernel
theorem dX9_fixed_101 : decode cX9_fixed 101 = .ok (.iload 7, 2) := by decide +kernel
theorem dX9_fixed_103 : decode cX9_fixed 103 = .ok (.invokestatic 83, 3) := by decide +kernel
theorem dX9_fixed_106 : decode cX9_fixed 106 = .ok (.lmul, 1) := by decide +kernel
theorem dX9_fixed_107 : decode cX9_fixed 107 = .ok (.iload_n 3, 1) := by decide +kernel
theorem dX9_fixed_108 : decode cX9_fixed 108 = .ok (.i2l, 1) := by decide +kernel
theorem dX9_fixed_109 : decode cX9_fixed 109 = .ok (.iload_n 1, 1) := by decide +kernel
theorem dX9_fixed_110 : decode cX9_fixed 110 = .ok (.iload_n 2, 1) := by decide +kernel
theorem dX9_fixed_111 : decode cX9_fixed 111 = .ok (.isub, 1) := by decide +kernel
theorem dX9_fixed_112 : decode cX9_fixed 112 = .ok (.iload 7, 2) := by decide +kernel
theorem dX9_fixed_114 : decode cX9_fixed 114 = .ok (.isub, 1) := by decide +kernel
theorem dX9_fixed_115 : decode cX9_fixed 115 = .ok (.invokestatic 83, 3) := by decide +kernel
theorem dX9_fixed_118 : decode cX9_fixed 118 = .ok (.lmul, 1) := by decide +kernel
theorem dX9_fixed_119 : decode cX9_fixed 119 = .ok (.lstore 8, 2) := by decide +kernel
theorem dX9_fixed_121 : decode cX9_fixed 121 = .ok (.iload 6, 2) := by decide +kernel
theorem dX9_fixed_123 : decode cX9_fixed 123 = .ok (.iload 7, 2) := by decide +kernel
theorem dX9_fixed_125 : decode cX9_fixed 125 = .ok (.iadd, 1) := by decide +kernel
theorem dX9_fixed_126 : decode cX9_fixed 126 = .ok (.istore 10, 2) := by decide +kernel
theorem dX9_fixed_128 : decode cX9_fixed 128 = .ok (.lload 8, 2) := by decide +kernel
theorem dX9_fixed_130 : decode cX9_fixed 130 = .ok (.lconst 0, 1) := by decide +kernel
theorem dX9_fixed_131 : decode cX9_fixed 131 = .ok (.lcmp, 1) := by decide +kernel
theorem dX9_fixed_132 : decode cX9_fixed 132 = .ok (.ifCond .ne 6, 3) := by decide +kernel
theorem dX9_fixed_135 : decode cX9_fixed 135 = .ok (.goto 159, 3) := by decide +kernel
theorem dX9_fixed_138 : decode cX9_fixed 138 = .ok (.iconst 0, 1) := by decide +kernel
theorem dX9_fixed_139 : decode cX9_fixed 139 = .ok (.istore 11, 2) := by decide +kernel
theorem dX9_fixed_141 : decode cX9_fixed 141 = .ok (.iload 11, 2) := by decide +kernel
theorem dX9_fixed_143 : decode cX9_fixed 143 = .ok (.iload_n 2, 1) := by decide +kernel
theorem dX9_fixed_144 : decode cX9_fixed 144 = .ok (.if_icmp .gt 150, 3) := by decide +kernel
theorem dX9_fixed_147 : decode cX9_fixed 147 = .ok (.iload 10, 2) := by decide +kernel
theorem dX9_fixed_149 : decode cX9_fixed 149 = .ok (.iload_n 2, 1) := by decide +kernel
theorem dX9_fixed_150 : decode cX9_fixed 150 = .ok (.if_icmp .lt 23, 3) := by decide +kernel
theorem dX9_fixed_153 : decode cX9_fixed 153 = .ok (.iload 6, 2) := by decide +kernel
theorem dX9_fixed_155 : decode cX9_fixed 155 = .ok (.iload 11, 2) := by decide +kernel
theorem dX9_fixed_157 : decode cX9_fixed 157 = .ok (.invokestatic 91, 3) := by decide +kernel
theorem dX9_fixed_160 : decode cX9_fixed 160 = .ok (.iload 7, 2) := by decide +kernel
theorem dX9_fixed_162 : decode cX9_fixed 162 = .ok (.iload_n 2, 1) := by decide +kernel
theorem dX9_fixed_163 : decode cX9_fixed 163 = .ok (.iload 11, 2) := by decide +kernel
theorem dX9_fixed_165 : decode cX9_fixed 165 = .ok (.isub, 1) := by decide +kernel
theorem dX9_fixed_166 : decode cX9_fixed 166 = .ok (.invokestatic 91, 3) := by decide +kernel
theorem dX9_fixed_169 : decode cX9_fixed 169 = .ok (.lmul, 1) := by decide +kernel
theorem dX9_fixed_170 : decode cX9_fixed 170 = .ok (.goto 35, 3) := by decide +kernel
theorem dX9_fixed_173 : decode cX9_fixed 173 = .ok (.iload_n 2, 1) := by decide +kernel
theorem dX9_fixed_174 : decode cX9_fixed 174 = .ok (.iload 6, 2) := by decide +kernel
theorem dX9_fixed_176 : decode cX9_fixed 176 = .ok (.isub, 1) := by decide +kernel
theorem dX9_fixed_177 : decode cX9_fixed 177 = .ok (.iload 11, 2) := by decide +kernel
theorem dX9_fixed_179 : decode cX9_fixed 179 = .ok (.iload 6, 2) := by decide +kernel
theorem dX9_fixed_181 : decode cX9_fixed 181 = .ok (.isub, 1) := by decide +kernel
theorem dX9_fixed_182 : decode cX9_fixed 182 = .ok (.invokestatic 91, 3) := by decide +kernel
theorem dX9_fixed_185 : decode cX9_fixed 185 = .ok (.iload_n 1, 1) := by decide +kernel
theorem dX9_fixed_186 : decode cX9_fixed 186 = .ok (.iload_n 2, 1) := by decide +kernel
theorem dX9_fixed_187 : decode cX9_fixed 187 = .ok (.isub, 1) := by decide +kernel
theorem dX9_fixed_188 : decode cX9_fixed 188 = .ok (.iload 7, 2) := by decide +kernel
theorem dX9_fixed_190 : decode cX9_fixed 190 = .ok (.isub, 1) := by decide +kernel
theorem dX9_fixed_191 : decode cX9_fixed 191 = .ok (.iload_n 2, 1) := by decide +kernel
theorem dX9_fixed_192 : decode cX9_fixed 192 = .ok (.iload 10, 2) := by decide +kernel
theorem dX9_fixed_194 : decode cX9_fixed 194 = .ok (.isub, 1) := by decide +kernel
theorem dX9_fixed_195 : decode cX9_fixed 195 = .ok (.iload 11, 2) := by decide +kernel
theorem dX9_fixed_197 : decode cX9_fixed 197 = .ok (.iload 6, 2) := by decide +kernel
theorem dX9_fixed_199 : decode cX9_fixed 199 = .ok (.isub, 1) := by decide +kernel
theorem dX9_fixed_200 : decode cX9_fixed 200 = .ok (.isub, 1) := by decide +kernel
theorem dX9_fixed_201 : decode cX9_fixed 201 = .ok (.invokestatic 91, 3) := by decide +kernel
theorem dX9_fixed_204 : decode cX9_fixed 204 = .ok (.lmul, 1) := by decide +kernel
theorem dX9_fixed_205 : decode cX9_fixed 205 = .ok (.lstore 12, 2) := by decide +kernel
theorem dX9_fixed_207 : decode cX9_fixed 207 = .ok (.iload 10, 2) := by decide +kernel
theorem dX9_fixed_209 : decode cX9_fixed 209 = .ok (.iload_n 2, 1) := by decide +kernel
theorem dX9_fixed_210 : decode cX9_fixed 210 = .ok (.if_icmp .lt 12, 3) := by decide +kernel
theorem dX9_fixed_213 : decode cX9_fixed 213 = .ok (.iload 10, 2) := by decide +kernel
theorem dX9_fixed_215 : decode cX9_fixed 215 = .ok (.iload_n 2, 1) := by decide +kernel
theorem dX9_fixed_216 : decode cX9_fixed 216 = .ok (.invokestatic 91, 3) := by decide +kernel
theorem dX9_fixed_219 : decode cX9_fixed 219 = .ok (.goto 14, 3) := by decide +kernel
theorem dX9_fixed_222 : decode cX9_fixed 222 = .ok (.iload_n 1, 1) := by decide +kernel
theorem dX9_fixed_223 : decode cX9_fixed 223 = .ok (.iload 10, 2) := by decide +kernel
theorem dX9_fixed_225 : decode cX9_fixed 225 = .ok (.isub, 1) := by decide +kernel
theorem dX9_fixed_226 : decode cX9_fixed 226 = .ok (.iload_n 2, 1) := by decide +kernel
theorem dX9_fixed_227 : decode cX9_fixed 227 = .ok (.iload 10, 2) := by decide +kernel
theorem dX9_fixed_229 : decode cX9_fixed 229 = .ok (.isub, 1) := by decide +kernel
theorem dX9_fixed_230 : decode cX9_fixed 230 = .ok (.invokestatic 91, 3) := by decide +kernel
theorem dX9_fixed_233 : decode cX9_fixed 233 = .ok (.lstore 14, 2) := by decide +kernel
theorem dX9_fixed_235 : decode cX9_fixed 235 = .ok (.aload_n 0, 1) := by decide +kernel
theorem dX9_fixed_236 : decode cX9_fixed 236 = .ok (.getfield 38, 3) := by decide +kernel
theorem dX9_fixed_239 : decode cX9_fixed 239 = .ok (.iload_n 1, 1) := by decide +kernel
theorem dX9_fixed_240 : decode cX9_fixed 240 = .ok (.iconst 2, 1) := by decide +kernel
theorem dX9_fixed_241 : decode cX9_fixed 241 = .ok (.iload_n 2, 1) := by decide +kernel
theorem dX9_fixed_242 : decode cX9_fixed 242 = .ok (.iload 11, 2) := by decide +kernel
theorem dX9_fixed_244 : decode cX9_fixed 244 = .ok (.isub, 1) := by decide +kernel
theorem dX9_fixed_245 : decode cX9_fixed 245 = .ok (.imul, 1) := by decide +kernel
theorem dX9_fixed_246 : decode cX9_fixed 246 = .ok (.isub, 1) := by decide +kernel
theorem dX9_fixed_247 : decode cX9_fixed 247 = .ok (.ifCond .ge 7, 3) := by decide +kernel
theorem dX9_fixed_250 : decode cX9_fixed 250 = .ok (.iconst 0, 1) := by decide +kernel
theorem dX9_fixed_251 : decode cX9_fixed 251 = .ok (.goto 11, 3) := by decide +kernel
theorem dX9_fixed_254 : decode cX9_fixed 254 = .ok (.iload_n 1, 1) := by decide +kernel
theorem dX9_fixed_255 : decode cX9_fixed 255 = .ok (.iconst 2, 1) := by decide +kernel
theorem dX9_fixed_256 : decode cX9_fixed 256 = .ok (.iload_n 2, 1) := by decide +kernel
theorem dX9_fixed_257 : decode cX9_fixed 257 = .ok (.iload 11, 2) := by decide +kernel
theorem dX9_fixed_259 : decode cX9_fixed 259 = .ok (.isub, 1) := by decide +kernel
theorem dX9_fixed_260 : decode cX9_fixed 260 = .ok (.imul, 1) := by decide +kernel
theorem dX9_fixed_261 : decode cX9_fixed 261 = .ok (.isub, 1) := by decide +kernel
theorem dX9_fixed_262 : decode cX9_fixed 262 = .ok (.dup2, 1) := by decide +kernel
theorem dX9_fixed_263 : decode cX9_fixed 263 = .ok (.laload, 1) := by decide +kernel
theorem dX9_fixed_264 : decode cX9_fixed 264 = .ok (.lload 12, 2) := by decide +kernel
theorem dX9_fixed_266 : decode cX9_fixed 266 = .ok (.lconst 0, 1) := by decide +kernel
theorem dX9_fixed_267 : decode cX9_fixed 267 = .ok (.lcmp, 1) := by decide +kernel
theorem dX9_fixed_268 : decode cX9_fixed 268 = .ok (.ifCond .ne 7, 3) := by decide +kernel
theorem dX9_fixed_271 : decode cX9_fixed 271 = .ok (.lconst 0, 1) := by decide +kernel
theorem dX9_fixed_272 : decode cX9_fixed 272 = .ok (.goto 14, 3) := by decide +kernel
theorem dX9_fixed_275 : decode cX9_fixed 275 = .ok (.lload 8, 2) := by decide +kernel
theorem dX9_fixed_277 : decode cX9_fixed 277 = .ok (.lload 4, 2) := by decide +kernel
theorem dX9_fixed_279 : decode cX9_fixed 279 = .ok (.lload 14, 2) := by decide +kernel
theorem dX9_fixed_281 : decode cX9_fixed 281 = .ok (.ldiv, 1) := by decide +kernel
theorem dX9_fixed_282 : decode cX9_fixed 282 = .ok (.lmul, 1) := by decide +kernel
theorem dX9_fixed_283 : decode cX9_fixed 283 = .ok (.lload 12, 2) := by decide +kernel
theorem dX9_fixed_285 : decode cX9_fixed 285 = .ok (.lmul, 1) := by decide +kernel
theorem dX9_fixed_286 : decode cX9_fixed 286 = .ok (.ladd, 1) := by decide +kernel
theorem dX9_fixed_287 : decode cX9_fixed 287 = .ok (.lastore, 1) := by decide +kernel
theorem dX9_fixed_288 : decode cX9_fixed 288 = .ok (.iinc 11 1, 3) := by decide +kernel
theorem dX9_fixed_291 : decode cX9_fixed 291 = .ok (.goto (-150), 3) := by decide +kernel
theorem dX9_fixed_294 : decode cX9_fixed 294 = .ok (.iinc 7 1, 3) := by decide +kernel
theorem dX9_fixed_297 : decode cX9_fixed 297 = .ok (.goto (-247), 3) := by decide +kernel
theorem dX9_fixed_300 : decode cX9_fixed 300 = .ok (.iinc 6 1, 3) := by decide +kernel
theorem dX9_fixed_303 : decode cX9_fixed 303 = .ok (.goto (-262), 3) := by decide +kernel
theorem dX9_fixed_306 : decode cX9_fixed 306 = .ok (.return_, 1) := by decide +kernel
set_option maxRecDepth 20000 in
theorem ggX9_find_X9_independent : GoodIn wsX9_find wsX9_independent := goodIn_r _ [10, 11, 12, 13, 14, 9, 15, 16, 17, 18, 28, 29, 30, 31, 32, 33, 34, 35, 36, 37, 38, 39, 40, 41, 42, 43, 44, 45, 46, 47, 48, 49, 50, 51, 52, 53, 54] (by decide +kernel) (by decide +kernel)
set_option maxRecDepth 20000 in
theorem gX9_find_X9_independent : GoodIn wsX9_find (wsV RX9 97 RX9 yX9_independent wsX9_independent) := goodIn_app (goodIn_of _ (by decide +kernel)) ggX9_find_X9_independent
set_option maxRecDepth 20000 in
theorem ggX9_find_X9_fixed : GoodIn wsX9_find wsX9_fixed := goodIn_r _ [22, 1, 11, 12, 13, 14, 9, 15, 16, 17, 18, 28, 29, 30, 31, 32, 33, 34, 35, 36, 37, 38, 39, 40, 41, 42, 43, 44, 45, 46, 47, 48, 49, 50, 51, 52, 53, 54] (by decide +kernel) (by decide +kernel)
set_option maxRecDepth 20000 in
theorem gX9_find_X9_fixed : GoodIn wsX9_find (wsV RX9 107 RX9 yX9_fixed wsX9_fixed) := goodIn_app (goodIn_of _ (by decide +kernel)) ggX9_find_X9_fixed
set_option maxRecDepth 20000 in
theorem ggX9_find_X9_blocks : GoodIn wsX9_find wsX9_blocks := goodIn_r _ [26, 11, 27, 12, 28, 29, 30, 31, 32, 33, 34, 35, 36, 37, 38, 39, 40, 41, 42, 43, 44, 45, 46, 47, 48, 49, 50, 51, 52, 53, 54] (by decide +kernel) (by decide +kernel)
set_option maxRecDepth 20000 in
theorem gX9_find_X9_blocks : GoodIn wsX9_find (wsV RX9 113 RX9 yX9_blocks wsX9_blocks) := goodIn_app (goodIn_of _ (by decide +kernel)) ggX9_find_X9_blocks
theorem dX9_find_0 : decode cX9_find 0 = .ok (.iload_n 1, 1) := by decide +kernel
theorem dX9_find_1 : decode cX9_find 1 = .ok (.tableswitch 119 0 3 #[31, 107, 31, 43], 31) := by decide +kernel
theorem dX9_find_32 : decode cX9_find 32 = .ok (.aload_n 0, 1) := by decide +kernel
theorem dX9_find_33 : decode cX9_find 33 = .ok (.iload_n 2, 1) := by decide +kernel
theorem dX9_find_34 : decode cX9_find 34 = .ok (.iload 4, 2) := by decide +kernel
theorem dX9_find_36 : decode cX9_find 36 = .ok (.i2l, 1) := by decide +kernel
theorem dX9_find_37 : decode cX9_find 37 = .ok (.ldc2_w 95, 3) := by decide +kernel
theorem dX9_find_40 : decode cX9_find 40 = .ok (.invokevirtual 97, 3) := by decide +kernel
theorem dX9_find_43 : decode cX9_find 43 = .ok (.return_, 1) := by decide +kernel
theorem dX9_find_44 : decode cX9_find 44 = .ok (.aload_n 0, 1) := by decide +kernel
theorem dX9_find_45 : decode cX9_find 45 = .ok (.iload_n 2, 1) := by decide +kernel
theorem dX9_find_46 : decode cX9_find 46 = .ok (.ldc2_w 101, 3) := by decide +kernel
theorem dX9_find_49 : decode cX9_find 49 = .ok (.iload 4, 2) := by decide +kernel
theorem dX9_find_51 : decode cX9_find 51 = .ok (.i2l, 1) := by decide +kernel
theorem dX9_find_52 : decode cX9_find 52 = .ok (.lmul, 1) := by decide +kernel
theorem dX9_find_53 : decode cX9_find 53 = .ok (.iload 4, 2) := by decide +kernel
theorem dX9_find_55 : decode cX9_find 55 = .ok (.i2l, 1) := by decide +kernel
theorem dX9_find_56 : decode cX9_find 56 = .ok (.lmul, 1) := by decide +kernel
theorem dX9_find_57 : decode cX9_find 57 = .ok (.iload 4, 2) := by decide +kernel
theorem dX9_find_59 : decode cX9_find 59 = .ok (.i2l, 1) := by decide +kernel
theorem dX9_find_60 : decode cX9_find 60 = .ok (.lmul, 1) := by decide +kernel
theorem dX9_find_61 : decode cX9_find 61 = .ok (.ldc2_w 101, 3) := by decide +kernel
theorem dX9_find_64 : decode cX9_find 64 = .ok (.bipush 10, 2) := by decide +kernel
theorem dX9_find_66 : decode cX9_find 66 = .ok (.iload 4, 2) := by decide +kernel
theorem dX9_find_68 : decode cX9_find 68 = .ok (.isub, 1) := by decide +kernel
theorem dX9_find_69 : decode cX9_find 69 = .ok (.i2l, 1) := by decide +kernel
theorem dX9_find_70 : decode cX9_find 70 = .ok (.lmul, 1) := by decide +kernel
theorem dX9_find_71 : decode cX9_find 71 = .ok (.bipush 10, 2) := by decide +kernel
theorem dX9_find_73 : decode cX9_find 73 = .ok (.iload 4, 2) := by decide +kernel
theorem dX9_find_75 : decode cX9_find 75 = .ok (.isub, 1) := by decide +kernel
theorem dX9_find_76 : decode cX9_find 76 = .ok (.i2l, 1) := by decide +kernel
theorem dX9_find_77 : decode cX9_find 77 = .ok (.lmul, 1) := by decide +kernel
theorem dX9_find_78 : decode cX9_find 78 = .ok (.bipush 10, 2) := by decide +kernel
theorem dX9_find_80 : decode cX9_find 80 = .ok (.iload 4, 2) := by decide +kernel
theorem dX9_find_82 : decode cX9_find 82 = .ok (.isub, 1) := by decide +kernel
theorem dX9_find_83 : decode cX9_find 83 = .ok (.i2l, 1) := by decide +kernel
theorem dX9_find_84 : decode cX9_find 84 = .ok (.lmul, 1) := by decide +kernel
theorem dX9_find_85 : decode cX9_find 85 = .ok (.ladd, 1) := by decide +kernel
theorem dX9_find_86 : decode cX9_find 86 = .ok (.ldc2_w 95, 3) := by decide +kernel
theorem dX9_find_89 : decode cX9_find 89 = .ok (.iload 4, 2) := by decide +kernel
theorem dX9_find_91 : decode cX9_find 91 = .ok (.i2l, 1) := by decide +kernel
theorem dX9_find_92 : decode cX9_find 92 = .ok (.lmul, 1) := by decide +kernel
theorem dX9_find_93 : decode cX9_find 93 = .ok (.bipush 10, 2) := by decide +kernel
theorem dX9_find_95 : decode cX9_find 95 = .ok (.iload 4, 2) := by decide +kernel
theorem dX9_find_97 : decode cX9_find 97 = .ok (.isub, 1) := by decide +kernel
theorem dX9_find_98 : decode cX9_find 98 = .ok (.i2l, 1) := by decide +kernel
theorem dX9_find_99 : decode cX9_find 99 = .ok (.lmul, 1) := by decide +kernel
theorem dX9_find_100 : decode cX9_find 100 = .ok (.ladd, 1) := by decide +kernel
theorem dX9_find_101 : decode cX9_find 101 = .ok (.ldc2_w 103, 3) := by decide +kernel
theorem dX9_find_104 : decode cX9_find 104 = .ok (.invokevirtual 97, 3) := by decide +kernel
theorem dX9_find_107 : decode cX9_find 107 = .ok (.return_, 1) := by decide +kernel
theorem dX9_find_108 : decode cX9_find 108 = .ok (.aload_n 0, 1) := by decide +kernel
theorem dX9_find_109 : decode cX9_find 109 = .ok (.iload_n 2, 1) := by decide +kernel
theorem dX9_find_110 : decode cX9_find 110 = .ok (.iload_n 3, 1) := by decide +kernel
theorem dX9_find_111 : decode cX9_find 111 = .ok (.iload 4, 2) := by decide +kernel
theorem dX9_find_113 : decode cX9_find 113 = .ok (.ldc2_w 105, 3) := by decide +kernel
theorem dX9_find_116 : decode cX9_find 116 = .ok (.invokevirtual 107, 3) := by decide +kernel
theorem dX9_find_119 : decode cX9_find 119 = .ok (.return_, 1) := by decide +kernel
theorem dX9_find_120 : decode cX9_find 120 = .ok (.aload_n 0, 1) := by decide +kernel
theorem dX9_find_121 : decode cX9_find 121 = .ok (.iconst 4, 1) := by decide +kernel
theorem dX9_find_122 : decode cX9_find 122 = .ok (.iload_n 3, 1) := by decide +kernel
theorem dX9_find_123 : decode cX9_find 123 = .ok (.iload 4, 2) := by decide +kernel
theorem dX9_find_125 : decode cX9_find 125 = .ok (.ldc2_w 111, 3) := by decide +kernel
theorem dX9_find_128 : decode cX9_find 128 = .ok (.invokevirtual 107, 3) := by decide +kernel
theorem dX9_find_131 : decode cX9_find 131 = .ok (.aload_n 0, 1) := by decide +kernel
theorem dX9_find_132 : decode cX9_find 132 = .ok (.iload_n 2, 1) := by decide +kernel
theorem dX9_find_133 : decode cX9_find 133 = .ok (.invokevirtual 113, 3) := by decide +kernel
theorem dX9_find_136 : decode cX9_find 136 = .ok (.return_, 1) := by decide +kernel
theorem dX9_blocks_0 : decode cX9_blocks 0 = .ok (.aload_n 0, 1) := by decide +kernel
theorem dX9_blocks_1 : decode cX9_blocks 1 = .ok (.getfield 87, 3) := by decide +kernel
theorem dX9_blocks_4 : decode cX9_blocks 4 = .ok (.lstore_n 2, 1) := by decide +kernel
theorem dX9_blocks_5 : decode cX9_blocks 5 = .ok (.iconst 0, 1) := by decide +kernel
theorem dX9_blocks_6 : decode cX9_blocks 6 = .ok (.istore 4, 2) := by decide +kernel
theorem dX9_blocks_8 : decode cX9_blocks 8 = .ok (.iload 4, 2) := by decide +kernel
theorem dX9_blocks_10 : decode cX9_blocks 10 = .ok (.bipush 13, 2) := by decide +kernel
theorem dX9_blocks_12 : decode cX9_blocks 12 = .ok (.if_icmp .ge 23, 3) := by decide +kernel
theorem dX9_blocks_15 : decode cX9_blocks 15 = .ok (.aload_n 0, 1) := by decide +kernel
theorem dX9_blocks_16 : decode cX9_blocks 16 = .ok (.getfield 42, 3) := by decide +kernel
theorem dX9_blocks_19 : decode cX9_blocks 19 = .ok (.iload 4, 2) := by decide +kernel
theorem dX9_blocks_21 : decode cX9_blocks 21 = .ok (.aload_n 0, 1) := by decide +kernel
theorem dX9_blocks_22 : decode cX9_blocks 22 = .ok (.getfield 38, 3) := by decide +kernel
theorem dX9_blocks_25 : decode cX9_blocks 25 = .ok (.iload 4, 2) := by decide +kernel
theorem dX9_blocks_27 : decode cX9_blocks 27 = .ok (.laload, 1) := by decide +kernel
theorem dX9_blocks_28 : decode cX9_blocks 28 = .ok (.lastore, 1) := by decide +kernel
theorem dX9_blocks_29 : decode cX9_blocks 29 = .ok (.iinc 4 1, 3) := by decide +kernel
theorem dX9_blocks_32 : decode cX9_blocks 32 = .ok (.goto (-24), 3) := by decide +kernel
theorem dX9_blocks_35 : decode cX9_blocks 35 = .ok (.iconst 1, 1) := by decide +kernel
theorem dX9_blocks_36 : decode cX9_blocks 36 = .ok (.istore 4, 2) := by decide +kernel
theorem dX9_blocks_38 : decode cX9_blocks 38 = .ok (.iload 4, 2) := by decide +kernel
theorem dX9_blocks_40 : decode cX9_blocks 40 = .ok (.iload_n 1, 1) := by decide +kernel
theorem dX9_blocks_41 : decode cX9_blocks 41 = .ok (.if_icmp .ge 91, 3) := by decide +kernel
theorem dX9_blocks_44 : decode cX9_blocks 44 = .ok (.bipush 12, 2) := by decide +kernel
theorem dX9_blocks_46 : decode cX9_blocks 46 = .ok (.istore 5, 2) := by decide +kernel
theorem dX9_blocks_48 : decode cX9_blocks 48 = .ok (.iload 5, 2) := by decide +kernel
theorem dX9_blocks_50 : decode cX9_blocks 50 = .ok (.ifCond .lt 66, 3) := by decide +kernel
theorem dX9_blocks_53 : decode cX9_blocks 53 = .ok (.lconst 0, 1) := by decide +kernel
theorem dX9_blocks_54 : decode cX9_blocks 54 = .ok (.lstore 6, 2) := by decide +kernel
theorem dX9_blocks_56 : decode cX9_blocks 56 = .ok (.iconst 0, 1) := by decide +kernel
theorem dX9_blocks_57 : decode cX9_blocks 57 = .ok (.istore 8, 2) := by decide +kernel
theorem dX9_blocks_59 : decode cX9_blocks 59 = .ok (.iload 8, 2) := by decide +kernel
theorem dX9_blocks_61 : decode cX9_blocks 61 = .ok (.iconst 4, 1) := by decide +kernel
theorem dX9_blocks_62 : decode cX9_blocks 62 = .ok (.if_icmp .gt 39, 3) := by decide +kernel
theorem dX9_blocks_65 : decode cX9_blocks 65 = .ok (.iload 8, 2) := by decide +kernel
theorem dX9_blocks_67 : decode cX9_blocks 67 = .ok (.iload 5, 2) := by decide +kernel
theorem dX9_blocks_69 : decode cX9_blocks 69 = .ok (.if_icmp .gt 32, 3) := by decide +kernel
theorem dX9_blocks_72 : decode cX9_blocks 72 = .ok (.lload 6, 2) := by decide +kernel
theorem dX9_blocks_74 : decode cX9_blocks 74 = .ok (.aload_n 0, 1) := by decide +kernel
theorem dX9_blocks_75 : decode cX9_blocks 75 = .ok (.getfield 42, 3) := by decide +kernel
theorem dX9_blocks_78 : decode cX9_blocks 78 = .ok (.iload 8, 2) := by decide +kernel
theorem dX9_blocks_80 : decode cX9_blocks 80 = .ok (.laload, 1) := by decide +kernel
theorem dX9_blocks_81 : decode cX9_blocks 81 = .ok (.aload_n 0, 1) := by decide +kernel
theorem dX9_blocks_82 : decode cX9_blocks 82 = .ok (.getfield 38, 3) := by decide +kernel
theorem dX9_blocks_85 : decode cX9_blocks 85 = .ok (.iload 5, 2) := by decide +kernel
theorem dX9_blocks_87 : decode cX9_blocks 87 = .ok (.iload 8, 2) := by decide +kernel
theorem dX9_blocks_89 : decode cX9_blocks 89 = .ok (.isub, 1) := by decide +kernel
theorem dX9_blocks_90 : decode cX9_blocks 90 = .ok (.laload, 1) := by decide +kernel
theorem dX9_blocks_91 : decode cX9_blocks 91 = .ok (.lmul, 1) := by decide +kernel
theorem dX9_blocks_92 : decode cX9_blocks 92 = .ok (.ladd, 1) := by decide +kernel
theorem dX9_blocks_93 : decode cX9_blocks 93 = .ok (.lstore 6, 2) := by decide +kernel
theorem dX9_blocks_95 : decode cX9_blocks 95 = .ok (.iinc 8 1, 3) := by decide +kernel
theorem dX9_blocks_98 : decode cX9_blocks 98 = .ok (.goto (-39), 3) := by decide +kernel
theorem dX9_blocks_101 : decode cX9_blocks 101 = .ok (.aload_n 0, 1) := by decide +kernel
theorem dX9_blocks_102 : decode cX9_blocks 102 = .ok (.getfield 38, 3) := by decide +kernel
theorem dX9_blocks_105 : decode cX9_blocks 105 = .ok (.iload 5, 2) := by decide +kernel
theorem dX9_blocks_107 : decode cX9_blocks 107 = .ok (.lload 6, 2) := by decide +kernel
theorem dX9_blocks_109 : decode cX9_blocks 109 = .ok (.lastore, 1) := by decide +kernel
theorem dX9_blocks_110 : decode cX9_blocks 110 = .ok (.iinc 5 (-1), 3) := by decide +kernel
theorem dX9_blocks_113 : decode cX9_blocks 113 = .ok (.goto (-65), 3) := by decide +kernel
theorem dX9_blocks_116 : decode cX9_blocks 116 = .ok (.aload_n 0, 1) := by decide +kernel
theorem dX9_blocks_117 : decode cX9_blocks 117 = .ok (.dup, 1) := by decide +kernel
theorem dX9_blocks_118 : decode cX9_blocks 118 = .ok (.getfield 87, 3) := by decide +kernel
theorem dX9_blocks_121 : decode cX9_blocks 121 = .ok (.lload_n 2, 1) := by decide +kernel
theorem dX9_blocks_122 : decode cX9_blocks 122 = .ok (.lmul, 1) := by decide +kernel
theorem dX9_blocks_123 : decode cX9_blocks 123 = .ok (.putfield 87, 3) := by decide +kernel
theorem dX9_blocks_126 : decode cX9_blocks 126 = .ok (.iinc 4 1, 3) := by decide +kernel
theorem dX9_blocks_129 : decode cX9_blocks 129 = .ok (.goto (-91), 3) := by decide +kernel
theorem dX9_blocks_132 : decode cX9_blocks 132 = .ok (.return_, 1) := by decide +kernel
set_option maxRecDepth 20000 in
theorem ggX9_findPlan_X9_find : GoodIn wsX9_findPlan wsX9_find := goodIn_r _ [8, 9, 10, 11, 12, 13, 14, 15, 16, 7, 17, 18, 19, 20, 21, 22, 23, 24, 25, 26, 27, 28, 29, 30, 31, 32, 33, 34, 35, 36, 37, 38, 39, 40, 41, 42, 43, 44, 45, 46, 47, 48, 49, 50, 51, 52, 53, 54, 55, 56, 57, 58, 59, 60, 61] (by decide +kernel) (by decide +kernel)
set_option maxRecDepth 20000 in
theorem gX9_findPlan_X9_find : GoodIn wsX9_findPlan (wsV RX9 117 RX9 yX9_find wsX9_find) := goodIn_app (goodIn_of _ (by decide +kernel)) ggX9_findPlan_X9_find
theorem dX9_findPlan_0 : decode cX9_findPlan 0 = .ok (.aload_n 0, 1) := by decide +kernel
theorem dX9_findPlan_1 : decode cX9_findPlan 1 = .ok (.aload_n 0, 1) := by decide +kernel
theorem dX9_findPlan_2 : decode cX9_findPlan 2 = .ok (.getfield 13, 3) := by decide +kernel
theorem dX9_findPlan_5 : decode cX9_findPlan 5 = .ok (.iload_n 1, 1) := by decide +kernel
theorem dX9_findPlan_6 : decode cX9_findPlan 6 = .ok (.iaload, 1) := by decide +kernel
theorem dX9_findPlan_7 : decode cX9_findPlan 7 = .ok (.aload_n 0, 1) := by decide +kernel
theorem dX9_findPlan_8 : decode cX9_findPlan 8 = .ok (.getfield 16, 3) := by decide +kernel
theorem dX9_findPlan_11 : decode cX9_findPlan 11 = .ok (.iload_n 1, 1) := by decide +kernel
theorem dX9_findPlan_12 : decode cX9_findPlan 12 = .ok (.iaload, 1) := by decide +kernel
theorem dX9_findPlan_13 : decode cX9_findPlan 13 = .ok (.aload_n 0, 1) := by decide +kernel
theorem dX9_findPlan_14 : decode cX9_findPlan 14 = .ok (.getfield 19, 3) := by decide +kernel
theorem dX9_findPlan_17 : decode cX9_findPlan 17 = .ok (.iload_n 1, 1) := by decide +kernel
theorem dX9_findPlan_18 : decode cX9_findPlan 18 = .ok (.iaload, 1) := by decide +kernel
theorem dX9_findPlan_19 : decode cX9_findPlan 19 = .ok (.iload_n 2, 1) := by decide +kernel
theorem dX9_findPlan_20 : decode cX9_findPlan 20 = .ok (.invokevirtual 117, 3) := by decide +kernel
theorem dX9_findPlan_23 : decode cX9_findPlan 23 = .ok (.return_, 1) := by decide +kernel
theorem dX9_tail_0 : decode cX9_tail 0 = .ok (.lconst 0, 1) := by decide +kernel
theorem dX9_tail_1 : decode cX9_tail 1 = .ok (.lstore_n 2, 1) := by decide +kernel
theorem dX9_tail_2 : decode cX9_tail 2 = .ok (.iload_n 1, 1) := by decide +kernel
theorem dX9_tail_3 : decode cX9_tail 3 = .ok (.istore 4, 2) := by decide +kernel
theorem dX9_tail_5 : decode cX9_tail 5 = .ok (.iload 4, 2) := by decide +kernel
theorem dX9_tail_7 : decode cX9_tail 7 = .ok (.bipush 13, 2) := by decide +kernel
theorem dX9_tail_9 : decode cX9_tail 9 = .ok (.if_icmp .ge 19, 3) := by decide +kernel
theorem dX9_tail_12 : decode cX9_tail 12 = .ok (.lload_n 2, 1) := by decide +kernel
theorem dX9_tail_13 : decode cX9_tail 13 = .ok (.aload_n 0, 1) := by decide +kernel
theorem dX9_tail_14 : decode cX9_tail 14 = .ok (.getfield 38, 3) := by decide +kernel
theorem dX9_tail_17 : decode cX9_tail 17 = .ok (.iload 4, 2) := by decide +kernel
theorem dX9_tail_19 : decode cX9_tail 19 = .ok (.laload, 1) := by decide +kernel
theorem dX9_tail_20 : decode cX9_tail 20 = .ok (.ladd, 1) := by decide +kernel
theorem dX9_tail_21 : decode cX9_tail 21 = .ok (.lstore_n 2, 1) := by decide +kernel
theorem dX9_tail_22 : decode cX9_tail 22 = .ok (.iinc 4 1, 3) := by decide +kernel
theorem dX9_tail_25 : decode cX9_tail 25 = .ok (.goto (-20), 3) := by decide +kernel
theorem dX9_tail_28 : decode cX9_tail 28 = .ok (.lload_n 2, 1) := by decide +kernel
theorem dX9_tail_29 : decode cX9_tail 29 = .ok (.lreturn, 1) := by decide +kernel
set_option maxRecDepth 20000 in
theorem ggX9_wrong_X9_isIn : GoodIn wsX9_wrong wsX9_isIn := goodIn_r _ [4] (by decide +kernel) (by decide +kernel)
set_option maxRecDepth 20000 in
theorem gX9_wrong_X9_isIn : GoodIn wsX9_wrong (va_wsS RX9 64 yX9_isIn wsX9_isIn) := goodIn_app (goodIn_of _ (by decide +kernel)) ggX9_wrong_X9_isIn
set_option maxRecDepth 20000 in
theorem ggX9_wrong_X9_isPlan : GoodIn wsX9_wrong wsX9_isPlan := goodIn_r _ [8, 9, 1, 2, 3, 4, 13, 14, 15, 16, 17, 18, 19, 20, 21, 22, 23, 24, 25, 26, 27, 28, 29, 30, 31, 32, 33, 34, 35, 36, 37, 38, 39] (by decide +kernel) (by decide +kernel)
set_option maxRecDepth 20000 in
theorem gX9_wrong_X9_isPlan : GoodIn wsX9_wrong (wsV RX9 75 RX9 yX9_isPlan wsX9_isPlan) := goodIn_app (goodIn_of _ (by decide +kernel)) ggX9_wrong_X9_isPlan
set_option maxRecDepth 20000 in
theorem ggX9_wrong_X9_within : GoodIn wsX9_wrong wsX9_within := goodIn_r _ [12] (by decide +kernel) (by decide +kernel)
set_option maxRecDepth 20000 in
theorem gX9_wrong_X9_within : GoodIn wsX9_wrong (va_wsS RX9 121 yX9_within wsX9_within) := goodIn_app (goodIn_of _ (by decide +kernel)) ggX9_wrong_X9_within
theorem dX9_wrong_0 : decode cX9_wrong 0 = .ok (.iload_n 3, 1) := by decide +kernel
theorem dX9_wrong_1 : decode cX9_wrong 1 = .ok (.iconst 2, 1) := by decide +kernel
theorem dX9_wrong_2 : decode cX9_wrong 2 = .ok (.invokestatic 64, 3) := by decide +kernel
theorem dX9_wrong_5 : decode cX9_wrong 5 = .ok (.ifCond .ne 8, 3) := by decide +kernel
theorem dX9_wrong_8 : decode cX9_wrong 8 = .ok (.bipush (-2), 2) := by decide +kernel
theorem dX9_wrong_10 : decode cX9_wrong 10 = .ok (.goto 22, 3) := by decide +kernel
theorem dX9_wrong_13 : decode cX9_wrong 13 = .ok (.aload_n 0, 1) := by decide +kernel
theorem dX9_wrong_14 : decode cX9_wrong 14 = .ok (.iload_n 1, 1) := by decide +kernel
theorem dX9_wrong_15 : decode cX9_wrong 15 = .ok (.invokevirtual 75, 3) := by decide +kernel
theorem dX9_wrong_18 : decode cX9_wrong 18 = .ok (.ifCond .ne 7, 3) := by decide +kernel
theorem dX9_wrong_21 : decode cX9_wrong 21 = .ok (.iconst (-1), 1) := by decide +kernel
theorem dX9_wrong_22 : decode cX9_wrong 22 = .ok (.goto 10, 3) := by decide +kernel
theorem dX9_wrong_25 : decode cX9_wrong 25 = .ok (.iload_n 2, 1) := by decide +kernel
theorem dX9_wrong_26 : decode cX9_wrong 26 = .ok (.iconst 0, 1) := by decide +kernel
theorem dX9_wrong_27 : decode cX9_wrong 27 = .ok (.bipush 10, 2) := by decide +kernel
theorem dX9_wrong_29 : decode cX9_wrong 29 = .ok (.invokestatic 121, 3) := by decide +kernel
theorem dX9_wrong_32 : decode cX9_wrong 32 = .ok (.ireturn, 1) := by decide +kernel
set_option maxRecDepth 20000 in
theorem ggX9_odds_X9_wrong : GoodIn wsX9_odds wsX9_wrong := goodIn_r _ [9, 10, 11, 8, 12, 13, 14, 15, 16, 17, 18, 19, 20, 73, 74, 75, 76, 77, 78, 79, 80, 81, 82, 83, 84, 85, 86, 87, 88, 89, 90, 91, 92, 93, 94, 95, 96, 97, 98, 99] (by decide +kernel) (by decide +kernel)
set_option maxRecDepth 20000 in
theorem gX9_odds_X9_wrong : GoodIn wsX9_odds (wsV RX9 125 RX9 yX9_wrong wsX9_wrong) := goodIn_app (goodIn_of _ (by decide +kernel)) ggX9_odds_X9_wrong
set_option maxRecDepth 20000 in
theorem ggX9_odds_X9_sizeOf : GoodIn wsX9_odds wsX9_sizeOf := goodIn_r _ [23] (by decide +kernel) (by decide +kernel)
set_option maxRecDepth 20000 in
theorem gX9_odds_X9_sizeOf : GoodIn wsX9_odds (va_wsS RX9 79 yX9_sizeOf wsX9_sizeOf) := goodIn_app (goodIn_of _ (by decide +kernel)) ggX9_odds_X9_sizeOf
set_option maxRecDepth 20000 in
theorem ggX9_odds_X9_within : GoodIn wsX9_odds wsX9_within := goodIn_r _ [20] (by decide +kernel) (by decide +kernel)
set_option maxRecDepth 20000 in
theorem gX9_odds_X9_within : GoodIn wsX9_odds (va_wsS RX9 121 yX9_within wsX9_within) := goodIn_app (goodIn_of _ (by decide +kernel)) ggX9_odds_X9_within
set_option maxRecDepth 20000 in
theorem ggX9_odds_X9_refuseFar : GoodIn wsX9_odds wsX9_refuseFar := goodIn_r _ [27, 28, 29, 30, 31, 8, 32, 33, 73, 74, 75, 76, 77, 78, 79, 80, 81, 82, 83, 84, 85, 86, 87, 88, 89, 90, 91, 92, 93, 94, 95, 96, 97, 98, 99] (by decide +kernel) (by decide +kernel)
set_option maxRecDepth 20000 in
theorem gX9_odds_X9_refuseFar : GoodIn wsX9_odds (wsV RX9 128 RX9 yX9_refuseFar wsX9_refuseFar) := goodIn_app (goodIn_of _ (by decide +kernel)) ggX9_odds_X9_refuseFar
set_option maxRecDepth 20000 in
theorem ggX9_odds_X9_findPlan : GoodIn wsX9_odds wsX9_findPlan := goodIn_r _ [37, 1, 2, 38, 39, 40, 41, 8, 42, 43, 44, 45, 46, 47, 48, 49, 50, 51, 4, 3, 52, 53, 54, 55, 56, 57, 58, 59, 60, 61, 62, 63, 64, 65, 66, 73, 74, 75, 76, 77, 78, 79, 80, 81, 82, 83, 84, 85, 86, 87, 88, 89, 90, 91, 92, 93, 94, 95, 96, 97, 98, 99] (by decide +kernel) (by decide +kernel)
set_option maxRecDepth 20000 in
theorem gX9_odds_X9_findPlan : GoodIn wsX9_odds (wsV RX9 132 RX9 yX9_findPlan wsX9_findPlan) := goodIn_app (goodIn_of _ (by decide +kernel)) ggX9_odds_X9_findPlan
set_option maxRecDepth 20000 in
theorem ggX9_odds_X9_told : GoodIn wsX9_odds wsX9_told := goodIn_r _ [69, 70, 71, 8, 72] (by decide +kernel) (by decide +kernel)
set_option maxRecDepth 20000 in
theorem gX9_odds_X9_told : GoodIn wsX9_odds (va_wsS RX9 136 yX9_told wsX9_told) := goodIn_app (goodIn_of _ (by decide +kernel)) ggX9_odds_X9_told
theorem dX9_odds_0 : decode cX9_odds 0 = .ok (.aload_n 0, 1) := by decide +kernel
theorem dX9_odds_1 : decode cX9_odds 1 = .ok (.iload_n 1, 1) := by decide +kernel
theorem dX9_odds_2 : decode cX9_odds 2 = .ok (.iload_n 2, 1) := by decide +kernel
theorem dX9_odds_3 : decode cX9_odds 3 = .ok (.iload 4, 2) := by decide +kernel
theorem dX9_odds_5 : decode cX9_odds 5 = .ok (.invokevirtual 125, 3) := by decide +kernel
theorem dX9_odds_8 : decode cX9_odds 8 = .ok (.istore 5, 2) := by decide +kernel
theorem dX9_odds_10 : decode cX9_odds 10 = .ok (.iload 5, 2) := by decide +kernel
theorem dX9_odds_12 : decode cX9_odds 12 = .ok (.ifCond .eq 10, 3) := by decide +kernel
theorem dX9_odds_15 : decode cX9_odds 15 = .ok (.iload 5, 2) := by decide +kernel
theorem dX9_odds_17 : decode cX9_odds 17 = .ok (.bipush (-6), 2) := by decide +kernel
theorem dX9_odds_19 : decode cX9_odds 19 = .ok (.if_icmp .ne 44, 3) := by decide +kernel
theorem dX9_odds_22 : decode cX9_odds 22 = .ok (.iload_n 3, 1) := by decide +kernel
theorem dX9_odds_23 : decode cX9_odds 23 = .ok (.ifCond .ge 8, 3) := by decide +kernel
theorem dX9_odds_26 : decode cX9_odds 26 = .ok (.bipush (-4), 2) := by decide +kernel
theorem dX9_odds_28 : decode cX9_odds 28 = .ok (.goto 33, 3) := by decide +kernel
theorem dX9_odds_31 : decode cX9_odds 31 = .ok (.iload 5, 2) := by decide +kernel
theorem dX9_odds_33 : decode cX9_odds 33 = .ok (.ifCond .ne 26, 3) := by decide +kernel
theorem dX9_odds_36 : decode cX9_odds 36 = .ok (.iload_n 3, 1) := by decide +kernel
theorem dX9_odds_37 : decode cX9_odds 37 = .ok (.iconst 0, 1) := by decide +kernel
theorem dX9_odds_38 : decode cX9_odds 38 = .ok (.aload_n 0, 1) := by decide +kernel
theorem dX9_odds_39 : decode cX9_odds 39 = .ok (.getfield 13, 3) := by decide +kernel
theorem dX9_odds_42 : decode cX9_odds 42 = .ok (.iload_n 1, 1) := by decide +kernel
theorem dX9_odds_43 : decode cX9_odds 43 = .ok (.iaload, 1) := by decide +kernel
theorem dX9_odds_44 : decode cX9_odds 44 = .ok (.aload_n 0, 1) := by decide +kernel
theorem dX9_odds_45 : decode cX9_odds 45 = .ok (.getfield 16, 3) := by decide +kernel
theorem dX9_odds_48 : decode cX9_odds 48 = .ok (.iload_n 1, 1) := by decide +kernel
theorem dX9_odds_49 : decode cX9_odds 49 = .ok (.iaload, 1) := by decide +kernel
theorem dX9_odds_50 : decode cX9_odds 50 = .ok (.invokestatic 79, 3) := by decide +kernel
theorem dX9_odds_53 : decode cX9_odds 53 = .ok (.invokestatic 121, 3) := by decide +kernel
theorem dX9_odds_56 : decode cX9_odds 56 = .ok (.goto 5, 3) := by decide +kernel
theorem dX9_odds_59 : decode cX9_odds 59 = .ok (.iload 5, 2) := by decide +kernel
theorem dX9_odds_61 : decode cX9_odds 61 = .ok (.istore 5, 2) := by decide +kernel
theorem dX9_odds_63 : decode cX9_odds 63 = .ok (.iload 5, 2) := by decide +kernel
theorem dX9_odds_65 : decode cX9_odds 65 = .ok (.ifCond .eq 10, 3) := by decide +kernel
theorem dX9_odds_68 : decode cX9_odds 68 = .ok (.aload_n 0, 1) := by decide +kernel
theorem dX9_odds_69 : decode cX9_odds 69 = .ok (.iload 5, 2) := by decide +kernel
theorem dX9_odds_71 : decode cX9_odds 71 = .ok (.invokevirtual 128, 3) := by decide +kernel
theorem dX9_odds_74 : decode cX9_odds 74 = .ok (.lreturn, 1) := by decide +kernel
theorem dX9_odds_75 : decode cX9_odds 75 = .ok (.aload_n 0, 1) := by decide +kernel
theorem dX9_odds_76 : decode cX9_odds 76 = .ok (.iload_n 1, 1) := by decide +kernel
theorem dX9_odds_77 : decode cX9_odds 77 = .ok (.iload_n 2, 1) := by decide +kernel
theorem dX9_odds_78 : decode cX9_odds 78 = .ok (.invokevirtual 132, 3) := by decide +kernel
theorem dX9_odds_81 : decode cX9_odds 81 = .ok (.aload_n 0, 1) := by decide +kernel
theorem dX9_odds_82 : decode cX9_odds 82 = .ok (.getfield 38, 3) := by decide +kernel
theorem dX9_odds_85 : decode cX9_odds 85 = .ok (.iload_n 3, 1) := by decide +kernel
theorem dX9_odds_86 : decode cX9_odds 86 = .ok (.laload, 1) := by decide +kernel
theorem dX9_odds_87 : decode cX9_odds 87 = .ok (.aload_n 0, 1) := by decide +kernel
theorem dX9_odds_88 : decode cX9_odds 88 = .ok (.getfield 87, 3) := by decide +kernel
theorem dX9_odds_91 : decode cX9_odds 91 = .ok (.iload 4, 2) := by decide +kernel
theorem dX9_odds_93 : decode cX9_odds 93 = .ok (.invokestatic 136, 3) := by decide +kernel
theorem dX9_odds_96 : decode cX9_odds 96 = .ok (.lreturn, 1) := by decide +kernel
set_option maxRecDepth 20000 in
theorem ggX9_least_X9_wrong : GoodIn wsX9_least wsX9_wrong := goodIn_r _ [8, 9, 10, 7, 11, 12, 13, 14, 15, 16, 17, 18, 19, 77, 78, 79, 80, 81, 82, 83, 84, 85, 86, 87, 88, 89, 90, 91, 92, 93, 94, 95, 96, 97, 98, 99, 100, 101, 102, 103] (by decide +kernel) (by decide +kernel)
set_option maxRecDepth 20000 in
theorem gX9_least_X9_wrong : GoodIn wsX9_least (wsV RX9 125 RX9 yX9_wrong wsX9_wrong) := goodIn_app (goodIn_of _ (by decide +kernel)) ggX9_least_X9_wrong
set_option maxRecDepth 20000 in
theorem ggX9_least_X9_sizeOf : GoodIn wsX9_least wsX9_sizeOf := goodIn_r _ [22] (by decide +kernel) (by decide +kernel)
set_option maxRecDepth 20000 in
theorem gX9_least_X9_sizeOf : GoodIn wsX9_least (va_wsS RX9 79 yX9_sizeOf wsX9_sizeOf) := goodIn_app (goodIn_of _ (by decide +kernel)) ggX9_least_X9_sizeOf
set_option maxRecDepth 20000 in
theorem ggX9_least_X9_within : GoodIn wsX9_least wsX9_within := goodIn_r _ [19] (by decide +kernel) (by decide +kernel)
set_option maxRecDepth 20000 in
theorem gX9_least_X9_within : GoodIn wsX9_least (va_wsS RX9 121 yX9_within wsX9_within) := goodIn_app (goodIn_of _ (by decide +kernel)) ggX9_least_X9_within
set_option maxRecDepth 20000 in
theorem ggX9_least_X9_refuseFar : GoodIn wsX9_least wsX9_refuseFar := goodIn_r _ [26, 27, 28, 29, 30, 7, 31, 32, 77, 78, 79, 80, 81, 82, 83, 84, 85, 86, 87, 88, 89, 90, 91, 92, 93, 94, 95, 96, 97, 98, 99, 100, 101, 102, 103] (by decide +kernel) (by decide +kernel)
set_option maxRecDepth 20000 in
theorem gX9_least_X9_refuseFar : GoodIn wsX9_least (wsV RX9 128 RX9 yX9_refuseFar wsX9_refuseFar) := goodIn_app (goodIn_of _ (by decide +kernel)) ggX9_least_X9_refuseFar
set_option maxRecDepth 20000 in
theorem ggX9_least_X9_findPlan : GoodIn wsX9_least wsX9_findPlan := goodIn_r _ [36, 1, 2, 37, 38, 39, 40, 7, 41, 42, 43, 44, 45, 46, 47, 48, 49, 50, 3, 51, 52, 53, 54, 55, 56, 57, 58, 59, 60, 61, 62, 63, 64, 65, 66, 77, 78, 79, 80, 81, 82, 83, 84, 85, 86, 87, 88, 89, 90, 91, 92, 93, 94, 95, 96, 97, 98, 99, 100, 101, 102, 103] (by decide +kernel) (by decide +kernel)
set_option maxRecDepth 20000 in
theorem gX9_least_X9_findPlan : GoodIn wsX9_least (wsV RX9 132 RX9 yX9_findPlan wsX9_findPlan) := goodIn_app (goodIn_of _ (by decide +kernel)) ggX9_least_X9_findPlan
set_option maxRecDepth 20000 in
theorem ggX9_least_X9_tail : GoodIn wsX9_least wsX9_tail := goodIn_r _ [70, 51, 77, 78, 79, 80, 81, 82, 83, 84, 85, 86, 87, 88, 89, 90, 91, 92, 93, 94, 95, 96, 97, 98, 99, 100, 101, 102, 103] (by decide +kernel) (by decide +kernel)
set_option maxRecDepth 20000 in
theorem gX9_least_X9_tail : GoodIn wsX9_least (wsV RX9 140 RX9 yX9_tail wsX9_tail) := goodIn_app (goodIn_of _ (by decide +kernel)) ggX9_least_X9_tail
set_option maxRecDepth 20000 in
theorem ggX9_least_X9_told : GoodIn wsX9_least wsX9_told := goodIn_r _ [73, 74, 75, 7, 76] (by decide +kernel) (by decide +kernel)
set_option maxRecDepth 20000 in
theorem gX9_least_X9_told : GoodIn wsX9_least (va_wsS RX9 136 yX9_told wsX9_told) := goodIn_app (goodIn_of _ (by decide +kernel)) ggX9_least_X9_told
theorem dX9_least_0 : decode cX9_least 0 = .ok (.aload_n 0, 1) := by decide +kernel
theorem dX9_least_1 : decode cX9_least 1 = .ok (.iload_n 1, 1) := by decide +kernel
theorem dX9_least_2 : decode cX9_least 2 = .ok (.iload_n 2, 1) := by decide +kernel
theorem dX9_least_3 : decode cX9_least 3 = .ok (.iload 4, 2) := by decide +kernel
theorem dX9_least_5 : decode cX9_least 5 = .ok (.invokevirtual 125, 3) := by decide +kernel
theorem dX9_least_8 : decode cX9_least 8 = .ok (.istore 5, 2) := by decide +kernel
theorem dX9_least_10 : decode cX9_least 10 = .ok (.iload 5, 2) := by decide +kernel
theorem dX9_least_12 : decode cX9_least 12 = .ok (.ifCond .eq 10, 3) := by decide +kernel
theorem dX9_least_15 : decode cX9_least 15 = .ok (.iload 5, 2) := by decide +kernel
theorem dX9_least_17 : decode cX9_least 17 = .ok (.bipush (-6), 2) := by decide +kernel
theorem dX9_least_19 : decode cX9_least 19 = .ok (.if_icmp .ne 46, 3) := by decide +kernel
theorem dX9_least_22 : decode cX9_least 22 = .ok (.iload_n 3, 1) := by decide +kernel
theorem dX9_least_23 : decode cX9_least 23 = .ok (.ifCond .ge 8, 3) := by decide +kernel
theorem dX9_least_26 : decode cX9_least 26 = .ok (.bipush (-4), 2) := by decide +kernel
theorem dX9_least_28 : decode cX9_least 28 = .ok (.goto 35, 3) := by decide +kernel
theorem dX9_least_31 : decode cX9_least 31 = .ok (.iload 5, 2) := by decide +kernel
theorem dX9_least_33 : decode cX9_least 33 = .ok (.ifCond .ne 28, 3) := by decide +kernel
theorem dX9_least_36 : decode cX9_least 36 = .ok (.iload_n 3, 1) := by decide +kernel
theorem dX9_least_37 : decode cX9_least 37 = .ok (.iconst 0, 1) := by decide +kernel
theorem dX9_least_38 : decode cX9_least 38 = .ok (.aload_n 0, 1) := by decide +kernel
theorem dX9_least_39 : decode cX9_least 39 = .ok (.getfield 13, 3) := by decide +kernel
theorem dX9_least_42 : decode cX9_least 42 = .ok (.iload_n 1, 1) := by decide +kernel
theorem dX9_least_43 : decode cX9_least 43 = .ok (.iaload, 1) := by decide +kernel
theorem dX9_least_44 : decode cX9_least 44 = .ok (.aload_n 0, 1) := by decide +kernel
theorem dX9_least_45 : decode cX9_least 45 = .ok (.getfield 16, 3) := by decide +kernel
theorem dX9_least_48 : decode cX9_least 48 = .ok (.iload_n 1, 1) := by decide +kernel
theorem dX9_least_49 : decode cX9_least 49 = .ok (.iaload, 1) := by decide +kernel
theorem dX9_least_50 : decode cX9_least 50 = .ok (.invokestatic 79, 3) := by decide +kernel
theorem dX9_least_53 : decode cX9_least 53 = .ok (.iconst 1, 1) := by decide +kernel
theorem dX9_least_54 : decode cX9_least 54 = .ok (.iadd, 1) := by decide +kernel
theorem dX9_least_55 : decode cX9_least 55 = .ok (.invokestatic 121, 3) := by decide +kernel
theorem dX9_least_58 : decode cX9_least 58 = .ok (.goto 5, 3) := by decide +kernel
theorem dX9_least_61 : decode cX9_least 61 = .ok (.iload 5, 2) := by decide +kernel
theorem dX9_least_63 : decode cX9_least 63 = .ok (.istore 5, 2) := by decide +kernel
theorem dX9_least_65 : decode cX9_least 65 = .ok (.iload 5, 2) := by decide +kernel
theorem dX9_least_67 : decode cX9_least 67 = .ok (.ifCond .eq 10, 3) := by decide +kernel
theorem dX9_least_70 : decode cX9_least 70 = .ok (.aload_n 0, 1) := by decide +kernel
theorem dX9_least_71 : decode cX9_least 71 = .ok (.iload 5, 2) := by decide +kernel
theorem dX9_least_73 : decode cX9_least 73 = .ok (.invokevirtual 128, 3) := by decide +kernel
theorem dX9_least_76 : decode cX9_least 76 = .ok (.lreturn, 1) := by decide +kernel
theorem dX9_least_77 : decode cX9_least 77 = .ok (.aload_n 0, 1) := by decide +kernel
theorem dX9_least_78 : decode cX9_least 78 = .ok (.iload_n 1, 1) := by decide +kernel
theorem dX9_least_79 : decode cX9_least 79 = .ok (.iload_n 2, 1) := by decide +kernel
theorem dX9_least_80 : decode cX9_least 80 = .ok (.invokevirtual 132, 3) := by decide +kernel
theorem dX9_least_83 : decode cX9_least 83 = .ok (.aload_n 0, 1) := by decide +kernel
theorem dX9_least_84 : decode cX9_least 84 = .ok (.iload_n 3, 1) := by decide +kernel
theorem dX9_least_85 : decode cX9_least 85 = .ok (.invokevirtual 140, 3) := by decide +kernel
theorem dX9_least_88 : decode cX9_least 88 = .ok (.aload_n 0, 1) := by decide +kernel
theorem dX9_least_89 : decode cX9_least 89 = .ok (.getfield 87, 3) := by decide +kernel
theorem dX9_least_92 : decode cX9_least 92 = .ok (.iload 4, 2) := by decide +kernel
theorem dX9_least_94 : decode cX9_least 94 = .ok (.invokestatic 136, 3) := by decide +kernel
theorem dX9_least_97 : decode cX9_least 97 = .ok (.lreturn, 1) := by decide +kernel
theorem dX9_mean_0 : decode cX9_mean 0 = .ok (.lconst 0, 1) := by decide +kernel
theorem dX9_mean_1 : decode cX9_mean 1 = .ok (.lstore_n 1, 1) := by decide +kernel
theorem dX9_mean_2 : decode cX9_mean 2 = .ok (.iconst 1, 1) := by decide +kernel
theorem dX9_mean_3 : decode cX9_mean 3 = .ok (.istore_n 3, 1) := by decide +kernel
theorem dX9_mean_4 : decode cX9_mean 4 = .ok (.iload_n 3, 1) := by decide +kernel
theorem dX9_mean_5 : decode cX9_mean 5 = .ok (.bipush 13, 2) := by decide +kernel
theorem dX9_mean_7 : decode cX9_mean 7 = .ok (.if_icmp .ge 21, 3) := by decide +kernel
theorem dX9_mean_10 : decode cX9_mean 10 = .ok (.lload_n 1, 1) := by decide +kernel
theorem dX9_mean_11 : decode cX9_mean 11 = .ok (.iload_n 3, 1) := by decide +kernel
theorem dX9_mean_12 : decode cX9_mean 12 = .ok (.i2l, 1) := by decide +kernel
theorem dX9_mean_13 : decode cX9_mean 13 = .ok (.aload_n 0, 1) := by decide +kernel
theorem dX9_mean_14 : decode cX9_mean 14 = .ok (.getfield 38, 3) := by decide +kernel
theorem dX9_mean_17 : decode cX9_mean 17 = .ok (.iload_n 3, 1) := by decide +kernel
theorem dX9_mean_18 : decode cX9_mean 18 = .ok (.laload, 1) := by decide +kernel
theorem dX9_mean_19 : decode cX9_mean 19 = .ok (.lmul, 1) := by decide +kernel
theorem dX9_mean_20 : decode cX9_mean 20 = .ok (.ladd, 1) := by decide +kernel
theorem dX9_mean_21 : decode cX9_mean 21 = .ok (.lstore_n 1, 1) := by decide +kernel
theorem dX9_mean_22 : decode cX9_mean 22 = .ok (.iinc 3 1, 3) := by decide +kernel
theorem dX9_mean_25 : decode cX9_mean 25 = .ok (.goto (-21), 3) := by decide +kernel
theorem dX9_mean_28 : decode cX9_mean 28 = .ok (.lload_n 1, 1) := by decide +kernel
theorem dX9_mean_29 : decode cX9_mean 29 = .ok (.lreturn, 1) := by decide +kernel
set_option maxRecDepth 20000 in
theorem ggX9_mean__X9_wrong : GoodIn wsX9_mean_ wsX9_wrong := goodIn_r _ [6, 7, 8, 5, 9, 10, 11, 12, 13, 14, 15, 16, 17, 74, 75, 76, 77, 78, 79, 80, 81, 82, 83, 84, 85, 86, 87, 88, 89, 90, 91, 92, 93, 94, 95, 96, 97, 98, 99, 100] (by decide +kernel) (by decide +kernel)
set_option maxRecDepth 20000 in
theorem gX9_mean__X9_wrong : GoodIn wsX9_mean_ (wsV RX9 125 RX9 yX9_wrong wsX9_wrong) := goodIn_app (goodIn_of _ (by decide +kernel)) ggX9_mean__X9_wrong
set_option maxRecDepth 20000 in
theorem ggX9_mean__X9_refuseFar : GoodIn wsX9_mean_ wsX9_refuseFar := goodIn_r _ [21, 22, 23, 24, 25, 5, 26, 27, 74, 75, 76, 77, 78, 79, 80, 81, 82, 83, 84, 85, 86, 87, 88, 89, 90, 91, 92, 93, 94, 95, 96, 97, 98, 99, 100] (by decide +kernel) (by decide +kernel)
set_option maxRecDepth 20000 in
theorem gX9_mean__X9_refuseFar : GoodIn wsX9_mean_ (wsV RX9 128 RX9 yX9_refuseFar wsX9_refuseFar) := goodIn_app (goodIn_of _ (by decide +kernel)) ggX9_mean__X9_refuseFar
set_option maxRecDepth 20000 in
theorem ggX9_mean__X9_findPlan : GoodIn wsX9_mean_ wsX9_findPlan := goodIn_r _ [31, 32, 33, 34, 35, 36, 37, 5, 38, 39, 40, 41, 42, 43, 44, 45, 46, 47, 1, 48, 49, 50, 51, 52, 53, 54, 55, 56, 57, 58, 59, 60, 61, 62, 63, 74, 75, 76, 77, 78, 79, 80, 81, 82, 83, 84, 85, 86, 87, 88, 89, 90, 91, 92, 93, 94, 95, 96, 97, 98, 99, 100] (by decide +kernel) (by decide +kernel)
set_option maxRecDepth 20000 in
theorem gX9_mean__X9_findPlan : GoodIn wsX9_mean_ (wsV RX9 132 RX9 yX9_findPlan wsX9_findPlan) := goodIn_app (goodIn_of _ (by decide +kernel)) ggX9_mean__X9_findPlan
set_option maxRecDepth 20000 in
theorem ggX9_mean__X9_mean : GoodIn wsX9_mean_ wsX9_mean := goodIn_r _ [67, 48, 74, 75, 76, 77, 78, 79, 80, 81, 82, 83, 84, 85, 86, 87, 88, 89, 90, 91, 92, 93, 94, 95, 96, 97, 98, 99, 100] (by decide +kernel) (by decide +kernel)
set_option maxRecDepth 20000 in
theorem gX9_mean__X9_mean : GoodIn wsX9_mean_ (wsV RX9 143 RX9 yX9_mean wsX9_mean) := goodIn_app (goodIn_of _ (by decide +kernel)) ggX9_mean__X9_mean
set_option maxRecDepth 20000 in
theorem ggX9_mean__X9_told : GoodIn wsX9_mean_ wsX9_told := goodIn_r _ [70, 71, 72, 5, 73] (by decide +kernel) (by decide +kernel)
set_option maxRecDepth 20000 in
theorem gX9_mean__X9_told : GoodIn wsX9_mean_ (va_wsS RX9 136 yX9_told wsX9_told) := goodIn_app (goodIn_of _ (by decide +kernel)) ggX9_mean__X9_told
theorem dX9_mean__0 : decode cX9_mean_ 0 = .ok (.aload_n 0, 1) := by decide +kernel
theorem dX9_mean__1 : decode cX9_mean_ 1 = .ok (.iload_n 1, 1) := by decide +kernel
theorem dX9_mean__2 : decode cX9_mean_ 2 = .ok (.iload_n 2, 1) := by decide +kernel
theorem dX9_mean__3 : decode cX9_mean_ 3 = .ok (.iload_n 3, 1) := by decide +kernel
theorem dX9_mean__4 : decode cX9_mean_ 4 = .ok (.invokevirtual 125, 3) := by decide +kernel
theorem dX9_mean__7 : decode cX9_mean_ 7 = .ok (.istore 4, 2) := by decide +kernel
theorem dX9_mean__9 : decode cX9_mean_ 9 = .ok (.iload 4, 2) := by decide +kernel
theorem dX9_mean__11 : decode cX9_mean_ 11 = .ok (.ifCond .eq 10, 3) := by decide +kernel
theorem dX9_mean__14 : decode cX9_mean_ 14 = .ok (.aload_n 0, 1) := by decide +kernel
theorem dX9_mean__15 : decode cX9_mean_ 15 = .ok (.iload 4, 2) := by decide +kernel
theorem dX9_mean__17 : decode cX9_mean_ 17 = .ok (.invokevirtual 128, 3) := by decide +kernel
theorem dX9_mean__20 : decode cX9_mean_ 20 = .ok (.lreturn, 1) := by decide +kernel
theorem dX9_mean__21 : decode cX9_mean_ 21 = .ok (.aload_n 0, 1) := by decide +kernel
theorem dX9_mean__22 : decode cX9_mean_ 22 = .ok (.iload_n 1, 1) := by decide +kernel
theorem dX9_mean__23 : decode cX9_mean_ 23 = .ok (.iload_n 2, 1) := by decide +kernel
theorem dX9_mean__24 : decode cX9_mean_ 24 = .ok (.invokevirtual 132, 3) := by decide +kernel
theorem dX9_mean__27 : decode cX9_mean_ 27 = .ok (.aload_n 0, 1) := by decide +kernel
theorem dX9_mean__28 : decode cX9_mean_ 28 = .ok (.invokevirtual 143, 3) := by decide +kernel
theorem dX9_mean__31 : decode cX9_mean_ 31 = .ok (.aload_n 0, 1) := by decide +kernel
theorem dX9_mean__32 : decode cX9_mean_ 32 = .ok (.getfield 87, 3) := by decide +kernel
theorem dX9_mean__35 : decode cX9_mean_ 35 = .ok (.iload_n 3, 1) := by decide +kernel
theorem dX9_mean__36 : decode cX9_mean_ 36 = .ok (.invokestatic 136, 3) := by decide +kernel
theorem dX9_mean__39 : decode cX9_mean_ 39 = .ok (.lreturn, 1) := by decide +kernel
set_option maxRecDepth 20000 in
theorem ggX9_feed_X9_refuse : GoodIn wsX9_feed wsX9_refuse := goodIn_r _ [8, 9, 10, 11, 12, 13, 14, 15, 16, 17, 18, 19, 20, 21, 22, 23, 24, 25, 26, 27, 28, 29, 30, 31, 32, 33, 34, 35, 36] (by decide +kernel) (by decide +kernel)
set_option maxRecDepth 20000 in
theorem gX9_feed_X9_refuse : GoodIn wsX9_feed (wsV RX9 56 RX9 yX9_refuse wsX9_refuse) := goodIn_app (goodIn_of _ (by decide +kernel)) ggX9_feed_X9_refuse
theorem dX9_feed_0 : decode cX9_feed 0 = .ok (.iload_n 1, 1) := by decide +kernel
theorem dX9_feed_1 : decode cX9_feed 1 = .ok (.iconst 1, 1) := by decide +kernel
theorem dX9_feed_2 : decode cX9_feed 2 = .ok (.if_icmp .ge 10, 3) := by decide +kernel
theorem dX9_feed_5 : decode cX9_feed 5 = .ok (.aload_n 0, 1) := by decide +kernel
theorem dX9_feed_6 : decode cX9_feed 6 = .ok (.bipush (-4), 2) := by decide +kernel
theorem dX9_feed_8 : decode cX9_feed 8 = .ok (.invokevirtual 56, 3) := by decide +kernel
theorem dX9_feed_11 : decode cX9_feed 11 = .ok (.ireturn, 1) := by decide +kernel
theorem dX9_feed_12 : decode cX9_feed 12 = .ok (.iload_n 1, 1) := by decide +kernel
theorem dX9_feed_13 : decode cX9_feed 13 = .ok (.bipush 8, 2) := by decide +kernel
theorem dX9_feed_15 : decode cX9_feed 15 = .ok (.if_icmp .gt 14, 3) := by decide +kernel
theorem dX9_feed_18 : decode cX9_feed 18 = .ok (.aload_n 0, 1) := by decide +kernel
theorem dX9_feed_19 : decode cX9_feed 19 = .ok (.getfield 147, 3) := by decide +kernel
theorem dX9_feed_22 : decode cX9_feed 22 = .ok (.iload_n 1, 1) := by decide +kernel
theorem dX9_feed_23 : decode cX9_feed 23 = .ok (.iadd, 1) := by decide +kernel
theorem dX9_feed_24 : decode cX9_feed 24 = .ok (.bipush 40, 2) := by decide +kernel
theorem dX9_feed_26 : decode cX9_feed 26 = .ok (.if_icmp .le 10, 3) := by decide +kernel
theorem dX9_feed_29 : decode cX9_feed 29 = .ok (.aload_n 0, 1) := by decide +kernel
theorem dX9_feed_30 : decode cX9_feed 30 = .ok (.bipush (-6), 2) := by decide +kernel
theorem dX9_feed_32 : decode cX9_feed 32 = .ok (.invokevirtual 56, 3) := by decide +kernel
theorem dX9_feed_35 : decode cX9_feed 35 = .ok (.ireturn, 1) := by decide +kernel
theorem dX9_feed_36 : decode cX9_feed 36 = .ok (.iconst 0, 1) := by decide +kernel
theorem dX9_feed_37 : decode cX9_feed 37 = .ok (.istore 4, 2) := by decide +kernel
theorem dX9_feed_39 : decode cX9_feed 39 = .ok (.iload 4, 2) := by decide +kernel
theorem dX9_feed_41 : decode cX9_feed 41 = .ok (.iload_n 1, 1) := by decide +kernel
theorem dX9_feed_42 : decode cX9_feed 42 = .ok (.if_icmp .ge 40, 3) := by decide +kernel
theorem dX9_feed_45 : decode cX9_feed 45 = .ok (.aload_n 0, 1) := by decide +kernel
theorem dX9_feed_46 : decode cX9_feed 46 = .ok (.getfield 45, 3) := by decide +kernel
theorem dX9_feed_49 : decode cX9_feed 49 = .ok (.aload_n 0, 1) := by decide +kernel
theorem dX9_feed_50 : decode cX9_feed 50 = .ok (.getfield 147, 3) := by decide +kernel
theorem dX9_feed_53 : decode cX9_feed 53 = .ok (.lload_n 2, 1) := by decide +kernel
theorem dX9_feed_54 : decode cX9_feed 54 = .ok (.bipush 8, 2) := by decide +kernel
theorem dX9_feed_56 : decode cX9_feed 56 = .ok (.iload 4, 2) := by decide +kernel
theorem dX9_feed_58 : decode cX9_feed 58 = .ok (.imul, 1) := by decide +kernel
theorem dX9_feed_59 : decode cX9_feed 59 = .ok (.lshr, 1) := by decide +kernel
theorem dX9_feed_60 : decode cX9_feed 60 = .ok (.ldc2_w 150, 3) := by decide +kernel
theorem dX9_feed_63 : decode cX9_feed 63 = .ok (.land, 1) := by decide +kernel
theorem dX9_feed_64 : decode cX9_feed 64 = .ok (.l2i, 1) := by decide +kernel
theorem dX9_feed_65 : decode cX9_feed 65 = .ok (.iastore, 1) := by decide +kernel
theorem dX9_feed_66 : decode cX9_feed 66 = .ok (.aload_n 0, 1) := by decide +kernel
theorem dX9_feed_67 : decode cX9_feed 67 = .ok (.dup, 1) := by decide +kernel
theorem dX9_feed_68 : decode cX9_feed 68 = .ok (.getfield 147, 3) := by decide +kernel
theorem dX9_feed_71 : decode cX9_feed 71 = .ok (.iconst 1, 1) := by decide +kernel
theorem dX9_feed_72 : decode cX9_feed 72 = .ok (.iadd, 1) := by decide +kernel
theorem dX9_feed_73 : decode cX9_feed 73 = .ok (.putfield 147, 3) := by decide +kernel
theorem dX9_feed_76 : decode cX9_feed 76 = .ok (.iinc 4 1, 3) := by decide +kernel
theorem dX9_feed_79 : decode cX9_feed 79 = .ok (.goto (-40), 3) := by decide +kernel
theorem dX9_feed_82 : decode cX9_feed 82 = .ok (.aload_n 0, 1) := by decide +kernel
theorem dX9_feed_83 : decode cX9_feed 83 = .ok (.getfield 147, 3) := by decide +kernel
theorem dX9_feed_86 : decode cX9_feed 86 = .ok (.ireturn, 1) := by decide +kernel
theorem dX9_sign_0 : decode cX9_sign 0 = .ok (.aload_n 0, 1) := by decide +kernel
theorem dX9_sign_1 : decode cX9_sign 1 = .ok (.getfield 152, 3) := by decide +kernel
theorem dX9_sign_4 : decode cX9_sign 4 = .ok (.aload_n 0, 1) := by decide +kernel
theorem dX9_sign_5 : decode cX9_sign 5 = .ok (.getfield 155, 3) := by decide +kernel
theorem dX9_sign_8 : decode cX9_sign 8 = .ok (.if_icmp .lt 7, 3) := by decide +kernel
theorem dX9_sign_11 : decode cX9_sign 11 = .ok (.iconst (-1), 1) := by decide +kernel
theorem dX9_sign_12 : decode cX9_sign 12 = .ok (.goto 17, 3) := by decide +kernel
theorem dX9_sign_15 : decode cX9_sign 15 = .ok (.aload_n 0, 1) := by decide +kernel
theorem dX9_sign_16 : decode cX9_sign 16 = .ok (.getfield 51, 3) := by decide +kernel
theorem dX9_sign_19 : decode cX9_sign 19 = .ok (.aload_n 0, 1) := by decide +kernel
theorem dX9_sign_20 : decode cX9_sign 20 = .ok (.getfield 158, 3) := by decide +kernel
theorem dX9_sign_23 : decode cX9_sign 23 = .ok (.aload_n 0, 1) := by decide +kernel
theorem dX9_sign_24 : decode cX9_sign 24 = .ok (.getfield 152, 3) := by decide +kernel
theorem dX9_sign_27 : decode cX9_sign 27 = .ok (.iadd, 1) := by decide +kernel
theorem dX9_sign_28 : decode cX9_sign 28 = .ok (.iaload, 1) := by decide +kernel
theorem dX9_sign_29 : decode cX9_sign 29 = .ok (.ireturn, 1) := by decide +kernel
set_option maxRecDepth 20000 in
theorem ggX9_takes_X9_sign : GoodIn wsX9_takes wsX9_sign := goodIn_r _ [7, 2, 8, 9, 10, 11, 12, 13, 14, 15, 16, 17, 18, 19, 20, 21, 22, 23, 24, 25, 26, 27, 28, 29, 30, 31, 32, 33, 34, 35, 36, 37] (by decide +kernel) (by decide +kernel)
set_option maxRecDepth 20000 in
theorem gX9_takes_X9_sign : GoodIn wsX9_takes (wsV RX9 165 RX9 yX9_sign wsX9_sign) := goodIn_app (goodIn_of _ (by decide +kernel)) ggX9_takes_X9_sign
theorem dX9_takes_0 : decode cX9_takes 0 = .ok (.aload_n 0, 1) := by decide +kernel
theorem dX9_takes_1 : decode cX9_takes 1 = .ok (.getfield 161, 3) := by decide +kernel
theorem dX9_takes_4 : decode cX9_takes 4 = .ok (.ifCond .eq 11, 3) := by decide +kernel
theorem dX9_takes_7 : decode cX9_takes 7 = .ok (.aload_n 0, 1) := by decide +kernel
theorem dX9_takes_8 : decode cX9_takes 8 = .ok (.invokevirtual 165, 3) := by decide +kernel
theorem dX9_takes_11 : decode cX9_takes 11 = .ok (.iload_n 1, 1) := by decide +kernel
theorem dX9_takes_12 : decode cX9_takes 12 = .ok (.if_icmp .eq 5, 3) := by decide +kernel
theorem dX9_takes_15 : decode cX9_takes 15 = .ok (.iconst 0, 1) := by decide +kernel
theorem dX9_takes_16 : decode cX9_takes 16 = .ok (.ireturn, 1) := by decide +kernel
theorem dX9_takes_17 : decode cX9_takes 17 = .ok (.aload_n 0, 1) := by decide +kernel
theorem dX9_takes_18 : decode cX9_takes 18 = .ok (.dup, 1) := by decide +kernel
theorem dX9_takes_19 : decode cX9_takes 19 = .ok (.getfield 152, 3) := by decide +kernel
theorem dX9_takes_22 : decode cX9_takes 22 = .ok (.iconst 1, 1) := by decide +kernel
theorem dX9_takes_23 : decode cX9_takes 23 = .ok (.iadd, 1) := by decide +kernel
theorem dX9_takes_24 : decode cX9_takes 24 = .ok (.putfield 152, 3) := by decide +kernel
theorem dX9_takes_27 : decode cX9_takes 27 = .ok (.iconst 1, 1) := by decide +kernel
theorem dX9_takes_28 : decode cX9_takes 28 = .ok (.ireturn, 1) := by decide +kernel
theorem dX9_breaks_0 : decode cX9_breaks 0 = .ok (.aload_n 0, 1) := by decide +kernel
theorem dX9_breaks_1 : decode cX9_breaks 1 = .ok (.iconst 0, 1) := by decide +kernel
theorem dX9_breaks_2 : decode cX9_breaks 2 = .ok (.putfield 161, 3) := by decide +kernel
theorem dX9_breaks_5 : decode cX9_breaks 5 = .ok (.iconst 0, 1) := by decide +kernel
theorem dX9_breaks_6 : decode cX9_breaks 6 = .ok (.ireturn, 1) := by decide +kernel
set_option maxRecDepth 20000 in
theorem ggX9_or_X9_and : GoodIn wsX9_or wsX9_and := goodIn_r _ [18, 19, 20, 21, 4, 5, 6, 7, 8, 9, 10, 11, 12, 13, 14, 15, 16, 17, 0, 1, 2, 3, 22, 23, 24, 25, 26, 27, 28, 29, 30, 31, 32, 33, 34, 35, 36, 37, 38, 39, 40, 41, 42, 43, 44, 45, 46, 47, 48, 49, 50, 51, 52, 53, 54, 55, 56, 57, 58, 59, 60, 61, 62, 63, 64, 65, 66, 67, 68, 69, 70, 71, 72] (by decide +kernel) (by decide +kernel)
set_option maxRecDepth 20000 in
theorem gX9_or_X9_and : GoodIn wsX9_or (wsV RX9 169 RX9 yX9_and wsX9_and) := goodIn_app (goodIn_of _ (by decide +kernel)) ggX9_or_X9_and
set_option maxRecDepth 20000 in
theorem ggX9_or_X9_takes : GoodIn wsX9_or wsX9_takes := goodIn_r _ [8, 9, 10, 11, 12, 13, 4, 14, 15, 16, 17, 46, 47, 48, 49, 50, 51, 52, 53, 54, 55, 56, 57, 58, 59, 60, 61, 62, 63, 64, 65, 66, 67, 68, 69, 70, 71, 72] (by decide +kernel) (by decide +kernel)
set_option maxRecDepth 20000 in
theorem gX9_or_X9_takes : GoodIn wsX9_or (wsV RX9 173 RX9 yX9_takes wsX9_takes) := goodIn_app (goodIn_of _ (by decide +kernel)) ggX9_or_X9_takes
theorem dX9_or_0 : decode cX9_or 0 = .ok (.aload_n 0, 1) := by decide +kernel
theorem dX9_or_1 : decode cX9_or 1 = .ok (.invokevirtual 169, 3) := by decide +kernel
theorem dX9_or_4 : decode cX9_or 4 = .ok (.istore_n 1, 1) := by decide +kernel
theorem dX9_or_5 : decode cX9_or 5 = .ok (.aload_n 0, 1) := by decide +kernel
theorem dX9_or_6 : decode cX9_or 6 = .ok (.bipush 124, 2) := by decide +kernel
theorem dX9_or_8 : decode cX9_or 8 = .ok (.invokevirtual 173, 3) := by decide +kernel
theorem dX9_or_11 : decode cX9_or 11 = .ok (.ifCond .eq 25, 3) := by decide +kernel
theorem dX9_or_14 : decode cX9_or 14 = .ok (.aload_n 0, 1) := by decide +kernel
theorem dX9_or_15 : decode cX9_or 15 = .ok (.invokevirtual 169, 3) := by decide +kernel
theorem dX9_or_18 : decode cX9_or 18 = .ok (.istore_n 2, 1) := by decide +kernel
theorem dX9_or_19 : decode cX9_or 19 = .ok (.iload_n 1, 1) := by decide +kernel
theorem dX9_or_20 : decode cX9_or 20 = .ok (.ifCond .ne 7, 3) := by decide +kernel
theorem dX9_or_23 : decode cX9_or 23 = .ok (.iload_n 2, 1) := by decide +kernel
theorem dX9_or_24 : decode cX9_or 24 = .ok (.ifCond .eq 7, 3) := by decide +kernel
theorem dX9_or_27 : decode cX9_or 27 = .ok (.iconst 1, 1) := by decide +kernel
theorem dX9_or_28 : decode cX9_or 28 = .ok (.goto 4, 3) := by decide +kernel
theorem dX9_or_31 : decode cX9_or 31 = .ok (.iconst 0, 1) := by decide +kernel
theorem dX9_or_32 : decode cX9_or 32 = .ok (.istore_n 1, 1) := by decide +kernel
theorem dX9_or_33 : decode cX9_or 33 = .ok (.goto (-28), 3) := by decide +kernel
theorem dX9_or_36 : decode cX9_or 36 = .ok (.iload_n 1, 1) := by decide +kernel
theorem dX9_or_37 : decode cX9_or 37 = .ok (.ireturn, 1) := by decide +kernel
set_option maxRecDepth 20000 in
theorem ggX9_and_X9_test : GoodIn wsX9_and wsX9_test := goodIn_r _ [22, 9, 23, 10, 11, 12, 13, 4, 14, 15, 16, 17, 24, 25, 26, 27, 1, 2, 3, 28, 29, 30, 5, 6, 7, 8, 31, 32, 33, 34, 35, 36, 37, 38, 39, 40, 41, 42, 43, 44, 45, 0, 18, 19, 20, 21, 46, 47, 48, 49, 50, 51, 52, 53, 54, 55, 56, 57, 58, 59, 60, 61, 62, 63, 64, 65, 66, 67, 68, 69, 70, 71, 72] (by decide +kernel) (by decide +kernel)
set_option maxRecDepth 20000 in
theorem gX9_and_X9_test : GoodIn wsX9_and (wsV RX9 176 RX9 yX9_test wsX9_test) := goodIn_app (goodIn_of _ (by decide +kernel)) ggX9_and_X9_test
set_option maxRecDepth 20000 in
theorem ggX9_and_X9_takes : GoodIn wsX9_and wsX9_takes := goodIn_r _ [8, 9, 10, 11, 12, 13, 4, 14, 15, 16, 17, 46, 47, 48, 49, 50, 51, 52, 53, 54, 55, 56, 57, 58, 59, 60, 61, 62, 63, 64, 65, 66, 67, 68, 69, 70, 71, 72] (by decide +kernel) (by decide +kernel)
set_option maxRecDepth 20000 in
theorem gX9_and_X9_takes : GoodIn wsX9_and (wsV RX9 173 RX9 yX9_takes wsX9_takes) := goodIn_app (goodIn_of _ (by decide +kernel)) ggX9_and_X9_takes
theorem dX9_and_0 : decode cX9_and 0 = .ok (.aload_n 0, 1) := by decide +kernel
theorem dX9_and_1 : decode cX9_and 1 = .ok (.invokevirtual 176, 3) := by decide +kernel
theorem dX9_and_4 : decode cX9_and 4 = .ok (.istore_n 1, 1) := by decide +kernel
theorem dX9_and_5 : decode cX9_and 5 = .ok (.aload_n 0, 1) := by decide +kernel
theorem dX9_and_6 : decode cX9_and 6 = .ok (.bipush 38, 2) := by decide +kernel
theorem dX9_and_8 : decode cX9_and 8 = .ok (.invokevirtual 173, 3) := by decide +kernel
theorem dX9_and_11 : decode cX9_and 11 = .ok (.ifCond .eq 25, 3) := by decide +kernel
theorem dX9_and_14 : decode cX9_and 14 = .ok (.aload_n 0, 1) := by decide +kernel
theorem dX9_and_15 : decode cX9_and 15 = .ok (.invokevirtual 176, 3) := by decide +kernel
theorem dX9_and_18 : decode cX9_and 18 = .ok (.istore_n 2, 1) := by decide +kernel
theorem dX9_and_19 : decode cX9_and 19 = .ok (.iload_n 1, 1) := by decide +kernel
theorem dX9_and_20 : decode cX9_and 20 = .ok (.ifCond .eq 11, 3) := by decide +kernel
theorem dX9_and_23 : decode cX9_and 23 = .ok (.iload_n 2, 1) := by decide +kernel
theorem dX9_and_24 : decode cX9_and 24 = .ok (.ifCond .eq 7, 3) := by decide +kernel
theorem dX9_and_27 : decode cX9_and 27 = .ok (.iconst 1, 1) := by decide +kernel
theorem dX9_and_28 : decode cX9_and 28 = .ok (.goto 4, 3) := by decide +kernel
theorem dX9_and_31 : decode cX9_and 31 = .ok (.iconst 0, 1) := by decide +kernel
theorem dX9_and_32 : decode cX9_and 32 = .ok (.istore_n 1, 1) := by decide +kernel
theorem dX9_and_33 : decode cX9_and 33 = .ok (.goto (-28), 3) := by decide +kernel
theorem dX9_and_36 : decode cX9_and 36 = .ok (.iload_n 1, 1) := by decide +kernel
theorem dX9_and_37 : decode cX9_and 37 = .ok (.ireturn, 1) := by decide +kernel
set_option maxRecDepth 20000 in
theorem ggX9_test_X9_sign : GoodIn wsX9_test wsX9_sign := goodIn_r _ [8, 3, 9, 10, 11, 46, 47, 48, 49, 50, 51, 52, 53, 54, 55, 56, 57, 58, 59, 60, 61, 62, 63, 64, 65, 66, 67, 68, 69, 70, 71, 72] (by decide +kernel) (by decide +kernel)
set_option maxRecDepth 20000 in
theorem gX9_test_X9_sign : GoodIn wsX9_test (wsV RX9 165 RX9 yX9_sign wsX9_sign) := goodIn_app (goodIn_of _ (by decide +kernel)) ggX9_test_X9_sign
set_option maxRecDepth 20000 in
theorem ggX9_test_X9_breaks : GoodIn wsX9_test wsX9_breaks := goodIn_r _ [15, 1, 46, 47, 48, 49, 50, 51, 52, 53, 54, 55, 56, 57, 58, 59, 60, 61, 62, 63, 64, 65, 66, 67, 68, 69, 70, 71, 72] (by decide +kernel) (by decide +kernel)
set_option maxRecDepth 20000 in
theorem gX9_test_X9_breaks : GoodIn wsX9_test (wsV RX9 182 RX9 yX9_breaks wsX9_breaks) := goodIn_app (goodIn_of _ (by decide +kernel)) ggX9_test_X9_breaks
set_option maxRecDepth 20000 in
theorem ggX9_test_X9_test : GoodIn wsX9_test wsX9_test := goodIn_r _ [0, 1, 2, 3, 4, 5, 6, 7, 8, 9, 10, 11, 12, 13, 14, 15, 16, 17, 18, 19, 20, 21, 22, 23, 24, 25, 26, 27, 28, 29, 30, 31, 32, 33, 34, 35, 36, 37, 38, 39, 40, 41, 42, 43, 44, 45, 46, 47, 48, 49, 50, 51, 52, 53, 54, 55, 56, 57, 58, 59, 60, 61, 62, 63, 64, 65, 66, 67, 68, 69, 70, 71, 72] (by decide +kernel) (by decide +kernel)
set_option maxRecDepth 20000 in
theorem gX9_test_X9_test : GoodIn wsX9_test (wsV RX9 176 RX9 yX9_test wsX9_test) := goodIn_app (goodIn_of _ (by decide +kernel)) ggX9_test_X9_test
set_option maxRecDepth 20000 in
theorem ggX9_test_X9_or : GoodIn wsX9_test wsX9_or := goodIn_r _ [42, 43, 44, 45, 7, 22, 23, 24, 25, 1, 3, 4, 5, 6, 8, 9, 10, 11, 41, 16, 17, 18, 0, 2, 12, 13, 14, 15, 19, 20, 21, 26, 27, 28, 29, 30, 31, 32, 33, 34, 35, 36, 37, 38, 39, 40, 46, 47, 48, 49, 50, 51, 52, 53, 54, 55, 56, 57, 58, 59, 60, 61, 62, 63, 64, 65, 66, 67, 68, 69, 70, 71, 72] (by decide +kernel) (by decide +kernel)
set_option maxRecDepth 20000 in
theorem gX9_test_X9_or : GoodIn wsX9_test (wsV RX9 185 RX9 yX9_or wsX9_or) := goodIn_app (goodIn_of _ (by decide +kernel)) ggX9_test_X9_or
set_option maxRecDepth 20000 in
theorem ggX9_test_X9_takes : GoodIn wsX9_test wsX9_takes := goodIn_r _ [25, 1, 3, 4, 5, 6, 7, 8, 9, 10, 11, 46, 47, 48, 49, 50, 51, 52, 53, 54, 55, 56, 57, 58, 59, 60, 61, 62, 63, 64, 65, 66, 67, 68, 69, 70, 71, 72] (by decide +kernel) (by decide +kernel)
set_option maxRecDepth 20000 in
theorem gX9_test_X9_takes : GoodIn wsX9_test (wsV RX9 173 RX9 yX9_takes wsX9_takes) := goodIn_app (goodIn_of _ (by decide +kernel)) ggX9_test_X9_takes
set_option maxRecDepth 20000 in
theorem ggX9_test_X9_sum : GoodIn wsX9_test wsX9_sum := goodIn_r _ [29, 1, 3, 30, 31, 32, 7, 33, 34, 4, 5, 6, 8, 9, 10, 11, 35, 36, 37, 38, 39, 40, 46, 47, 48, 49, 50, 51, 52, 53, 54, 55, 56, 57, 58, 59, 60, 61, 62, 63, 64, 65, 66, 67, 68, 69, 70, 71, 72] (by decide +kernel) (by decide +kernel)
set_option maxRecDepth 20000 in
theorem gX9_test_X9_sum : GoodIn wsX9_test (wsV RX9 188 RX9 yX9_sum wsX9_sum) := goodIn_app (goodIn_of _ (by decide +kernel)) ggX9_test_X9_sum
theorem dX9_test_0 : decode cX9_test 0 = .ok (.aload_n 0, 1) := by decide +kernel
theorem dX9_test_1 : decode cX9_test 1 = .ok (.getfield 161, 3) := by decide +kernel
theorem dX9_test_4 : decode cX9_test 4 = .ok (.ifCond .ne 5, 3) := by decide +kernel
theorem dX9_test_7 : decode cX9_test 7 = .ok (.iconst 0, 1) := by decide +kernel
theorem dX9_test_8 : decode cX9_test 8 = .ok (.ireturn, 1) := by decide +kernel
theorem dX9_test_9 : decode cX9_test 9 = .ok (.aload_n 0, 1) := by decide +kernel
theorem dX9_test_10 : decode cX9_test 10 = .ok (.invokevirtual 165, 3) := by decide +kernel
theorem dX9_test_13 : decode cX9_test 13 = .ok (.bipush 33, 2) := by decide +kernel
theorem dX9_test_15 : decode cX9_test 15 = .ok (.if_icmp .eq 12, 3) := by decide +kernel
theorem dX9_test_18 : decode cX9_test 18 = .ok (.aload_n 0, 1) := by decide +kernel
theorem dX9_test_19 : decode cX9_test 19 = .ok (.invokevirtual 165, 3) := by decide +kernel
theorem dX9_test_22 : decode cX9_test 22 = .ok (.bipush 40, 2) := by decide +kernel
theorem dX9_test_24 : decode cX9_test 24 = .ok (.if_icmp .ne 99, 3) := by decide +kernel
theorem dX9_test_27 : decode cX9_test 27 = .ok (.aload_n 0, 1) := by decide +kernel
theorem dX9_test_28 : decode cX9_test 28 = .ok (.invokevirtual 165, 3) := by decide +kernel
theorem dX9_test_31 : decode cX9_test 31 = .ok (.istore_n 1, 1) := by decide +kernel
theorem dX9_test_32 : decode cX9_test 32 = .ok (.aload_n 0, 1) := by decide +kernel
theorem dX9_test_33 : decode cX9_test 33 = .ok (.getfield 179, 3) := by decide +kernel
theorem dX9_test_36 : decode cX9_test 36 = .ok (.iconst 4, 1) := by decide +kernel
theorem dX9_test_37 : decode cX9_test 37 = .ok (.if_icmp .ne 8, 3) := by decide +kernel
theorem dX9_test_40 : decode cX9_test 40 = .ok (.aload_n 0, 1) := by decide +kernel
theorem dX9_test_41 : decode cX9_test 41 = .ok (.invokevirtual 182, 3) := by decide +kernel
theorem dX9_test_44 : decode cX9_test 44 = .ok (.ireturn, 1) := by decide +kernel
theorem dX9_test_45 : decode cX9_test 45 = .ok (.aload_n 0, 1) := by decide +kernel
theorem dX9_test_46 : decode cX9_test 46 = .ok (.dup, 1) := by decide +kernel
theorem dX9_test_47 : decode cX9_test 47 = .ok (.getfield 152, 3) := by decide +kernel
theorem dX9_test_50 : decode cX9_test 50 = .ok (.iconst 1, 1) := by decide +kernel
theorem dX9_test_51 : decode cX9_test 51 = .ok (.iadd, 1) := by decide +kernel
theorem dX9_test_52 : decode cX9_test 52 = .ok (.putfield 152, 3) := by decide +kernel
theorem dX9_test_55 : decode cX9_test 55 = .ok (.aload_n 0, 1) := by decide +kernel
theorem dX9_test_56 : decode cX9_test 56 = .ok (.dup, 1) := by decide +kernel
theorem dX9_test_57 : decode cX9_test 57 = .ok (.getfield 179, 3) := by decide +kernel
theorem dX9_test_60 : decode cX9_test 60 = .ok (.iconst 1, 1) := by decide +kernel
theorem dX9_test_61 : decode cX9_test 61 = .ok (.iadd, 1) := by decide +kernel
theorem dX9_test_62 : decode cX9_test 62 = .ok (.putfield 179, 3) := by decide +kernel
theorem dX9_test_65 : decode cX9_test 65 = .ok (.iload_n 1, 1) := by decide +kernel
theorem dX9_test_66 : decode cX9_test 66 = .ok (.bipush 33, 2) := by decide +kernel
theorem dX9_test_68 : decode cX9_test 68 = .ok (.if_icmp .ne 18, 3) := by decide +kernel
theorem dX9_test_71 : decode cX9_test 71 = .ok (.aload_n 0, 1) := by decide +kernel
theorem dX9_test_72 : decode cX9_test 72 = .ok (.invokevirtual 176, 3) := by decide +kernel
theorem dX9_test_75 : decode cX9_test 75 = .ok (.ifCond .ne 7, 3) := by decide +kernel
theorem dX9_test_78 : decode cX9_test 78 = .ok (.iconst 1, 1) := by decide +kernel
theorem dX9_test_79 : decode cX9_test 79 = .ok (.goto 11, 3) := by decide +kernel
theorem dX9_test_82 : decode cX9_test 82 = .ok (.iconst 0, 1) := by decide +kernel
theorem dX9_test_83 : decode cX9_test 83 = .ok (.goto 7, 3) := by decide +kernel
theorem dX9_test_86 : decode cX9_test 86 = .ok (.aload_n 0, 1) := by decide +kernel
theorem dX9_test_87 : decode cX9_test 87 = .ok (.invokevirtual 185, 3) := by decide +kernel
theorem dX9_test_90 : decode cX9_test 90 = .ok (.istore_n 2, 1) := by decide +kernel
theorem dX9_test_91 : decode cX9_test 91 = .ok (.iload_n 1, 1) := by decide +kernel
theorem dX9_test_92 : decode cX9_test 92 = .ok (.bipush 40, 2) := by decide +kernel
theorem dX9_test_94 : decode cX9_test 94 = .ok (.if_icmp .ne 17, 3) := by decide +kernel
theorem dX9_test_97 : decode cX9_test 97 = .ok (.aload_n 0, 1) := by decide +kernel
theorem dX9_test_98 : decode cX9_test 98 = .ok (.bipush 41, 2) := by decide +kernel
theorem dX9_test_100 : decode cX9_test 100 = .ok (.invokevirtual 173, 3) := by decide +kernel
theorem dX9_test_103 : decode cX9_test 103 = .ok (.ifCond .ne 8, 3) := by decide +kernel
theorem dX9_test_106 : decode cX9_test 106 = .ok (.aload_n 0, 1) := by decide +kernel
theorem dX9_test_107 : decode cX9_test 107 = .ok (.invokevirtual 182, 3) := by decide +kernel
theorem dX9_test_110 : decode cX9_test 110 = .ok (.ireturn, 1) := by decide +kernel
theorem dX9_test_111 : decode cX9_test 111 = .ok (.aload_n 0, 1) := by decide +kernel
theorem dX9_test_112 : decode cX9_test 112 = .ok (.dup, 1) := by decide +kernel
theorem dX9_test_113 : decode cX9_test 113 = .ok (.getfield 179, 3) := by decide +kernel
theorem dX9_test_116 : decode cX9_test 116 = .ok (.iconst 1, 1) := by decide +kernel
theorem dX9_test_117 : decode cX9_test 117 = .ok (.isub, 1) := by decide +kernel
theorem dX9_test_118 : decode cX9_test 118 = .ok (.putfield 179, 3) := by decide +kernel
theorem dX9_test_121 : decode cX9_test 121 = .ok (.iload_n 2, 1) := by decide +kernel
theorem dX9_test_122 : decode cX9_test 122 = .ok (.ireturn, 1) := by decide +kernel
theorem dX9_test_123 : decode cX9_test 123 = .ok (.aload_n 0, 1) := by decide +kernel
theorem dX9_test_124 : decode cX9_test 124 = .ok (.invokevirtual 188, 3) := by decide +kernel
theorem dX9_test_127 : decode cX9_test 127 = .ok (.lstore_n 1, 1) := by decide +kernel
theorem dX9_test_128 : decode cX9_test 128 = .ok (.aload_n 0, 1) := by decide +kernel
theorem dX9_test_129 : decode cX9_test 129 = .ok (.invokevirtual 165, 3) := by decide +kernel
theorem dX9_test_132 : decode cX9_test 132 = .ok (.istore_n 3, 1) := by decide +kernel
theorem dX9_test_133 : decode cX9_test 133 = .ok (.aload_n 0, 1) := by decide +kernel
theorem dX9_test_134 : decode cX9_test 134 = .ok (.getfield 161, 3) := by decide +kernel
theorem dX9_test_137 : decode cX9_test 137 = .ok (.ifCond .eq 21, 3) := by decide +kernel
theorem dX9_test_140 : decode cX9_test 140 = .ok (.iload_n 3, 1) := by decide +kernel
theorem dX9_test_141 : decode cX9_test 141 = .ok (.bipush 60, 2) := by decide +kernel
theorem dX9_test_143 : decode cX9_test 143 = .ok (.if_icmp .eq 20, 3) := by decide +kernel
theorem dX9_test_146 : decode cX9_test 146 = .ok (.iload_n 3, 1) := by decide +kernel
theorem dX9_test_147 : decode cX9_test 147 = .ok (.bipush 61, 2) := by decide +kernel
theorem dX9_test_149 : decode cX9_test 149 = .ok (.if_icmp .eq 14, 3) := by decide +kernel
theorem dX9_test_152 : decode cX9_test 152 = .ok (.iload_n 3, 1) := by decide +kernel
theorem dX9_test_153 : decode cX9_test 153 = .ok (.bipush 62, 2) := by decide +kernel
theorem dX9_test_155 : decode cX9_test 155 = .ok (.if_icmp .eq 8, 3) := by decide +kernel
theorem dX9_test_158 : decode cX9_test 158 = .ok (.aload_n 0, 1) := by decide +kernel
theorem dX9_test_159 : decode cX9_test 159 = .ok (.invokevirtual 182, 3) := by decide +kernel
theorem dX9_test_162 : decode cX9_test 162 = .ok (.ireturn, 1) := by decide +kernel
theorem dX9_test_163 : decode cX9_test 163 = .ok (.aload_n 0, 1) := by decide +kernel
theorem dX9_test_164 : decode cX9_test 164 = .ok (.dup, 1) := by decide +kernel
theorem dX9_test_165 : decode cX9_test 165 = .ok (.getfield 152, 3) := by decide +kernel
theorem dX9_test_168 : decode cX9_test 168 = .ok (.iconst 1, 1) := by decide +kernel
theorem dX9_test_169 : decode cX9_test 169 = .ok (.iadd, 1) := by decide +kernel
theorem dX9_test_170 : decode cX9_test 170 = .ok (.putfield 152, 3) := by decide +kernel
theorem dX9_test_173 : decode cX9_test 173 = .ok (.aload_n 0, 1) := by decide +kernel
theorem dX9_test_174 : decode cX9_test 174 = .ok (.invokevirtual 188, 3) := by decide +kernel
theorem dX9_test_177 : decode cX9_test 177 = .ok (.lstore 4, 2) := by decide +kernel
theorem dX9_test_179 : decode cX9_test 179 = .ok (.iload_n 3, 1) := by decide +kernel
theorem dX9_test_180 : decode cX9_test 180 = .ok (.bipush 60, 2) := by decide +kernel
theorem dX9_test_182 : decode cX9_test 182 = .ok (.if_icmp .ne 18, 3) := by decide +kernel
theorem dX9_test_185 : decode cX9_test 185 = .ok (.lload_n 1, 1) := by decide +kernel
theorem dX9_test_186 : decode cX9_test 186 = .ok (.lload 4, 2) := by decide +kernel
theorem dX9_test_188 : decode cX9_test 188 = .ok (.lcmp, 1) := by decide +kernel
theorem dX9_test_189 : decode cX9_test 189 = .ok (.ifCond .ge 7, 3) := by decide +kernel
theorem dX9_test_192 : decode cX9_test 192 = .ok (.iconst 1, 1) := by decide +kernel
theorem dX9_test_193 : decode cX9_test 193 = .ok (.goto 40, 3) := by decide +kernel
theorem dX9_test_196 : decode cX9_test 196 = .ok (.iconst 0, 1) := by decide +kernel
theorem dX9_test_197 : decode cX9_test 197 = .ok (.goto 36, 3) := by decide +kernel
theorem dX9_test_200 : decode cX9_test 200 = .ok (.iload_n 3, 1) := by decide +kernel
theorem dX9_test_201 : decode cX9_test 201 = .ok (.bipush 61, 2) := by decide +kernel
theorem dX9_test_203 : decode cX9_test 203 = .ok (.if_icmp .ne 18, 3) := by decide +kernel
theorem dX9_test_206 : decode cX9_test 206 = .ok (.lload_n 1, 1) := by decide +kernel
theorem dX9_test_207 : decode cX9_test 207 = .ok (.lload 4, 2) := by decide +kernel
theorem dX9_test_209 : decode cX9_test 209 = .ok (.lcmp, 1) := by decide +kernel
theorem dX9_test_210 : decode cX9_test 210 = .ok (.ifCond .ne 7, 3) := by decide +kernel
theorem dX9_test_213 : decode cX9_test 213 = .ok (.iconst 1, 1) := by decide +kernel
theorem dX9_test_214 : decode cX9_test 214 = .ok (.goto 19, 3) := by decide +kernel
theorem dX9_test_217 : decode cX9_test 217 = .ok (.iconst 0, 1) := by decide +kernel
theorem dX9_test_218 : decode cX9_test 218 = .ok (.goto 15, 3) := by decide +kernel
theorem dX9_test_221 : decode cX9_test 221 = .ok (.lload_n 1, 1) := by decide +kernel
theorem dX9_test_222 : decode cX9_test 222 = .ok (.lload 4, 2) := by decide +kernel
theorem dX9_test_224 : decode cX9_test 224 = .ok (.lcmp, 1) := by decide +kernel
theorem dX9_test_225 : decode cX9_test 225 = .ok (.ifCond .le 7, 3) := by decide +kernel
theorem dX9_test_228 : decode cX9_test 228 = .ok (.iconst 1, 1) := by decide +kernel
theorem dX9_test_229 : decode cX9_test 229 = .ok (.goto 4, 3) := by decide +kernel
theorem dX9_test_232 : decode cX9_test 232 = .ok (.iconst 0, 1) := by decide +kernel
theorem dX9_test_233 : decode cX9_test 233 = .ok (.ireturn, 1) := by decide +kernel
set_option maxRecDepth 20000 in
theorem ggX9_sum_X9_unit : GoodIn wsX9_sum wsX9_unit := goodIn_r _ [7, 1, 2, 8, 9, 10, 11, 6, 12, 13, 14, 15, 16, 17, 18, 19, 20, 21, 22, 23, 24, 25, 26, 27, 28, 29, 30, 31, 32, 33, 34, 35, 36, 37, 38, 39, 40, 41, 42, 43, 44, 45, 46, 47, 48] (by decide +kernel) (by decide +kernel)
set_option maxRecDepth 20000 in
theorem gX9_sum_X9_unit : GoodIn wsX9_sum (wsV RX9 191 RX9 yX9_unit wsX9_unit) := goodIn_app (goodIn_of _ (by decide +kernel)) ggX9_sum_X9_unit
set_option maxRecDepth 20000 in
theorem ggX9_sum_X9_sign : GoodIn wsX9_sum wsX9_sign := goodIn_r _ [12, 2, 13, 14, 15, 22, 23, 24, 25, 26, 27, 28, 29, 30, 31, 32, 33, 34, 35, 36, 37, 38, 39, 40, 41, 42, 43, 44, 45, 46, 47, 48] (by decide +kernel) (by decide +kernel)
set_option maxRecDepth 20000 in
theorem gX9_sum_X9_sign : GoodIn wsX9_sum (wsV RX9 165 RX9 yX9_sign wsX9_sign) := goodIn_app (goodIn_of _ (by decide +kernel)) ggX9_sum_X9_sign
theorem dX9_sum_0 : decode cX9_sum 0 = .ok (.aload_n 0, 1) := by decide +kernel
theorem dX9_sum_1 : decode cX9_sum 1 = .ok (.invokevirtual 191, 3) := by decide +kernel
theorem dX9_sum_4 : decode cX9_sum 4 = .ok (.i2l, 1) := by decide +kernel
theorem dX9_sum_5 : decode cX9_sum 5 = .ok (.lstore_n 1, 1) := by decide +kernel
theorem dX9_sum_6 : decode cX9_sum 6 = .ok (.aload_n 0, 1) := by decide +kernel
theorem dX9_sum_7 : decode cX9_sum 7 = .ok (.getfield 161, 3) := by decide +kernel
theorem dX9_sum_10 : decode cX9_sum 10 = .ok (.ifCond .eq 86, 3) := by decide +kernel
theorem dX9_sum_13 : decode cX9_sum 13 = .ok (.aload_n 0, 1) := by decide +kernel
theorem dX9_sum_14 : decode cX9_sum 14 = .ok (.invokevirtual 165, 3) := by decide +kernel
theorem dX9_sum_17 : decode cX9_sum 17 = .ok (.bipush 43, 2) := by decide +kernel
theorem dX9_sum_19 : decode cX9_sum 19 = .ok (.if_icmp .eq 21, 3) := by decide +kernel
theorem dX9_sum_22 : decode cX9_sum 22 = .ok (.aload_n 0, 1) := by decide +kernel
theorem dX9_sum_23 : decode cX9_sum 23 = .ok (.invokevirtual 165, 3) := by decide +kernel
theorem dX9_sum_26 : decode cX9_sum 26 = .ok (.bipush 45, 2) := by decide +kernel
theorem dX9_sum_28 : decode cX9_sum 28 = .ok (.if_icmp .eq 12, 3) := by decide +kernel
theorem dX9_sum_31 : decode cX9_sum 31 = .ok (.aload_n 0, 1) := by decide +kernel
theorem dX9_sum_32 : decode cX9_sum 32 = .ok (.invokevirtual 165, 3) := by decide +kernel
theorem dX9_sum_35 : decode cX9_sum 35 = .ok (.bipush 42, 2) := by decide +kernel
theorem dX9_sum_37 : decode cX9_sum 37 = .ok (.if_icmp .ne 59, 3) := by decide +kernel
theorem dX9_sum_40 : decode cX9_sum 40 = .ok (.aload_n 0, 1) := by decide +kernel
theorem dX9_sum_41 : decode cX9_sum 41 = .ok (.invokevirtual 165, 3) := by decide +kernel
theorem dX9_sum_44 : decode cX9_sum 44 = .ok (.istore_n 3, 1) := by decide +kernel
theorem dX9_sum_45 : decode cX9_sum 45 = .ok (.aload_n 0, 1) := by decide +kernel
theorem dX9_sum_46 : decode cX9_sum 46 = .ok (.dup, 1) := by decide +kernel
theorem dX9_sum_47 : decode cX9_sum 47 = .ok (.getfield 152, 3) := by decide +kernel
theorem dX9_sum_50 : decode cX9_sum 50 = .ok (.iconst 1, 1) := by decide +kernel
theorem dX9_sum_51 : decode cX9_sum 51 = .ok (.iadd, 1) := by decide +kernel
theorem dX9_sum_52 : decode cX9_sum 52 = .ok (.putfield 152, 3) := by decide +kernel
theorem dX9_sum_55 : decode cX9_sum 55 = .ok (.aload_n 0, 1) := by decide +kernel
theorem dX9_sum_56 : decode cX9_sum 56 = .ok (.invokevirtual 191, 3) := by decide +kernel
theorem dX9_sum_59 : decode cX9_sum 59 = .ok (.i2l, 1) := by decide +kernel
theorem dX9_sum_60 : decode cX9_sum 60 = .ok (.lstore 4, 2) := by decide +kernel
theorem dX9_sum_62 : decode cX9_sum 62 = .ok (.iload_n 3, 1) := by decide +kernel
theorem dX9_sum_63 : decode cX9_sum 63 = .ok (.bipush 43, 2) := by decide +kernel
theorem dX9_sum_65 : decode cX9_sum 65 = .ok (.if_icmp .ne 10, 3) := by decide +kernel
theorem dX9_sum_68 : decode cX9_sum 68 = .ok (.lload_n 1, 1) := by decide +kernel
theorem dX9_sum_69 : decode cX9_sum 69 = .ok (.lload 4, 2) := by decide +kernel
theorem dX9_sum_71 : decode cX9_sum 71 = .ok (.ladd, 1) := by decide +kernel
theorem dX9_sum_72 : decode cX9_sum 72 = .ok (.goto 20, 3) := by decide +kernel
theorem dX9_sum_75 : decode cX9_sum 75 = .ok (.iload_n 3, 1) := by decide +kernel
theorem dX9_sum_76 : decode cX9_sum 76 = .ok (.bipush 45, 2) := by decide +kernel
theorem dX9_sum_78 : decode cX9_sum 78 = .ok (.if_icmp .ne 10, 3) := by decide +kernel
theorem dX9_sum_81 : decode cX9_sum 81 = .ok (.lload_n 1, 1) := by decide +kernel
theorem dX9_sum_82 : decode cX9_sum 82 = .ok (.lload 4, 2) := by decide +kernel
theorem dX9_sum_84 : decode cX9_sum 84 = .ok (.lsub, 1) := by decide +kernel
theorem dX9_sum_85 : decode cX9_sum 85 = .ok (.goto 7, 3) := by decide +kernel
theorem dX9_sum_88 : decode cX9_sum 88 = .ok (.lload_n 1, 1) := by decide +kernel
theorem dX9_sum_89 : decode cX9_sum 89 = .ok (.lload 4, 2) := by decide +kernel
theorem dX9_sum_91 : decode cX9_sum 91 = .ok (.lmul, 1) := by decide +kernel
theorem dX9_sum_92 : decode cX9_sum 92 = .ok (.lstore_n 1, 1) := by decide +kernel
theorem dX9_sum_93 : decode cX9_sum 93 = .ok (.goto (-87), 3) := by decide +kernel
theorem dX9_sum_96 : decode cX9_sum 96 = .ok (.lload_n 1, 1) := by decide +kernel
theorem dX9_sum_97 : decode cX9_sum 97 = .ok (.lreturn, 1) := by decide +kernel
theorem dX9_isLetter_0 : decode cX9_isLetter 0 = .ok (.iload_n 0, 1) := by decide +kernel
theorem dX9_isLetter_1 : decode cX9_isLetter 1 = .ok (.bipush 114, 2) := by decide +kernel
theorem dX9_isLetter_3 : decode cX9_isLetter 3 = .ok (.if_icmp .eq 33, 3) := by decide +kernel
theorem dX9_isLetter_6 : decode cX9_isLetter 6 = .ok (.iload_n 0, 1) := by decide +kernel
theorem dX9_isLetter_7 : decode cX9_isLetter 7 = .ok (.bipush 119, 2) := by decide +kernel
theorem dX9_isLetter_9 : decode cX9_isLetter 9 = .ok (.if_icmp .eq 27, 3) := by decide +kernel
theorem dX9_isLetter_12 : decode cX9_isLetter 12 = .ok (.iload_n 0, 1) := by decide +kernel
theorem dX9_isLetter_13 : decode cX9_isLetter 13 = .ok (.bipush 115, 2) := by decide +kernel
theorem dX9_isLetter_15 : decode cX9_isLetter 15 = .ok (.if_icmp .eq 21, 3) := by decide +kernel
theorem dX9_isLetter_18 : decode cX9_isLetter 18 = .ok (.iload_n 0, 1) := by decide +kernel
theorem dX9_isLetter_19 : decode cX9_isLetter 19 = .ok (.bipush 110, 2) := by decide +kernel
theorem dX9_isLetter_21 : decode cX9_isLetter 21 = .ok (.if_icmp .eq 15, 3) := by decide +kernel
theorem dX9_isLetter_24 : decode cX9_isLetter 24 = .ok (.iload_n 0, 1) := by decide +kernel
theorem dX9_isLetter_25 : decode cX9_isLetter 25 = .ok (.bipush 107, 2) := by decide +kernel
theorem dX9_isLetter_27 : decode cX9_isLetter 27 = .ok (.if_icmp .eq 9, 3) := by decide +kernel
theorem dX9_isLetter_30 : decode cX9_isLetter 30 = .ok (.iload_n 0, 1) := by decide +kernel
theorem dX9_isLetter_31 : decode cX9_isLetter 31 = .ok (.bipush 112, 2) := by decide +kernel
theorem dX9_isLetter_33 : decode cX9_isLetter 33 = .ok (.if_icmp .ne 7, 3) := by decide +kernel
theorem dX9_isLetter_36 : decode cX9_isLetter 36 = .ok (.iconst 1, 1) := by decide +kernel
theorem dX9_isLetter_37 : decode cX9_isLetter 37 = .ok (.goto 4, 3) := by decide +kernel
theorem dX9_isLetter_40 : decode cX9_isLetter 40 = .ok (.iconst 0, 1) := by decide +kernel
theorem dX9_isLetter_41 : decode cX9_isLetter 41 = .ok (.ireturn, 1) := by decide +kernel
theorem dX9_isDigit_0 : decode cX9_isDigit 0 = .ok (.iload_n 0, 1) := by decide +kernel
theorem dX9_isDigit_1 : decode cX9_isDigit 1 = .ok (.bipush 48, 2) := by decide +kernel
theorem dX9_isDigit_3 : decode cX9_isDigit 3 = .ok (.if_icmp .lt 13, 3) := by decide +kernel
theorem dX9_isDigit_6 : decode cX9_isDigit 6 = .ok (.iload_n 0, 1) := by decide +kernel
theorem dX9_isDigit_7 : decode cX9_isDigit 7 = .ok (.bipush 57, 2) := by decide +kernel
theorem dX9_isDigit_9 : decode cX9_isDigit 9 = .ok (.if_icmp .gt 7, 3) := by decide +kernel
theorem dX9_isDigit_12 : decode cX9_isDigit 12 = .ok (.iconst 1, 1) := by decide +kernel
theorem dX9_isDigit_13 : decode cX9_isDigit 13 = .ok (.goto 4, 3) := by decide +kernel
theorem dX9_isDigit_16 : decode cX9_isDigit 16 = .ok (.iconst 0, 1) := by decide +kernel
theorem dX9_isDigit_17 : decode cX9_isDigit 17 = .ok (.ireturn, 1) := by decide +kernel
set_option maxRecDepth 20000 in
theorem ggX9_unit_X9_sign : GoodIn wsX9_unit wsX9_sign := goodIn_r _ [8, 2, 9, 10, 11, 18, 19, 20, 21, 22, 23, 24, 25, 26, 27, 28, 29, 30, 31, 32, 33, 34, 35, 36, 37, 38, 39, 40, 41, 42, 43, 44] (by decide +kernel) (by decide +kernel)
set_option maxRecDepth 20000 in
theorem gX9_unit_X9_sign : GoodIn wsX9_unit (wsV RX9 165 RX9 yX9_sign wsX9_sign) := goodIn_app (goodIn_of _ (by decide +kernel)) ggX9_unit_X9_sign
set_option maxRecDepth 20000 in
theorem ggX9_unit_X9_isLetter : GoodIn wsX9_unit wsX9_isLetter := goodIn_r _ [14] (by decide +kernel) (by decide +kernel)
set_option maxRecDepth 20000 in
theorem gX9_unit_X9_isLetter : GoodIn wsX9_unit (va_wsS RX9 194 yX9_isLetter wsX9_isLetter) := goodIn_app (goodIn_of _ (by decide +kernel)) ggX9_unit_X9_isLetter
set_option maxRecDepth 20000 in
theorem ggX9_unit_X9_isDigit : GoodIn wsX9_unit wsX9_isDigit := goodIn_r _ [17] (by decide +kernel) (by decide +kernel)
set_option maxRecDepth 20000 in
theorem gX9_unit_X9_isDigit : GoodIn wsX9_unit (va_wsS RX9 197 yX9_isDigit wsX9_isDigit) := goodIn_app (goodIn_of _ (by decide +kernel)) ggX9_unit_X9_isDigit
theorem dX9_unit_0 : decode cX9_unit 0 = .ok (.aload_n 0, 1) := by decide +kernel
theorem dX9_unit_1 : decode cX9_unit 1 = .ok (.getfield 161, 3) := by decide +kernel
theorem dX9_unit_4 : decode cX9_unit 4 = .ok (.ifCond .ne 5, 3) := by decide +kernel
theorem dX9_unit_7 : decode cX9_unit 7 = .ok (.iconst 0, 1) := by decide +kernel
theorem dX9_unit_8 : decode cX9_unit 8 = .ok (.ireturn, 1) := by decide +kernel
theorem dX9_unit_9 : decode cX9_unit 9 = .ok (.aload_n 0, 1) := by decide +kernel
theorem dX9_unit_10 : decode cX9_unit 10 = .ok (.invokevirtual 165, 3) := by decide +kernel
theorem dX9_unit_13 : decode cX9_unit 13 = .ok (.istore_n 1, 1) := by decide +kernel
theorem dX9_unit_14 : decode cX9_unit 14 = .ok (.iload_n 1, 1) := by decide +kernel
theorem dX9_unit_15 : decode cX9_unit 15 = .ok (.invokestatic 194, 3) := by decide +kernel
theorem dX9_unit_18 : decode cX9_unit 18 = .ok (.ifCond .eq 20, 3) := by decide +kernel
theorem dX9_unit_21 : decode cX9_unit 21 = .ok (.aload_n 0, 1) := by decide +kernel
theorem dX9_unit_22 : decode cX9_unit 22 = .ok (.dup, 1) := by decide +kernel
theorem dX9_unit_23 : decode cX9_unit 23 = .ok (.getfield 152, 3) := by decide +kernel
theorem dX9_unit_26 : decode cX9_unit 26 = .ok (.iconst 1, 1) := by decide +kernel
theorem dX9_unit_27 : decode cX9_unit 27 = .ok (.iadd, 1) := by decide +kernel
theorem dX9_unit_28 : decode cX9_unit 28 = .ok (.putfield 152, 3) := by decide +kernel
theorem dX9_unit_31 : decode cX9_unit 31 = .ok (.aload_n 0, 1) := by decide +kernel
theorem dX9_unit_32 : decode cX9_unit 32 = .ok (.getfield 48, 3) := by decide +kernel
theorem dX9_unit_35 : decode cX9_unit 35 = .ok (.iload_n 1, 1) := by decide +kernel
theorem dX9_unit_36 : decode cX9_unit 36 = .ok (.iaload, 1) := by decide +kernel
theorem dX9_unit_37 : decode cX9_unit 37 = .ok (.ireturn, 1) := by decide +kernel
theorem dX9_unit_38 : decode cX9_unit 38 = .ok (.iload_n 1, 1) := by decide +kernel
theorem dX9_unit_39 : decode cX9_unit 39 = .ok (.invokestatic 197, 3) := by decide +kernel
theorem dX9_unit_42 : decode cX9_unit 42 = .ok (.ifCond .ne 10, 3) := by decide +kernel
theorem dX9_unit_45 : decode cX9_unit 45 = .ok (.aload_n 0, 1) := by decide +kernel
theorem dX9_unit_46 : decode cX9_unit 46 = .ok (.iconst 0, 1) := by decide +kernel
theorem dX9_unit_47 : decode cX9_unit 47 = .ok (.putfield 161, 3) := by decide +kernel
theorem dX9_unit_50 : decode cX9_unit 50 = .ok (.iconst 0, 1) := by decide +kernel
theorem dX9_unit_51 : decode cX9_unit 51 = .ok (.ireturn, 1) := by decide +kernel
theorem dX9_unit_52 : decode cX9_unit 52 = .ok (.aload_n 0, 1) := by decide +kernel
theorem dX9_unit_53 : decode cX9_unit 53 = .ok (.dup, 1) := by decide +kernel
theorem dX9_unit_54 : decode cX9_unit 54 = .ok (.getfield 152, 3) := by decide +kernel
theorem dX9_unit_57 : decode cX9_unit 57 = .ok (.iconst 1, 1) := by decide +kernel
theorem dX9_unit_58 : decode cX9_unit 58 = .ok (.iadd, 1) := by decide +kernel
theorem dX9_unit_59 : decode cX9_unit 59 = .ok (.putfield 152, 3) := by decide +kernel
theorem dX9_unit_62 : decode cX9_unit 62 = .ok (.iload_n 1, 1) := by decide +kernel
theorem dX9_unit_63 : decode cX9_unit 63 = .ok (.bipush 48, 2) := by decide +kernel
theorem dX9_unit_65 : decode cX9_unit 65 = .ok (.isub, 1) := by decide +kernel
theorem dX9_unit_66 : decode cX9_unit 66 = .ok (.istore_n 2, 1) := by decide +kernel
theorem dX9_unit_67 : decode cX9_unit 67 = .ok (.aload_n 0, 1) := by decide +kernel
theorem dX9_unit_68 : decode cX9_unit 68 = .ok (.invokevirtual 165, 3) := by decide +kernel
theorem dX9_unit_71 : decode cX9_unit 71 = .ok (.invokestatic 197, 3) := by decide +kernel
theorem dX9_unit_74 : decode cX9_unit 74 = .ok (.ifCond .eq 26, 3) := by decide +kernel
theorem dX9_unit_77 : decode cX9_unit 77 = .ok (.bipush 10, 2) := by decide +kernel
theorem dX9_unit_79 : decode cX9_unit 79 = .ok (.iload_n 2, 1) := by decide +kernel
theorem dX9_unit_80 : decode cX9_unit 80 = .ok (.imul, 1) := by decide +kernel
theorem dX9_unit_81 : decode cX9_unit 81 = .ok (.aload_n 0, 1) := by decide +kernel
theorem dX9_unit_82 : decode cX9_unit 82 = .ok (.invokevirtual 165, 3) := by decide +kernel
theorem dX9_unit_85 : decode cX9_unit 85 = .ok (.iadd, 1) := by decide +kernel
theorem dX9_unit_86 : decode cX9_unit 86 = .ok (.bipush 48, 2) := by decide +kernel
theorem dX9_unit_88 : decode cX9_unit 88 = .ok (.isub, 1) := by decide +kernel
theorem dX9_unit_89 : decode cX9_unit 89 = .ok (.istore_n 2, 1) := by decide +kernel
theorem dX9_unit_90 : decode cX9_unit 90 = .ok (.aload_n 0, 1) := by decide +kernel
theorem dX9_unit_91 : decode cX9_unit 91 = .ok (.dup, 1) := by decide +kernel
theorem dX9_unit_92 : decode cX9_unit 92 = .ok (.getfield 152, 3) := by decide +kernel
theorem dX9_unit_95 : decode cX9_unit 95 = .ok (.iconst 1, 1) := by decide +kernel
theorem dX9_unit_96 : decode cX9_unit 96 = .ok (.iadd, 1) := by decide +kernel
theorem dX9_unit_97 : decode cX9_unit 97 = .ok (.putfield 152, 3) := by decide +kernel
theorem dX9_unit_100 : decode cX9_unit 100 = .ok (.iload_n 2, 1) := by decide +kernel
theorem dX9_unit_101 : decode cX9_unit 101 = .ok (.ireturn, 1) := by decide +kernel
set_option maxRecDepth 20000 in
theorem ggX9_goesThrough_X9_or : GoodIn wsX9_goesThrough wsX9_or := goodIn_r _ [11, 12, 13, 14, 10, 15, 16, 17, 18, 6, 4, 19, 20, 21, 22, 3, 1, 2, 23, 24, 25, 26, 27, 5, 28, 29, 30, 31, 7, 8, 9, 32, 33, 34, 35, 36, 37, 38, 39, 40, 41, 42, 43, 44, 45, 46, 47, 48, 49, 50, 51, 52, 53, 54, 55, 56, 57, 58, 59, 60, 61, 62, 63, 64, 65, 66, 67, 68, 69, 70, 71, 72, 73] (by decide +kernel) (by decide +kernel)
set_option maxRecDepth 20000 in
theorem gX9_goesThrough_X9_or : GoodIn wsX9_goesThrough (wsV RX9 185 RX9 yX9_or wsX9_or) := goodIn_app (goodIn_of _ (by decide +kernel)) ggX9_goesThrough_X9_or
theorem dX9_goesThrough_0 : decode cX9_goesThrough 0 = .ok (.aload_n 0, 1) := by decide +kernel
theorem dX9_goesThrough_1 : decode cX9_goesThrough 1 = .ok (.aload_n 1, 1) := by decide +kernel
theorem dX9_goesThrough_2 : decode cX9_goesThrough 2 = .ok (.putfield 51, 3) := by decide +kernel
theorem dX9_goesThrough_5 : decode cX9_goesThrough 5 = .ok (.aload_n 0, 1) := by decide +kernel
theorem dX9_goesThrough_6 : decode cX9_goesThrough 6 = .ok (.iload_n 2, 1) := by decide +kernel
theorem dX9_goesThrough_7 : decode cX9_goesThrough 7 = .ok (.putfield 158, 3) := by decide +kernel
theorem dX9_goesThrough_10 : decode cX9_goesThrough 10 = .ok (.aload_n 0, 1) := by decide +kernel
theorem dX9_goesThrough_11 : decode cX9_goesThrough 11 = .ok (.iload_n 3, 1) := by decide +kernel
theorem dX9_goesThrough_12 : decode cX9_goesThrough 12 = .ok (.putfield 155, 3) := by decide +kernel
theorem dX9_goesThrough_15 : decode cX9_goesThrough 15 = .ok (.aload_n 0, 1) := by decide +kernel
theorem dX9_goesThrough_16 : decode cX9_goesThrough 16 = .ok (.iconst 0, 1) := by decide +kernel
theorem dX9_goesThrough_17 : decode cX9_goesThrough 17 = .ok (.putfield 152, 3) := by decide +kernel
theorem dX9_goesThrough_20 : decode cX9_goesThrough 20 = .ok (.aload_n 0, 1) := by decide +kernel
theorem dX9_goesThrough_21 : decode cX9_goesThrough 21 = .ok (.iconst 0, 1) := by decide +kernel
theorem dX9_goesThrough_22 : decode cX9_goesThrough 22 = .ok (.putfield 179, 3) := by decide +kernel
theorem dX9_goesThrough_25 : decode cX9_goesThrough 25 = .ok (.aload_n 0, 1) := by decide +kernel
theorem dX9_goesThrough_26 : decode cX9_goesThrough 26 = .ok (.iconst 1, 1) := by decide +kernel
theorem dX9_goesThrough_27 : decode cX9_goesThrough 27 = .ok (.putfield 161, 3) := by decide +kernel
theorem dX9_goesThrough_30 : decode cX9_goesThrough 30 = .ok (.aload_n 0, 1) := by decide +kernel
theorem dX9_goesThrough_31 : decode cX9_goesThrough 31 = .ok (.invokevirtual 185, 3) := by decide +kernel
theorem dX9_goesThrough_34 : decode cX9_goesThrough 34 = .ok (.ireturn, 1) := by decide +kernel
set_option maxRecDepth 20000 in
theorem ggX9_rule_X9_refuse : GoodIn wsX9_rule wsX9_refuse := goodIn_r _ [12, 13, 61, 62, 63, 64, 65, 66, 67, 68, 69, 70, 71, 72, 73, 74, 75, 76, 77, 78, 79, 80, 81, 82, 83, 84, 85, 86, 87] (by decide +kernel) (by decide +kernel)
set_option maxRecDepth 20000 in
theorem gX9_rule_X9_refuse : GoodIn wsX9_rule (wsV RX9 56 RX9 yX9_refuse wsX9_refuse) := goodIn_app (goodIn_of _ (by decide +kernel)) ggX9_rule_X9_refuse
set_option maxRecDepth 20000 in
theorem ggX9_rule_X9_goesThrough : GoodIn wsX9_rule wsX9_goesThrough := goodIn_r _ [17, 18, 19, 20, 5, 21, 4, 22, 23, 24, 11, 25, 26, 27, 28, 29, 30, 31, 32, 33, 34, 35, 36, 37, 38, 39, 40, 41, 42, 43, 44, 45, 46, 47, 48, 49, 50, 51, 52, 53, 54, 55, 56, 57, 58, 59, 60, 61, 62, 63, 64, 65, 66, 67, 68, 69, 70, 71, 72, 73, 74, 75, 76, 77, 78, 79, 80, 81, 82, 83, 84, 85, 86, 87] (by decide +kernel) (by decide +kernel)
set_option maxRecDepth 20000 in
theorem gX9_rule_X9_goesThrough : GoodIn wsX9_rule (wsV RX9 203 RX9 yX9_goesThrough wsX9_goesThrough) := goodIn_app (goodIn_of _ (by decide +kernel)) ggX9_rule_X9_goesThrough
theorem dX9_rule_0 : decode cX9_rule 0 = .ok (.aload_n 0, 1) := by decide +kernel
theorem dX9_rule_1 : decode cX9_rule 1 = .ok (.getfield 200, 3) := by decide +kernel
theorem dX9_rule_4 : decode cX9_rule 4 = .ok (.bipush 20, 2) := by decide +kernel
theorem dX9_rule_6 : decode cX9_rule 6 = .ok (.if_icmp .ne 10, 3) := by decide +kernel
theorem dX9_rule_9 : decode cX9_rule 9 = .ok (.aload_n 0, 1) := by decide +kernel
theorem dX9_rule_10 : decode cX9_rule 10 = .ok (.bipush (-6), 2) := by decide +kernel
theorem dX9_rule_12 : decode cX9_rule 12 = .ok (.invokevirtual 56, 3) := by decide +kernel
theorem dX9_rule_15 : decode cX9_rule 15 = .ok (.ireturn, 1) := by decide +kernel
theorem dX9_rule_16 : decode cX9_rule 16 = .ok (.aload_n 0, 1) := by decide +kernel
theorem dX9_rule_17 : decode cX9_rule 17 = .ok (.aload_n 0, 1) := by decide +kernel
theorem dX9_rule_18 : decode cX9_rule 18 = .ok (.getfield 45, 3) := by decide +kernel
theorem dX9_rule_21 : decode cX9_rule 21 = .ok (.iconst 0, 1) := by decide +kernel
theorem dX9_rule_22 : decode cX9_rule 22 = .ok (.aload_n 0, 1) := by decide +kernel
theorem dX9_rule_23 : decode cX9_rule 23 = .ok (.getfield 147, 3) := by decide +kernel
theorem dX9_rule_26 : decode cX9_rule 26 = .ok (.invokevirtual 203, 3) := by decide +kernel
theorem dX9_rule_29 : decode cX9_rule 29 = .ok (.istore_n 1, 1) := by decide +kernel
theorem dX9_rule_30 : decode cX9_rule 30 = .ok (.aload_n 0, 1) := by decide +kernel
theorem dX9_rule_31 : decode cX9_rule 31 = .ok (.getfield 161, 3) := by decide +kernel
theorem dX9_rule_34 : decode cX9_rule 34 = .ok (.ifCond .eq 18, 3) := by decide +kernel
theorem dX9_rule_37 : decode cX9_rule 37 = .ok (.aload_n 0, 1) := by decide +kernel
theorem dX9_rule_38 : decode cX9_rule 38 = .ok (.getfield 152, 3) := by decide +kernel
theorem dX9_rule_41 : decode cX9_rule 41 = .ok (.aload_n 0, 1) := by decide +kernel
theorem dX9_rule_42 : decode cX9_rule 42 = .ok (.getfield 147, 3) := by decide +kernel
theorem dX9_rule_45 : decode cX9_rule 45 = .ok (.if_icmp .ne 7, 3) := by decide +kernel
theorem dX9_rule_48 : decode cX9_rule 48 = .ok (.iconst 1, 1) := by decide +kernel
theorem dX9_rule_49 : decode cX9_rule 49 = .ok (.goto 4, 3) := by decide +kernel
theorem dX9_rule_52 : decode cX9_rule 52 = .ok (.iconst 0, 1) := by decide +kernel
theorem dX9_rule_53 : decode cX9_rule 53 = .ok (.istore_n 2, 1) := by decide +kernel
theorem dX9_rule_54 : decode cX9_rule 54 = .ok (.aload_n 0, 1) := by decide +kernel
theorem dX9_rule_55 : decode cX9_rule 55 = .ok (.getfield 147, 3) := by decide +kernel
theorem dX9_rule_58 : decode cX9_rule 58 = .ok (.istore_n 3, 1) := by decide +kernel
theorem dX9_rule_59 : decode cX9_rule 59 = .ok (.aload_n 0, 1) := by decide +kernel
theorem dX9_rule_60 : decode cX9_rule 60 = .ok (.iconst 0, 1) := by decide +kernel
theorem dX9_rule_61 : decode cX9_rule 61 = .ok (.putfield 147, 3) := by decide +kernel
theorem dX9_rule_64 : decode cX9_rule 64 = .ok (.iload_n 2, 1) := by decide +kernel
theorem dX9_rule_65 : decode cX9_rule 65 = .ok (.ifCond .ne 11, 3) := by decide +kernel
theorem dX9_rule_68 : decode cX9_rule 68 = .ok (.bipush (-20), 2) := by decide +kernel
theorem dX9_rule_70 : decode cX9_rule 70 = .ok (.aload_n 0, 1) := by decide +kernel
theorem dX9_rule_71 : decode cX9_rule 71 = .ok (.getfield 152, 3) := by decide +kernel
theorem dX9_rule_74 : decode cX9_rule 74 = .ok (.isub, 1) := by decide +kernel
theorem dX9_rule_75 : decode cX9_rule 75 = .ok (.ireturn, 1) := by decide +kernel
theorem dX9_rule_76 : decode cX9_rule 76 = .ok (.iconst 0, 1) := by decide +kernel
theorem dX9_rule_77 : decode cX9_rule 77 = .ok (.istore 4, 2) := by decide +kernel
theorem dX9_rule_79 : decode cX9_rule 79 = .ok (.iload 4, 2) := by decide +kernel
theorem dX9_rule_81 : decode cX9_rule 81 = .ok (.iload_n 3, 1) := by decide +kernel
theorem dX9_rule_82 : decode cX9_rule 82 = .ok (.if_icmp .ge 31, 3) := by decide +kernel
theorem dX9_rule_85 : decode cX9_rule 85 = .ok (.aload_n 0, 1) := by decide +kernel
theorem dX9_rule_86 : decode cX9_rule 86 = .ok (.getfield 22, 3) := by decide +kernel
theorem dX9_rule_89 : decode cX9_rule 89 = .ok (.bipush 40, 2) := by decide +kernel
theorem dX9_rule_91 : decode cX9_rule 91 = .ok (.aload_n 0, 1) := by decide +kernel
theorem dX9_rule_92 : decode cX9_rule 92 = .ok (.getfield 200, 3) := by decide +kernel
theorem dX9_rule_95 : decode cX9_rule 95 = .ok (.imul, 1) := by decide +kernel
theorem dX9_rule_96 : decode cX9_rule 96 = .ok (.iload 4, 2) := by decide +kernel
theorem dX9_rule_98 : decode cX9_rule 98 = .ok (.iadd, 1) := by decide +kernel
theorem dX9_rule_99 : decode cX9_rule 99 = .ok (.aload_n 0, 1) := by decide +kernel
theorem dX9_rule_100 : decode cX9_rule 100 = .ok (.getfield 45, 3) := by decide +kernel
theorem dX9_rule_103 : decode cX9_rule 103 = .ok (.iload 4, 2) := by decide +kernel
theorem dX9_rule_105 : decode cX9_rule 105 = .ok (.iaload, 1) := by decide +kernel
theorem dX9_rule_106 : decode cX9_rule 106 = .ok (.iastore, 1) := by decide +kernel
theorem dX9_rule_107 : decode cX9_rule 107 = .ok (.iinc 4 1, 3) := by decide +kernel
theorem dX9_rule_110 : decode cX9_rule 110 = .ok (.goto (-31), 3) := by decide +kernel
theorem dX9_rule_113 : decode cX9_rule 113 = .ok (.aload_n 0, 1) := by decide +kernel
theorem dX9_rule_114 : decode cX9_rule 114 = .ok (.getfield 25, 3) := by decide +kernel
theorem dX9_rule_117 : decode cX9_rule 117 = .ok (.aload_n 0, 1) := by decide +kernel
theorem dX9_rule_118 : decode cX9_rule 118 = .ok (.getfield 200, 3) := by decide +kernel
theorem dX9_rule_121 : decode cX9_rule 121 = .ok (.iload_n 3, 1) := by decide +kernel
theorem dX9_rule_122 : decode cX9_rule 122 = .ok (.iastore, 1) := by decide +kernel
theorem dX9_rule_123 : decode cX9_rule 123 = .ok (.aload_n 0, 1) := by decide +kernel
theorem dX9_rule_124 : decode cX9_rule 124 = .ok (.dup, 1) := by decide +kernel
theorem dX9_rule_125 : decode cX9_rule 125 = .ok (.getfield 200, 3) := by decide +kernel
theorem dX9_rule_128 : decode cX9_rule 128 = .ok (.iconst 1, 1) := by decide +kernel
theorem dX9_rule_129 : decode cX9_rule 129 = .ok (.iadd, 1) := by decide +kernel
theorem dX9_rule_130 : decode cX9_rule 130 = .ok (.putfield 200, 3) := by decide +kernel
theorem dX9_rule_133 : decode cX9_rule 133 = .ok (.aload_n 0, 1) := by decide +kernel
theorem dX9_rule_134 : decode cX9_rule 134 = .ok (.getfield 200, 3) := by decide +kernel
theorem dX9_rule_137 : decode cX9_rule 137 = .ok (.iconst 1, 1) := by decide +kernel
theorem dX9_rule_138 : decode cX9_rule 138 = .ok (.isub, 1) := by decide +kernel
theorem dX9_rule_139 : decode cX9_rule 139 = .ok (.ireturn, 1) := by decide +kernel
set_option maxRecDepth 20000 in
theorem ggX9_isRule_X9_isIn : GoodIn wsX9_isRule wsX9_isIn := goodIn_r _ [5] (by decide +kernel) (by decide +kernel)
set_option maxRecDepth 20000 in
theorem gX9_isRule_X9_isIn : GoodIn wsX9_isRule (va_wsS RX9 64 yX9_isIn wsX9_isIn) := goodIn_app (goodIn_of _ (by decide +kernel)) ggX9_isRule_X9_isIn
theorem dX9_isRule_0 : decode cX9_isRule 0 = .ok (.iload_n 1, 1) := by decide +kernel
theorem dX9_isRule_1 : decode cX9_isRule 1 = .ok (.aload_n 0, 1) := by decide +kernel
theorem dX9_isRule_2 : decode cX9_isRule 2 = .ok (.getfield 200, 3) := by decide +kernel
theorem dX9_isRule_5 : decode cX9_isRule 5 = .ok (.invokestatic 64, 3) := by decide +kernel
theorem dX9_isRule_8 : decode cX9_isRule 8 = .ok (.ireturn, 1) := by decide +kernel
set_option maxRecDepth 20000 in
theorem ggX9_holds_X9_sizeOf : GoodIn wsX9_holds wsX9_sizeOf := goodIn_r _ [10] (by decide +kernel) (by decide +kernel)
set_option maxRecDepth 20000 in
theorem gX9_holds_X9_sizeOf : GoodIn wsX9_holds (va_wsS RX9 79 yX9_sizeOf wsX9_sizeOf) := goodIn_app (goodIn_of _ (by decide +kernel)) ggX9_holds_X9_sizeOf
set_option maxRecDepth 20000 in
theorem ggX9_holds_X9_goesThrough : GoodIn wsX9_holds wsX9_goesThrough := goodIn_r _ [14, 15, 16, 17, 18, 19, 20, 21, 22, 23, 9, 24, 25, 26, 27, 28, 29, 30, 31, 32, 33, 34, 35, 36, 37, 38, 39, 40, 41, 42, 43, 44, 45, 46, 47, 48, 49, 50, 51, 52, 3, 53, 54, 55, 56, 57, 58, 59, 60, 61, 62, 63, 64, 65, 66, 67, 68, 69, 70, 71, 72, 73, 74, 75, 76, 77, 78, 79, 80, 81, 82, 83, 84, 85] (by decide +kernel) (by decide +kernel)
set_option maxRecDepth 20000 in
theorem gX9_holds_X9_goesThrough : GoodIn wsX9_holds (wsV RX9 203 RX9 yX9_goesThrough wsX9_goesThrough) := goodIn_app (goodIn_of _ (by decide +kernel)) ggX9_holds_X9_goesThrough
theorem dX9_holds_0 : decode cX9_holds 0 = .ok (.aload_n 0, 1) := by decide +kernel
theorem dX9_holds_1 : decode cX9_holds 1 = .ok (.getfield 13, 3) := by decide +kernel
theorem dX9_holds_4 : decode cX9_holds 4 = .ok (.iload_n 2, 1) := by decide +kernel
theorem dX9_holds_5 : decode cX9_holds 5 = .ok (.iaload, 1) := by decide +kernel
theorem dX9_holds_6 : decode cX9_holds 6 = .ok (.aload_n 0, 1) := by decide +kernel
theorem dX9_holds_7 : decode cX9_holds 7 = .ok (.getfield 16, 3) := by decide +kernel
theorem dX9_holds_10 : decode cX9_holds 10 = .ok (.iload_n 2, 1) := by decide +kernel
theorem dX9_holds_11 : decode cX9_holds 11 = .ok (.iaload, 1) := by decide +kernel
theorem dX9_holds_12 : decode cX9_holds 12 = .ok (.invokestatic 79, 3) := by decide +kernel
theorem dX9_holds_15 : decode cX9_holds 15 = .ok (.istore 4, 2) := by decide +kernel
theorem dX9_holds_17 : decode cX9_holds 17 = .ok (.aload_n 0, 1) := by decide +kernel
theorem dX9_holds_18 : decode cX9_holds 18 = .ok (.getfield 48, 3) := by decide +kernel
theorem dX9_holds_21 : decode cX9_holds 21 = .ok (.bipush 114, 2) := by decide +kernel
theorem dX9_holds_23 : decode cX9_holds 23 = .ok (.iload_n 3, 1) := by decide +kernel
theorem dX9_holds_24 : decode cX9_holds 24 = .ok (.iastore, 1) := by decide +kernel
theorem dX9_holds_25 : decode cX9_holds 25 = .ok (.aload_n 0, 1) := by decide +kernel
theorem dX9_holds_26 : decode cX9_holds 26 = .ok (.getfield 48, 3) := by decide +kernel
theorem dX9_holds_29 : decode cX9_holds 29 = .ok (.bipush 119, 2) := by decide +kernel
theorem dX9_holds_31 : decode cX9_holds 31 = .ok (.iload 4, 2) := by decide +kernel
theorem dX9_holds_33 : decode cX9_holds 33 = .ok (.iload_n 3, 1) := by decide +kernel
theorem dX9_holds_34 : decode cX9_holds 34 = .ok (.isub, 1) := by decide +kernel
theorem dX9_holds_35 : decode cX9_holds 35 = .ok (.iastore, 1) := by decide +kernel
theorem dX9_holds_36 : decode cX9_holds 36 = .ok (.aload_n 0, 1) := by decide +kernel
theorem dX9_holds_37 : decode cX9_holds 37 = .ok (.getfield 48, 3) := by decide +kernel
theorem dX9_holds_40 : decode cX9_holds 40 = .ok (.bipush 115, 2) := by decide +kernel
theorem dX9_holds_42 : decode cX9_holds 42 = .ok (.iload 4, 2) := by decide +kernel
theorem dX9_holds_44 : decode cX9_holds 44 = .ok (.iastore, 1) := by decide +kernel
theorem dX9_holds_45 : decode cX9_holds 45 = .ok (.aload_n 0, 1) := by decide +kernel
theorem dX9_holds_46 : decode cX9_holds 46 = .ok (.getfield 48, 3) := by decide +kernel
theorem dX9_holds_49 : decode cX9_holds 49 = .ok (.bipush 110, 2) := by decide +kernel
theorem dX9_holds_51 : decode cX9_holds 51 = .ok (.aload_n 0, 1) := by decide +kernel
theorem dX9_holds_52 : decode cX9_holds 52 = .ok (.getfield 16, 3) := by decide +kernel
theorem dX9_holds_55 : decode cX9_holds 55 = .ok (.iload_n 2, 1) := by decide +kernel
theorem dX9_holds_56 : decode cX9_holds 56 = .ok (.iaload, 1) := by decide +kernel
theorem dX9_holds_57 : decode cX9_holds 57 = .ok (.iastore, 1) := by decide +kernel
theorem dX9_holds_58 : decode cX9_holds 58 = .ok (.aload_n 0, 1) := by decide +kernel
theorem dX9_holds_59 : decode cX9_holds 59 = .ok (.getfield 48, 3) := by decide +kernel
theorem dX9_holds_62 : decode cX9_holds 62 = .ok (.bipush 107, 2) := by decide +kernel
theorem dX9_holds_64 : decode cX9_holds 64 = .ok (.aload_n 0, 1) := by decide +kernel
theorem dX9_holds_65 : decode cX9_holds 65 = .ok (.getfield 19, 3) := by decide +kernel
theorem dX9_holds_68 : decode cX9_holds 68 = .ok (.iload_n 2, 1) := by decide +kernel
theorem dX9_holds_69 : decode cX9_holds 69 = .ok (.iaload, 1) := by decide +kernel
theorem dX9_holds_70 : decode cX9_holds 70 = .ok (.iastore, 1) := by decide +kernel
theorem dX9_holds_71 : decode cX9_holds 71 = .ok (.aload_n 0, 1) := by decide +kernel
theorem dX9_holds_72 : decode cX9_holds 72 = .ok (.getfield 48, 3) := by decide +kernel
theorem dX9_holds_75 : decode cX9_holds 75 = .ok (.bipush 112, 2) := by decide +kernel
theorem dX9_holds_77 : decode cX9_holds 77 = .ok (.aload_n 0, 1) := by decide +kernel
theorem dX9_holds_78 : decode cX9_holds 78 = .ok (.getfield 13, 3) := by decide +kernel
theorem dX9_holds_81 : decode cX9_holds 81 = .ok (.iload_n 2, 1) := by decide +kernel
theorem dX9_holds_82 : decode cX9_holds 82 = .ok (.iaload, 1) := by decide +kernel
theorem dX9_holds_83 : decode cX9_holds 83 = .ok (.iastore, 1) := by decide +kernel
theorem dX9_holds_84 : decode cX9_holds 84 = .ok (.aload_n 0, 1) := by decide +kernel
theorem dX9_holds_85 : decode cX9_holds 85 = .ok (.aload_n 0, 1) := by decide +kernel
theorem dX9_holds_86 : decode cX9_holds 86 = .ok (.getfield 22, 3) := by decide +kernel
theorem dX9_holds_89 : decode cX9_holds 89 = .ok (.bipush 40, 2) := by decide +kernel
theorem dX9_holds_91 : decode cX9_holds 91 = .ok (.iload_n 1, 1) := by decide +kernel
theorem dX9_holds_92 : decode cX9_holds 92 = .ok (.imul, 1) := by decide +kernel
theorem dX9_holds_93 : decode cX9_holds 93 = .ok (.aload_n 0, 1) := by decide +kernel
theorem dX9_holds_94 : decode cX9_holds 94 = .ok (.getfield 25, 3) := by decide +kernel
theorem dX9_holds_97 : decode cX9_holds 97 = .ok (.iload_n 1, 1) := by decide +kernel
theorem dX9_holds_98 : decode cX9_holds 98 = .ok (.iaload, 1) := by decide +kernel
theorem dX9_holds_99 : decode cX9_holds 99 = .ok (.invokevirtual 203, 3) := by decide +kernel
theorem dX9_holds_102 : decode cX9_holds 102 = .ok (.ireturn, 1) := by decide +kernel
set_option maxRecDepth 20000 in
theorem ggX9_believes_X9_isRule : GoodIn wsX9_believes wsX9_isRule := goodIn_r _ [7, 8, 9, 10, 6, 11, 84, 85, 86, 87, 88, 89, 90, 91, 92, 93, 94, 95, 96, 97, 98, 99, 100, 101, 102, 103, 104, 105, 106, 107, 108, 109, 110] (by decide +kernel) (by decide +kernel)
set_option maxRecDepth 20000 in
theorem gX9_believes_X9_isRule : GoodIn wsX9_believes (wsV RX9 207 RX9 yX9_isRule wsX9_isRule) := goodIn_app (goodIn_of _ (by decide +kernel)) ggX9_believes_X9_isRule
set_option maxRecDepth 20000 in
theorem ggX9_believes_X9_isPlan : GoodIn wsX9_believes wsX9_isPlan := goodIn_r _ [15, 16, 9, 10, 6, 11, 84, 85, 86, 87, 88, 89, 90, 91, 92, 93, 94, 95, 96, 97, 98, 99, 100, 101, 102, 103, 104, 105, 106, 107, 108, 109, 110] (by decide +kernel) (by decide +kernel)
set_option maxRecDepth 20000 in
theorem gX9_believes_X9_isPlan : GoodIn wsX9_believes (wsV RX9 75 RX9 yX9_isPlan wsX9_isPlan) := goodIn_app (goodIn_of _ (by decide +kernel)) ggX9_believes_X9_isPlan
set_option maxRecDepth 20000 in
theorem ggX9_believes_X9_sizeOf : GoodIn wsX9_believes wsX9_sizeOf := goodIn_r _ [19] (by decide +kernel) (by decide +kernel)
set_option maxRecDepth 20000 in
theorem gX9_believes_X9_sizeOf : GoodIn wsX9_believes (va_wsS RX9 79 yX9_sizeOf wsX9_sizeOf) := goodIn_app (goodIn_of _ (by decide +kernel)) ggX9_believes_X9_sizeOf
set_option maxRecDepth 20000 in
theorem ggX9_believes_X9_within : GoodIn wsX9_believes wsX9_within := goodIn_r _ [22] (by decide +kernel) (by decide +kernel)
set_option maxRecDepth 20000 in
theorem gX9_believes_X9_within : GoodIn wsX9_believes (va_wsS RX9 121 yX9_within wsX9_within) := goodIn_app (goodIn_of _ (by decide +kernel)) ggX9_believes_X9_within
set_option maxRecDepth 20000 in
theorem ggX9_believes_X9_refuse : GoodIn wsX9_believes wsX9_refuse := goodIn_r _ [26, 27, 84, 85, 86, 87, 88, 89, 90, 91, 92, 93, 94, 95, 96, 97, 98, 99, 100, 101, 102, 103, 104, 105, 106, 107, 108, 109, 110] (by decide +kernel) (by decide +kernel)
set_option maxRecDepth 20000 in
theorem gX9_believes_X9_refuse : GoodIn wsX9_believes (wsV RX9 56 RX9 yX9_refuse wsX9_refuse) := goodIn_app (goodIn_of _ (by decide +kernel)) ggX9_believes_X9_refuse
set_option maxRecDepth 20000 in
theorem ggX9_believes_X9_holds : GoodIn wsX9_believes wsX9_holds := goodIn_r _ [31, 1, 2, 32, 33, 34, 35, 17, 18, 6, 19, 36, 37, 38, 39, 40, 41, 42, 43, 44, 45, 46, 47, 48, 49, 50, 51, 52, 53, 54, 55, 56, 57, 58, 59, 60, 61, 62, 63, 64, 65, 66, 67, 68, 69, 70, 71, 72, 73, 74, 75, 76, 77, 78, 79, 80, 81, 82, 83, 84, 85, 86, 87, 88, 89, 90, 91, 92, 93, 94, 95, 96, 97, 98, 99, 100, 101, 102, 103, 104, 105, 106, 107, 108, 109, 110] (by decide +kernel) (by decide +kernel)
set_option maxRecDepth 20000 in
theorem gX9_believes_X9_holds : GoodIn wsX9_believes (wsV RX9 210 RX9 yX9_holds wsX9_holds) := goodIn_app (goodIn_of _ (by decide +kernel)) ggX9_believes_X9_holds
theorem dX9_believes_0 : decode cX9_believes 0 = .ok (.aload_n 0, 1) := by decide +kernel
theorem dX9_believes_1 : decode cX9_believes 1 = .ok (.iload_n 1, 1) := by decide +kernel
theorem dX9_believes_2 : decode cX9_believes 2 = .ok (.invokevirtual 207, 3) := by decide +kernel
theorem dX9_believes_5 : decode cX9_believes 5 = .ok (.ifCond .eq 34, 3) := by decide +kernel
theorem dX9_believes_8 : decode cX9_believes 8 = .ok (.aload_n 0, 1) := by decide +kernel
theorem dX9_believes_9 : decode cX9_believes 9 = .ok (.iload_n 2, 1) := by decide +kernel
theorem dX9_believes_10 : decode cX9_believes 10 = .ok (.invokevirtual 75, 3) := by decide +kernel
theorem dX9_believes_13 : decode cX9_believes 13 = .ok (.ifCond .eq 26, 3) := by decide +kernel
theorem dX9_believes_16 : decode cX9_believes 16 = .ok (.iload_n 3, 1) := by decide +kernel
theorem dX9_believes_17 : decode cX9_believes 17 = .ok (.iconst 0, 1) := by decide +kernel
theorem dX9_believes_18 : decode cX9_believes 18 = .ok (.aload_n 0, 1) := by decide +kernel
theorem dX9_believes_19 : decode cX9_believes 19 = .ok (.getfield 13, 3) := by decide +kernel
theorem dX9_believes_22 : decode cX9_believes 22 = .ok (.iload_n 2, 1) := by decide +kernel
theorem dX9_believes_23 : decode cX9_believes 23 = .ok (.iaload, 1) := by decide +kernel
theorem dX9_believes_24 : decode cX9_believes 24 = .ok (.aload_n 0, 1) := by decide +kernel
theorem dX9_believes_25 : decode cX9_believes 25 = .ok (.getfield 16, 3) := by decide +kernel
theorem dX9_believes_28 : decode cX9_believes 28 = .ok (.iload_n 2, 1) := by decide +kernel
theorem dX9_believes_29 : decode cX9_believes 29 = .ok (.iaload, 1) := by decide +kernel
theorem dX9_believes_30 : decode cX9_believes 30 = .ok (.invokestatic 79, 3) := by decide +kernel
theorem dX9_believes_33 : decode cX9_believes 33 = .ok (.invokestatic 121, 3) := by decide +kernel
theorem dX9_believes_36 : decode cX9_believes 36 = .ok (.goto 4, 3) := by decide +kernel
theorem dX9_believes_39 : decode cX9_believes 39 = .ok (.iconst (-1), 1) := by decide +kernel
theorem dX9_believes_40 : decode cX9_believes 40 = .ok (.istore 4, 2) := by decide +kernel
theorem dX9_believes_42 : decode cX9_believes 42 = .ok (.iload 4, 2) := by decide +kernel
theorem dX9_believes_44 : decode cX9_believes 44 = .ok (.ifCond .eq 12, 3) := by decide +kernel
theorem dX9_believes_47 : decode cX9_believes 47 = .ok (.aload_n 0, 1) := by decide +kernel
theorem dX9_believes_48 : decode cX9_believes 48 = .ok (.iload 4, 2) := by decide +kernel
theorem dX9_believes_50 : decode cX9_believes 50 = .ok (.invokevirtual 56, 3) := by decide +kernel
theorem dX9_believes_53 : decode cX9_believes 53 = .ok (.goto 18, 3) := by decide +kernel
theorem dX9_believes_56 : decode cX9_believes 56 = .ok (.aload_n 0, 1) := by decide +kernel
theorem dX9_believes_57 : decode cX9_believes 57 = .ok (.iload_n 1, 1) := by decide +kernel
theorem dX9_believes_58 : decode cX9_believes 58 = .ok (.iload_n 2, 1) := by decide +kernel
theorem dX9_believes_59 : decode cX9_believes 59 = .ok (.iload_n 3, 1) := by decide +kernel
theorem dX9_believes_60 : decode cX9_believes 60 = .ok (.invokevirtual 210, 3) := by decide +kernel
theorem dX9_believes_63 : decode cX9_believes 63 = .ok (.ifCond .eq 7, 3) := by decide +kernel
theorem dX9_believes_66 : decode cX9_believes 66 = .ok (.iconst 1, 1) := by decide +kernel
theorem dX9_believes_67 : decode cX9_believes 67 = .ok (.goto 4, 3) := by decide +kernel
theorem dX9_believes_70 : decode cX9_believes 70 = .ok (.iconst 0, 1) := by decide +kernel
theorem dX9_believes_71 : decode cX9_believes 71 = .ok (.ireturn, 1) := by decide +kernel
set_option maxRecDepth 20000 in
theorem ggX9_sumBy_X9_findPlan : GoodIn wsX9_sumBy wsX9_findPlan := goodIn_r _ [8, 1, 2, 9, 10, 11, 12, 7, 13, 14, 15, 16, 17, 18, 19, 20, 21, 22, 23, 3, 24, 25, 26, 27, 28, 29, 30, 31, 32, 33, 34, 35, 36, 37, 38, 97, 98, 99, 100, 101, 102, 103, 104, 105, 106, 107, 108, 109, 110, 111, 112, 113, 114, 115, 116, 117, 118, 119, 120, 121, 122, 123] (by decide +kernel) (by decide +kernel)
set_option maxRecDepth 20000 in
theorem gX9_sumBy_X9_findPlan : GoodIn wsX9_sumBy (wsV RX9 132 RX9 yX9_findPlan wsX9_findPlan) := goodIn_app (goodIn_of _ (by decide +kernel)) ggX9_sumBy_X9_findPlan
set_option maxRecDepth 20000 in
theorem ggX9_sumBy_X9_sizeOf : GoodIn wsX9_sumBy wsX9_sizeOf := goodIn_r _ [41] (by decide +kernel) (by decide +kernel)
set_option maxRecDepth 20000 in
theorem gX9_sumBy_X9_sizeOf : GoodIn wsX9_sumBy (va_wsS RX9 79 yX9_sizeOf wsX9_sizeOf) := goodIn_app (goodIn_of _ (by decide +kernel)) ggX9_sumBy_X9_sizeOf
set_option maxRecDepth 20000 in
theorem ggX9_sumBy_X9_holds : GoodIn wsX9_sumBy wsX9_holds := goodIn_r _ [45, 1, 2, 46, 9, 47, 48, 39, 40, 7, 41, 49, 50, 51, 52, 53, 54, 55, 56, 57, 58, 59, 60, 61, 62, 63, 64, 65, 66, 67, 68, 69, 70, 71, 72, 73, 74, 75, 76, 77, 78, 79, 80, 81, 82, 83, 84, 85, 86, 87, 88, 89, 90, 91, 92, 93, 94, 95, 96, 97, 98, 99, 100, 101, 102, 103, 104, 105, 106, 107, 108, 109, 110, 111, 112, 113, 114, 115, 116, 117, 118, 119, 120, 121, 122, 123] (by decide +kernel) (by decide +kernel)
set_option maxRecDepth 20000 in
theorem gX9_sumBy_X9_holds : GoodIn wsX9_sumBy (wsV RX9 210 RX9 yX9_holds wsX9_holds) := goodIn_app (goodIn_of _ (by decide +kernel)) ggX9_sumBy_X9_holds
theorem dX9_sumBy_0 : decode cX9_sumBy 0 = .ok (.aload_n 0, 1) := by decide +kernel
theorem dX9_sumBy_1 : decode cX9_sumBy 1 = .ok (.iload_n 2, 1) := by decide +kernel
theorem dX9_sumBy_2 : decode cX9_sumBy 2 = .ok (.iload_n 3, 1) := by decide +kernel
theorem dX9_sumBy_3 : decode cX9_sumBy 3 = .ok (.invokevirtual 132, 3) := by decide +kernel
theorem dX9_sumBy_6 : decode cX9_sumBy 6 = .ok (.lconst 0, 1) := by decide +kernel
theorem dX9_sumBy_7 : decode cX9_sumBy 7 = .ok (.lstore 4, 2) := by decide +kernel
theorem dX9_sumBy_9 : decode cX9_sumBy 9 = .ok (.iconst 0, 1) := by decide +kernel
theorem dX9_sumBy_10 : decode cX9_sumBy 10 = .ok (.istore 6, 2) := by decide +kernel
theorem dX9_sumBy_12 : decode cX9_sumBy 12 = .ok (.iload 6, 2) := by decide +kernel
theorem dX9_sumBy_14 : decode cX9_sumBy 14 = .ok (.aload_n 0, 1) := by decide +kernel
theorem dX9_sumBy_15 : decode cX9_sumBy 15 = .ok (.getfield 13, 3) := by decide +kernel
theorem dX9_sumBy_18 : decode cX9_sumBy 18 = .ok (.iload_n 2, 1) := by decide +kernel
theorem dX9_sumBy_19 : decode cX9_sumBy 19 = .ok (.iaload, 1) := by decide +kernel
theorem dX9_sumBy_20 : decode cX9_sumBy 20 = .ok (.aload_n 0, 1) := by decide +kernel
theorem dX9_sumBy_21 : decode cX9_sumBy 21 = .ok (.getfield 16, 3) := by decide +kernel
theorem dX9_sumBy_24 : decode cX9_sumBy 24 = .ok (.iload_n 2, 1) := by decide +kernel
theorem dX9_sumBy_25 : decode cX9_sumBy 25 = .ok (.iaload, 1) := by decide +kernel
theorem dX9_sumBy_26 : decode cX9_sumBy 26 = .ok (.invokestatic 79, 3) := by decide +kernel
theorem dX9_sumBy_29 : decode cX9_sumBy 29 = .ok (.if_icmp .gt 36, 3) := by decide +kernel
theorem dX9_sumBy_32 : decode cX9_sumBy 32 = .ok (.lload 4, 2) := by decide +kernel
theorem dX9_sumBy_34 : decode cX9_sumBy 34 = .ok (.aload_n 0, 1) := by decide +kernel
theorem dX9_sumBy_35 : decode cX9_sumBy 35 = .ok (.iload_n 1, 1) := by decide +kernel
theorem dX9_sumBy_36 : decode cX9_sumBy 36 = .ok (.iload_n 2, 1) := by decide +kernel
theorem dX9_sumBy_37 : decode cX9_sumBy 37 = .ok (.iload 6, 2) := by decide +kernel
theorem dX9_sumBy_39 : decode cX9_sumBy 39 = .ok (.invokevirtual 210, 3) := by decide +kernel
theorem dX9_sumBy_42 : decode cX9_sumBy 42 = .ok (.ifCond .eq 13, 3) := by decide +kernel
theorem dX9_sumBy_45 : decode cX9_sumBy 45 = .ok (.aload_n 0, 1) := by decide +kernel
theorem dX9_sumBy_46 : decode cX9_sumBy 46 = .ok (.getfield 38, 3) := by decide +kernel
theorem dX9_sumBy_49 : decode cX9_sumBy 49 = .ok (.iload 6, 2) := by decide +kernel
theorem dX9_sumBy_51 : decode cX9_sumBy 51 = .ok (.laload, 1) := by decide +kernel
theorem dX9_sumBy_52 : decode cX9_sumBy 52 = .ok (.goto 4, 3) := by decide +kernel
theorem dX9_sumBy_55 : decode cX9_sumBy 55 = .ok (.lconst 0, 1) := by decide +kernel
theorem dX9_sumBy_56 : decode cX9_sumBy 56 = .ok (.ladd, 1) := by decide +kernel
theorem dX9_sumBy_57 : decode cX9_sumBy 57 = .ok (.lstore 4, 2) := by decide +kernel
theorem dX9_sumBy_59 : decode cX9_sumBy 59 = .ok (.iinc 6 1, 3) := by decide +kernel
theorem dX9_sumBy_62 : decode cX9_sumBy 62 = .ok (.goto (-50), 3) := by decide +kernel
theorem dX9_sumBy_65 : decode cX9_sumBy 65 = .ok (.lload 4, 2) := by decide +kernel
theorem dX9_sumBy_67 : decode cX9_sumBy 67 = .ok (.lreturn, 1) := by decide +kernel
set_option maxRecDepth 20000 in
theorem ggX9_believed_X9_isIn : GoodIn wsX9_believed wsX9_isIn := goodIn_r _ [5] (by decide +kernel) (by decide +kernel)
set_option maxRecDepth 20000 in
theorem gX9_believed_X9_isIn : GoodIn wsX9_believed (va_wsS RX9 64 yX9_isIn wsX9_isIn) := goodIn_app (goodIn_of _ (by decide +kernel)) ggX9_believed_X9_isIn
set_option maxRecDepth 20000 in
theorem ggX9_believed_X9_isRule : GoodIn wsX9_believed wsX9_isRule := goodIn_r _ [9, 10, 2, 3, 4, 5, 137, 138, 139, 140, 141, 142, 143, 144, 145, 146, 147, 148, 149, 150, 151, 152, 153, 154, 155, 156, 157, 158, 159, 160, 161, 162, 163] (by decide +kernel) (by decide +kernel)
set_option maxRecDepth 20000 in
theorem gX9_believed_X9_isRule : GoodIn wsX9_believed (wsV RX9 207 RX9 yX9_isRule wsX9_isRule) := goodIn_app (goodIn_of _ (by decide +kernel)) ggX9_believed_X9_isRule
set_option maxRecDepth 20000 in
theorem ggX9_believed_X9_wrong : GoodIn wsX9_believed wsX9_wrong := goodIn_r _ [14, 2, 3, 4, 5, 15, 16, 17, 18, 19, 20, 21, 22, 137, 138, 139, 140, 141, 142, 143, 144, 145, 146, 147, 148, 149, 150, 151, 152, 153, 154, 155, 156, 157, 158, 159, 160, 161, 162, 163] (by decide +kernel) (by decide +kernel)
set_option maxRecDepth 20000 in
theorem gX9_believed_X9_wrong : GoodIn wsX9_believed (wsV RX9 125 RX9 yX9_wrong wsX9_wrong) := goodIn_app (goodIn_of _ (by decide +kernel)) ggX9_believed_X9_wrong
set_option maxRecDepth 20000 in
theorem ggX9_believed_X9_refuseFar : GoodIn wsX9_believed wsX9_refuseFar := goodIn_r _ [26, 27, 28, 29, 30, 4, 31, 32, 137, 138, 139, 140, 141, 142, 143, 144, 145, 146, 147, 148, 149, 150, 151, 152, 153, 154, 155, 156, 157, 158, 159, 160, 161, 162, 163] (by decide +kernel) (by decide +kernel)
set_option maxRecDepth 20000 in
theorem gX9_believed_X9_refuseFar : GoodIn wsX9_believed (wsV RX9 128 RX9 yX9_refuseFar wsX9_refuseFar) := goodIn_app (goodIn_of _ (by decide +kernel)) ggX9_believed_X9_refuseFar
set_option maxRecDepth 20000 in
theorem ggX9_believed_X9_sumBy : GoodIn wsX9_believed wsX9_sumBy := goodIn_r _ [36, 37, 38, 39, 40, 41, 42, 4, 43, 44, 45, 46, 47, 48, 49, 50, 51, 52, 53, 54, 55, 56, 57, 1, 58, 59, 60, 61, 62, 63, 64, 65, 66, 67, 68, 69, 70, 71, 72, 73, 74, 75, 76, 77, 78, 79, 80, 81, 82, 83, 84, 85, 86, 87, 88, 89, 90, 91, 92, 93, 94, 95, 96, 97, 98, 99, 100, 101, 102, 103, 104, 105, 106, 107, 108, 109, 110, 111, 112, 113, 114, 115, 116, 117, 118, 119, 120, 121, 122, 123, 124, 125, 126, 127, 128, 129, 130, 137, 138, 139, 140, 141, 142, 143, 144, 145, 146, 147, 148, 149, 150, 151, 152, 153, 154, 155, 156, 157, 158, 159, 160, 161, 162, 163] (by decide +kernel) (by decide +kernel)
set_option maxRecDepth 20000 in
theorem gX9_believed_X9_sumBy : GoodIn wsX9_believed (wsV RX9 214 RX9 yX9_sumBy wsX9_sumBy) := goodIn_app (goodIn_of _ (by decide +kernel)) ggX9_believed_X9_sumBy
set_option maxRecDepth 20000 in
theorem ggX9_believed_X9_told : GoodIn wsX9_believed wsX9_told := goodIn_r _ [133, 134, 135, 4, 136] (by decide +kernel) (by decide +kernel)
set_option maxRecDepth 20000 in
theorem gX9_believed_X9_told : GoodIn wsX9_believed (va_wsS RX9 136 yX9_told wsX9_told) := goodIn_app (goodIn_of _ (by decide +kernel)) ggX9_believed_X9_told
theorem dX9_believed_0 : decode cX9_believed 0 = .ok (.iload 4, 2) := by decide +kernel
theorem dX9_believed_2 : decode cX9_believed 2 = .ok (.iconst 2, 1) := by decide +kernel
theorem dX9_believed_3 : decode cX9_believed 3 = .ok (.invokestatic 64, 3) := by decide +kernel
theorem dX9_believed_6 : decode cX9_believed 6 = .ok (.ifCond .ne 8, 3) := by decide +kernel
theorem dX9_believed_9 : decode cX9_believed 9 = .ok (.bipush (-2), 2) := by decide +kernel
theorem dX9_believed_11 : decode cX9_believed 11 = .ok (.goto 23, 3) := by decide +kernel
theorem dX9_believed_14 : decode cX9_believed 14 = .ok (.aload_n 0, 1) := by decide +kernel
theorem dX9_believed_15 : decode cX9_believed 15 = .ok (.iload_n 1, 1) := by decide +kernel
theorem dX9_believed_16 : decode cX9_believed 16 = .ok (.invokevirtual 207, 3) := by decide +kernel
theorem dX9_believed_19 : decode cX9_believed 19 = .ok (.ifCond .ne 7, 3) := by decide +kernel
theorem dX9_believed_22 : decode cX9_believed 22 = .ok (.iconst (-1), 1) := by decide +kernel
theorem dX9_believed_23 : decode cX9_believed 23 = .ok (.goto 11, 3) := by decide +kernel
theorem dX9_believed_26 : decode cX9_believed 26 = .ok (.aload_n 0, 1) := by decide +kernel
theorem dX9_believed_27 : decode cX9_believed 27 = .ok (.iload_n 2, 1) := by decide +kernel
theorem dX9_believed_28 : decode cX9_believed 28 = .ok (.iload_n 3, 1) := by decide +kernel
theorem dX9_believed_29 : decode cX9_believed 29 = .ok (.iload 4, 2) := by decide +kernel
theorem dX9_believed_31 : decode cX9_believed 31 = .ok (.invokevirtual 125, 3) := by decide +kernel
theorem dX9_believed_34 : decode cX9_believed 34 = .ok (.istore 5, 2) := by decide +kernel
theorem dX9_believed_36 : decode cX9_believed 36 = .ok (.iload 5, 2) := by decide +kernel
theorem dX9_believed_38 : decode cX9_believed 38 = .ok (.ifCond .eq 12, 3) := by decide +kernel
theorem dX9_believed_41 : decode cX9_believed 41 = .ok (.aload_n 0, 1) := by decide +kernel
theorem dX9_believed_42 : decode cX9_believed 42 = .ok (.iload 5, 2) := by decide +kernel
theorem dX9_believed_44 : decode cX9_believed 44 = .ok (.invokevirtual 128, 3) := by decide +kernel
theorem dX9_believed_47 : decode cX9_believed 47 = .ok (.goto 19, 3) := by decide +kernel
theorem dX9_believed_50 : decode cX9_believed 50 = .ok (.aload_n 0, 1) := by decide +kernel
theorem dX9_believed_51 : decode cX9_believed 51 = .ok (.iload_n 1, 1) := by decide +kernel
theorem dX9_believed_52 : decode cX9_believed 52 = .ok (.iload_n 2, 1) := by decide +kernel
theorem dX9_believed_53 : decode cX9_believed 53 = .ok (.iload_n 3, 1) := by decide +kernel
theorem dX9_believed_54 : decode cX9_believed 54 = .ok (.invokevirtual 214, 3) := by decide +kernel
theorem dX9_believed_57 : decode cX9_believed 57 = .ok (.aload_n 0, 1) := by decide +kernel
theorem dX9_believed_58 : decode cX9_believed 58 = .ok (.getfield 87, 3) := by decide +kernel
theorem dX9_believed_61 : decode cX9_believed 61 = .ok (.iload 4, 2) := by decide +kernel
theorem dX9_believed_63 : decode cX9_believed 63 = .ok (.invokestatic 136, 3) := by decide +kernel
theorem dX9_believed_66 : decode cX9_believed 66 = .ok (.lreturn, 1) := by decide +kernel
theorem dX9_isLittle_0 : decode cX9_isLittle 0 = .ok (.aload_n 0, 1) := by decide +kernel
theorem dX9_isLittle_1 : decode cX9_isLittle 1 = .ok (.getfield 87, 3) := by decide +kernel
theorem dX9_isLittle_4 : decode cX9_isLittle 4 = .ok (.ldc2_w 218, 3) := by decide +kernel
theorem dX9_isLittle_7 : decode cX9_isLittle 7 = .ok (.lrem, 1) := by decide +kernel
theorem dX9_isLittle_8 : decode cX9_isLittle 8 = .ok (.lconst 0, 1) := by decide +kernel
theorem dX9_isLittle_9 : decode cX9_isLittle 9 = .ok (.lcmp, 1) := by decide +kernel
theorem dX9_isLittle_10 : decode cX9_isLittle 10 = .ok (.ifCond .ne 27, 3) := by decide +kernel
theorem dX9_isLittle_13 : decode cX9_isLittle 13 = .ok (.lload_n 1, 1) := by decide +kernel
theorem dX9_isLittle_14 : decode cX9_isLittle 14 = .ok (.iload_n 3, 1) := by decide +kernel
theorem dX9_isLittle_15 : decode cX9_isLittle 15 = .ok (.i2l, 1) := by decide +kernel
theorem dX9_isLittle_16 : decode cX9_isLittle 16 = .ok (.aload_n 0, 1) := by decide +kernel
theorem dX9_isLittle_17 : decode cX9_isLittle 17 = .ok (.getfield 87, 3) := by decide +kernel
theorem dX9_isLittle_20 : decode cX9_isLittle 20 = .ok (.ldc2_w 218, 3) := by decide +kernel
theorem dX9_isLittle_23 : decode cX9_isLittle 23 = .ok (.ldiv, 1) := by decide +kernel
theorem dX9_isLittle_24 : decode cX9_isLittle 24 = .ok (.lmul, 1) := by decide +kernel
theorem dX9_isLittle_25 : decode cX9_isLittle 25 = .ok (.lcmp, 1) := by decide +kernel
theorem dX9_isLittle_26 : decode cX9_isLittle 26 = .ok (.ifCond .gt 7, 3) := by decide +kernel
theorem dX9_isLittle_29 : decode cX9_isLittle 29 = .ok (.iconst 1, 1) := by decide +kernel
theorem dX9_isLittle_30 : decode cX9_isLittle 30 = .ok (.goto 28, 3) := by decide +kernel
theorem dX9_isLittle_33 : decode cX9_isLittle 33 = .ok (.iconst 0, 1) := by decide +kernel
theorem dX9_isLittle_34 : decode cX9_isLittle 34 = .ok (.goto 24, 3) := by decide +kernel
theorem dX9_isLittle_37 : decode cX9_isLittle 37 = .ok (.lload_n 1, 1) := by decide +kernel
theorem dX9_isLittle_38 : decode cX9_isLittle 38 = .ok (.ldc2_w 218, 3) := by decide +kernel
theorem dX9_isLittle_41 : decode cX9_isLittle 41 = .ok (.lmul, 1) := by decide +kernel
theorem dX9_isLittle_42 : decode cX9_isLittle 42 = .ok (.iload_n 3, 1) := by decide +kernel
theorem dX9_isLittle_43 : decode cX9_isLittle 43 = .ok (.i2l, 1) := by decide +kernel
theorem dX9_isLittle_44 : decode cX9_isLittle 44 = .ok (.aload_n 0, 1) := by decide +kernel
theorem dX9_isLittle_45 : decode cX9_isLittle 45 = .ok (.getfield 87, 3) := by decide +kernel
theorem dX9_isLittle_48 : decode cX9_isLittle 48 = .ok (.lmul, 1) := by decide +kernel
theorem dX9_isLittle_49 : decode cX9_isLittle 49 = .ok (.lcmp, 1) := by decide +kernel
theorem dX9_isLittle_50 : decode cX9_isLittle 50 = .ok (.ifCond .gt 7, 3) := by decide +kernel
theorem dX9_isLittle_53 : decode cX9_isLittle 53 = .ok (.iconst 1, 1) := by decide +kernel
theorem dX9_isLittle_54 : decode cX9_isLittle 54 = .ok (.goto 4, 3) := by decide +kernel
theorem dX9_isLittle_57 : decode cX9_isLittle 57 = .ok (.iconst 0, 1) := by decide +kernel
theorem dX9_isLittle_58 : decode cX9_isLittle 58 = .ok (.ireturn, 1) := by decide +kernel
set_option maxRecDepth 20000 in
theorem ggX9_lineFound_X9_tail : GoodIn wsX9_lineFound wsX9_tail := goodIn_r _ [5, 6, 13, 14, 15, 16, 17, 18, 19, 20, 21, 22, 23, 24, 25, 26, 27, 28, 29, 30, 31, 32, 33, 34, 35, 36, 37, 38, 39] (by decide +kernel) (by decide +kernel)
set_option maxRecDepth 20000 in
theorem gX9_lineFound_X9_tail : GoodIn wsX9_lineFound (wsV RX9 140 RX9 yX9_tail wsX9_tail) := goodIn_app (goodIn_of _ (by decide +kernel)) ggX9_lineFound_X9_tail
set_option maxRecDepth 20000 in
theorem ggX9_lineFound_X9_isLittle : GoodIn wsX9_lineFound wsX9_isLittle := goodIn_r _ [10, 11, 12, 13, 14, 15, 16, 17, 18, 19, 20, 21, 22, 23, 24, 25, 26, 27, 28, 29, 30, 31, 32, 33, 34, 35, 36, 37, 38, 39] (by decide +kernel) (by decide +kernel)
set_option maxRecDepth 20000 in
theorem gX9_lineFound_X9_isLittle : GoodIn wsX9_lineFound (wsV RX9 220 RX9 yX9_isLittle wsX9_isLittle) := goodIn_app (goodIn_of _ (by decide +kernel)) ggX9_lineFound_X9_isLittle
theorem dX9_lineFound_0 : decode cX9_lineFound 0 = .ok (.iload_n 1, 1) := by decide +kernel
theorem dX9_lineFound_1 : decode cX9_lineFound 1 = .ok (.iconst 1, 1) := by decide +kernel
theorem dX9_lineFound_2 : decode cX9_lineFound 2 = .ok (.iadd, 1) := by decide +kernel
theorem dX9_lineFound_3 : decode cX9_lineFound 3 = .ok (.istore_n 3, 1) := by decide +kernel
theorem dX9_lineFound_4 : decode cX9_lineFound 4 = .ok (.iload_n 3, 1) := by decide +kernel
theorem dX9_lineFound_5 : decode cX9_lineFound 5 = .ok (.ifCond .le 24, 3) := by decide +kernel
theorem dX9_lineFound_8 : decode cX9_lineFound 8 = .ok (.aload_n 0, 1) := by decide +kernel
theorem dX9_lineFound_9 : decode cX9_lineFound 9 = .ok (.aload_n 0, 1) := by decide +kernel
theorem dX9_lineFound_10 : decode cX9_lineFound 10 = .ok (.iload_n 3, 1) := by decide +kernel
theorem dX9_lineFound_11 : decode cX9_lineFound 11 = .ok (.iconst 1, 1) := by decide +kernel
theorem dX9_lineFound_12 : decode cX9_lineFound 12 = .ok (.isub, 1) := by decide +kernel
theorem dX9_lineFound_13 : decode cX9_lineFound 13 = .ok (.invokevirtual 140, 3) := by decide +kernel
theorem dX9_lineFound_16 : decode cX9_lineFound 16 = .ok (.iload_n 2, 1) := by decide +kernel
theorem dX9_lineFound_17 : decode cX9_lineFound 17 = .ok (.invokevirtual 220, 3) := by decide +kernel
theorem dX9_lineFound_20 : decode cX9_lineFound 20 = .ok (.ifCond .eq 9, 3) := by decide +kernel
theorem dX9_lineFound_23 : decode cX9_lineFound 23 = .ok (.iinc 3 (-1), 3) := by decide +kernel
theorem dX9_lineFound_26 : decode cX9_lineFound 26 = .ok (.goto (-22), 3) := by decide +kernel
theorem dX9_lineFound_29 : decode cX9_lineFound 29 = .ok (.iload_n 3, 1) := by decide +kernel
theorem dX9_lineFound_30 : decode cX9_lineFound 30 = .ok (.ireturn, 1) := by decide +kernel
set_option maxRecDepth 20000 in
theorem ggX9_line_X9_isPlan : GoodIn wsX9_line wsX9_isPlan := goodIn_r _ [7, 8, 9, 10, 6, 11, 71, 72, 73, 74, 75, 76, 77, 78, 79, 80, 81, 82, 83, 84, 85, 86, 87, 88, 89, 90, 91, 92, 93, 94, 95, 96, 97] (by decide +kernel) (by decide +kernel)
set_option maxRecDepth 20000 in
theorem gX9_line_X9_isPlan : GoodIn wsX9_line (wsV RX9 75 RX9 yX9_isPlan wsX9_isPlan) := goodIn_app (goodIn_of _ (by decide +kernel)) ggX9_line_X9_isPlan
set_option maxRecDepth 20000 in
theorem ggX9_line_X9_within : GoodIn wsX9_line wsX9_within := goodIn_r _ [14] (by decide +kernel) (by decide +kernel)
set_option maxRecDepth 20000 in
theorem gX9_line_X9_within : GoodIn wsX9_line (va_wsS RX9 121 yX9_within wsX9_within) := goodIn_app (goodIn_of _ (by decide +kernel)) ggX9_line_X9_within
set_option maxRecDepth 20000 in
theorem ggX9_line_X9_refuse : GoodIn wsX9_line wsX9_refuse := goodIn_r _ [18, 19, 71, 72, 73, 74, 75, 76, 77, 78, 79, 80, 81, 82, 83, 84, 85, 86, 87, 88, 89, 90, 91, 92, 93, 94, 95, 96, 97] (by decide +kernel) (by decide +kernel)
set_option maxRecDepth 20000 in
theorem gX9_line_X9_refuse : GoodIn wsX9_line (wsV RX9 56 RX9 yX9_refuse wsX9_refuse) := goodIn_app (goodIn_of _ (by decide +kernel)) ggX9_line_X9_refuse
set_option maxRecDepth 20000 in
theorem ggX9_line_X9_findPlan : GoodIn wsX9_line wsX9_findPlan := goodIn_r _ [23, 1, 2, 24, 25, 26, 27, 6, 28, 29, 30, 31, 32, 33, 34, 35, 36, 37, 38, 39, 40, 41, 42, 43, 44, 45, 46, 47, 48, 49, 50, 51, 52, 53, 54, 71, 72, 73, 74, 75, 76, 77, 78, 79, 80, 81, 82, 83, 84, 85, 86, 87, 88, 89, 90, 91, 92, 93, 94, 95, 96, 97] (by decide +kernel) (by decide +kernel)
set_option maxRecDepth 20000 in
theorem gX9_line_X9_findPlan : GoodIn wsX9_line (wsV RX9 132 RX9 yX9_findPlan wsX9_findPlan) := goodIn_app (goodIn_of _ (by decide +kernel)) ggX9_line_X9_findPlan
set_option maxRecDepth 20000 in
theorem ggX9_line_X9_sizeOf : GoodIn wsX9_line wsX9_sizeOf := goodIn_r _ [57] (by decide +kernel) (by decide +kernel)
set_option maxRecDepth 20000 in
theorem gX9_line_X9_sizeOf : GoodIn wsX9_line (va_wsS RX9 79 yX9_sizeOf wsX9_sizeOf) := goodIn_app (goodIn_of _ (by decide +kernel)) ggX9_line_X9_sizeOf
set_option maxRecDepth 20000 in
theorem ggX9_line_X9_lineFound : GoodIn wsX9_line wsX9_lineFound := goodIn_r _ [61, 62, 63, 64, 6, 65, 39, 66, 67, 68, 69, 38, 70, 71, 72, 73, 74, 75, 76, 77, 78, 79, 80, 81, 82, 83, 84, 85, 86, 87, 88, 89, 90, 91, 92, 93, 94, 95, 96, 97] (by decide +kernel) (by decide +kernel)
set_option maxRecDepth 20000 in
theorem gX9_line_X9_lineFound : GoodIn wsX9_line (wsV RX9 224 RX9 yX9_lineFound wsX9_lineFound) := goodIn_app (goodIn_of _ (by decide +kernel)) ggX9_line_X9_lineFound
theorem dX9_line_0 : decode cX9_line 0 = .ok (.aload_n 0, 1) := by decide +kernel
theorem dX9_line_1 : decode cX9_line 1 = .ok (.iload_n 1, 1) := by decide +kernel
theorem dX9_line_2 : decode cX9_line 2 = .ok (.invokevirtual 75, 3) := by decide +kernel
theorem dX9_line_5 : decode cX9_line 5 = .ok (.ifCond .eq 14, 3) := by decide +kernel
theorem dX9_line_8 : decode cX9_line 8 = .ok (.iload_n 2, 1) := by decide +kernel
theorem dX9_line_9 : decode cX9_line 9 = .ok (.iconst 0, 1) := by decide +kernel
theorem dX9_line_10 : decode cX9_line 10 = .ok (.sipush 1000, 3) := by decide +kernel
theorem dX9_line_13 : decode cX9_line 13 = .ok (.invokestatic 121, 3) := by decide +kernel
theorem dX9_line_16 : decode cX9_line 16 = .ok (.goto 4, 3) := by decide +kernel
theorem dX9_line_19 : decode cX9_line 19 = .ok (.iconst (-1), 1) := by decide +kernel
theorem dX9_line_20 : decode cX9_line 20 = .ok (.istore_n 3, 1) := by decide +kernel
theorem dX9_line_21 : decode cX9_line 21 = .ok (.iload_n 3, 1) := by decide +kernel
theorem dX9_line_22 : decode cX9_line 22 = .ok (.ifCond .eq 9, 3) := by decide +kernel
theorem dX9_line_25 : decode cX9_line 25 = .ok (.aload_n 0, 1) := by decide +kernel
theorem dX9_line_26 : decode cX9_line 26 = .ok (.iload_n 3, 1) := by decide +kernel
theorem dX9_line_27 : decode cX9_line 27 = .ok (.invokevirtual 56, 3) := by decide +kernel
theorem dX9_line_30 : decode cX9_line 30 = .ok (.ireturn, 1) := by decide +kernel
theorem dX9_line_31 : decode cX9_line 31 = .ok (.aload_n 0, 1) := by decide +kernel
theorem dX9_line_32 : decode cX9_line 32 = .ok (.iload_n 1, 1) := by decide +kernel
theorem dX9_line_33 : decode cX9_line 33 = .ok (.iconst 5, 1) := by decide +kernel
theorem dX9_line_34 : decode cX9_line 34 = .ok (.invokevirtual 132, 3) := by decide +kernel
theorem dX9_line_37 : decode cX9_line 37 = .ok (.aload_n 0, 1) := by decide +kernel
theorem dX9_line_38 : decode cX9_line 38 = .ok (.aload_n 0, 1) := by decide +kernel
theorem dX9_line_39 : decode cX9_line 39 = .ok (.getfield 13, 3) := by decide +kernel
theorem dX9_line_42 : decode cX9_line 42 = .ok (.iload_n 1, 1) := by decide +kernel
theorem dX9_line_43 : decode cX9_line 43 = .ok (.iaload, 1) := by decide +kernel
theorem dX9_line_44 : decode cX9_line 44 = .ok (.aload_n 0, 1) := by decide +kernel
theorem dX9_line_45 : decode cX9_line 45 = .ok (.getfield 16, 3) := by decide +kernel
theorem dX9_line_48 : decode cX9_line 48 = .ok (.iload_n 1, 1) := by decide +kernel
theorem dX9_line_49 : decode cX9_line 49 = .ok (.iaload, 1) := by decide +kernel
theorem dX9_line_50 : decode cX9_line 50 = .ok (.invokestatic 79, 3) := by decide +kernel
theorem dX9_line_53 : decode cX9_line 53 = .ok (.iload_n 2, 1) := by decide +kernel
theorem dX9_line_54 : decode cX9_line 54 = .ok (.invokevirtual 224, 3) := by decide +kernel
theorem dX9_line_57 : decode cX9_line 57 = .ok (.ireturn, 1) := by decide +kernel
set_option maxRecDepth 20000 in
theorem ggX9_isReached_X9_find : GoodIn wsX9_isReached wsX9_find := goodIn_r _ [5, 6, 7, 8, 9, 10, 11, 12, 13, 4, 14, 15, 16, 17, 18, 19, 20, 21, 22, 23, 24, 25, 26, 27, 28, 29, 30, 31, 49, 50, 51, 52, 53, 54, 55, 56, 57, 58, 59, 60, 61, 62, 63, 64, 65, 66, 67, 68, 69, 70, 71, 72, 73, 74, 75] (by decide +kernel) (by decide +kernel)
set_option maxRecDepth 20000 in
theorem gX9_isReached_X9_find : GoodIn wsX9_isReached (wsV RX9 117 RX9 yX9_find wsX9_find) := goodIn_app (goodIn_of _ (by decide +kernel)) ggX9_isReached_X9_find
set_option maxRecDepth 20000 in
theorem ggX9_isReached_X9_lineFound : GoodIn wsX9_isReached wsX9_lineFound := goodIn_r _ [35, 36, 37, 38, 4, 39, 16, 40, 41, 42, 43, 15, 44, 49, 50, 51, 52, 53, 54, 55, 56, 57, 58, 59, 60, 61, 62, 63, 64, 65, 66, 67, 68, 69, 70, 71, 72, 73, 74, 75] (by decide +kernel) (by decide +kernel)
set_option maxRecDepth 20000 in
theorem gX9_isReached_X9_lineFound : GoodIn wsX9_isReached (wsV RX9 224 RX9 yX9_lineFound wsX9_lineFound) := goodIn_app (goodIn_of _ (by decide +kernel)) ggX9_isReached_X9_lineFound
set_option maxRecDepth 20000 in
theorem ggX9_isReached_X9_tail : GoodIn wsX9_isReached wsX9_tail := goodIn_r _ [39, 16, 49, 50, 51, 52, 53, 54, 55, 56, 57, 58, 59, 60, 61, 62, 63, 64, 65, 66, 67, 68, 69, 70, 71, 72, 73, 74, 75] (by decide +kernel) (by decide +kernel)
set_option maxRecDepth 20000 in
theorem gX9_isReached_X9_tail : GoodIn wsX9_isReached (wsV RX9 140 RX9 yX9_tail wsX9_tail) := goodIn_app (goodIn_of _ (by decide +kernel)) ggX9_isReached_X9_tail
set_option maxRecDepth 20000 in
theorem ggX9_isReached_X9_isLittle : GoodIn wsX9_isReached wsX9_isLittle := goodIn_r _ [43, 15, 44, 49, 50, 51, 52, 53, 54, 55, 56, 57, 58, 59, 60, 61, 62, 63, 64, 65, 66, 67, 68, 69, 70, 71, 72, 73, 74, 75] (by decide +kernel) (by decide +kernel)
set_option maxRecDepth 20000 in
theorem gX9_isReached_X9_isLittle : GoodIn wsX9_isReached (wsV RX9 220 RX9 yX9_isLittle wsX9_isLittle) := goodIn_app (goodIn_of _ (by decide +kernel)) ggX9_isReached_X9_isLittle
set_option maxRecDepth 20000 in
theorem ggX9_isReached_X9_isJust : GoodIn wsX9_isReached wsX9_isJust := goodIn_r _ [48, 15, 44, 49, 50, 51, 52, 53, 54, 55, 56, 57, 58, 59, 60, 61, 62, 63, 64, 65, 66, 67, 68, 69, 70, 71, 72, 73, 74, 75] (by decide +kernel) (by decide +kernel)
set_option maxRecDepth 20000 in
theorem gX9_isReached_X9_isJust : GoodIn wsX9_isReached (wsV RX9 227 RX9 yX9_isJust wsX9_isJust) := goodIn_app (goodIn_of _ (by decide +kernel)) ggX9_isReached_X9_isJust
theorem dX9_isReached_0 : decode cX9_isReached 0 = .ok (.aload_n 0, 1) := by decide +kernel
theorem dX9_isReached_1 : decode cX9_isReached 1 = .ok (.iload_n 1, 1) := by decide +kernel
theorem dX9_isReached_2 : decode cX9_isReached 2 = .ok (.iload_n 2, 1) := by decide +kernel
theorem dX9_isReached_3 : decode cX9_isReached 3 = .ok (.iload_n 2, 1) := by decide +kernel
theorem dX9_isReached_4 : decode cX9_isReached 4 = .ok (.iconst 2, 1) := by decide +kernel
theorem dX9_isReached_5 : decode cX9_isReached 5 = .ok (.idiv, 1) := by decide +kernel
theorem dX9_isReached_6 : decode cX9_isReached 6 = .ok (.iconst 5, 1) := by decide +kernel
theorem dX9_isReached_7 : decode cX9_isReached 7 = .ok (.invokevirtual 117, 3) := by decide +kernel
theorem dX9_isReached_10 : decode cX9_isReached 10 = .ok (.aload_n 0, 1) := by decide +kernel
theorem dX9_isReached_11 : decode cX9_isReached 11 = .ok (.iload_n 2, 1) := by decide +kernel
theorem dX9_isReached_12 : decode cX9_isReached 12 = .ok (.iload_n 3, 1) := by decide +kernel
theorem dX9_isReached_13 : decode cX9_isReached 13 = .ok (.invokevirtual 224, 3) := by decide +kernel
theorem dX9_isReached_16 : decode cX9_isReached 16 = .ok (.istore 6, 2) := by decide +kernel
theorem dX9_isReached_18 : decode cX9_isReached 18 = .ok (.aload_n 0, 1) := by decide +kernel
theorem dX9_isReached_19 : decode cX9_isReached 19 = .ok (.iload_n 1, 1) := by decide +kernel
theorem dX9_isReached_20 : decode cX9_isReached 20 = .ok (.iload_n 2, 1) := by decide +kernel
theorem dX9_isReached_21 : decode cX9_isReached 21 = .ok (.iload_n 2, 1) := by decide +kernel
theorem dX9_isReached_22 : decode cX9_isReached 22 = .ok (.iconst 2, 1) := by decide +kernel
theorem dX9_isReached_23 : decode cX9_isReached 23 = .ok (.idiv, 1) := by decide +kernel
theorem dX9_isReached_24 : decode cX9_isReached 24 = .ok (.iload 4, 2) := by decide +kernel
theorem dX9_isReached_26 : decode cX9_isReached 26 = .ok (.invokevirtual 117, 3) := by decide +kernel
theorem dX9_isReached_29 : decode cX9_isReached 29 = .ok (.iload 5, 2) := by decide +kernel
theorem dX9_isReached_31 : decode cX9_isReached 31 = .ok (.ifCond .eq 33, 3) := by decide +kernel
theorem dX9_isReached_34 : decode cX9_isReached 34 = .ok (.aload_n 0, 1) := by decide +kernel
theorem dX9_isReached_35 : decode cX9_isReached 35 = .ok (.aload_n 0, 1) := by decide +kernel
theorem dX9_isReached_36 : decode cX9_isReached 36 = .ok (.iload 6, 2) := by decide +kernel
theorem dX9_isReached_38 : decode cX9_isReached 38 = .ok (.invokevirtual 140, 3) := by decide +kernel
theorem dX9_isReached_41 : decode cX9_isReached 41 = .ok (.iload 5, 2) := by decide +kernel
theorem dX9_isReached_43 : decode cX9_isReached 43 = .ok (.invokevirtual 220, 3) := by decide +kernel
theorem dX9_isReached_46 : decode cX9_isReached 46 = .ok (.ifCond .eq 18, 3) := by decide +kernel
theorem dX9_isReached_49 : decode cX9_isReached 49 = .ok (.aload_n 0, 1) := by decide +kernel
theorem dX9_isReached_50 : decode cX9_isReached 50 = .ok (.aload_n 0, 1) := by decide +kernel
theorem dX9_isReached_51 : decode cX9_isReached 51 = .ok (.iload 6, 2) := by decide +kernel
theorem dX9_isReached_53 : decode cX9_isReached 53 = .ok (.invokevirtual 140, 3) := by decide +kernel
theorem dX9_isReached_56 : decode cX9_isReached 56 = .ok (.iload 5, 2) := by decide +kernel
theorem dX9_isReached_58 : decode cX9_isReached 58 = .ok (.invokevirtual 227, 3) := by decide +kernel
theorem dX9_isReached_61 : decode cX9_isReached 61 = .ok (.ifCond .eq 7, 3) := by decide +kernel
theorem dX9_isReached_64 : decode cX9_isReached 64 = .ok (.iconst 1, 1) := by decide +kernel
theorem dX9_isReached_65 : decode cX9_isReached 65 = .ok (.goto 4, 3) := by decide +kernel
theorem dX9_isReached_68 : decode cX9_isReached 68 = .ok (.iconst 0, 1) := by decide +kernel
theorem dX9_isReached_69 : decode cX9_isReached 69 = .ok (.ireturn, 1) := by decide +kernel
theorem dX9_isJust_0 : decode cX9_isJust 0 = .ok (.aload_n 0, 1) := by decide +kernel
theorem dX9_isJust_1 : decode cX9_isJust 1 = .ok (.getfield 87, 3) := by decide +kernel
theorem dX9_isJust_4 : decode cX9_isJust 4 = .ok (.ldc2_w 218, 3) := by decide +kernel
theorem dX9_isJust_7 : decode cX9_isJust 7 = .ok (.lrem, 1) := by decide +kernel
theorem dX9_isJust_8 : decode cX9_isJust 8 = .ok (.lconst 0, 1) := by decide +kernel
theorem dX9_isJust_9 : decode cX9_isJust 9 = .ok (.lcmp, 1) := by decide +kernel
theorem dX9_isJust_10 : decode cX9_isJust 10 = .ok (.ifCond .ne 27, 3) := by decide +kernel
theorem dX9_isJust_13 : decode cX9_isJust 13 = .ok (.lload_n 1, 1) := by decide +kernel
theorem dX9_isJust_14 : decode cX9_isJust 14 = .ok (.iload_n 3, 1) := by decide +kernel
theorem dX9_isJust_15 : decode cX9_isJust 15 = .ok (.i2l, 1) := by decide +kernel
theorem dX9_isJust_16 : decode cX9_isJust 16 = .ok (.aload_n 0, 1) := by decide +kernel
theorem dX9_isJust_17 : decode cX9_isJust 17 = .ok (.getfield 87, 3) := by decide +kernel
theorem dX9_isJust_20 : decode cX9_isJust 20 = .ok (.ldc2_w 218, 3) := by decide +kernel
theorem dX9_isJust_23 : decode cX9_isJust 23 = .ok (.ldiv, 1) := by decide +kernel
theorem dX9_isJust_24 : decode cX9_isJust 24 = .ok (.lmul, 1) := by decide +kernel
theorem dX9_isJust_25 : decode cX9_isJust 25 = .ok (.lcmp, 1) := by decide +kernel
theorem dX9_isJust_26 : decode cX9_isJust 26 = .ok (.ifCond .ne 7, 3) := by decide +kernel
theorem dX9_isJust_29 : decode cX9_isJust 29 = .ok (.iconst 1, 1) := by decide +kernel
theorem dX9_isJust_30 : decode cX9_isJust 30 = .ok (.goto 28, 3) := by decide +kernel
theorem dX9_isJust_33 : decode cX9_isJust 33 = .ok (.iconst 0, 1) := by decide +kernel
theorem dX9_isJust_34 : decode cX9_isJust 34 = .ok (.goto 24, 3) := by decide +kernel
theorem dX9_isJust_37 : decode cX9_isJust 37 = .ok (.lload_n 1, 1) := by decide +kernel
theorem dX9_isJust_38 : decode cX9_isJust 38 = .ok (.ldc2_w 218, 3) := by decide +kernel
theorem dX9_isJust_41 : decode cX9_isJust 41 = .ok (.lmul, 1) := by decide +kernel
theorem dX9_isJust_42 : decode cX9_isJust 42 = .ok (.iload_n 3, 1) := by decide +kernel
theorem dX9_isJust_43 : decode cX9_isJust 43 = .ok (.i2l, 1) := by decide +kernel
theorem dX9_isJust_44 : decode cX9_isJust 44 = .ok (.aload_n 0, 1) := by decide +kernel
theorem dX9_isJust_45 : decode cX9_isJust 45 = .ok (.getfield 87, 3) := by decide +kernel
theorem dX9_isJust_48 : decode cX9_isJust 48 = .ok (.lmul, 1) := by decide +kernel
theorem dX9_isJust_49 : decode cX9_isJust 49 = .ok (.lcmp, 1) := by decide +kernel
theorem dX9_isJust_50 : decode cX9_isJust 50 = .ok (.ifCond .ne 7, 3) := by decide +kernel
theorem dX9_isJust_53 : decode cX9_isJust 53 = .ok (.iconst 1, 1) := by decide +kernel
theorem dX9_isJust_54 : decode cX9_isJust 54 = .ok (.goto 4, 3) := by decide +kernel
theorem dX9_isJust_57 : decode cX9_isJust 57 = .ok (.iconst 0, 1) := by decide +kernel
theorem dX9_isJust_58 : decode cX9_isJust 58 = .ok (.ireturn, 1) := by decide +kernel
set_option maxRecDepth 20000 in
theorem ggX9_fewest_X9_isIn : GoodIn wsX9_fewest wsX9_isIn := goodIn_r _ [4] (by decide +kernel) (by decide +kernel)
set_option maxRecDepth 20000 in
theorem gX9_fewest_X9_isIn : GoodIn wsX9_fewest (va_wsS RX9 64 yX9_isIn wsX9_isIn) := goodIn_app (goodIn_of _ (by decide +kernel)) ggX9_fewest_X9_isIn
set_option maxRecDepth 20000 in
theorem ggX9_fewest_X9_refuse : GoodIn wsX9_fewest wsX9_refuse := goodIn_r _ [8, 9, 64, 65, 66, 67, 68, 69, 70, 71, 72, 73, 74, 75, 76, 77, 78, 79, 80, 81, 82, 83, 84, 85, 86, 87, 88, 89, 90] (by decide +kernel) (by decide +kernel)
set_option maxRecDepth 20000 in
theorem gX9_fewest_X9_refuse : GoodIn wsX9_fewest (wsV RX9 56 RX9 yX9_refuse wsX9_refuse) := goodIn_app (goodIn_of _ (by decide +kernel)) ggX9_fewest_X9_refuse
set_option maxRecDepth 20000 in
theorem ggX9_fewest_X9_mostCups : GoodIn wsX9_fewest wsX9_mostCups := goodIn_r _ [12] (by decide +kernel) (by decide +kernel)
set_option maxRecDepth 20000 in
theorem gX9_fewest_X9_mostCups : GoodIn wsX9_fewest (va_wsS RX9 72 yX9_mostCups wsX9_mostCups) := goodIn_app (goodIn_of _ (by decide +kernel)) ggX9_fewest_X9_mostCups
set_option maxRecDepth 20000 in
theorem ggX9_fewest_X9_isReached : GoodIn wsX9_fewest wsX9_isReached := goodIn_r _ [16, 17, 18, 19, 3, 20, 21, 22, 23, 24, 25, 26, 27, 28, 29, 30, 31, 32, 33, 34, 35, 36, 37, 38, 39, 40, 41, 42, 43, 44, 45, 46, 47, 48, 49, 50, 51, 52, 53, 54, 55, 56, 57, 58, 59, 60, 61, 62, 63, 64, 65, 66, 67, 68, 69, 70, 71, 72, 73, 74, 75, 76, 77, 78, 79, 80, 81, 82, 83, 84, 85, 86, 87, 88, 89, 90] (by decide +kernel) (by decide +kernel)
set_option maxRecDepth 20000 in
theorem gX9_fewest_X9_isReached : GoodIn wsX9_fewest (wsV RX9 230 RX9 yX9_isReached wsX9_isReached) := goodIn_app (goodIn_of _ (by decide +kernel)) ggX9_fewest_X9_isReached
theorem dX9_fewest_0 : decode cX9_fewest 0 = .ok (.iload_n 1, 1) := by decide +kernel
theorem dX9_fewest_1 : decode cX9_fewest 1 = .ok (.iconst 4, 1) := by decide +kernel
theorem dX9_fewest_2 : decode cX9_fewest 2 = .ok (.invokestatic 64, 3) := by decide +kernel
theorem dX9_fewest_5 : decode cX9_fewest 5 = .ok (.ifCond .ne 10, 3) := by decide +kernel
theorem dX9_fewest_8 : decode cX9_fewest 8 = .ok (.aload_n 0, 1) := by decide +kernel
theorem dX9_fewest_9 : decode cX9_fewest 9 = .ok (.bipush (-2), 2) := by decide +kernel
theorem dX9_fewest_11 : decode cX9_fewest 11 = .ok (.invokevirtual 56, 3) := by decide +kernel
theorem dX9_fewest_14 : decode cX9_fewest 14 = .ok (.ireturn, 1) := by decide +kernel
theorem dX9_fewest_15 : decode cX9_fewest 15 = .ok (.iload_n 2, 1) := by decide +kernel
theorem dX9_fewest_16 : decode cX9_fewest 16 = .ok (.ifCond .lt 12, 3) := by decide +kernel
theorem dX9_fewest_19 : decode cX9_fewest 19 = .ok (.iload_n 3, 1) := by decide +kernel
theorem dX9_fewest_20 : decode cX9_fewest 20 = .ok (.ifCond .lt 8, 3) := by decide +kernel
theorem dX9_fewest_23 : decode cX9_fewest 23 = .ok (.iload 4, 2) := by decide +kernel
theorem dX9_fewest_25 : decode cX9_fewest 25 = .ok (.ifCond .ge 10, 3) := by decide +kernel
theorem dX9_fewest_28 : decode cX9_fewest 28 = .ok (.aload_n 0, 1) := by decide +kernel
theorem dX9_fewest_29 : decode cX9_fewest 29 = .ok (.bipush (-4), 2) := by decide +kernel
theorem dX9_fewest_31 : decode cX9_fewest 31 = .ok (.invokevirtual 56, 3) := by decide +kernel
theorem dX9_fewest_34 : decode cX9_fewest 34 = .ok (.ireturn, 1) := by decide +kernel
theorem dX9_fewest_35 : decode cX9_fewest 35 = .ok (.iload_n 2, 1) := by decide +kernel
theorem dX9_fewest_36 : decode cX9_fewest 36 = .ok (.sipush 1000, 3) := by decide +kernel
theorem dX9_fewest_39 : decode cX9_fewest 39 = .ok (.if_icmp .gt 17, 3) := by decide +kernel
theorem dX9_fewest_42 : decode cX9_fewest 42 = .ok (.iload_n 3, 1) := by decide +kernel
theorem dX9_fewest_43 : decode cX9_fewest 43 = .ok (.bipush 10, 2) := by decide +kernel
theorem dX9_fewest_45 : decode cX9_fewest 45 = .ok (.if_icmp .gt 11, 3) := by decide +kernel
theorem dX9_fewest_48 : decode cX9_fewest 48 = .ok (.iload 4, 2) := by decide +kernel
theorem dX9_fewest_50 : decode cX9_fewest 50 = .ok (.sipush 1000, 3) := by decide +kernel
theorem dX9_fewest_53 : decode cX9_fewest 53 = .ok (.if_icmp .le 10, 3) := by decide +kernel
theorem dX9_fewest_56 : decode cX9_fewest 56 = .ok (.aload_n 0, 1) := by decide +kernel
theorem dX9_fewest_57 : decode cX9_fewest 57 = .ok (.bipush (-6), 2) := by decide +kernel
theorem dX9_fewest_59 : decode cX9_fewest 59 = .ok (.invokevirtual 56, 3) := by decide +kernel
theorem dX9_fewest_62 : decode cX9_fewest 62 = .ok (.ireturn, 1) := by decide +kernel
theorem dX9_fewest_63 : decode cX9_fewest 63 = .ok (.iload_n 1, 1) := by decide +kernel
theorem dX9_fewest_64 : decode cX9_fewest 64 = .ok (.iconst 1, 1) := by decide +kernel
theorem dX9_fewest_65 : decode cX9_fewest 65 = .ok (.if_icmp .ne 7, 3) := by decide +kernel
theorem dX9_fewest_68 : decode cX9_fewest 68 = .ok (.iconst 2, 1) := by decide +kernel
theorem dX9_fewest_69 : decode cX9_fewest 69 = .ok (.goto 4, 3) := by decide +kernel
theorem dX9_fewest_72 : decode cX9_fewest 72 = .ok (.iconst 1, 1) := by decide +kernel
theorem dX9_fewest_73 : decode cX9_fewest 73 = .ok (.istore 5, 2) := by decide +kernel
theorem dX9_fewest_75 : decode cX9_fewest 75 = .ok (.iload 5, 2) := by decide +kernel
theorem dX9_fewest_77 : decode cX9_fewest 77 = .ok (.iload_n 1, 1) := by decide +kernel
theorem dX9_fewest_78 : decode cX9_fewest 78 = .ok (.invokestatic 72, 3) := by decide +kernel
theorem dX9_fewest_81 : decode cX9_fewest 81 = .ok (.if_icmp .gt 26, 3) := by decide +kernel
theorem dX9_fewest_84 : decode cX9_fewest 84 = .ok (.aload_n 0, 1) := by decide +kernel
theorem dX9_fewest_85 : decode cX9_fewest 85 = .ok (.iload_n 1, 1) := by decide +kernel
theorem dX9_fewest_86 : decode cX9_fewest 86 = .ok (.iload 5, 2) := by decide +kernel
theorem dX9_fewest_88 : decode cX9_fewest 88 = .ok (.iload_n 2, 1) := by decide +kernel
theorem dX9_fewest_89 : decode cX9_fewest 89 = .ok (.iload_n 3, 1) := by decide +kernel
theorem dX9_fewest_90 : decode cX9_fewest 90 = .ok (.iload 4, 2) := by decide +kernel
theorem dX9_fewest_92 : decode cX9_fewest 92 = .ok (.invokevirtual 230, 3) := by decide +kernel
theorem dX9_fewest_95 : decode cX9_fewest 95 = .ok (.ifCond .eq 6, 3) := by decide +kernel
theorem dX9_fewest_98 : decode cX9_fewest 98 = .ok (.iload 5, 2) := by decide +kernel
theorem dX9_fewest_100 : decode cX9_fewest 100 = .ok (.ireturn, 1) := by decide +kernel
theorem dX9_fewest_101 : decode cX9_fewest 101 = .ok (.iinc 5 1, 3) := by decide +kernel
theorem dX9_fewest_104 : decode cX9_fewest 104 = .ok (.goto (-29), 3) := by decide +kernel
theorem dX9_fewest_107 : decode cX9_fewest 107 = .ok (.bipush (-9), 2) := by decide +kernel
theorem dX9_fewest_109 : decode cX9_fewest 109 = .ok (.ireturn, 1) := by decide +kernel
set_option maxRecDepth 20000 in
theorem ggX9_stops_X9_power : GoodIn wsX9_stops wsX9_power := goodIn_r _ [7] (by decide +kernel) (by decide +kernel)
set_option maxRecDepth 20000 in
theorem gX9_stops_X9_power : GoodIn wsX9_stops (va_wsS RX9 83 yX9_power wsX9_power) := goodIn_app (goodIn_of _ (by decide +kernel)) ggX9_stops_X9_power
theorem dX9_stops_0 : decode cX9_stops 0 = .ok (.iconst 0, 1) := by decide +kernel
theorem dX9_stops_1 : decode cX9_stops 1 = .ok (.istore 5, 2) := by decide +kernel
theorem dX9_stops_3 : decode cX9_stops 3 = .ok (.iload 5, 2) := by decide +kernel
theorem dX9_stops_5 : decode cX9_stops 5 = .ok (.bipush 13, 2) := by decide +kernel
theorem dX9_stops_7 : decode cX9_stops 7 = .ok (.if_icmp .ge 17, 3) := by decide +kernel
theorem dX9_stops_10 : decode cX9_stops 10 = .ok (.aload_n 0, 1) := by decide +kernel
theorem dX9_stops_11 : decode cX9_stops 11 = .ok (.getfield 42, 3) := by decide +kernel
theorem dX9_stops_14 : decode cX9_stops 14 = .ok (.iload 5, 2) := by decide +kernel
theorem dX9_stops_16 : decode cX9_stops 16 = .ok (.lconst 0, 1) := by decide +kernel
theorem dX9_stops_17 : decode cX9_stops 17 = .ok (.lastore, 1) := by decide +kernel
theorem dX9_stops_18 : decode cX9_stops 18 = .ok (.iinc 5 1, 3) := by decide +kernel
theorem dX9_stops_21 : decode cX9_stops 21 = .ok (.goto (-18), 3) := by decide +kernel
theorem dX9_stops_24 : decode cX9_stops 24 = .ok (.aload_n 0, 1) := by decide +kernel
theorem dX9_stops_25 : decode cX9_stops 25 = .ok (.getfield 42, 3) := by decide +kernel
theorem dX9_stops_28 : decode cX9_stops 28 = .ok (.iconst 0, 1) := by decide +kernel
theorem dX9_stops_29 : decode cX9_stops 29 = .ok (.lconst 1, 1) := by decide +kernel
theorem dX9_stops_30 : decode cX9_stops 30 = .ok (.lastore, 1) := by decide +kernel
theorem dX9_stops_31 : decode cX9_stops 31 = .ok (.lconst 0, 1) := by decide +kernel
theorem dX9_stops_32 : decode cX9_stops 32 = .ok (.lstore 5, 2) := by decide +kernel
theorem dX9_stops_34 : decode cX9_stops 34 = .ok (.iconst 1, 1) := by decide +kernel
theorem dX9_stops_35 : decode cX9_stops 35 = .ok (.istore 7, 2) := by decide +kernel
theorem dX9_stops_37 : decode cX9_stops 37 = .ok (.iload 7, 2) := by decide +kernel
theorem dX9_stops_39 : decode cX9_stops 39 = .ok (.iload_n 1, 1) := by decide +kernel
theorem dX9_stops_40 : decode cX9_stops 40 = .ok (.if_icmp .gt 141, 3) := by decide +kernel
theorem dX9_stops_43 : decode cX9_stops 43 = .ok (.iload 7, 2) := by decide +kernel
theorem dX9_stops_45 : decode cX9_stops 45 = .ok (.istore 8, 2) := by decide +kernel
theorem dX9_stops_47 : decode cX9_stops 47 = .ok (.iload 8, 2) := by decide +kernel
theorem dX9_stops_49 : decode cX9_stops 49 = .ok (.ifCond .lt 53, 3) := by decide +kernel
theorem dX9_stops_52 : decode cX9_stops 52 = .ok (.aload_n 0, 1) := by decide +kernel
theorem dX9_stops_53 : decode cX9_stops 53 = .ok (.getfield 42, 3) := by decide +kernel
theorem dX9_stops_56 : decode cX9_stops 56 = .ok (.iload 8, 2) := by decide +kernel
theorem dX9_stops_58 : decode cX9_stops 58 = .ok (.aload_n 0, 1) := by decide +kernel
theorem dX9_stops_59 : decode cX9_stops 59 = .ok (.getfield 42, 3) := by decide +kernel
theorem dX9_stops_62 : decode cX9_stops 62 = .ok (.iload 8, 2) := by decide +kernel
theorem dX9_stops_64 : decode cX9_stops 64 = .ok (.laload, 1) := by decide +kernel
theorem dX9_stops_65 : decode cX9_stops 65 = .ok (.bipush 10, 2) := by decide +kernel
theorem dX9_stops_67 : decode cX9_stops 67 = .ok (.iload 4, 2) := by decide +kernel
theorem dX9_stops_69 : decode cX9_stops 69 = .ok (.isub, 1) := by decide +kernel
theorem dX9_stops_70 : decode cX9_stops 70 = .ok (.i2l, 1) := by decide +kernel
theorem dX9_stops_71 : decode cX9_stops 71 = .ok (.lmul, 1) := by decide +kernel
theorem dX9_stops_72 : decode cX9_stops 72 = .ok (.iload 8, 2) := by decide +kernel
theorem dX9_stops_74 : decode cX9_stops 74 = .ok (.ifCond .le 19, 3) := by decide +kernel
theorem dX9_stops_77 : decode cX9_stops 77 = .ok (.aload_n 0, 1) := by decide +kernel
theorem dX9_stops_78 : decode cX9_stops 78 = .ok (.getfield 42, 3) := by decide +kernel
theorem dX9_stops_81 : decode cX9_stops 81 = .ok (.iload 8, 2) := by decide +kernel
theorem dX9_stops_83 : decode cX9_stops 83 = .ok (.iconst 1, 1) := by decide +kernel
theorem dX9_stops_84 : decode cX9_stops 84 = .ok (.isub, 1) := by decide +kernel
theorem dX9_stops_85 : decode cX9_stops 85 = .ok (.laload, 1) := by decide +kernel
theorem dX9_stops_86 : decode cX9_stops 86 = .ok (.iload 4, 2) := by decide +kernel
theorem dX9_stops_88 : decode cX9_stops 88 = .ok (.i2l, 1) := by decide +kernel
theorem dX9_stops_89 : decode cX9_stops 89 = .ok (.lmul, 1) := by decide +kernel
theorem dX9_stops_90 : decode cX9_stops 90 = .ok (.goto 4, 3) := by decide +kernel
theorem dX9_stops_93 : decode cX9_stops 93 = .ok (.lconst 0, 1) := by decide +kernel
theorem dX9_stops_94 : decode cX9_stops 94 = .ok (.ladd, 1) := by decide +kernel
theorem dX9_stops_95 : decode cX9_stops 95 = .ok (.lastore, 1) := by decide +kernel
theorem dX9_stops_96 : decode cX9_stops 96 = .ok (.iinc 8 (-1), 3) := by decide +kernel
theorem dX9_stops_99 : decode cX9_stops 99 = .ok (.goto (-52), 3) := by decide +kernel
theorem dX9_stops_102 : decode cX9_stops 102 = .ok (.iconst 0, 1) := by decide +kernel
theorem dX9_stops_103 : decode cX9_stops 103 = .ok (.istore 8, 2) := by decide +kernel
theorem dX9_stops_105 : decode cX9_stops 105 = .ok (.iload 8, 2) := by decide +kernel
theorem dX9_stops_107 : decode cX9_stops 107 = .ok (.iload 7, 2) := by decide +kernel
theorem dX9_stops_109 : decode cX9_stops 109 = .ok (.if_icmp .gt 66, 3) := by decide +kernel
theorem dX9_stops_112 : decode cX9_stops 112 = .ok (.iload_n 2, 1) := by decide +kernel
theorem dX9_stops_113 : decode cX9_stops 113 = .ok (.iload 7, 2) := by decide +kernel
theorem dX9_stops_115 : decode cX9_stops 115 = .ok (.iconst 1, 1) := by decide +kernel
theorem dX9_stops_116 : decode cX9_stops 116 = .ok (.isub, 1) := by decide +kernel
theorem dX9_stops_117 : decode cX9_stops 117 = .ok (.ishr, 1) := by decide +kernel
theorem dX9_stops_118 : decode cX9_stops 118 = .ok (.iconst 1, 1) := by decide +kernel
theorem dX9_stops_119 : decode cX9_stops 119 = .ok (.iand, 1) := by decide +kernel
theorem dX9_stops_120 : decode cX9_stops 120 = .ok (.iconst 1, 1) := by decide +kernel
theorem dX9_stops_121 : decode cX9_stops 121 = .ok (.if_icmp .ne 54, 3) := by decide +kernel
theorem dX9_stops_124 : decode cX9_stops 124 = .ok (.iconst 2, 1) := by decide +kernel
theorem dX9_stops_125 : decode cX9_stops 125 = .ok (.iload 8, 2) := by decide +kernel
theorem dX9_stops_127 : decode cX9_stops 127 = .ok (.imul, 1) := by decide +kernel
theorem dX9_stops_128 : decode cX9_stops 128 = .ok (.iload 7, 2) := by decide +kernel
theorem dX9_stops_130 : decode cX9_stops 130 = .ok (.isub, 1) := by decide +kernel
theorem dX9_stops_131 : decode cX9_stops 131 = .ok (.iload_n 3, 1) := by decide +kernel
theorem dX9_stops_132 : decode cX9_stops 132 = .ok (.if_icmp .ge 6, 3) := by decide +kernel
theorem dX9_stops_135 : decode cX9_stops 135 = .ok (.goto 34, 3) := by decide +kernel
theorem dX9_stops_138 : decode cX9_stops 138 = .ok (.lload 5, 2) := by decide +kernel
theorem dX9_stops_140 : decode cX9_stops 140 = .ok (.aload_n 0, 1) := by decide +kernel
theorem dX9_stops_141 : decode cX9_stops 141 = .ok (.getfield 42, 3) := by decide +kernel
theorem dX9_stops_144 : decode cX9_stops 144 = .ok (.iload 8, 2) := by decide +kernel
theorem dX9_stops_146 : decode cX9_stops 146 = .ok (.laload, 1) := by decide +kernel
theorem dX9_stops_147 : decode cX9_stops 147 = .ok (.ldc2_w 95, 3) := by decide +kernel
theorem dX9_stops_150 : decode cX9_stops 150 = .ok (.iload_n 1, 1) := by decide +kernel
theorem dX9_stops_151 : decode cX9_stops 151 = .ok (.iload 7, 2) := by decide +kernel
theorem dX9_stops_153 : decode cX9_stops 153 = .ok (.isub, 1) := by decide +kernel
theorem dX9_stops_154 : decode cX9_stops 154 = .ok (.invokestatic 83, 3) := by decide +kernel
theorem dX9_stops_157 : decode cX9_stops 157 = .ok (.lmul, 1) := by decide +kernel
theorem dX9_stops_158 : decode cX9_stops 158 = .ok (.ladd, 1) := by decide +kernel
theorem dX9_stops_159 : decode cX9_stops 159 = .ok (.lstore 5, 2) := by decide +kernel
theorem dX9_stops_161 : decode cX9_stops 161 = .ok (.aload_n 0, 1) := by decide +kernel
theorem dX9_stops_162 : decode cX9_stops 162 = .ok (.getfield 42, 3) := by decide +kernel
theorem dX9_stops_165 : decode cX9_stops 165 = .ok (.iload 8, 2) := by decide +kernel
theorem dX9_stops_167 : decode cX9_stops 167 = .ok (.lconst 0, 1) := by decide +kernel
theorem dX9_stops_168 : decode cX9_stops 168 = .ok (.lastore, 1) := by decide +kernel
theorem dX9_stops_169 : decode cX9_stops 169 = .ok (.iinc 8 1, 3) := by decide +kernel
theorem dX9_stops_172 : decode cX9_stops 172 = .ok (.goto (-67), 3) := by decide +kernel
theorem dX9_stops_175 : decode cX9_stops 175 = .ok (.iinc 7 1, 3) := by decide +kernel
theorem dX9_stops_178 : decode cX9_stops 178 = .ok (.goto (-141), 3) := by decide +kernel
theorem dX9_stops_181 : decode cX9_stops 181 = .ok (.aload_n 0, 1) := by decide +kernel
theorem dX9_stops_182 : decode cX9_stops 182 = .ok (.ldc2_w 95, 3) := by decide +kernel
theorem dX9_stops_185 : decode cX9_stops 185 = .ok (.iload_n 1, 1) := by decide +kernel
theorem dX9_stops_186 : decode cX9_stops 186 = .ok (.invokestatic 83, 3) := by decide +kernel
theorem dX9_stops_189 : decode cX9_stops 189 = .ok (.putfield 87, 3) := by decide +kernel
theorem dX9_stops_192 : decode cX9_stops 192 = .ok (.lload 5, 2) := by decide +kernel
theorem dX9_stops_194 : decode cX9_stops 194 = .ok (.lreturn, 1) := by decide +kernel
set_option maxRecDepth 20000 in
theorem ggX9_well_X9_isIn : GoodIn wsX9_well wsX9_isIn := goodIn_r _ [5] (by decide +kernel) (by decide +kernel)
set_option maxRecDepth 20000 in
theorem gX9_well_X9_isIn : GoodIn wsX9_well (va_wsS RX9 64 yX9_isIn wsX9_isIn) := goodIn_app (goodIn_of _ (by decide +kernel)) ggX9_well_X9_isIn
set_option maxRecDepth 20000 in
theorem ggX9_well_X9_refuseFar : GoodIn wsX9_well wsX9_refuseFar := goodIn_r _ [9, 10, 11, 12, 13, 4, 14, 15, 31, 32, 33, 34, 35, 36, 37, 38, 39, 40, 41, 42, 43, 44, 45, 46, 47, 48, 49, 50, 51, 52, 53, 54, 55, 56, 57] (by decide +kernel) (by decide +kernel)
set_option maxRecDepth 20000 in
theorem gX9_well_X9_refuseFar : GoodIn wsX9_well (wsV RX9 128 RX9 yX9_refuseFar wsX9_refuseFar) := goodIn_app (goodIn_of _ (by decide +kernel)) ggX9_well_X9_refuseFar
set_option maxRecDepth 20000 in
theorem ggX9_well_X9_stops : GoodIn wsX9_well wsX9_stops := goodIn_r _ [19, 20, 21, 1, 22, 23, 4, 24, 31, 32, 33, 34, 35, 36, 37, 38, 39, 40, 41, 42, 43, 44, 45, 46, 47, 48, 49, 50, 51, 52, 53, 54, 55, 56, 57] (by decide +kernel) (by decide +kernel)
set_option maxRecDepth 20000 in
theorem gX9_well_X9_stops : GoodIn wsX9_well (wsV RX9 234 RX9 yX9_stops wsX9_stops) := goodIn_app (goodIn_of _ (by decide +kernel)) ggX9_well_X9_stops
set_option maxRecDepth 20000 in
theorem ggX9_well_X9_told : GoodIn wsX9_well wsX9_told := goodIn_r _ [27, 28, 29, 4, 30] (by decide +kernel) (by decide +kernel)
set_option maxRecDepth 20000 in
theorem gX9_well_X9_told : GoodIn wsX9_well (va_wsS RX9 136 yX9_told wsX9_told) := goodIn_app (goodIn_of _ (by decide +kernel)) ggX9_well_X9_told
theorem dX9_well_0 : decode cX9_well 0 = .ok (.iload 5, 2) := by decide +kernel
theorem dX9_well_2 : decode cX9_well 2 = .ok (.iconst 2, 1) := by decide +kernel
theorem dX9_well_3 : decode cX9_well 3 = .ok (.invokestatic 64, 3) := by decide +kernel
theorem dX9_well_6 : decode cX9_well 6 = .ok (.ifCond .ne 10, 3) := by decide +kernel
theorem dX9_well_9 : decode cX9_well 9 = .ok (.aload_n 0, 1) := by decide +kernel
theorem dX9_well_10 : decode cX9_well 10 = .ok (.bipush (-2), 2) := by decide +kernel
theorem dX9_well_12 : decode cX9_well 12 = .ok (.invokevirtual 128, 3) := by decide +kernel
theorem dX9_well_15 : decode cX9_well 15 = .ok (.lreturn, 1) := by decide +kernel
theorem dX9_well_16 : decode cX9_well 16 = .ok (.iload_n 1, 1) := by decide +kernel
theorem dX9_well_17 : decode cX9_well 17 = .ok (.iconst 1, 1) := by decide +kernel
theorem dX9_well_18 : decode cX9_well 18 = .ok (.if_icmp .lt 17, 3) := by decide +kernel
theorem dX9_well_21 : decode cX9_well 21 = .ok (.iload_n 2, 1) := by decide +kernel
theorem dX9_well_22 : decode cX9_well 22 = .ok (.ifCond .lt 13, 3) := by decide +kernel
theorem dX9_well_25 : decode cX9_well 25 = .ok (.iload_n 3, 1) := by decide +kernel
theorem dX9_well_26 : decode cX9_well 26 = .ok (.iconst 1, 1) := by decide +kernel
theorem dX9_well_27 : decode cX9_well 27 = .ok (.if_icmp .lt 8, 3) := by decide +kernel
theorem dX9_well_30 : decode cX9_well 30 = .ok (.iload 4, 2) := by decide +kernel
theorem dX9_well_32 : decode cX9_well 32 = .ok (.ifCond .ge 10, 3) := by decide +kernel
theorem dX9_well_35 : decode cX9_well 35 = .ok (.aload_n 0, 1) := by decide +kernel
theorem dX9_well_36 : decode cX9_well 36 = .ok (.bipush (-4), 2) := by decide +kernel
theorem dX9_well_38 : decode cX9_well 38 = .ok (.invokevirtual 128, 3) := by decide +kernel
theorem dX9_well_41 : decode cX9_well 41 = .ok (.lreturn, 1) := by decide +kernel
theorem dX9_well_42 : decode cX9_well 42 = .ok (.iload_n 1, 1) := by decide +kernel
theorem dX9_well_43 : decode cX9_well 43 = .ok (.bipush 12, 2) := by decide +kernel
theorem dX9_well_45 : decode cX9_well 45 = .ok (.if_icmp .gt 23, 3) := by decide +kernel
theorem dX9_well_48 : decode cX9_well 48 = .ok (.iload_n 2, 1) := by decide +kernel
theorem dX9_well_49 : decode cX9_well 49 = .ok (.sipush 4095, 3) := by decide +kernel
theorem dX9_well_52 : decode cX9_well 52 = .ok (.if_icmp .gt 16, 3) := by decide +kernel
theorem dX9_well_55 : decode cX9_well 55 = .ok (.iload_n 3, 1) := by decide +kernel
theorem dX9_well_56 : decode cX9_well 56 = .ok (.bipush 12, 2) := by decide +kernel
theorem dX9_well_58 : decode cX9_well 58 = .ok (.if_icmp .gt 10, 3) := by decide +kernel
theorem dX9_well_61 : decode cX9_well 61 = .ok (.iload 4, 2) := by decide +kernel
theorem dX9_well_63 : decode cX9_well 63 = .ok (.bipush 10, 2) := by decide +kernel
theorem dX9_well_65 : decode cX9_well 65 = .ok (.if_icmp .le 10, 3) := by decide +kernel
theorem dX9_well_68 : decode cX9_well 68 = .ok (.aload_n 0, 1) := by decide +kernel
theorem dX9_well_69 : decode cX9_well 69 = .ok (.bipush (-6), 2) := by decide +kernel
theorem dX9_well_71 : decode cX9_well 71 = .ok (.invokevirtual 128, 3) := by decide +kernel
theorem dX9_well_74 : decode cX9_well 74 = .ok (.lreturn, 1) := by decide +kernel
theorem dX9_well_75 : decode cX9_well 75 = .ok (.aload_n 0, 1) := by decide +kernel
theorem dX9_well_76 : decode cX9_well 76 = .ok (.iload_n 1, 1) := by decide +kernel
theorem dX9_well_77 : decode cX9_well 77 = .ok (.iload_n 2, 1) := by decide +kernel
theorem dX9_well_78 : decode cX9_well 78 = .ok (.iload_n 3, 1) := by decide +kernel
theorem dX9_well_79 : decode cX9_well 79 = .ok (.iload 4, 2) := by decide +kernel
theorem dX9_well_81 : decode cX9_well 81 = .ok (.invokevirtual 234, 3) := by decide +kernel
theorem dX9_well_84 : decode cX9_well 84 = .ok (.lstore 6, 2) := by decide +kernel
theorem dX9_well_86 : decode cX9_well 86 = .ok (.lload 6, 2) := by decide +kernel
theorem dX9_well_88 : decode cX9_well 88 = .ok (.aload_n 0, 1) := by decide +kernel
theorem dX9_well_89 : decode cX9_well 89 = .ok (.getfield 87, 3) := by decide +kernel
theorem dX9_well_92 : decode cX9_well 92 = .ok (.iload 5, 2) := by decide +kernel
theorem dX9_well_94 : decode cX9_well 94 = .ok (.invokestatic 136, 3) := by decide +kernel
theorem dX9_well_97 : decode cX9_well 97 = .ok (.lreturn, 1) := by decide +kernel
set_option maxRecDepth 20000 in
theorem ggX9_kept_X9_refuse : GoodIn wsX9_kept wsX9_refuse := goodIn_r _ [5, 6, 22, 23, 24, 25, 26, 27, 28, 29, 30, 31, 32, 33, 34, 35, 36, 37, 38, 39, 40, 41, 42, 43, 44, 45, 46, 47, 48] (by decide +kernel) (by decide +kernel)
set_option maxRecDepth 20000 in
theorem gX9_kept_X9_refuse : GoodIn wsX9_kept (wsV RX9 56 RX9 yX9_refuse wsX9_refuse) := goodIn_app (goodIn_of _ (by decide +kernel)) ggX9_kept_X9_refuse
set_option maxRecDepth 20000 in
theorem ggX9_kept_X9_stops : GoodIn wsX9_kept wsX9_stops := goodIn_r _ [10, 11, 12, 13, 14, 15, 4, 16, 22, 23, 24, 25, 26, 27, 28, 29, 30, 31, 32, 33, 34, 35, 36, 37, 38, 39, 40, 41, 42, 43, 44, 45, 46, 47, 48] (by decide +kernel) (by decide +kernel)
set_option maxRecDepth 20000 in
theorem gX9_kept_X9_stops : GoodIn wsX9_kept (wsV RX9 234 RX9 yX9_stops wsX9_stops) := goodIn_app (goodIn_of _ (by decide +kernel)) ggX9_kept_X9_stops
set_option maxRecDepth 20000 in
theorem ggX9_kept_X9_isLittle : GoodIn wsX9_kept wsX9_isLittle := goodIn_r _ [20, 13, 21, 22, 23, 24, 25, 26, 27, 28, 29, 30, 31, 32, 33, 34, 35, 36, 37, 38, 39, 40, 41, 42, 43, 44, 45, 46, 47, 48] (by decide +kernel) (by decide +kernel)
set_option maxRecDepth 20000 in
theorem gX9_kept_X9_isLittle : GoodIn wsX9_kept (wsV RX9 220 RX9 yX9_isLittle wsX9_isLittle) := goodIn_app (goodIn_of _ (by decide +kernel)) ggX9_kept_X9_isLittle
theorem dX9_kept_0 : decode cX9_kept 0 = .ok (.iload_n 1, 1) := by decide +kernel
theorem dX9_kept_1 : decode cX9_kept 1 = .ok (.iconst 1, 1) := by decide +kernel
theorem dX9_kept_2 : decode cX9_kept 2 = .ok (.if_icmp .lt 11, 3) := by decide +kernel
theorem dX9_kept_5 : decode cX9_kept 5 = .ok (.iload_n 2, 1) := by decide +kernel
theorem dX9_kept_6 : decode cX9_kept 6 = .ok (.ifCond .lt 7, 3) := by decide +kernel
theorem dX9_kept_9 : decode cX9_kept 9 = .ok (.iload_n 3, 1) := by decide +kernel
theorem dX9_kept_10 : decode cX9_kept 10 = .ok (.ifCond .ge 10, 3) := by decide +kernel
theorem dX9_kept_13 : decode cX9_kept 13 = .ok (.aload_n 0, 1) := by decide +kernel
theorem dX9_kept_14 : decode cX9_kept 14 = .ok (.bipush (-4), 2) := by decide +kernel
theorem dX9_kept_16 : decode cX9_kept 16 = .ok (.invokevirtual 56, 3) := by decide +kernel
theorem dX9_kept_19 : decode cX9_kept 19 = .ok (.ireturn, 1) := by decide +kernel
theorem dX9_kept_20 : decode cX9_kept 20 = .ok (.iload_n 1, 1) := by decide +kernel
theorem dX9_kept_21 : decode cX9_kept 21 = .ok (.bipush 12, 2) := by decide +kernel
theorem dX9_kept_23 : decode cX9_kept 23 = .ok (.if_icmp .gt 17, 3) := by decide +kernel
theorem dX9_kept_26 : decode cX9_kept 26 = .ok (.iload_n 2, 1) := by decide +kernel
theorem dX9_kept_27 : decode cX9_kept 27 = .ok (.sipush 4095, 3) := by decide +kernel
theorem dX9_kept_30 : decode cX9_kept 30 = .ok (.if_icmp .gt 10, 3) := by decide +kernel
theorem dX9_kept_33 : decode cX9_kept 33 = .ok (.iload_n 3, 1) := by decide +kernel
theorem dX9_kept_34 : decode cX9_kept 34 = .ok (.sipush 1000, 3) := by decide +kernel
theorem dX9_kept_37 : decode cX9_kept 37 = .ok (.if_icmp .le 10, 3) := by decide +kernel
theorem dX9_kept_40 : decode cX9_kept 40 = .ok (.aload_n 0, 1) := by decide +kernel
theorem dX9_kept_41 : decode cX9_kept 41 = .ok (.bipush (-6), 2) := by decide +kernel
theorem dX9_kept_43 : decode cX9_kept 43 = .ok (.invokevirtual 56, 3) := by decide +kernel
theorem dX9_kept_46 : decode cX9_kept 46 = .ok (.ireturn, 1) := by decide +kernel
theorem dX9_kept_47 : decode cX9_kept 47 = .ok (.iconst 1, 1) := by decide +kernel
theorem dX9_kept_48 : decode cX9_kept 48 = .ok (.istore 4, 2) := by decide +kernel
theorem dX9_kept_50 : decode cX9_kept 50 = .ok (.iload 4, 2) := by decide +kernel
theorem dX9_kept_52 : decode cX9_kept 52 = .ok (.bipush 13, 2) := by decide +kernel
theorem dX9_kept_54 : decode cX9_kept 54 = .ok (.if_icmp .ge 26, 3) := by decide +kernel
theorem dX9_kept_57 : decode cX9_kept 57 = .ok (.aload_n 0, 1) := by decide +kernel
theorem dX9_kept_58 : decode cX9_kept 58 = .ok (.aload_n 0, 1) := by decide +kernel
theorem dX9_kept_59 : decode cX9_kept 59 = .ok (.iload_n 1, 1) := by decide +kernel
theorem dX9_kept_60 : decode cX9_kept 60 = .ok (.iload_n 2, 1) := by decide +kernel
theorem dX9_kept_61 : decode cX9_kept 61 = .ok (.iload 4, 2) := by decide +kernel
theorem dX9_kept_63 : decode cX9_kept 63 = .ok (.iconst 5, 1) := by decide +kernel
theorem dX9_kept_64 : decode cX9_kept 64 = .ok (.invokevirtual 234, 3) := by decide +kernel
theorem dX9_kept_67 : decode cX9_kept 67 = .ok (.iload_n 3, 1) := by decide +kernel
theorem dX9_kept_68 : decode cX9_kept 68 = .ok (.invokevirtual 220, 3) := by decide +kernel
theorem dX9_kept_71 : decode cX9_kept 71 = .ok (.ifCond .ne 9, 3) := by decide +kernel
theorem dX9_kept_74 : decode cX9_kept 74 = .ok (.iinc 4 1, 3) := by decide +kernel
theorem dX9_kept_77 : decode cX9_kept 77 = .ok (.goto (-27), 3) := by decide +kernel
theorem dX9_kept_80 : decode cX9_kept 80 = .ok (.iload 4, 2) := by decide +kernel
theorem dX9_kept_82 : decode cX9_kept 82 = .ok (.ireturn, 1) := by decide +kernel
set_option maxRecDepth 20000 in
theorem ggX9_many_X9_isIn : GoodIn wsX9_many wsX9_isIn := goodIn_r _ [5] (by decide +kernel) (by decide +kernel)
set_option maxRecDepth 20000 in
theorem gX9_many_X9_isIn : GoodIn wsX9_many (va_wsS RX9 64 yX9_isIn wsX9_isIn) := goodIn_app (goodIn_of _ (by decide +kernel)) ggX9_many_X9_isIn
set_option maxRecDepth 20000 in
theorem ggX9_many_X9_isRule : GoodIn wsX9_many wsX9_isRule := goodIn_r _ [9, 10, 2, 3, 4, 5, 133, 134, 135, 136, 137, 138, 139, 140, 141, 142, 143, 144, 145, 146, 147, 148, 149, 150, 151, 152, 153, 154, 155, 156, 157, 158, 159] (by decide +kernel) (by decide +kernel)
set_option maxRecDepth 20000 in
theorem gX9_many_X9_isRule : GoodIn wsX9_many (wsV RX9 207 RX9 yX9_isRule wsX9_isRule) := goodIn_app (goodIn_of _ (by decide +kernel)) ggX9_many_X9_isRule
set_option maxRecDepth 20000 in
theorem ggX9_many_X9_isPlan : GoodIn wsX9_many wsX9_isPlan := goodIn_r _ [14, 15, 2, 3, 4, 5, 133, 134, 135, 136, 137, 138, 139, 140, 141, 142, 143, 144, 145, 146, 147, 148, 149, 150, 151, 152, 153, 154, 155, 156, 157, 158, 159] (by decide +kernel) (by decide +kernel)
set_option maxRecDepth 20000 in
theorem gX9_many_X9_isPlan : GoodIn wsX9_many (wsV RX9 75 RX9 yX9_isPlan wsX9_isPlan) := goodIn_app (goodIn_of _ (by decide +kernel)) ggX9_many_X9_isPlan
set_option maxRecDepth 20000 in
theorem ggX9_many_X9_within : GoodIn wsX9_many wsX9_within := goodIn_r _ [18] (by decide +kernel) (by decide +kernel)
set_option maxRecDepth 20000 in
theorem gX9_many_X9_within : GoodIn wsX9_many (va_wsS RX9 121 yX9_within wsX9_within) := goodIn_app (goodIn_of _ (by decide +kernel)) ggX9_many_X9_within
set_option maxRecDepth 20000 in
theorem ggX9_many_X9_refuseFar : GoodIn wsX9_many wsX9_refuseFar := goodIn_r _ [22, 23, 24, 25, 26, 4, 27, 28, 133, 134, 135, 136, 137, 138, 139, 140, 141, 142, 143, 144, 145, 146, 147, 148, 149, 150, 151, 152, 153, 154, 155, 156, 157, 158, 159] (by decide +kernel) (by decide +kernel)
set_option maxRecDepth 20000 in
theorem gX9_many_X9_refuseFar : GoodIn wsX9_many (wsV RX9 128 RX9 yX9_refuseFar wsX9_refuseFar) := goodIn_app (goodIn_of _ (by decide +kernel)) ggX9_many_X9_refuseFar
set_option maxRecDepth 20000 in
theorem ggX9_many_X9_sumBy : GoodIn wsX9_many wsX9_sumBy := goodIn_r _ [32, 33, 34, 35, 36, 37, 38, 4, 39, 40, 41, 42, 43, 44, 45, 46, 47, 48, 49, 50, 51, 52, 53, 1, 54, 55, 56, 57, 58, 59, 60, 61, 62, 63, 64, 65, 66, 67, 68, 69, 70, 71, 72, 73, 74, 75, 76, 77, 78, 79, 80, 81, 82, 83, 84, 85, 86, 87, 88, 89, 90, 91, 92, 93, 94, 95, 96, 97, 98, 99, 100, 101, 102, 103, 104, 105, 106, 107, 108, 109, 110, 111, 112, 113, 114, 115, 116, 117, 118, 119, 120, 121, 122, 123, 124, 125, 126, 133, 134, 135, 136, 137, 138, 139, 140, 141, 142, 143, 144, 145, 146, 147, 148, 149, 150, 151, 152, 153, 154, 155, 156, 157, 158, 159] (by decide +kernel) (by decide +kernel)
set_option maxRecDepth 20000 in
theorem gX9_many_X9_sumBy : GoodIn wsX9_many (wsV RX9 214 RX9 yX9_sumBy wsX9_sumBy) := goodIn_app (goodIn_of _ (by decide +kernel)) ggX9_many_X9_sumBy
set_option maxRecDepth 20000 in
theorem ggX9_many_X9_common : GoodIn wsX9_many wsX9_common := goodIn_r _ [129] (by decide +kernel) (by decide +kernel)
set_option maxRecDepth 20000 in
theorem gX9_many_X9_common : GoodIn wsX9_many (va_wsS RX9 68 yX9_common wsX9_common) := goodIn_app (goodIn_of _ (by decide +kernel)) ggX9_many_X9_common
set_option maxRecDepth 20000 in
theorem ggX9_many_X9_power : GoodIn wsX9_many wsX9_power := goodIn_r _ [56] (by decide +kernel) (by decide +kernel)
set_option maxRecDepth 20000 in
theorem gX9_many_X9_power : GoodIn wsX9_many (va_wsS RX9 83 yX9_power wsX9_power) := goodIn_app (goodIn_of _ (by decide +kernel)) ggX9_many_X9_power
set_option maxRecDepth 20000 in
theorem ggX9_many_X9_told : GoodIn wsX9_many wsX9_told := goodIn_r _ [132, 127, 128, 4, 129] (by decide +kernel) (by decide +kernel)
set_option maxRecDepth 20000 in
theorem gX9_many_X9_told : GoodIn wsX9_many (va_wsS RX9 136 yX9_told wsX9_told) := goodIn_app (goodIn_of _ (by decide +kernel)) ggX9_many_X9_told
theorem dX9_many_0 : decode cX9_many 0 = .ok (.iload 4, 2) := by decide +kernel
theorem dX9_many_2 : decode cX9_many 2 = .ok (.iconst 2, 1) := by decide +kernel
theorem dX9_many_3 : decode cX9_many 3 = .ok (.invokestatic 64, 3) := by decide +kernel
theorem dX9_many_6 : decode cX9_many 6 = .ok (.ifCond .ne 8, 3) := by decide +kernel
theorem dX9_many_9 : decode cX9_many 9 = .ok (.bipush (-2), 2) := by decide +kernel
theorem dX9_many_11 : decode cX9_many 11 = .ok (.goto 29, 3) := by decide +kernel
theorem dX9_many_14 : decode cX9_many 14 = .ok (.aload_n 0, 1) := by decide +kernel
theorem dX9_many_15 : decode cX9_many 15 = .ok (.iload_n 1, 1) := by decide +kernel
theorem dX9_many_16 : decode cX9_many 16 = .ok (.invokevirtual 207, 3) := by decide +kernel
theorem dX9_many_19 : decode cX9_many 19 = .ok (.ifCond .eq 11, 3) := by decide +kernel
theorem dX9_many_22 : decode cX9_many 22 = .ok (.aload_n 0, 1) := by decide +kernel
theorem dX9_many_23 : decode cX9_many 23 = .ok (.iload_n 2, 1) := by decide +kernel
theorem dX9_many_24 : decode cX9_many 24 = .ok (.invokevirtual 75, 3) := by decide +kernel
theorem dX9_many_27 : decode cX9_many 27 = .ok (.ifCond .ne 7, 3) := by decide +kernel
theorem dX9_many_30 : decode cX9_many 30 = .ok (.iconst (-1), 1) := by decide +kernel
theorem dX9_many_31 : decode cX9_many 31 = .ok (.goto 9, 3) := by decide +kernel
theorem dX9_many_34 : decode cX9_many 34 = .ok (.iload_n 3, 1) := by decide +kernel
theorem dX9_many_35 : decode cX9_many 35 = .ok (.iconst 1, 1) := by decide +kernel
theorem dX9_many_36 : decode cX9_many 36 = .ok (.iconst 4, 1) := by decide +kernel
theorem dX9_many_37 : decode cX9_many 37 = .ok (.invokestatic 121, 3) := by decide +kernel
theorem dX9_many_40 : decode cX9_many 40 = .ok (.istore 5, 2) := by decide +kernel
theorem dX9_many_42 : decode cX9_many 42 = .ok (.iload 5, 2) := by decide +kernel
theorem dX9_many_44 : decode cX9_many 44 = .ok (.ifCond .eq 10, 3) := by decide +kernel
theorem dX9_many_47 : decode cX9_many 47 = .ok (.aload_n 0, 1) := by decide +kernel
theorem dX9_many_48 : decode cX9_many 48 = .ok (.iload 5, 2) := by decide +kernel
theorem dX9_many_50 : decode cX9_many 50 = .ok (.invokevirtual 128, 3) := by decide +kernel
theorem dX9_many_53 : decode cX9_many 53 = .ok (.lreturn, 1) := by decide +kernel
theorem dX9_many_54 : decode cX9_many 54 = .ok (.aload_n 0, 1) := by decide +kernel
theorem dX9_many_55 : decode cX9_many 55 = .ok (.iload_n 1, 1) := by decide +kernel
theorem dX9_many_56 : decode cX9_many 56 = .ok (.iload_n 2, 1) := by decide +kernel
theorem dX9_many_57 : decode cX9_many 57 = .ok (.iconst 5, 1) := by decide +kernel
theorem dX9_many_58 : decode cX9_many 58 = .ok (.invokevirtual 214, 3) := by decide +kernel
theorem dX9_many_61 : decode cX9_many 61 = .ok (.lstore 6, 2) := by decide +kernel
theorem dX9_many_63 : decode cX9_many 63 = .ok (.lload 6, 2) := by decide +kernel
theorem dX9_many_65 : decode cX9_many 65 = .ok (.aload_n 0, 1) := by decide +kernel
theorem dX9_many_66 : decode cX9_many 66 = .ok (.getfield 87, 3) := by decide +kernel
theorem dX9_many_69 : decode cX9_many 69 = .ok (.invokestatic 68, 3) := by decide +kernel
theorem dX9_many_72 : decode cX9_many 72 = .ok (.lstore 8, 2) := by decide +kernel
theorem dX9_many_74 : decode cX9_many 74 = .ok (.aload_n 0, 1) := by decide +kernel
theorem dX9_many_75 : decode cX9_many 75 = .ok (.getfield 87, 3) := by decide +kernel
theorem dX9_many_78 : decode cX9_many 78 = .ok (.lload 8, 2) := by decide +kernel
theorem dX9_many_80 : decode cX9_many 80 = .ok (.ldiv, 1) := by decide +kernel
theorem dX9_many_81 : decode cX9_many 81 = .ok (.iload_n 3, 1) := by decide +kernel
theorem dX9_many_82 : decode cX9_many 82 = .ok (.invokestatic 83, 3) := by decide +kernel
theorem dX9_many_85 : decode cX9_many 85 = .ok (.lstore 10, 2) := by decide +kernel
theorem dX9_many_87 : decode cX9_many 87 = .ok (.lload 10, 2) := by decide +kernel
theorem dX9_many_89 : decode cX9_many 89 = .ok (.aload_n 0, 1) := by decide +kernel
theorem dX9_many_90 : decode cX9_many 90 = .ok (.getfield 87, 3) := by decide +kernel
theorem dX9_many_93 : decode cX9_many 93 = .ok (.lload 6, 2) := by decide +kernel
theorem dX9_many_95 : decode cX9_many 95 = .ok (.lsub, 1) := by decide +kernel
theorem dX9_many_96 : decode cX9_many 96 = .ok (.lload 8, 2) := by decide +kernel
theorem dX9_many_98 : decode cX9_many 98 = .ok (.ldiv, 1) := by decide +kernel
theorem dX9_many_99 : decode cX9_many 99 = .ok (.iload_n 3, 1) := by decide +kernel
theorem dX9_many_100 : decode cX9_many 100 = .ok (.invokestatic 83, 3) := by decide +kernel
theorem dX9_many_103 : decode cX9_many 103 = .ok (.lsub, 1) := by decide +kernel
theorem dX9_many_104 : decode cX9_many 104 = .ok (.lload 10, 2) := by decide +kernel
theorem dX9_many_106 : decode cX9_many 106 = .ok (.iload 4, 2) := by decide +kernel
theorem dX9_many_108 : decode cX9_many 108 = .ok (.invokestatic 136, 3) := by decide +kernel
theorem dX9_many_111 : decode cX9_many 111 = .ok (.lreturn, 1) := by decide +kernel
set_option maxRecDepth 20000 in
theorem ggX9_gain_X9_isIn : GoodIn wsX9_gain wsX9_isIn := goodIn_r _ [8] (by decide +kernel) (by decide +kernel)
set_option maxRecDepth 20000 in
theorem gX9_gain_X9_isIn : GoodIn wsX9_gain (va_wsS RX9 64 yX9_isIn wsX9_isIn) := goodIn_app (goodIn_of _ (by decide +kernel)) ggX9_gain_X9_isIn
set_option maxRecDepth 20000 in
theorem ggX9_gain_X9_isPlan : GoodIn wsX9_gain wsX9_isPlan := goodIn_r _ [12, 13, 5, 6, 7, 8, 70, 71, 72, 73, 74, 75, 76, 77, 78, 79, 80, 81, 82, 83, 84, 85, 86, 87, 88, 89, 90, 91, 92, 93, 94, 95, 96] (by decide +kernel) (by decide +kernel)
set_option maxRecDepth 20000 in
theorem gX9_gain_X9_isPlan : GoodIn wsX9_gain (wsV RX9 75 RX9 yX9_isPlan wsX9_isPlan) := goodIn_app (goodIn_of _ (by decide +kernel)) ggX9_gain_X9_isPlan
set_option maxRecDepth 20000 in
theorem ggX9_gain_X9_within : GoodIn wsX9_gain wsX9_within := goodIn_r _ [16] (by decide +kernel) (by decide +kernel)
set_option maxRecDepth 20000 in
theorem gX9_gain_X9_within : GoodIn wsX9_gain (va_wsS RX9 121 yX9_within wsX9_within) := goodIn_app (goodIn_of _ (by decide +kernel)) ggX9_gain_X9_within
set_option maxRecDepth 20000 in
theorem ggX9_gain_X9_refuseFar : GoodIn wsX9_gain wsX9_refuseFar := goodIn_r _ [20, 21, 22, 23, 24, 7, 25, 26, 70, 71, 72, 73, 74, 75, 76, 77, 78, 79, 80, 81, 82, 83, 84, 85, 86, 87, 88, 89, 90, 91, 92, 93, 94, 95, 96] (by decide +kernel) (by decide +kernel)
set_option maxRecDepth 20000 in
theorem gX9_gain_X9_refuseFar : GoodIn wsX9_gain (wsV RX9 128 RX9 yX9_refuseFar wsX9_refuseFar) := goodIn_app (goodIn_of _ (by decide +kernel)) ggX9_gain_X9_refuseFar
set_option maxRecDepth 20000 in
theorem ggX9_gain_X9_findPlan : GoodIn wsX9_gain wsX9_findPlan := goodIn_r _ [30, 1, 3, 31, 32, 33, 34, 7, 35, 2, 36, 37, 38, 39, 40, 41, 42, 43, 4, 44, 45, 46, 47, 48, 49, 50, 51, 52, 53, 54, 55, 56, 57, 58, 59, 70, 71, 72, 73, 74, 75, 76, 77, 78, 79, 80, 81, 82, 83, 84, 85, 86, 87, 88, 89, 90, 91, 92, 93, 94, 95, 96] (by decide +kernel) (by decide +kernel)
set_option maxRecDepth 20000 in
theorem gX9_gain_X9_findPlan : GoodIn wsX9_gain (wsV RX9 132 RX9 yX9_findPlan wsX9_findPlan) := goodIn_app (goodIn_of _ (by decide +kernel)) ggX9_gain_X9_findPlan
set_option maxRecDepth 20000 in
theorem ggX9_gain_X9_mean : GoodIn wsX9_gain wsX9_mean := goodIn_r _ [63, 44, 70, 71, 72, 73, 74, 75, 76, 77, 78, 79, 80, 81, 82, 83, 84, 85, 86, 87, 88, 89, 90, 91, 92, 93, 94, 95, 96] (by decide +kernel) (by decide +kernel)
set_option maxRecDepth 20000 in
theorem gX9_gain_X9_mean : GoodIn wsX9_gain (wsV RX9 143 RX9 yX9_mean wsX9_mean) := goodIn_app (goodIn_of _ (by decide +kernel)) ggX9_gain_X9_mean
set_option maxRecDepth 20000 in
theorem ggX9_gain_X9_told : GoodIn wsX9_gain wsX9_told := goodIn_r _ [66, 67, 68, 7, 69] (by decide +kernel) (by decide +kernel)
set_option maxRecDepth 20000 in
theorem gX9_gain_X9_told : GoodIn wsX9_gain (va_wsS RX9 136 yX9_told wsX9_told) := goodIn_app (goodIn_of _ (by decide +kernel)) ggX9_gain_X9_told
theorem dX9_gain_0 : decode cX9_gain 0 = .ok (.iload_n 3, 1) := by decide +kernel
theorem dX9_gain_1 : decode cX9_gain 1 = .ok (.iconst 2, 1) := by decide +kernel
theorem dX9_gain_2 : decode cX9_gain 2 = .ok (.invokestatic 64, 3) := by decide +kernel
theorem dX9_gain_5 : decode cX9_gain 5 = .ok (.ifCond .ne 8, 3) := by decide +kernel
theorem dX9_gain_8 : decode cX9_gain 8 = .ok (.bipush (-2), 2) := by decide +kernel
theorem dX9_gain_10 : decode cX9_gain 10 = .ok (.goto 37, 3) := by decide +kernel
theorem dX9_gain_13 : decode cX9_gain 13 = .ok (.aload_n 0, 1) := by decide +kernel
theorem dX9_gain_14 : decode cX9_gain 14 = .ok (.iload_n 1, 1) := by decide +kernel
theorem dX9_gain_15 : decode cX9_gain 15 = .ok (.invokevirtual 75, 3) := by decide +kernel
theorem dX9_gain_18 : decode cX9_gain 18 = .ok (.ifCond .ne 7, 3) := by decide +kernel
theorem dX9_gain_21 : decode cX9_gain 21 = .ok (.iconst (-1), 1) := by decide +kernel
theorem dX9_gain_22 : decode cX9_gain 22 = .ok (.goto 25, 3) := by decide +kernel
theorem dX9_gain_25 : decode cX9_gain 25 = .ok (.aload_n 0, 1) := by decide +kernel
theorem dX9_gain_26 : decode cX9_gain 26 = .ok (.getfield 13, 3) := by decide +kernel
theorem dX9_gain_29 : decode cX9_gain 29 = .ok (.iload_n 1, 1) := by decide +kernel
theorem dX9_gain_30 : decode cX9_gain 30 = .ok (.iaload, 1) := by decide +kernel
theorem dX9_gain_31 : decode cX9_gain 31 = .ok (.iconst 1, 1) := by decide +kernel
theorem dX9_gain_32 : decode cX9_gain 32 = .ok (.if_icmp .eq 8, 3) := by decide +kernel
theorem dX9_gain_35 : decode cX9_gain 35 = .ok (.bipush (-3), 2) := by decide +kernel
theorem dX9_gain_37 : decode cX9_gain 37 = .ok (.goto 10, 3) := by decide +kernel
theorem dX9_gain_40 : decode cX9_gain 40 = .ok (.iload_n 2, 1) := by decide +kernel
theorem dX9_gain_41 : decode cX9_gain 41 = .ok (.iconst 0, 1) := by decide +kernel
theorem dX9_gain_42 : decode cX9_gain 42 = .ok (.bipush 10, 2) := by decide +kernel
theorem dX9_gain_44 : decode cX9_gain 44 = .ok (.invokestatic 121, 3) := by decide +kernel
theorem dX9_gain_47 : decode cX9_gain 47 = .ok (.istore 4, 2) := by decide +kernel
theorem dX9_gain_49 : decode cX9_gain 49 = .ok (.iload 4, 2) := by decide +kernel
theorem dX9_gain_51 : decode cX9_gain 51 = .ok (.ifCond .eq 10, 3) := by decide +kernel
theorem dX9_gain_54 : decode cX9_gain 54 = .ok (.aload_n 0, 1) := by decide +kernel
theorem dX9_gain_55 : decode cX9_gain 55 = .ok (.iload 4, 2) := by decide +kernel
theorem dX9_gain_57 : decode cX9_gain 57 = .ok (.invokevirtual 128, 3) := by decide +kernel
theorem dX9_gain_60 : decode cX9_gain 60 = .ok (.lreturn, 1) := by decide +kernel
theorem dX9_gain_61 : decode cX9_gain 61 = .ok (.aload_n 0, 1) := by decide +kernel
theorem dX9_gain_62 : decode cX9_gain 62 = .ok (.iload_n 1, 1) := by decide +kernel
theorem dX9_gain_63 : decode cX9_gain 63 = .ok (.iload_n 2, 1) := by decide +kernel
theorem dX9_gain_64 : decode cX9_gain 64 = .ok (.invokevirtual 132, 3) := by decide +kernel
theorem dX9_gain_67 : decode cX9_gain 67 = .ok (.ldc2_w 95, 3) := by decide +kernel
theorem dX9_gain_70 : decode cX9_gain 70 = .ok (.aload_n 0, 1) := by decide +kernel
theorem dX9_gain_71 : decode cX9_gain 71 = .ok (.invokevirtual 143, 3) := by decide +kernel
theorem dX9_gain_74 : decode cX9_gain 74 = .ok (.lmul, 1) := by decide +kernel
theorem dX9_gain_75 : decode cX9_gain 75 = .ok (.aload_n 0, 1) := by decide +kernel
theorem dX9_gain_76 : decode cX9_gain 76 = .ok (.getfield 16, 3) := by decide +kernel
theorem dX9_gain_79 : decode cX9_gain 79 = .ok (.iload_n 1, 1) := by decide +kernel
theorem dX9_gain_80 : decode cX9_gain 80 = .ok (.iaload, 1) := by decide +kernel
theorem dX9_gain_81 : decode cX9_gain 81 = .ok (.iload_n 2, 1) := by decide +kernel
theorem dX9_gain_82 : decode cX9_gain 82 = .ok (.imul, 1) := by decide +kernel
theorem dX9_gain_83 : decode cX9_gain 83 = .ok (.i2l, 1) := by decide +kernel
theorem dX9_gain_84 : decode cX9_gain 84 = .ok (.aload_n 0, 1) := by decide +kernel
theorem dX9_gain_85 : decode cX9_gain 85 = .ok (.getfield 87, 3) := by decide +kernel
theorem dX9_gain_88 : decode cX9_gain 88 = .ok (.lmul, 1) := by decide +kernel
theorem dX9_gain_89 : decode cX9_gain 89 = .ok (.lsub, 1) := by decide +kernel
theorem dX9_gain_90 : decode cX9_gain 90 = .ok (.ldc2_w 95, 3) := by decide +kernel
theorem dX9_gain_93 : decode cX9_gain 93 = .ok (.aload_n 0, 1) := by decide +kernel
theorem dX9_gain_94 : decode cX9_gain 94 = .ok (.getfield 87, 3) := by decide +kernel
theorem dX9_gain_97 : decode cX9_gain 97 = .ok (.lmul, 1) := by decide +kernel
theorem dX9_gain_98 : decode cX9_gain 98 = .ok (.iload_n 3, 1) := by decide +kernel
theorem dX9_gain_99 : decode cX9_gain 99 = .ok (.invokestatic 136, 3) := by decide +kernel
theorem dX9_gain_102 : decode cX9_gain 102 = .ok (.lreturn, 1) := by decide +kernel
set_option maxRecDepth 20000 in
theorem ggX9_belief_X9_isIn : GoodIn wsX9_belief wsX9_isIn := goodIn_r _ [7] (by decide +kernel) (by decide +kernel)
set_option maxRecDepth 20000 in
theorem gX9_belief_X9_isIn : GoodIn wsX9_belief (va_wsS RX9 64 yX9_isIn wsX9_isIn) := goodIn_app (goodIn_of _ (by decide +kernel)) ggX9_belief_X9_isIn
set_option maxRecDepth 20000 in
theorem ggX9_belief_X9_refuseFar : GoodIn wsX9_belief wsX9_refuseFar := goodIn_r _ [11, 12, 13, 14, 15, 6, 16, 17, 66, 67, 68, 69, 70, 71, 72, 73, 74, 75, 76, 77, 78, 79, 80, 81, 82, 83, 84, 85, 86, 87, 88, 89, 90, 91, 92] (by decide +kernel) (by decide +kernel)
set_option maxRecDepth 20000 in
theorem gX9_belief_X9_refuseFar : GoodIn wsX9_belief (wsV RX9 128 RX9 yX9_refuseFar wsX9_refuseFar) := goodIn_app (goodIn_of _ (by decide +kernel)) ggX9_belief_X9_refuseFar
set_option maxRecDepth 20000 in
theorem ggX9_belief_X9_isPlan : GoodIn wsX9_belief wsX9_isPlan := goodIn_r _ [21, 22, 4, 5, 6, 7, 66, 67, 68, 69, 70, 71, 72, 73, 74, 75, 76, 77, 78, 79, 80, 81, 82, 83, 84, 85, 86, 87, 88, 89, 90, 91, 92] (by decide +kernel) (by decide +kernel)
set_option maxRecDepth 20000 in
theorem gX9_belief_X9_isPlan : GoodIn wsX9_belief (wsV RX9 75 RX9 yX9_isPlan wsX9_isPlan) := goodIn_app (goodIn_of _ (by decide +kernel)) ggX9_belief_X9_isPlan
set_option maxRecDepth 20000 in
theorem ggX9_belief_X9_sizeOf : GoodIn wsX9_belief wsX9_sizeOf := goodIn_r _ [25] (by decide +kernel) (by decide +kernel)
set_option maxRecDepth 20000 in
theorem gX9_belief_X9_sizeOf : GoodIn wsX9_belief (va_wsS RX9 79 yX9_sizeOf wsX9_sizeOf) := goodIn_app (goodIn_of _ (by decide +kernel)) ggX9_belief_X9_sizeOf
set_option maxRecDepth 20000 in
theorem ggX9_belief_X9_findPlan : GoodIn wsX9_belief wsX9_findPlan := goodIn_r _ [29, 1, 2, 30, 31, 32, 33, 6, 34, 35, 36, 37, 38, 39, 40, 41, 42, 43, 44, 3, 45, 46, 47, 48, 49, 50, 51, 52, 53, 54, 55, 56, 57, 58, 59, 66, 67, 68, 69, 70, 71, 72, 73, 74, 75, 76, 77, 78, 79, 80, 81, 82, 83, 84, 85, 86, 87, 88, 89, 90, 91, 92] (by decide +kernel) (by decide +kernel)
set_option maxRecDepth 20000 in
theorem gX9_belief_X9_findPlan : GoodIn wsX9_belief (wsV RX9 132 RX9 yX9_findPlan wsX9_findPlan) := goodIn_app (goodIn_of _ (by decide +kernel)) ggX9_belief_X9_findPlan
set_option maxRecDepth 20000 in
theorem ggX9_belief_X9_told : GoodIn wsX9_belief wsX9_told := goodIn_r _ [62, 63, 64, 6, 65] (by decide +kernel) (by decide +kernel)
set_option maxRecDepth 20000 in
theorem gX9_belief_X9_told : GoodIn wsX9_belief (va_wsS RX9 136 yX9_told wsX9_told) := goodIn_app (goodIn_of _ (by decide +kernel)) ggX9_belief_X9_told
theorem dX9_belief_0 : decode cX9_belief 0 = .ok (.iload 5, 2) := by decide +kernel
theorem dX9_belief_2 : decode cX9_belief 2 = .ok (.bipush 10, 2) := by decide +kernel
theorem dX9_belief_4 : decode cX9_belief 4 = .ok (.idiv, 1) := by decide +kernel
theorem dX9_belief_5 : decode cX9_belief 5 = .ok (.istore 6, 2) := by decide +kernel
theorem dX9_belief_7 : decode cX9_belief 7 = .ok (.iload 5, 2) := by decide +kernel
theorem dX9_belief_9 : decode cX9_belief 9 = .ok (.bipush 10, 2) := by decide +kernel
theorem dX9_belief_11 : decode cX9_belief 11 = .ok (.irem, 1) := by decide +kernel
theorem dX9_belief_12 : decode cX9_belief 12 = .ok (.istore 7, 2) := by decide +kernel
theorem dX9_belief_14 : decode cX9_belief 14 = .ok (.iload 7, 2) := by decide +kernel
theorem dX9_belief_16 : decode cX9_belief 16 = .ok (.iconst 2, 1) := by decide +kernel
theorem dX9_belief_17 : decode cX9_belief 17 = .ok (.invokestatic 64, 3) := by decide +kernel
theorem dX9_belief_20 : decode cX9_belief 20 = .ok (.ifCond .ne 10, 3) := by decide +kernel
theorem dX9_belief_23 : decode cX9_belief 23 = .ok (.aload_n 0, 1) := by decide +kernel
theorem dX9_belief_24 : decode cX9_belief 24 = .ok (.bipush (-2), 2) := by decide +kernel
theorem dX9_belief_26 : decode cX9_belief 26 = .ok (.invokevirtual 128, 3) := by decide +kernel
theorem dX9_belief_29 : decode cX9_belief 29 = .ok (.lreturn, 1) := by decide +kernel
theorem dX9_belief_30 : decode cX9_belief 30 = .ok (.aload_n 0, 1) := by decide +kernel
theorem dX9_belief_31 : decode cX9_belief 31 = .ok (.iload_n 1, 1) := by decide +kernel
theorem dX9_belief_32 : decode cX9_belief 32 = .ok (.invokevirtual 75, 3) := by decide +kernel
theorem dX9_belief_35 : decode cX9_belief 35 = .ok (.ifCond .ne 9, 3) := by decide +kernel
theorem dX9_belief_38 : decode cX9_belief 38 = .ok (.aload_n 0, 1) := by decide +kernel
theorem dX9_belief_39 : decode cX9_belief 39 = .ok (.iconst (-1), 1) := by decide +kernel
theorem dX9_belief_40 : decode cX9_belief 40 = .ok (.invokevirtual 128, 3) := by decide +kernel
theorem dX9_belief_43 : decode cX9_belief 43 = .ok (.lreturn, 1) := by decide +kernel
theorem dX9_belief_44 : decode cX9_belief 44 = .ok (.iload_n 2, 1) := by decide +kernel
theorem dX9_belief_45 : decode cX9_belief 45 = .ok (.ifCond .lt 17, 3) := by decide +kernel
theorem dX9_belief_48 : decode cX9_belief 48 = .ok (.iload_n 3, 1) := by decide +kernel
theorem dX9_belief_49 : decode cX9_belief 49 = .ok (.ifCond .lt 13, 3) := by decide +kernel
theorem dX9_belief_52 : decode cX9_belief 52 = .ok (.iload 4, 2) := by decide +kernel
theorem dX9_belief_54 : decode cX9_belief 54 = .ok (.ifCond .lt 8, 3) := by decide +kernel
theorem dX9_belief_57 : decode cX9_belief 57 = .ok (.iload 6, 2) := by decide +kernel
theorem dX9_belief_59 : decode cX9_belief 59 = .ok (.ifCond .ge 10, 3) := by decide +kernel
theorem dX9_belief_62 : decode cX9_belief 62 = .ok (.aload_n 0, 1) := by decide +kernel
theorem dX9_belief_63 : decode cX9_belief 63 = .ok (.bipush (-4), 2) := by decide +kernel
theorem dX9_belief_65 : decode cX9_belief 65 = .ok (.invokevirtual 128, 3) := by decide +kernel
theorem dX9_belief_68 : decode cX9_belief 68 = .ok (.lreturn, 1) := by decide +kernel
theorem dX9_belief_69 : decode cX9_belief 69 = .ok (.iload_n 2, 1) := by decide +kernel
theorem dX9_belief_70 : decode cX9_belief 70 = .ok (.bipush 99, 2) := by decide +kernel
theorem dX9_belief_72 : decode cX9_belief 72 = .ok (.if_icmp .gt 36, 3) := by decide +kernel
theorem dX9_belief_75 : decode cX9_belief 75 = .ok (.iload_n 3, 1) := by decide +kernel
theorem dX9_belief_76 : decode cX9_belief 76 = .ok (.bipush 99, 2) := by decide +kernel
theorem dX9_belief_78 : decode cX9_belief 78 = .ok (.if_icmp .gt 30, 3) := by decide +kernel
theorem dX9_belief_81 : decode cX9_belief 81 = .ok (.iload 4, 2) := by decide +kernel
theorem dX9_belief_83 : decode cX9_belief 83 = .ok (.bipush 10, 2) := by decide +kernel
theorem dX9_belief_85 : decode cX9_belief 85 = .ok (.if_icmp .gt 23, 3) := by decide +kernel
theorem dX9_belief_88 : decode cX9_belief 88 = .ok (.iload 6, 2) := by decide +kernel
theorem dX9_belief_90 : decode cX9_belief 90 = .ok (.aload_n 0, 1) := by decide +kernel
theorem dX9_belief_91 : decode cX9_belief 91 = .ok (.getfield 13, 3) := by decide +kernel
theorem dX9_belief_94 : decode cX9_belief 94 = .ok (.iload_n 1, 1) := by decide +kernel
theorem dX9_belief_95 : decode cX9_belief 95 = .ok (.iaload, 1) := by decide +kernel
theorem dX9_belief_96 : decode cX9_belief 96 = .ok (.aload_n 0, 1) := by decide +kernel
theorem dX9_belief_97 : decode cX9_belief 97 = .ok (.getfield 16, 3) := by decide +kernel
theorem dX9_belief_100 : decode cX9_belief 100 = .ok (.iload_n 1, 1) := by decide +kernel
theorem dX9_belief_101 : decode cX9_belief 101 = .ok (.iaload, 1) := by decide +kernel
theorem dX9_belief_102 : decode cX9_belief 102 = .ok (.invokestatic 79, 3) := by decide +kernel
theorem dX9_belief_105 : decode cX9_belief 105 = .ok (.if_icmp .le 10, 3) := by decide +kernel
theorem dX9_belief_108 : decode cX9_belief 108 = .ok (.aload_n 0, 1) := by decide +kernel
theorem dX9_belief_109 : decode cX9_belief 109 = .ok (.bipush (-6), 2) := by decide +kernel
theorem dX9_belief_111 : decode cX9_belief 111 = .ok (.invokevirtual 128, 3) := by decide +kernel
theorem dX9_belief_114 : decode cX9_belief 114 = .ok (.lreturn, 1) := by decide +kernel
theorem dX9_belief_115 : decode cX9_belief 115 = .ok (.aload_n 0, 1) := by decide +kernel
theorem dX9_belief_116 : decode cX9_belief 116 = .ok (.iload_n 1, 1) := by decide +kernel
theorem dX9_belief_117 : decode cX9_belief 117 = .ok (.iconst 5, 1) := by decide +kernel
theorem dX9_belief_118 : decode cX9_belief 118 = .ok (.invokevirtual 132, 3) := by decide +kernel
theorem dX9_belief_121 : decode cX9_belief 121 = .ok (.iload_n 2, 1) := by decide +kernel
theorem dX9_belief_122 : decode cX9_belief 122 = .ok (.i2l, 1) := by decide +kernel
theorem dX9_belief_123 : decode cX9_belief 123 = .ok (.aload_n 0, 1) := by decide +kernel
theorem dX9_belief_124 : decode cX9_belief 124 = .ok (.getfield 38, 3) := by decide +kernel
theorem dX9_belief_127 : decode cX9_belief 127 = .ok (.iload 6, 2) := by decide +kernel
theorem dX9_belief_129 : decode cX9_belief 129 = .ok (.laload, 1) := by decide +kernel
theorem dX9_belief_130 : decode cX9_belief 130 = .ok (.lmul, 1) := by decide +kernel
theorem dX9_belief_131 : decode cX9_belief 131 = .ok (.lstore 8, 2) := by decide +kernel
theorem dX9_belief_133 : decode cX9_belief 133 = .ok (.aload_n 0, 1) := by decide +kernel
theorem dX9_belief_134 : decode cX9_belief 134 = .ok (.iload_n 1, 1) := by decide +kernel
theorem dX9_belief_135 : decode cX9_belief 135 = .ok (.iload 4, 2) := by decide +kernel
theorem dX9_belief_137 : decode cX9_belief 137 = .ok (.invokevirtual 132, 3) := by decide +kernel
theorem dX9_belief_140 : decode cX9_belief 140 = .ok (.iload_n 3, 1) := by decide +kernel
theorem dX9_belief_141 : decode cX9_belief 141 = .ok (.i2l, 1) := by decide +kernel
theorem dX9_belief_142 : decode cX9_belief 142 = .ok (.aload_n 0, 1) := by decide +kernel
theorem dX9_belief_143 : decode cX9_belief 143 = .ok (.getfield 38, 3) := by decide +kernel
theorem dX9_belief_146 : decode cX9_belief 146 = .ok (.iload 6, 2) := by decide +kernel
theorem dX9_belief_148 : decode cX9_belief 148 = .ok (.laload, 1) := by decide +kernel
theorem dX9_belief_149 : decode cX9_belief 149 = .ok (.lmul, 1) := by decide +kernel
theorem dX9_belief_150 : decode cX9_belief 150 = .ok (.lstore 10, 2) := by decide +kernel
theorem dX9_belief_152 : decode cX9_belief 152 = .ok (.lload 10, 2) := by decide +kernel
theorem dX9_belief_154 : decode cX9_belief 154 = .ok (.lload 8, 2) := by decide +kernel
theorem dX9_belief_156 : decode cX9_belief 156 = .ok (.ladd, 1) := by decide +kernel
theorem dX9_belief_157 : decode cX9_belief 157 = .ok (.lconst 0, 1) := by decide +kernel
theorem dX9_belief_158 : decode cX9_belief 158 = .ok (.lcmp, 1) := by decide +kernel
theorem dX9_belief_159 : decode cX9_belief 159 = .ok (.ifCond .ne 12, 3) := by decide +kernel
theorem dX9_belief_162 : decode cX9_belief 162 = .ok (.aload_n 0, 1) := by decide +kernel
theorem dX9_belief_163 : decode cX9_belief 163 = .ok (.bipush (-3), 2) := by decide +kernel
theorem dX9_belief_165 : decode cX9_belief 165 = .ok (.invokevirtual 128, 3) := by decide +kernel
theorem dX9_belief_168 : decode cX9_belief 168 = .ok (.goto 15, 3) := by decide +kernel
theorem dX9_belief_171 : decode cX9_belief 171 = .ok (.lload 10, 2) := by decide +kernel
theorem dX9_belief_173 : decode cX9_belief 173 = .ok (.lload 10, 2) := by decide +kernel
theorem dX9_belief_175 : decode cX9_belief 175 = .ok (.lload 8, 2) := by decide +kernel
theorem dX9_belief_177 : decode cX9_belief 177 = .ok (.ladd, 1) := by decide +kernel
theorem dX9_belief_178 : decode cX9_belief 178 = .ok (.iload 7, 2) := by decide +kernel
theorem dX9_belief_180 : decode cX9_belief 180 = .ok (.invokestatic 136, 3) := by decide +kernel
theorem dX9_belief_183 : decode cX9_belief 183 = .ok (.lreturn, 1) := by decide +kernel
set_option maxRecDepth 20000 in
theorem ggX9_letter_X9_isIn : GoodIn wsX9_letter wsX9_isIn := goodIn_r _ [6] (by decide +kernel) (by decide +kernel)
set_option maxRecDepth 20000 in
theorem gX9_letter_X9_isIn : GoodIn wsX9_letter (va_wsS RX9 64 yX9_isIn wsX9_isIn) := goodIn_app (goodIn_of _ (by decide +kernel)) ggX9_letter_X9_isIn
set_option maxRecDepth 20000 in
theorem ggX9_letter_X9_isRule : GoodIn wsX9_letter wsX9_isRule := goodIn_r _ [10, 11, 3, 4, 5, 6, 130, 131, 132, 133, 134, 135, 136, 137, 138, 139, 140, 141, 142, 143, 144, 145, 146, 147, 148, 149, 150, 151, 152, 153, 154, 155, 156] (by decide +kernel) (by decide +kernel)
set_option maxRecDepth 20000 in
theorem gX9_letter_X9_isRule : GoodIn wsX9_letter (wsV RX9 207 RX9 yX9_isRule wsX9_isRule) := goodIn_app (goodIn_of _ (by decide +kernel)) ggX9_letter_X9_isRule
set_option maxRecDepth 20000 in
theorem ggX9_letter_X9_isPlan : GoodIn wsX9_letter wsX9_isPlan := goodIn_r _ [15, 1, 3, 4, 5, 6, 130, 131, 132, 133, 134, 135, 136, 137, 138, 139, 140, 141, 142, 143, 144, 145, 146, 147, 148, 149, 150, 151, 152, 153, 154, 155, 156] (by decide +kernel) (by decide +kernel)
set_option maxRecDepth 20000 in
theorem gX9_letter_X9_isPlan : GoodIn wsX9_letter (wsV RX9 75 RX9 yX9_isPlan wsX9_isPlan) := goodIn_app (goodIn_of _ (by decide +kernel)) ggX9_letter_X9_isPlan
set_option maxRecDepth 20000 in
theorem ggX9_letter_X9_refuseFar : GoodIn wsX9_letter wsX9_refuseFar := goodIn_r _ [19, 20, 21, 22, 23, 5, 24, 25, 130, 131, 132, 133, 134, 135, 136, 137, 138, 139, 140, 141, 142, 143, 144, 145, 146, 147, 148, 149, 150, 151, 152, 153, 154, 155, 156] (by decide +kernel) (by decide +kernel)
set_option maxRecDepth 20000 in
theorem gX9_letter_X9_refuseFar : GoodIn wsX9_letter (wsV RX9 128 RX9 yX9_refuseFar wsX9_refuseFar) := goodIn_app (goodIn_of _ (by decide +kernel)) ggX9_letter_X9_refuseFar
set_option maxRecDepth 20000 in
theorem ggX9_letter_X9_sumBy : GoodIn wsX9_letter wsX9_sumBy := goodIn_r _ [29, 30, 31, 32, 33, 34, 35, 5, 36, 37, 38, 39, 40, 41, 42, 43, 44, 45, 46, 47, 48, 49, 50, 2, 51, 52, 53, 54, 55, 56, 57, 58, 59, 60, 61, 62, 63, 64, 65, 66, 67, 68, 69, 70, 71, 72, 73, 74, 75, 76, 77, 78, 79, 80, 81, 82, 83, 84, 85, 86, 87, 88, 89, 90, 91, 92, 93, 94, 95, 96, 97, 98, 99, 100, 101, 102, 103, 104, 105, 106, 107, 108, 109, 110, 111, 112, 113, 114, 115, 116, 117, 118, 119, 120, 121, 122, 123, 130, 131, 132, 133, 134, 135, 136, 137, 138, 139, 140, 141, 142, 143, 144, 145, 146, 147, 148, 149, 150, 151, 152, 153, 154, 155, 156] (by decide +kernel) (by decide +kernel)
set_option maxRecDepth 20000 in
theorem gX9_letter_X9_sumBy : GoodIn wsX9_letter (wsV RX9 214 RX9 yX9_sumBy wsX9_sumBy) := goodIn_app (goodIn_of _ (by decide +kernel)) ggX9_letter_X9_sumBy
set_option maxRecDepth 20000 in
theorem ggX9_letter_X9_common : GoodIn wsX9_letter wsX9_common := goodIn_r _ [126] (by decide +kernel) (by decide +kernel)
set_option maxRecDepth 20000 in
theorem gX9_letter_X9_common : GoodIn wsX9_letter (va_wsS RX9 68 yX9_common wsX9_common) := goodIn_app (goodIn_of _ (by decide +kernel)) ggX9_letter_X9_common
set_option maxRecDepth 20000 in
theorem ggX9_letter_X9_told : GoodIn wsX9_letter wsX9_told := goodIn_r _ [129, 124, 125, 5, 126] (by decide +kernel) (by decide +kernel)
set_option maxRecDepth 20000 in
theorem gX9_letter_X9_told : GoodIn wsX9_letter (va_wsS RX9 136 yX9_told wsX9_told) := goodIn_app (goodIn_of _ (by decide +kernel)) ggX9_letter_X9_told
theorem dX9_letter_0 : decode cX9_letter 0 = .ok (.iload_n 3, 1) := by decide +kernel
theorem dX9_letter_1 : decode cX9_letter 1 = .ok (.iconst 2, 1) := by decide +kernel
theorem dX9_letter_2 : decode cX9_letter 2 = .ok (.invokestatic 64, 3) := by decide +kernel
theorem dX9_letter_5 : decode cX9_letter 5 = .ok (.ifCond .ne 8, 3) := by decide +kernel
theorem dX9_letter_8 : decode cX9_letter 8 = .ok (.bipush (-2), 2) := by decide +kernel
theorem dX9_letter_10 : decode cX9_letter 10 = .ok (.goto 24, 3) := by decide +kernel
theorem dX9_letter_13 : decode cX9_letter 13 = .ok (.aload_n 0, 1) := by decide +kernel
theorem dX9_letter_14 : decode cX9_letter 14 = .ok (.iload_n 1, 1) := by decide +kernel
theorem dX9_letter_15 : decode cX9_letter 15 = .ok (.invokevirtual 207, 3) := by decide +kernel
theorem dX9_letter_18 : decode cX9_letter 18 = .ok (.ifCond .eq 11, 3) := by decide +kernel
theorem dX9_letter_21 : decode cX9_letter 21 = .ok (.aload_n 0, 1) := by decide +kernel
theorem dX9_letter_22 : decode cX9_letter 22 = .ok (.iload_n 2, 1) := by decide +kernel
theorem dX9_letter_23 : decode cX9_letter 23 = .ok (.invokevirtual 75, 3) := by decide +kernel
theorem dX9_letter_26 : decode cX9_letter 26 = .ok (.ifCond .ne 7, 3) := by decide +kernel
theorem dX9_letter_29 : decode cX9_letter 29 = .ok (.iconst (-1), 1) := by decide +kernel
theorem dX9_letter_30 : decode cX9_letter 30 = .ok (.goto 4, 3) := by decide +kernel
theorem dX9_letter_33 : decode cX9_letter 33 = .ok (.iconst 0, 1) := by decide +kernel
theorem dX9_letter_34 : decode cX9_letter 34 = .ok (.istore 4, 2) := by decide +kernel
theorem dX9_letter_36 : decode cX9_letter 36 = .ok (.iload 4, 2) := by decide +kernel
theorem dX9_letter_38 : decode cX9_letter 38 = .ok (.ifCond .eq 10, 3) := by decide +kernel
theorem dX9_letter_41 : decode cX9_letter 41 = .ok (.aload_n 0, 1) := by decide +kernel
theorem dX9_letter_42 : decode cX9_letter 42 = .ok (.iload 4, 2) := by decide +kernel
theorem dX9_letter_44 : decode cX9_letter 44 = .ok (.invokevirtual 128, 3) := by decide +kernel
theorem dX9_letter_47 : decode cX9_letter 47 = .ok (.lreturn, 1) := by decide +kernel
theorem dX9_letter_48 : decode cX9_letter 48 = .ok (.lconst 0, 1) := by decide +kernel
theorem dX9_letter_49 : decode cX9_letter 49 = .ok (.lstore 5, 2) := by decide +kernel
theorem dX9_letter_51 : decode cX9_letter 51 = .ok (.lconst 1, 1) := by decide +kernel
theorem dX9_letter_52 : decode cX9_letter 52 = .ok (.lstore 7, 2) := by decide +kernel
theorem dX9_letter_54 : decode cX9_letter 54 = .ok (.lconst 0, 1) := by decide +kernel
theorem dX9_letter_55 : decode cX9_letter 55 = .ok (.lstore 9, 2) := by decide +kernel
theorem dX9_letter_57 : decode cX9_letter 57 = .ok (.lconst 1, 1) := by decide +kernel
theorem dX9_letter_58 : decode cX9_letter 58 = .ok (.lstore 11, 2) := by decide +kernel
theorem dX9_letter_60 : decode cX9_letter 60 = .ok (.iconst 0, 1) := by decide +kernel
theorem dX9_letter_61 : decode cX9_letter 61 = .ok (.istore 13, 2) := by decide +kernel
theorem dX9_letter_63 : decode cX9_letter 63 = .ok (.iload 13, 2) := by decide +kernel
theorem dX9_letter_65 : decode cX9_letter 65 = .ok (.aload_n 0, 1) := by decide +kernel
theorem dX9_letter_66 : decode cX9_letter 66 = .ok (.getfield 60, 3) := by decide +kernel
theorem dX9_letter_69 : decode cX9_letter 69 = .ok (.if_icmp .ge 137, 3) := by decide +kernel
theorem dX9_letter_72 : decode cX9_letter 72 = .ok (.aload_n 0, 1) := by decide +kernel
theorem dX9_letter_73 : decode cX9_letter 73 = .ok (.iload_n 1, 1) := by decide +kernel
theorem dX9_letter_74 : decode cX9_letter 74 = .ok (.iload 13, 2) := by decide +kernel
theorem dX9_letter_76 : decode cX9_letter 76 = .ok (.iconst 5, 1) := by decide +kernel
theorem dX9_letter_77 : decode cX9_letter 77 = .ok (.invokevirtual 214, 3) := by decide +kernel
theorem dX9_letter_80 : decode cX9_letter 80 = .ok (.lstore 14, 2) := by decide +kernel
theorem dX9_letter_82 : decode cX9_letter 82 = .ok (.lload 14, 2) := by decide +kernel
theorem dX9_letter_84 : decode cX9_letter 84 = .ok (.aload_n 0, 1) := by decide +kernel
theorem dX9_letter_85 : decode cX9_letter 85 = .ok (.getfield 87, 3) := by decide +kernel
theorem dX9_letter_88 : decode cX9_letter 88 = .ok (.invokestatic 68, 3) := by decide +kernel
theorem dX9_letter_91 : decode cX9_letter 91 = .ok (.lstore 16, 2) := by decide +kernel
theorem dX9_letter_93 : decode cX9_letter 93 = .ok (.lload 14, 2) := by decide +kernel
theorem dX9_letter_95 : decode cX9_letter 95 = .ok (.lload 16, 2) := by decide +kernel
theorem dX9_letter_97 : decode cX9_letter 97 = .ok (.ldiv, 1) := by decide +kernel
theorem dX9_letter_98 : decode cX9_letter 98 = .ok (.lstore 18, 2) := by decide +kernel
theorem dX9_letter_100 : decode cX9_letter 100 = .ok (.aload_n 0, 1) := by decide +kernel
theorem dX9_letter_101 : decode cX9_letter 101 = .ok (.getfield 87, 3) := by decide +kernel
theorem dX9_letter_104 : decode cX9_letter 104 = .ok (.lload 16, 2) := by decide +kernel
theorem dX9_letter_106 : decode cX9_letter 106 = .ok (.ldiv, 1) := by decide +kernel
theorem dX9_letter_107 : decode cX9_letter 107 = .ok (.lstore 20, 2) := by decide +kernel
theorem dX9_letter_109 : decode cX9_letter 109 = .ok (.iload 13, 2) := by decide +kernel
theorem dX9_letter_111 : decode cX9_letter 111 = .ok (.iload_n 2, 1) := by decide +kernel
theorem dX9_letter_112 : decode cX9_letter 112 = .ok (.if_icmp .ne 8, 3) := by decide +kernel
theorem dX9_letter_115 : decode cX9_letter 115 = .ok (.lload 18, 2) := by decide +kernel
theorem dX9_letter_117 : decode cX9_letter 117 = .ok (.goto 5, 3) := by decide +kernel
theorem dX9_letter_120 : decode cX9_letter 120 = .ok (.lload 9, 2) := by decide +kernel
theorem dX9_letter_122 : decode cX9_letter 122 = .ok (.lstore 9, 2) := by decide +kernel
theorem dX9_letter_124 : decode cX9_letter 124 = .ok (.iload 13, 2) := by decide +kernel
theorem dX9_letter_126 : decode cX9_letter 126 = .ok (.iload_n 2, 1) := by decide +kernel
theorem dX9_letter_127 : decode cX9_letter 127 = .ok (.if_icmp .ne 8, 3) := by decide +kernel
theorem dX9_letter_130 : decode cX9_letter 130 = .ok (.lload 20, 2) := by decide +kernel
theorem dX9_letter_132 : decode cX9_letter 132 = .ok (.goto 5, 3) := by decide +kernel
theorem dX9_letter_135 : decode cX9_letter 135 = .ok (.lload 11, 2) := by decide +kernel
theorem dX9_letter_137 : decode cX9_letter 137 = .ok (.lstore 11, 2) := by decide +kernel
theorem dX9_letter_139 : decode cX9_letter 139 = .ok (.lload 7, 2) := by decide +kernel
theorem dX9_letter_141 : decode cX9_letter 141 = .ok (.lload 20, 2) := by decide +kernel
theorem dX9_letter_143 : decode cX9_letter 143 = .ok (.invokestatic 68, 3) := by decide +kernel
theorem dX9_letter_146 : decode cX9_letter 146 = .ok (.lstore 22, 2) := by decide +kernel
theorem dX9_letter_148 : decode cX9_letter 148 = .ok (.lload 5, 2) := by decide +kernel
theorem dX9_letter_150 : decode cX9_letter 150 = .ok (.lload 20, 2) := by decide +kernel
theorem dX9_letter_152 : decode cX9_letter 152 = .ok (.lload 22, 2) := by decide +kernel
theorem dX9_letter_154 : decode cX9_letter 154 = .ok (.ldiv, 1) := by decide +kernel
theorem dX9_letter_155 : decode cX9_letter 155 = .ok (.lmul, 1) := by decide +kernel
theorem dX9_letter_156 : decode cX9_letter 156 = .ok (.lload 18, 2) := by decide +kernel
theorem dX9_letter_158 : decode cX9_letter 158 = .ok (.lload 7, 2) := by decide +kernel
theorem dX9_letter_160 : decode cX9_letter 160 = .ok (.lload 22, 2) := by decide +kernel
theorem dX9_letter_162 : decode cX9_letter 162 = .ok (.ldiv, 1) := by decide +kernel
theorem dX9_letter_163 : decode cX9_letter 163 = .ok (.lmul, 1) := by decide +kernel
theorem dX9_letter_164 : decode cX9_letter 164 = .ok (.ladd, 1) := by decide +kernel
theorem dX9_letter_165 : decode cX9_letter 165 = .ok (.lstore 5, 2) := by decide +kernel
theorem dX9_letter_167 : decode cX9_letter 167 = .ok (.lload 7, 2) := by decide +kernel
theorem dX9_letter_169 : decode cX9_letter 169 = .ok (.lload 22, 2) := by decide +kernel
theorem dX9_letter_171 : decode cX9_letter 171 = .ok (.ldiv, 1) := by decide +kernel
theorem dX9_letter_172 : decode cX9_letter 172 = .ok (.lload 20, 2) := by decide +kernel
theorem dX9_letter_174 : decode cX9_letter 174 = .ok (.lmul, 1) := by decide +kernel
theorem dX9_letter_175 : decode cX9_letter 175 = .ok (.lstore 7, 2) := by decide +kernel
theorem dX9_letter_177 : decode cX9_letter 177 = .ok (.lload 5, 2) := by decide +kernel
theorem dX9_letter_179 : decode cX9_letter 179 = .ok (.lload 7, 2) := by decide +kernel
theorem dX9_letter_181 : decode cX9_letter 181 = .ok (.invokestatic 68, 3) := by decide +kernel
theorem dX9_letter_184 : decode cX9_letter 184 = .ok (.lstore 22, 2) := by decide +kernel
theorem dX9_letter_186 : decode cX9_letter 186 = .ok (.lload 5, 2) := by decide +kernel
theorem dX9_letter_188 : decode cX9_letter 188 = .ok (.lload 22, 2) := by decide +kernel
theorem dX9_letter_190 : decode cX9_letter 190 = .ok (.ldiv, 1) := by decide +kernel
theorem dX9_letter_191 : decode cX9_letter 191 = .ok (.lstore 5, 2) := by decide +kernel
theorem dX9_letter_193 : decode cX9_letter 193 = .ok (.lload 7, 2) := by decide +kernel
theorem dX9_letter_195 : decode cX9_letter 195 = .ok (.lload 22, 2) := by decide +kernel
theorem dX9_letter_197 : decode cX9_letter 197 = .ok (.ldiv, 1) := by decide +kernel
theorem dX9_letter_198 : decode cX9_letter 198 = .ok (.lstore 7, 2) := by decide +kernel
theorem dX9_letter_200 : decode cX9_letter 200 = .ok (.iinc 13 1, 3) := by decide +kernel
theorem dX9_letter_203 : decode cX9_letter 203 = .ok (.goto (-140), 3) := by decide +kernel
theorem dX9_letter_206 : decode cX9_letter 206 = .ok (.lload 5, 2) := by decide +kernel
theorem dX9_letter_208 : decode cX9_letter 208 = .ok (.lconst 0, 1) := by decide +kernel
theorem dX9_letter_209 : decode cX9_letter 209 = .ok (.lcmp, 1) := by decide +kernel
theorem dX9_letter_210 : decode cX9_letter 210 = .ok (.ifCond .ne 10, 3) := by decide +kernel
theorem dX9_letter_213 : decode cX9_letter 213 = .ok (.aload_n 0, 1) := by decide +kernel
theorem dX9_letter_214 : decode cX9_letter 214 = .ok (.bipush (-3), 2) := by decide +kernel
theorem dX9_letter_216 : decode cX9_letter 216 = .ok (.invokevirtual 128, 3) := by decide +kernel
theorem dX9_letter_219 : decode cX9_letter 219 = .ok (.lreturn, 1) := by decide +kernel
theorem dX9_letter_220 : decode cX9_letter 220 = .ok (.lload 9, 2) := by decide +kernel
theorem dX9_letter_222 : decode cX9_letter 222 = .ok (.lload 7, 2) := by decide +kernel
theorem dX9_letter_224 : decode cX9_letter 224 = .ok (.lmul, 1) := by decide +kernel
theorem dX9_letter_225 : decode cX9_letter 225 = .ok (.lload 11, 2) := by decide +kernel
theorem dX9_letter_227 : decode cX9_letter 227 = .ok (.lload 5, 2) := by decide +kernel
theorem dX9_letter_229 : decode cX9_letter 229 = .ok (.lmul, 1) := by decide +kernel
theorem dX9_letter_230 : decode cX9_letter 230 = .ok (.iload_n 3, 1) := by decide +kernel
theorem dX9_letter_231 : decode cX9_letter 231 = .ok (.invokestatic 136, 3) := by decide +kernel
theorem dX9_letter_234 : decode cX9_letter 234 = .ok (.lreturn, 1) := by decide +kernel
theorem dX9_bits_0 : decode cX9_bits 0 = .ok (.iconst 0, 1) := by decide +kernel
theorem dX9_bits_1 : decode cX9_bits 1 = .ok (.istore_n 1, 1) := by decide +kernel
theorem dX9_bits_2 : decode cX9_bits 2 = .ok (.iload_n 0, 1) := by decide +kernel
theorem dX9_bits_3 : decode cX9_bits 3 = .ok (.istore_n 2, 1) := by decide +kernel
theorem dX9_bits_4 : decode cX9_bits 4 = .ok (.iload_n 2, 1) := by decide +kernel
theorem dX9_bits_5 : decode cX9_bits 5 = .ok (.ifCond .le 16, 3) := by decide +kernel
theorem dX9_bits_8 : decode cX9_bits 8 = .ok (.iload_n 1, 1) := by decide +kernel
theorem dX9_bits_9 : decode cX9_bits 9 = .ok (.iload_n 2, 1) := by decide +kernel
theorem dX9_bits_10 : decode cX9_bits 10 = .ok (.iconst 1, 1) := by decide +kernel
theorem dX9_bits_11 : decode cX9_bits 11 = .ok (.iand, 1) := by decide +kernel
theorem dX9_bits_12 : decode cX9_bits 12 = .ok (.iadd, 1) := by decide +kernel
theorem dX9_bits_13 : decode cX9_bits 13 = .ok (.istore_n 1, 1) := by decide +kernel
theorem dX9_bits_14 : decode cX9_bits 14 = .ok (.iload_n 2, 1) := by decide +kernel
theorem dX9_bits_15 : decode cX9_bits 15 = .ok (.iconst 1, 1) := by decide +kernel
theorem dX9_bits_16 : decode cX9_bits 16 = .ok (.ishr, 1) := by decide +kernel
theorem dX9_bits_17 : decode cX9_bits 17 = .ok (.istore_n 2, 1) := by decide +kernel
theorem dX9_bits_18 : decode cX9_bits 18 = .ok (.goto (-14), 3) := by decide +kernel
theorem dX9_bits_21 : decode cX9_bits 21 = .ok (.iload_n 1, 1) := by decide +kernel
theorem dX9_bits_22 : decode cX9_bits 22 = .ok (.ireturn, 1) := by decide +kernel
set_option maxRecDepth 20000 in
theorem ggX9_wrongLots_X9_isPlan : GoodIn wsX9_wrongLots wsX9_isPlan := goodIn_r _ [6, 7, 8, 9, 5, 10, 11, 12, 13, 14, 15, 16, 17, 18, 19, 20, 21, 22, 23, 24, 25, 26, 27, 28, 29, 30, 31, 32, 33, 34, 35, 36, 37] (by decide +kernel) (by decide +kernel)
set_option maxRecDepth 20000 in
theorem gX9_wrongLots_X9_isPlan : GoodIn wsX9_wrongLots (wsV RX9 75 RX9 yX9_isPlan wsX9_isPlan) := goodIn_app (goodIn_of _ (by decide +kernel)) ggX9_wrongLots_X9_isPlan
theorem dX9_wrongLots_0 : decode cX9_wrongLots 0 = .ok (.aload_n 0, 1) := by decide +kernel
theorem dX9_wrongLots_1 : decode cX9_wrongLots 1 = .ok (.iload_n 1, 1) := by decide +kernel
theorem dX9_wrongLots_2 : decode cX9_wrongLots 2 = .ok (.invokevirtual 75, 3) := by decide +kernel
theorem dX9_wrongLots_5 : decode cX9_wrongLots 5 = .ok (.ifCond .ne 7, 3) := by decide +kernel
theorem dX9_wrongLots_8 : decode cX9_wrongLots 8 = .ok (.iconst (-1), 1) := by decide +kernel
theorem dX9_wrongLots_9 : decode cX9_wrongLots 9 = .ok (.goto 19, 3) := by decide +kernel
theorem dX9_wrongLots_12 : decode cX9_wrongLots 12 = .ok (.aload_n 0, 1) := by decide +kernel
theorem dX9_wrongLots_13 : decode cX9_wrongLots 13 = .ok (.getfield 13, 3) := by decide +kernel
theorem dX9_wrongLots_16 : decode cX9_wrongLots 16 = .ok (.iload_n 1, 1) := by decide +kernel
theorem dX9_wrongLots_17 : decode cX9_wrongLots 17 = .ok (.iaload, 1) := by decide +kernel
theorem dX9_wrongLots_18 : decode cX9_wrongLots 18 = .ok (.iconst 1, 1) := by decide +kernel
theorem dX9_wrongLots_19 : decode cX9_wrongLots 19 = .ok (.if_icmp .eq 8, 3) := by decide +kernel
theorem dX9_wrongLots_22 : decode cX9_wrongLots 22 = .ok (.bipush (-3), 2) := by decide +kernel
theorem dX9_wrongLots_24 : decode cX9_wrongLots 24 = .ok (.goto 4, 3) := by decide +kernel
theorem dX9_wrongLots_27 : decode cX9_wrongLots 27 = .ok (.iconst 0, 1) := by decide +kernel
theorem dX9_wrongLots_28 : decode cX9_wrongLots 28 = .ok (.ireturn, 1) := by decide +kernel
set_option maxRecDepth 20000 in
theorem ggX9_isLot_X9_bits : GoodIn wsX9_isLot wsX9_bits := goodIn_r _ [6] (by decide +kernel) (by decide +kernel)
set_option maxRecDepth 20000 in
theorem gX9_isLot_X9_bits : GoodIn wsX9_isLot (va_wsS RX9 238 yX9_bits wsX9_bits) := goodIn_app (goodIn_of _ (by decide +kernel)) ggX9_isLot_X9_bits
theorem dX9_isLot_0 : decode cX9_isLot 0 = .ok (.iload_n 2, 1) := by decide +kernel
theorem dX9_isLot_1 : decode cX9_isLot 1 = .ok (.ifCond .lt 32, 3) := by decide +kernel
theorem dX9_isLot_4 : decode cX9_isLot 4 = .ok (.iload_n 2, 1) := by decide +kernel
theorem dX9_isLot_5 : decode cX9_isLot 5 = .ok (.iconst 1, 1) := by decide +kernel
theorem dX9_isLot_6 : decode cX9_isLot 6 = .ok (.aload_n 0, 1) := by decide +kernel
theorem dX9_isLot_7 : decode cX9_isLot 7 = .ok (.getfield 16, 3) := by decide +kernel
theorem dX9_isLot_10 : decode cX9_isLot 10 = .ok (.iload_n 1, 1) := by decide +kernel
theorem dX9_isLot_11 : decode cX9_isLot 11 = .ok (.iaload, 1) := by decide +kernel
theorem dX9_isLot_12 : decode cX9_isLot 12 = .ok (.ishl, 1) := by decide +kernel
theorem dX9_isLot_13 : decode cX9_isLot 13 = .ok (.if_icmp .ge 20, 3) := by decide +kernel
theorem dX9_isLot_16 : decode cX9_isLot 16 = .ok (.iload_n 2, 1) := by decide +kernel
theorem dX9_isLot_17 : decode cX9_isLot 17 = .ok (.invokestatic 238, 3) := by decide +kernel
theorem dX9_isLot_20 : decode cX9_isLot 20 = .ok (.aload_n 0, 1) := by decide +kernel
theorem dX9_isLot_21 : decode cX9_isLot 21 = .ok (.getfield 19, 3) := by decide +kernel
theorem dX9_isLot_24 : decode cX9_isLot 24 = .ok (.iload_n 1, 1) := by decide +kernel
theorem dX9_isLot_25 : decode cX9_isLot 25 = .ok (.iaload, 1) := by decide +kernel
theorem dX9_isLot_26 : decode cX9_isLot 26 = .ok (.if_icmp .ne 7, 3) := by decide +kernel
theorem dX9_isLot_29 : decode cX9_isLot 29 = .ok (.iconst 1, 1) := by decide +kernel
theorem dX9_isLot_30 : decode cX9_isLot 30 = .ok (.goto 4, 3) := by decide +kernel
theorem dX9_isLot_33 : decode cX9_isLot 33 = .ok (.iconst 0, 1) := by decide +kernel
theorem dX9_isLot_34 : decode cX9_isLot 34 = .ok (.ireturn, 1) := by decide +kernel
set_option maxRecDepth 20000 in
theorem ggX9_wrongLot_X9_isPlan : GoodIn wsX9_wrongLot wsX9_isPlan := goodIn_r _ [6, 7, 8, 9, 5, 10, 20, 21, 22, 23, 24, 25, 26, 27, 28, 29, 30, 31, 32, 33, 34, 35, 36, 37, 38, 39, 40, 41, 42, 43, 44, 45, 46] (by decide +kernel) (by decide +kernel)
set_option maxRecDepth 20000 in
theorem gX9_wrongLot_X9_isPlan : GoodIn wsX9_wrongLot (wsV RX9 75 RX9 yX9_isPlan wsX9_isPlan) := goodIn_app (goodIn_of _ (by decide +kernel)) ggX9_wrongLot_X9_isPlan
set_option maxRecDepth 20000 in
theorem ggX9_wrongLot_X9_isLot : GoodIn wsX9_wrongLot wsX9_isLot := goodIn_r _ [14, 15, 16, 17, 18, 5, 19, 20, 21, 22, 23, 24, 25, 26, 27, 28, 29, 30, 31, 32, 33, 34, 35, 36, 37, 38, 39, 40, 41, 42, 43, 44, 45, 46] (by decide +kernel) (by decide +kernel)
set_option maxRecDepth 20000 in
theorem gX9_wrongLot_X9_isLot : GoodIn wsX9_wrongLot (wsV RX9 241 RX9 yX9_isLot wsX9_isLot) := goodIn_app (goodIn_of _ (by decide +kernel)) ggX9_wrongLot_X9_isLot
theorem dX9_wrongLot_0 : decode cX9_wrongLot 0 = .ok (.aload_n 0, 1) := by decide +kernel
theorem dX9_wrongLot_1 : decode cX9_wrongLot 1 = .ok (.iload_n 1, 1) := by decide +kernel
theorem dX9_wrongLot_2 : decode cX9_wrongLot 2 = .ok (.invokevirtual 75, 3) := by decide +kernel
theorem dX9_wrongLot_5 : decode cX9_wrongLot 5 = .ok (.ifCond .ne 7, 3) := by decide +kernel
theorem dX9_wrongLot_8 : decode cX9_wrongLot 8 = .ok (.iconst (-1), 1) := by decide +kernel
theorem dX9_wrongLot_9 : decode cX9_wrongLot 9 = .ok (.goto 32, 3) := by decide +kernel
theorem dX9_wrongLot_12 : decode cX9_wrongLot 12 = .ok (.aload_n 0, 1) := by decide +kernel
theorem dX9_wrongLot_13 : decode cX9_wrongLot 13 = .ok (.getfield 13, 3) := by decide +kernel
theorem dX9_wrongLot_16 : decode cX9_wrongLot 16 = .ok (.iload_n 1, 1) := by decide +kernel
theorem dX9_wrongLot_17 : decode cX9_wrongLot 17 = .ok (.iaload, 1) := by decide +kernel
theorem dX9_wrongLot_18 : decode cX9_wrongLot 18 = .ok (.iconst 1, 1) := by decide +kernel
theorem dX9_wrongLot_19 : decode cX9_wrongLot 19 = .ok (.if_icmp .eq 8, 3) := by decide +kernel
theorem dX9_wrongLot_22 : decode cX9_wrongLot 22 = .ok (.bipush (-3), 2) := by decide +kernel
theorem dX9_wrongLot_24 : decode cX9_wrongLot 24 = .ok (.goto 17, 3) := by decide +kernel
theorem dX9_wrongLot_27 : decode cX9_wrongLot 27 = .ok (.aload_n 0, 1) := by decide +kernel
theorem dX9_wrongLot_28 : decode cX9_wrongLot 28 = .ok (.iload_n 1, 1) := by decide +kernel
theorem dX9_wrongLot_29 : decode cX9_wrongLot 29 = .ok (.iload_n 2, 1) := by decide +kernel
theorem dX9_wrongLot_30 : decode cX9_wrongLot 30 = .ok (.invokevirtual 241, 3) := by decide +kernel
theorem dX9_wrongLot_33 : decode cX9_wrongLot 33 = .ok (.ifCond .eq 7, 3) := by decide +kernel
theorem dX9_wrongLot_36 : decode cX9_wrongLot 36 = .ok (.iconst 0, 1) := by decide +kernel
theorem dX9_wrongLot_37 : decode cX9_wrongLot 37 = .ok (.goto 4, 3) := by decide +kernel
theorem dX9_wrongLot_40 : decode cX9_wrongLot 40 = .ok (.iconst (-1), 1) := by decide +kernel
theorem dX9_wrongLot_41 : decode cX9_wrongLot 41 = .ok (.ireturn, 1) := by decide +kernel
set_option maxRecDepth 20000 in
theorem ggX9_lots_X9_wrongLots : GoodIn wsX9_lots wsX9_wrongLots := goodIn_r _ [7, 8, 9, 10, 11, 6, 12, 13, 14, 15, 16, 25, 26, 27, 28, 29, 30, 31, 32, 33, 34, 35, 36, 37, 38, 39, 40, 41, 42, 43, 44, 45, 46, 47, 48, 49, 50, 51] (by decide +kernel) (by decide +kernel)
set_option maxRecDepth 20000 in
theorem gX9_lots_X9_wrongLots : GoodIn wsX9_lots (wsV RX9 244 RX9 yX9_wrongLots wsX9_wrongLots) := goodIn_app (goodIn_of _ (by decide +kernel)) ggX9_lots_X9_wrongLots
set_option maxRecDepth 20000 in
theorem ggX9_lots_X9_refuse : GoodIn wsX9_lots wsX9_refuse := goodIn_r _ [20, 21, 25, 26, 27, 28, 29, 30, 31, 32, 33, 34, 35, 36, 37, 38, 39, 40, 41, 42, 43, 44, 45, 46, 47, 48, 49, 50, 51] (by decide +kernel) (by decide +kernel)
set_option maxRecDepth 20000 in
theorem gX9_lots_X9_refuse : GoodIn wsX9_lots (wsV RX9 56 RX9 yX9_refuse wsX9_refuse) := goodIn_app (goodIn_of _ (by decide +kernel)) ggX9_lots_X9_refuse
set_option maxRecDepth 20000 in
theorem ggX9_lots_X9_ways : GoodIn wsX9_lots wsX9_ways := goodIn_r _ [24] (by decide +kernel) (by decide +kernel)
set_option maxRecDepth 20000 in
theorem gX9_lots_X9_ways : GoodIn wsX9_lots (va_wsS RX9 91 yX9_ways wsX9_ways) := goodIn_app (goodIn_of _ (by decide +kernel)) ggX9_lots_X9_ways
theorem dX9_lots_0 : decode cX9_lots 0 = .ok (.aload_n 0, 1) := by decide +kernel
theorem dX9_lots_1 : decode cX9_lots 1 = .ok (.iload_n 1, 1) := by decide +kernel
theorem dX9_lots_2 : decode cX9_lots 2 = .ok (.invokevirtual 244, 3) := by decide +kernel
theorem dX9_lots_5 : decode cX9_lots 5 = .ok (.istore_n 2, 1) := by decide +kernel
theorem dX9_lots_6 : decode cX9_lots 6 = .ok (.iload_n 2, 1) := by decide +kernel
theorem dX9_lots_7 : decode cX9_lots 7 = .ok (.ifCond .eq 11, 3) := by decide +kernel
theorem dX9_lots_10 : decode cX9_lots 10 = .ok (.aload_n 0, 1) := by decide +kernel
theorem dX9_lots_11 : decode cX9_lots 11 = .ok (.iload_n 2, 1) := by decide +kernel
theorem dX9_lots_12 : decode cX9_lots 12 = .ok (.invokevirtual 56, 3) := by decide +kernel
theorem dX9_lots_15 : decode cX9_lots 15 = .ok (.goto 19, 3) := by decide +kernel
theorem dX9_lots_18 : decode cX9_lots 18 = .ok (.aload_n 0, 1) := by decide +kernel
theorem dX9_lots_19 : decode cX9_lots 19 = .ok (.getfield 16, 3) := by decide +kernel
theorem dX9_lots_22 : decode cX9_lots 22 = .ok (.iload_n 1, 1) := by decide +kernel
theorem dX9_lots_23 : decode cX9_lots 23 = .ok (.iaload, 1) := by decide +kernel
theorem dX9_lots_24 : decode cX9_lots 24 = .ok (.aload_n 0, 1) := by decide +kernel
theorem dX9_lots_25 : decode cX9_lots 25 = .ok (.getfield 19, 3) := by decide +kernel
theorem dX9_lots_28 : decode cX9_lots 28 = .ok (.iload_n 1, 1) := by decide +kernel
theorem dX9_lots_29 : decode cX9_lots 29 = .ok (.iaload, 1) := by decide +kernel
theorem dX9_lots_30 : decode cX9_lots 30 = .ok (.invokestatic 91, 3) := by decide +kernel
theorem dX9_lots_33 : decode cX9_lots 33 = .ok (.l2i, 1) := by decide +kernel
theorem dX9_lots_34 : decode cX9_lots 34 = .ok (.ireturn, 1) := by decide +kernel
set_option maxRecDepth 20000 in
theorem ggX9_lot_X9_wrongLots : GoodIn wsX9_lot wsX9_wrongLots := goodIn_r _ [7, 8, 9, 10, 11, 6, 12, 13, 14, 15, 16, 32, 33, 34, 35, 36, 37, 38, 39, 40, 41, 42, 43, 44, 45, 46, 47, 48, 49, 50, 51, 52, 53, 54, 55, 56, 57, 58] (by decide +kernel) (by decide +kernel)
set_option maxRecDepth 20000 in
theorem gX9_lot_X9_wrongLots : GoodIn wsX9_lot (wsV RX9 244 RX9 yX9_wrongLots wsX9_wrongLots) := goodIn_app (goodIn_of _ (by decide +kernel)) ggX9_lot_X9_wrongLots
set_option maxRecDepth 20000 in
theorem ggX9_lot_X9_ways : GoodIn wsX9_lot wsX9_ways := goodIn_r _ [19] (by decide +kernel) (by decide +kernel)
set_option maxRecDepth 20000 in
theorem gX9_lot_X9_ways : GoodIn wsX9_lot (va_wsS RX9 91 yX9_ways wsX9_ways) := goodIn_app (goodIn_of _ (by decide +kernel)) ggX9_lot_X9_ways
set_option maxRecDepth 20000 in
theorem ggX9_lot_X9_refuse : GoodIn wsX9_lot wsX9_refuse := goodIn_r _ [23, 24, 32, 33, 34, 35, 36, 37, 38, 39, 40, 41, 42, 43, 44, 45, 46, 47, 48, 49, 50, 51, 52, 53, 54, 55, 56, 57, 58] (by decide +kernel) (by decide +kernel)
set_option maxRecDepth 20000 in
theorem gX9_lot_X9_refuse : GoodIn wsX9_lot (wsV RX9 56 RX9 yX9_refuse wsX9_refuse) := goodIn_app (goodIn_of _ (by decide +kernel)) ggX9_lot_X9_refuse
set_option maxRecDepth 20000 in
theorem ggX9_lot_X9_isLot : GoodIn wsX9_lot wsX9_isLot := goodIn_r _ [28, 1, 2, 29, 30, 6, 31, 32, 33, 34, 35, 36, 37, 38, 39, 40, 41, 42, 43, 44, 45, 46, 47, 48, 49, 50, 51, 52, 53, 54, 55, 56, 57, 58] (by decide +kernel) (by decide +kernel)
set_option maxRecDepth 20000 in
theorem gX9_lot_X9_isLot : GoodIn wsX9_lot (wsV RX9 241 RX9 yX9_isLot wsX9_isLot) := goodIn_app (goodIn_of _ (by decide +kernel)) ggX9_lot_X9_isLot
theorem dX9_lot_0 : decode cX9_lot 0 = .ok (.aload_n 0, 1) := by decide +kernel
theorem dX9_lot_1 : decode cX9_lot 1 = .ok (.iload_n 1, 1) := by decide +kernel
theorem dX9_lot_2 : decode cX9_lot 2 = .ok (.invokevirtual 244, 3) := by decide +kernel
theorem dX9_lot_5 : decode cX9_lot 5 = .ok (.istore_n 3, 1) := by decide +kernel
theorem dX9_lot_6 : decode cX9_lot 6 = .ok (.iload_n 3, 1) := by decide +kernel
theorem dX9_lot_7 : decode cX9_lot 7 = .ok (.ifCond .ne 30, 3) := by decide +kernel
theorem dX9_lot_10 : decode cX9_lot 10 = .ok (.iload_n 2, 1) := by decide +kernel
theorem dX9_lot_11 : decode cX9_lot 11 = .ok (.ifCond .lt 24, 3) := by decide +kernel
theorem dX9_lot_14 : decode cX9_lot 14 = .ok (.iload_n 2, 1) := by decide +kernel
theorem dX9_lot_15 : decode cX9_lot 15 = .ok (.i2l, 1) := by decide +kernel
theorem dX9_lot_16 : decode cX9_lot 16 = .ok (.aload_n 0, 1) := by decide +kernel
theorem dX9_lot_17 : decode cX9_lot 17 = .ok (.getfield 16, 3) := by decide +kernel
theorem dX9_lot_20 : decode cX9_lot 20 = .ok (.iload_n 1, 1) := by decide +kernel
theorem dX9_lot_21 : decode cX9_lot 21 = .ok (.iaload, 1) := by decide +kernel
theorem dX9_lot_22 : decode cX9_lot 22 = .ok (.aload_n 0, 1) := by decide +kernel
theorem dX9_lot_23 : decode cX9_lot 23 = .ok (.getfield 19, 3) := by decide +kernel
theorem dX9_lot_26 : decode cX9_lot 26 = .ok (.iload_n 1, 1) := by decide +kernel
theorem dX9_lot_27 : decode cX9_lot 27 = .ok (.iaload, 1) := by decide +kernel
theorem dX9_lot_28 : decode cX9_lot 28 = .ok (.invokestatic 91, 3) := by decide +kernel
theorem dX9_lot_31 : decode cX9_lot 31 = .ok (.lcmp, 1) := by decide +kernel
theorem dX9_lot_32 : decode cX9_lot 32 = .ok (.ifCond .lt 5, 3) := by decide +kernel
theorem dX9_lot_35 : decode cX9_lot 35 = .ok (.iconst (-1), 1) := by decide +kernel
theorem dX9_lot_36 : decode cX9_lot 36 = .ok (.istore_n 3, 1) := by decide +kernel
theorem dX9_lot_37 : decode cX9_lot 37 = .ok (.iload_n 3, 1) := by decide +kernel
theorem dX9_lot_38 : decode cX9_lot 38 = .ok (.ifCond .eq 9, 3) := by decide +kernel
theorem dX9_lot_41 : decode cX9_lot 41 = .ok (.aload_n 0, 1) := by decide +kernel
theorem dX9_lot_42 : decode cX9_lot 42 = .ok (.iload_n 3, 1) := by decide +kernel
theorem dX9_lot_43 : decode cX9_lot 43 = .ok (.invokevirtual 56, 3) := by decide +kernel
theorem dX9_lot_46 : decode cX9_lot 46 = .ok (.ireturn, 1) := by decide +kernel
theorem dX9_lot_47 : decode cX9_lot 47 = .ok (.iload_n 2, 1) := by decide +kernel
theorem dX9_lot_48 : decode cX9_lot 48 = .ok (.istore 4, 2) := by decide +kernel
theorem dX9_lot_50 : decode cX9_lot 50 = .ok (.iconst 0, 1) := by decide +kernel
theorem dX9_lot_51 : decode cX9_lot 51 = .ok (.istore 5, 2) := by decide +kernel
theorem dX9_lot_53 : decode cX9_lot 53 = .ok (.aload_n 0, 1) := by decide +kernel
theorem dX9_lot_54 : decode cX9_lot 54 = .ok (.iload_n 1, 1) := by decide +kernel
theorem dX9_lot_55 : decode cX9_lot 55 = .ok (.iload 5, 2) := by decide +kernel
theorem dX9_lot_57 : decode cX9_lot 57 = .ok (.invokevirtual 241, 3) := by decide +kernel
theorem dX9_lot_60 : decode cX9_lot 60 = .ok (.ifCond .eq 8, 3) := by decide +kernel
theorem dX9_lot_63 : decode cX9_lot 63 = .ok (.iload 4, 2) := by decide +kernel
theorem dX9_lot_65 : decode cX9_lot 65 = .ok (.ifCond .le 29, 3) := by decide +kernel
theorem dX9_lot_68 : decode cX9_lot 68 = .ok (.iload 4, 2) := by decide +kernel
theorem dX9_lot_70 : decode cX9_lot 70 = .ok (.aload_n 0, 1) := by decide +kernel
theorem dX9_lot_71 : decode cX9_lot 71 = .ok (.iload_n 1, 1) := by decide +kernel
theorem dX9_lot_72 : decode cX9_lot 72 = .ok (.iload 5, 2) := by decide +kernel
theorem dX9_lot_74 : decode cX9_lot 74 = .ok (.invokevirtual 241, 3) := by decide +kernel
theorem dX9_lot_77 : decode cX9_lot 77 = .ok (.ifCond .eq 7, 3) := by decide +kernel
theorem dX9_lot_80 : decode cX9_lot 80 = .ok (.iconst 1, 1) := by decide +kernel
theorem dX9_lot_81 : decode cX9_lot 81 = .ok (.goto 4, 3) := by decide +kernel
theorem dX9_lot_84 : decode cX9_lot 84 = .ok (.iconst 0, 1) := by decide +kernel
theorem dX9_lot_85 : decode cX9_lot 85 = .ok (.isub, 1) := by decide +kernel
theorem dX9_lot_86 : decode cX9_lot 86 = .ok (.istore 4, 2) := by decide +kernel
theorem dX9_lot_88 : decode cX9_lot 88 = .ok (.iinc 5 1, 3) := by decide +kernel
theorem dX9_lot_91 : decode cX9_lot 91 = .ok (.goto (-38), 3) := by decide +kernel
theorem dX9_lot_94 : decode cX9_lot 94 = .ok (.iload 5, 2) := by decide +kernel
theorem dX9_lot_96 : decode cX9_lot 96 = .ok (.ireturn, 1) := by decide +kernel
set_option maxRecDepth 20000 in
theorem ggX9_rank_X9_wrongLot : GoodIn wsX9_rank wsX9_wrongLot := goodIn_r _ [5, 6, 7, 8, 9, 4, 10, 11, 12, 13, 14, 15, 16, 17, 18, 19, 20, 21, 22, 23, 29, 30, 31, 32, 33, 34, 35, 36, 37, 38, 39, 40, 41, 42, 43, 44, 45, 46, 47, 48, 49, 50, 51, 52, 53, 54, 55] (by decide +kernel) (by decide +kernel)
set_option maxRecDepth 20000 in
theorem gX9_rank_X9_wrongLot : GoodIn wsX9_rank (wsV RX9 247 RX9 yX9_wrongLot wsX9_wrongLot) := goodIn_app (goodIn_of _ (by decide +kernel)) ggX9_rank_X9_wrongLot
set_option maxRecDepth 20000 in
theorem ggX9_rank_X9_refuse : GoodIn wsX9_rank wsX9_refuse := goodIn_r _ [27, 28, 29, 30, 31, 32, 33, 34, 35, 36, 37, 38, 39, 40, 41, 42, 43, 44, 45, 46, 47, 48, 49, 50, 51, 52, 53, 54, 55] (by decide +kernel) (by decide +kernel)
set_option maxRecDepth 20000 in
theorem gX9_rank_X9_refuse : GoodIn wsX9_rank (wsV RX9 56 RX9 yX9_refuse wsX9_refuse) := goodIn_app (goodIn_of _ (by decide +kernel)) ggX9_rank_X9_refuse
set_option maxRecDepth 20000 in
theorem ggX9_rank_X9_isLot : GoodIn wsX9_rank wsX9_isLot := goodIn_r _ [18, 19, 20, 21, 22, 4, 23, 29, 30, 31, 32, 33, 34, 35, 36, 37, 38, 39, 40, 41, 42, 43, 44, 45, 46, 47, 48, 49, 50, 51, 52, 53, 54, 55] (by decide +kernel) (by decide +kernel)
set_option maxRecDepth 20000 in
theorem gX9_rank_X9_isLot : GoodIn wsX9_rank (wsV RX9 241 RX9 yX9_isLot wsX9_isLot) := goodIn_app (goodIn_of _ (by decide +kernel)) ggX9_rank_X9_isLot
theorem dX9_rank_0 : decode cX9_rank 0 = .ok (.aload_n 0, 1) := by decide +kernel
theorem dX9_rank_1 : decode cX9_rank 1 = .ok (.iload_n 1, 1) := by decide +kernel
theorem dX9_rank_2 : decode cX9_rank 2 = .ok (.iload_n 2, 1) := by decide +kernel
theorem dX9_rank_3 : decode cX9_rank 3 = .ok (.invokevirtual 247, 3) := by decide +kernel
theorem dX9_rank_6 : decode cX9_rank 6 = .ok (.istore_n 3, 1) := by decide +kernel
theorem dX9_rank_7 : decode cX9_rank 7 = .ok (.iload_n 3, 1) := by decide +kernel
theorem dX9_rank_8 : decode cX9_rank 8 = .ok (.ifCond .eq 9, 3) := by decide +kernel
theorem dX9_rank_11 : decode cX9_rank 11 = .ok (.aload_n 0, 1) := by decide +kernel
theorem dX9_rank_12 : decode cX9_rank 12 = .ok (.iload_n 3, 1) := by decide +kernel
theorem dX9_rank_13 : decode cX9_rank 13 = .ok (.invokevirtual 56, 3) := by decide +kernel
theorem dX9_rank_16 : decode cX9_rank 16 = .ok (.ireturn, 1) := by decide +kernel
theorem dX9_rank_17 : decode cX9_rank 17 = .ok (.iconst 0, 1) := by decide +kernel
theorem dX9_rank_18 : decode cX9_rank 18 = .ok (.istore 4, 2) := by decide +kernel
theorem dX9_rank_20 : decode cX9_rank 20 = .ok (.iconst 0, 1) := by decide +kernel
theorem dX9_rank_21 : decode cX9_rank 21 = .ok (.istore 5, 2) := by decide +kernel
theorem dX9_rank_23 : decode cX9_rank 23 = .ok (.iload 5, 2) := by decide +kernel
theorem dX9_rank_25 : decode cX9_rank 25 = .ok (.iload_n 2, 1) := by decide +kernel
theorem dX9_rank_26 : decode cX9_rank 26 = .ok (.if_icmp .ge 29, 3) := by decide +kernel
theorem dX9_rank_29 : decode cX9_rank 29 = .ok (.iload 4, 2) := by decide +kernel
theorem dX9_rank_31 : decode cX9_rank 31 = .ok (.aload_n 0, 1) := by decide +kernel
theorem dX9_rank_32 : decode cX9_rank 32 = .ok (.iload_n 1, 1) := by decide +kernel
theorem dX9_rank_33 : decode cX9_rank 33 = .ok (.iload 5, 2) := by decide +kernel
theorem dX9_rank_35 : decode cX9_rank 35 = .ok (.invokevirtual 241, 3) := by decide +kernel
theorem dX9_rank_38 : decode cX9_rank 38 = .ok (.ifCond .eq 7, 3) := by decide +kernel
theorem dX9_rank_41 : decode cX9_rank 41 = .ok (.iconst 1, 1) := by decide +kernel
theorem dX9_rank_42 : decode cX9_rank 42 = .ok (.goto 4, 3) := by decide +kernel
theorem dX9_rank_45 : decode cX9_rank 45 = .ok (.iconst 0, 1) := by decide +kernel
theorem dX9_rank_46 : decode cX9_rank 46 = .ok (.iadd, 1) := by decide +kernel
theorem dX9_rank_47 : decode cX9_rank 47 = .ok (.istore 4, 2) := by decide +kernel
theorem dX9_rank_49 : decode cX9_rank 49 = .ok (.iinc 5 1, 3) := by decide +kernel
theorem dX9_rank_52 : decode cX9_rank 52 = .ok (.goto (-29), 3) := by decide +kernel
theorem dX9_rank_55 : decode cX9_rank 55 = .ok (.iload 4, 2) := by decide +kernel
theorem dX9_rank_57 : decode cX9_rank 57 = .ok (.ireturn, 1) := by decide +kernel
theorem dX9_leanOf_0 : decode cX9_leanOf 0 = .ok (.iconst 0, 1) := by decide +kernel
theorem dX9_leanOf_1 : decode cX9_leanOf 1 = .ok (.istore_n 3, 1) := by decide +kernel
theorem dX9_leanOf_2 : decode cX9_leanOf 2 = .ok (.iconst 0, 1) := by decide +kernel
theorem dX9_leanOf_3 : decode cX9_leanOf 3 = .ok (.istore 4, 2) := by decide +kernel
theorem dX9_leanOf_5 : decode cX9_leanOf 5 = .ok (.iload 4, 2) := by decide +kernel
theorem dX9_leanOf_7 : decode cX9_leanOf 7 = .ok (.aload_n 0, 1) := by decide +kernel
theorem dX9_leanOf_8 : decode cX9_leanOf 8 = .ok (.getfield 16, 3) := by decide +kernel
theorem dX9_leanOf_11 : decode cX9_leanOf 11 = .ok (.iload_n 1, 1) := by decide +kernel
theorem dX9_leanOf_12 : decode cX9_leanOf 12 = .ok (.iaload, 1) := by decide +kernel
theorem dX9_leanOf_13 : decode cX9_leanOf 13 = .ok (.if_icmp .ge 54, 3) := by decide +kernel
theorem dX9_leanOf_16 : decode cX9_leanOf 16 = .ok (.iload_n 3, 1) := by decide +kernel
theorem dX9_leanOf_17 : decode cX9_leanOf 17 = .ok (.iload_n 2, 1) := by decide +kernel
theorem dX9_leanOf_18 : decode cX9_leanOf 18 = .ok (.iload 4, 2) := by decide +kernel
theorem dX9_leanOf_20 : decode cX9_leanOf 20 = .ok (.ishr, 1) := by decide +kernel
theorem dX9_leanOf_21 : decode cX9_leanOf 21 = .ok (.iconst 1, 1) := by decide +kernel
theorem dX9_leanOf_22 : decode cX9_leanOf 22 = .ok (.iand, 1) := by decide +kernel
theorem dX9_leanOf_23 : decode cX9_leanOf 23 = .ok (.iconst 1, 1) := by decide +kernel
theorem dX9_leanOf_24 : decode cX9_leanOf 24 = .ok (.if_icmp .ne 25, 3) := by decide +kernel
theorem dX9_leanOf_27 : decode cX9_leanOf 27 = .ok (.iload 4, 2) := by decide +kernel
theorem dX9_leanOf_29 : decode cX9_leanOf 29 = .ok (.aload_n 0, 1) := by decide +kernel
theorem dX9_leanOf_30 : decode cX9_leanOf 30 = .ok (.getfield 16, 3) := by decide +kernel
theorem dX9_leanOf_33 : decode cX9_leanOf 33 = .ok (.iload_n 1, 1) := by decide +kernel
theorem dX9_leanOf_34 : decode cX9_leanOf 34 = .ok (.iaload, 1) := by decide +kernel
theorem dX9_leanOf_35 : decode cX9_leanOf 35 = .ok (.imul, 1) := by decide +kernel
theorem dX9_leanOf_36 : decode cX9_leanOf 36 = .ok (.iload 4, 2) := by decide +kernel
theorem dX9_leanOf_38 : decode cX9_leanOf 38 = .ok (.aload_n 0, 1) := by decide +kernel
theorem dX9_leanOf_39 : decode cX9_leanOf 39 = .ok (.getfield 19, 3) := by decide +kernel
theorem dX9_leanOf_42 : decode cX9_leanOf 42 = .ok (.iload_n 1, 1) := by decide +kernel
theorem dX9_leanOf_43 : decode cX9_leanOf 43 = .ok (.iaload, 1) := by decide +kernel
theorem dX9_leanOf_44 : decode cX9_leanOf 44 = .ok (.imul, 1) := by decide +kernel
theorem dX9_leanOf_45 : decode cX9_leanOf 45 = .ok (.isub, 1) := by decide +kernel
theorem dX9_leanOf_46 : decode cX9_leanOf 46 = .ok (.goto 13, 3) := by decide +kernel
theorem dX9_leanOf_49 : decode cX9_leanOf 49 = .ok (.iload 4, 2) := by decide +kernel
theorem dX9_leanOf_51 : decode cX9_leanOf 51 = .ok (.ineg, 1) := by decide +kernel
theorem dX9_leanOf_52 : decode cX9_leanOf 52 = .ok (.aload_n 0, 1) := by decide +kernel
theorem dX9_leanOf_53 : decode cX9_leanOf 53 = .ok (.getfield 19, 3) := by decide +kernel
theorem dX9_leanOf_56 : decode cX9_leanOf 56 = .ok (.iload_n 1, 1) := by decide +kernel
theorem dX9_leanOf_57 : decode cX9_leanOf 57 = .ok (.iaload, 1) := by decide +kernel
theorem dX9_leanOf_58 : decode cX9_leanOf 58 = .ok (.imul, 1) := by decide +kernel
theorem dX9_leanOf_59 : decode cX9_leanOf 59 = .ok (.iadd, 1) := by decide +kernel
theorem dX9_leanOf_60 : decode cX9_leanOf 60 = .ok (.istore_n 3, 1) := by decide +kernel
theorem dX9_leanOf_61 : decode cX9_leanOf 61 = .ok (.iinc 4 1, 3) := by decide +kernel
theorem dX9_leanOf_64 : decode cX9_leanOf 64 = .ok (.goto (-59), 3) := by decide +kernel
theorem dX9_leanOf_67 : decode cX9_leanOf 67 = .ok (.iload_n 3, 1) := by decide +kernel
theorem dX9_leanOf_68 : decode cX9_leanOf 68 = .ok (.ireturn, 1) := by decide +kernel
set_option maxRecDepth 20000 in
theorem ggX9_lean_X9_wrongLot : GoodIn wsX9_lean wsX9_wrongLot := goodIn_r _ [6, 7, 8, 9, 10, 5, 11, 12, 13, 14, 15, 16, 17, 18, 19, 20, 21, 22, 23, 24, 34, 35, 36, 37, 38, 39, 40, 41, 42, 43, 44, 45, 46, 47, 48, 49, 50, 51, 52, 53, 54, 55, 56, 57, 58, 59, 60] (by decide +kernel) (by decide +kernel)
set_option maxRecDepth 20000 in
theorem gX9_lean_X9_wrongLot : GoodIn wsX9_lean (wsV RX9 247 RX9 yX9_wrongLot wsX9_wrongLot) := goodIn_app (goodIn_of _ (by decide +kernel)) ggX9_lean_X9_wrongLot
set_option maxRecDepth 20000 in
theorem ggX9_lean_X9_refuse : GoodIn wsX9_lean wsX9_refuse := goodIn_r _ [28, 29, 34, 35, 36, 37, 38, 39, 40, 41, 42, 43, 44, 45, 46, 47, 48, 49, 50, 51, 52, 53, 54, 55, 56, 57, 58, 59, 60] (by decide +kernel) (by decide +kernel)
set_option maxRecDepth 20000 in
theorem gX9_lean_X9_refuse : GoodIn wsX9_lean (wsV RX9 56 RX9 yX9_refuse wsX9_refuse) := goodIn_app (goodIn_of _ (by decide +kernel)) ggX9_lean_X9_refuse
set_option maxRecDepth 20000 in
theorem ggX9_lean_X9_leanOf : GoodIn wsX9_lean wsX9_leanOf := goodIn_r _ [33, 20, 21, 34, 35, 36, 37, 38, 39, 40, 41, 42, 43, 44, 45, 46, 47, 48, 49, 50, 51, 52, 53, 54, 55, 56, 57, 58, 59, 60] (by decide +kernel) (by decide +kernel)
set_option maxRecDepth 20000 in
theorem gX9_lean_X9_leanOf : GoodIn wsX9_lean (wsV RX9 251 RX9 yX9_leanOf wsX9_leanOf) := goodIn_app (goodIn_of _ (by decide +kernel)) ggX9_lean_X9_leanOf
theorem dX9_lean_0 : decode cX9_lean 0 = .ok (.aload_n 0, 1) := by decide +kernel
theorem dX9_lean_1 : decode cX9_lean 1 = .ok (.iload_n 1, 1) := by decide +kernel
theorem dX9_lean_2 : decode cX9_lean 2 = .ok (.iload_n 2, 1) := by decide +kernel
theorem dX9_lean_3 : decode cX9_lean 3 = .ok (.invokevirtual 247, 3) := by decide +kernel
theorem dX9_lean_6 : decode cX9_lean 6 = .ok (.istore_n 3, 1) := by decide +kernel
theorem dX9_lean_7 : decode cX9_lean 7 = .ok (.iload_n 3, 1) := by decide +kernel
theorem dX9_lean_8 : decode cX9_lean 8 = .ok (.ifCond .eq 14, 3) := by decide +kernel
theorem dX9_lean_11 : decode cX9_lean 11 = .ok (.ldc 250, 2) := by decide +kernel
theorem dX9_lean_13 : decode cX9_lean 13 = .ok (.aload_n 0, 1) := by decide +kernel
theorem dX9_lean_14 : decode cX9_lean 14 = .ok (.iload_n 3, 1) := by decide +kernel
theorem dX9_lean_15 : decode cX9_lean 15 = .ok (.invokevirtual 56, 3) := by decide +kernel
theorem dX9_lean_18 : decode cX9_lean 18 = .ok (.isub, 1) := by decide +kernel
theorem dX9_lean_19 : decode cX9_lean 19 = .ok (.goto 9, 3) := by decide +kernel
theorem dX9_lean_22 : decode cX9_lean 22 = .ok (.aload_n 0, 1) := by decide +kernel
theorem dX9_lean_23 : decode cX9_lean 23 = .ok (.iload_n 1, 1) := by decide +kernel
theorem dX9_lean_24 : decode cX9_lean 24 = .ok (.iload_n 2, 1) := by decide +kernel
theorem dX9_lean_25 : decode cX9_lean 25 = .ok (.invokevirtual 251, 3) := by decide +kernel
theorem dX9_lean_28 : decode cX9_lean 28 = .ok (.ireturn, 1) := by decide +kernel
set_option maxRecDepth 20000 in
theorem ggX9_even_X9_wrongLots : GoodIn wsX9_even wsX9_wrongLots := goodIn_r _ [6, 7, 8, 9, 10, 5, 11, 12, 13, 14, 15, 33, 34, 35, 36, 37, 38, 39, 40, 41, 42, 43, 44, 45, 46, 47, 48, 49, 50, 51, 52, 53, 54, 55, 56, 57, 58, 59] (by decide +kernel) (by decide +kernel)
set_option maxRecDepth 20000 in
theorem gX9_even_X9_wrongLots : GoodIn wsX9_even (wsV RX9 244 RX9 yX9_wrongLots wsX9_wrongLots) := goodIn_app (goodIn_of _ (by decide +kernel)) ggX9_even_X9_wrongLots
set_option maxRecDepth 20000 in
theorem ggX9_even_X9_refuse : GoodIn wsX9_even wsX9_refuse := goodIn_r _ [19, 20, 33, 34, 35, 36, 37, 38, 39, 40, 41, 42, 43, 44, 45, 46, 47, 48, 49, 50, 51, 52, 53, 54, 55, 56, 57, 58, 59] (by decide +kernel) (by decide +kernel)
set_option maxRecDepth 20000 in
theorem gX9_even_X9_refuse : GoodIn wsX9_even (wsV RX9 56 RX9 yX9_refuse wsX9_refuse) := goodIn_app (goodIn_of _ (by decide +kernel)) ggX9_even_X9_refuse
set_option maxRecDepth 20000 in
theorem ggX9_even_X9_isLot : GoodIn wsX9_even wsX9_isLot := goodIn_r _ [24, 1, 25, 26, 27, 5, 28, 33, 34, 35, 36, 37, 38, 39, 40, 41, 42, 43, 44, 45, 46, 47, 48, 49, 50, 51, 52, 53, 54, 55, 56, 57, 58, 59] (by decide +kernel) (by decide +kernel)
set_option maxRecDepth 20000 in
theorem gX9_even_X9_isLot : GoodIn wsX9_even (wsV RX9 241 RX9 yX9_isLot wsX9_isLot) := goodIn_app (goodIn_of _ (by decide +kernel)) ggX9_even_X9_isLot
set_option maxRecDepth 20000 in
theorem ggX9_even_X9_leanOf : GoodIn wsX9_even wsX9_leanOf := goodIn_r _ [32, 1, 25, 33, 34, 35, 36, 37, 38, 39, 40, 41, 42, 43, 44, 45, 46, 47, 48, 49, 50, 51, 52, 53, 54, 55, 56, 57, 58, 59] (by decide +kernel) (by decide +kernel)
set_option maxRecDepth 20000 in
theorem gX9_even_X9_leanOf : GoodIn wsX9_even (wsV RX9 251 RX9 yX9_leanOf wsX9_leanOf) := goodIn_app (goodIn_of _ (by decide +kernel)) ggX9_even_X9_leanOf
theorem dX9_even_0 : decode cX9_even 0 = .ok (.aload_n 0, 1) := by decide +kernel
theorem dX9_even_1 : decode cX9_even 1 = .ok (.iload_n 1, 1) := by decide +kernel
theorem dX9_even_2 : decode cX9_even 2 = .ok (.invokevirtual 244, 3) := by decide +kernel
theorem dX9_even_5 : decode cX9_even 5 = .ok (.istore_n 2, 1) := by decide +kernel
theorem dX9_even_6 : decode cX9_even 6 = .ok (.iload_n 2, 1) := by decide +kernel
theorem dX9_even_7 : decode cX9_even 7 = .ok (.ifCond .eq 9, 3) := by decide +kernel
theorem dX9_even_10 : decode cX9_even 10 = .ok (.aload_n 0, 1) := by decide +kernel
theorem dX9_even_11 : decode cX9_even 11 = .ok (.iload_n 2, 1) := by decide +kernel
theorem dX9_even_12 : decode cX9_even 12 = .ok (.invokevirtual 56, 3) := by decide +kernel
theorem dX9_even_15 : decode cX9_even 15 = .ok (.ireturn, 1) := by decide +kernel
theorem dX9_even_16 : decode cX9_even 16 = .ok (.iconst 0, 1) := by decide +kernel
theorem dX9_even_17 : decode cX9_even 17 = .ok (.istore_n 3, 1) := by decide +kernel
theorem dX9_even_18 : decode cX9_even 18 = .ok (.iconst 0, 1) := by decide +kernel
theorem dX9_even_19 : decode cX9_even 19 = .ok (.istore 4, 2) := by decide +kernel
theorem dX9_even_21 : decode cX9_even 21 = .ok (.iload 4, 2) := by decide +kernel
theorem dX9_even_23 : decode cX9_even 23 = .ok (.iconst 1, 1) := by decide +kernel
theorem dX9_even_24 : decode cX9_even 24 = .ok (.aload_n 0, 1) := by decide +kernel
theorem dX9_even_25 : decode cX9_even 25 = .ok (.getfield 16, 3) := by decide +kernel
theorem dX9_even_28 : decode cX9_even 28 = .ok (.iload_n 1, 1) := by decide +kernel
theorem dX9_even_29 : decode cX9_even 29 = .ok (.iaload, 1) := by decide +kernel
theorem dX9_even_30 : decode cX9_even 30 = .ok (.ishl, 1) := by decide +kernel
theorem dX9_even_31 : decode cX9_even 31 = .ok (.if_icmp .ge 37, 3) := by decide +kernel
theorem dX9_even_34 : decode cX9_even 34 = .ok (.iload_n 3, 1) := by decide +kernel
theorem dX9_even_35 : decode cX9_even 35 = .ok (.aload_n 0, 1) := by decide +kernel
theorem dX9_even_36 : decode cX9_even 36 = .ok (.iload_n 1, 1) := by decide +kernel
theorem dX9_even_37 : decode cX9_even 37 = .ok (.iload 4, 2) := by decide +kernel
theorem dX9_even_39 : decode cX9_even 39 = .ok (.invokevirtual 241, 3) := by decide +kernel
theorem dX9_even_42 : decode cX9_even 42 = .ok (.ifCond .eq 17, 3) := by decide +kernel
theorem dX9_even_45 : decode cX9_even 45 = .ok (.aload_n 0, 1) := by decide +kernel
theorem dX9_even_46 : decode cX9_even 46 = .ok (.iload_n 1, 1) := by decide +kernel
