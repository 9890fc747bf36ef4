theorem dX9_even_47 : decode cX9_even 47 = .ok (.iload 4, 2) := by decide +kernel
theorem dX9_even_49 : decode cX9_even 49 = .ok (.invokevirtual 251, 3) := by decide +kernel
theorem dX9_even_52 : decode cX9_even 52 = .ok (.ifCond .ne 7, 3) := by decide +kernel
theorem dX9_even_55 : decode cX9_even 55 = .ok (.iconst 1, 1) := by decide +kernel
theorem dX9_even_56 : decode cX9_even 56 = .ok (.goto 4, 3) := by decide +kernel
theorem dX9_even_59 : decode cX9_even 59 = .ok (.iconst 0, 1) := by decide +kernel
theorem dX9_even_60 : decode cX9_even 60 = .ok (.iadd, 1) := by decide +kernel
theorem dX9_even_61 : decode cX9_even 61 = .ok (.istore_n 3, 1) := by decide +kernel
theorem dX9_even_62 : decode cX9_even 62 = .ok (.iinc 4 1, 3) := by decide +kernel
theorem dX9_even_65 : decode cX9_even 65 = .ok (.goto (-44), 3) := by decide +kernel
theorem dX9_even_68 : decode cX9_even 68 = .ok (.iload_n 3, 1) := by decide +kernel
theorem dX9_even_69 : decode cX9_even 69 = .ok (.ireturn, 1) := by decide +kernel
theorem dX9_amount_0 : decode cX9_amount 0 = .ok (.iload_n 0, 1) := by decide +kernel
theorem dX9_amount_1 : decode cX9_amount 1 = .ok (.ifCond .ge 8, 3) := by decide +kernel
theorem dX9_amount_4 : decode cX9_amount 4 = .ok (.iload_n 0, 1) := by decide +kernel
theorem dX9_amount_5 : decode cX9_amount 5 = .ok (.ineg, 1) := by decide +kernel
theorem dX9_amount_6 : decode cX9_amount 6 = .ok (.goto 4, 3) := by decide +kernel
theorem dX9_amount_9 : decode cX9_amount 9 = .ok (.iload_n 0, 1) := by decide +kernel
theorem dX9_amount_10 : decode cX9_amount 10 = .ok (.ireturn, 1) := by decide +kernel
set_option maxRecDepth 20000 in
theorem ggX9_bestLot_X9_wrongLots : GoodIn wsX9_bestLot wsX9_wrongLots := goodIn_r _ [6, 7, 8, 9, 10, 5, 11, 12, 13, 14, 15, 36, 37, 38, 39, 40, 41, 42, 43, 44, 45, 46, 47, 48, 49, 50, 51, 52, 53, 54, 55, 56, 57, 58, 59, 60, 61, 62] (by decide +kernel) (by decide +kernel)
set_option maxRecDepth 20000 in
theorem gX9_bestLot_X9_wrongLots : GoodIn wsX9_bestLot (wsV RX9 244 RX9 yX9_wrongLots wsX9_wrongLots) := goodIn_app (goodIn_of _ (by decide +kernel)) ggX9_bestLot_X9_wrongLots
set_option maxRecDepth 20000 in
theorem ggX9_bestLot_X9_refuse : GoodIn wsX9_bestLot wsX9_refuse := goodIn_r _ [19, 20, 36, 37, 38, 39, 40, 41, 42, 43, 44, 45, 46, 47, 48, 49, 50, 51, 52, 53, 54, 55, 56, 57, 58, 59, 60, 61, 62] (by decide +kernel) (by decide +kernel)
set_option maxRecDepth 20000 in
theorem gX9_bestLot_X9_refuse : GoodIn wsX9_bestLot (wsV RX9 56 RX9 yX9_refuse wsX9_refuse) := goodIn_app (goodIn_of _ (by decide +kernel)) ggX9_bestLot_X9_refuse
set_option maxRecDepth 20000 in
theorem ggX9_bestLot_X9_isLot : GoodIn wsX9_bestLot wsX9_isLot := goodIn_r _ [24, 1, 25, 26, 27, 5, 28, 36, 37, 38, 39, 40, 41, 42, 43, 44, 45, 46, 47, 48, 49, 50, 51, 52, 53, 54, 55, 56, 57, 58, 59, 60, 61, 62] (by decide +kernel) (by decide +kernel)
set_option maxRecDepth 20000 in
theorem gX9_bestLot_X9_isLot : GoodIn wsX9_bestLot (wsV RX9 241 RX9 yX9_isLot wsX9_isLot) := goodIn_app (goodIn_of _ (by decide +kernel)) ggX9_bestLot_X9_isLot
set_option maxRecDepth 20000 in
theorem ggX9_bestLot_X9_leanOf : GoodIn wsX9_bestLot wsX9_leanOf := goodIn_r _ [32, 1, 25, 36, 37, 38, 39, 40, 41, 42, 43, 44, 45, 46, 47, 48, 49, 50, 51, 52, 53, 54, 55, 56, 57, 58, 59, 60, 61, 62] (by decide +kernel) (by decide +kernel)
set_option maxRecDepth 20000 in
theorem gX9_bestLot_X9_leanOf : GoodIn wsX9_bestLot (wsV RX9 251 RX9 yX9_leanOf wsX9_leanOf) := goodIn_app (goodIn_of _ (by decide +kernel)) ggX9_bestLot_X9_leanOf
set_option maxRecDepth 20000 in
theorem ggX9_bestLot_X9_amount : GoodIn wsX9_bestLot wsX9_amount := goodIn_r _ [35] (by decide +kernel) (by decide +kernel)
set_option maxRecDepth 20000 in
theorem gX9_bestLot_X9_amount : GoodIn wsX9_bestLot (va_wsS RX9 254 yX9_amount wsX9_amount) := goodIn_app (goodIn_of _ (by decide +kernel)) ggX9_bestLot_X9_amount
theorem dX9_bestLot_0 : decode cX9_bestLot 0 = .ok (.aload_n 0, 1) := by decide +kernel
theorem dX9_bestLot_1 : decode cX9_bestLot 1 = .ok (.iload_n 1, 1) := by decide +kernel
theorem dX9_bestLot_2 : decode cX9_bestLot 2 = .ok (.invokevirtual 244, 3) := by decide +kernel
theorem dX9_bestLot_5 : decode cX9_bestLot 5 = .ok (.istore_n 2, 1) := by decide +kernel
theorem dX9_bestLot_6 : decode cX9_bestLot 6 = .ok (.iload_n 2, 1) := by decide +kernel
theorem dX9_bestLot_7 : decode cX9_bestLot 7 = .ok (.ifCond .eq 9, 3) := by decide +kernel
theorem dX9_bestLot_10 : decode cX9_bestLot 10 = .ok (.aload_n 0, 1) := by decide +kernel
theorem dX9_bestLot_11 : decode cX9_bestLot 11 = .ok (.iload_n 2, 1) := by decide +kernel
theorem dX9_bestLot_12 : decode cX9_bestLot 12 = .ok (.invokevirtual 56, 3) := by decide +kernel
theorem dX9_bestLot_15 : decode cX9_bestLot 15 = .ok (.ireturn, 1) := by decide +kernel
theorem dX9_bestLot_16 : decode cX9_bestLot 16 = .ok (.iconst (-1), 1) := by decide +kernel
theorem dX9_bestLot_17 : decode cX9_bestLot 17 = .ok (.istore_n 3, 1) := by decide +kernel
theorem dX9_bestLot_18 : decode cX9_bestLot 18 = .ok (.iconst 0, 1) := by decide +kernel
theorem dX9_bestLot_19 : decode cX9_bestLot 19 = .ok (.istore 4, 2) := by decide +kernel
theorem dX9_bestLot_21 : decode cX9_bestLot 21 = .ok (.iload 4, 2) := by decide +kernel
theorem dX9_bestLot_23 : decode cX9_bestLot 23 = .ok (.iconst 1, 1) := by decide +kernel
theorem dX9_bestLot_24 : decode cX9_bestLot 24 = .ok (.aload_n 0, 1) := by decide +kernel
theorem dX9_bestLot_25 : decode cX9_bestLot 25 = .ok (.getfield 16, 3) := by decide +kernel
theorem dX9_bestLot_28 : decode cX9_bestLot 28 = .ok (.iload_n 1, 1) := by decide +kernel
theorem dX9_bestLot_29 : decode cX9_bestLot 29 = .ok (.iaload, 1) := by decide +kernel
theorem dX9_bestLot_30 : decode cX9_bestLot 30 = .ok (.ishl, 1) := by decide +kernel
theorem dX9_bestLot_31 : decode cX9_bestLot 31 = .ok (.if_icmp .ge 48, 3) := by decide +kernel
theorem dX9_bestLot_34 : decode cX9_bestLot 34 = .ok (.aload_n 0, 1) := by decide +kernel
theorem dX9_bestLot_35 : decode cX9_bestLot 35 = .ok (.iload_n 1, 1) := by decide +kernel
theorem dX9_bestLot_36 : decode cX9_bestLot 36 = .ok (.iload 4, 2) := by decide +kernel
theorem dX9_bestLot_38 : decode cX9_bestLot 38 = .ok (.invokevirtual 241, 3) := by decide +kernel
theorem dX9_bestLot_41 : decode cX9_bestLot 41 = .ok (.ifCond .eq 32, 3) := by decide +kernel
theorem dX9_bestLot_44 : decode cX9_bestLot 44 = .ok (.iload_n 3, 1) := by decide +kernel
theorem dX9_bestLot_45 : decode cX9_bestLot 45 = .ok (.ifCond .lt 25, 3) := by decide +kernel
theorem dX9_bestLot_48 : decode cX9_bestLot 48 = .ok (.aload_n 0, 1) := by decide +kernel
theorem dX9_bestLot_49 : decode cX9_bestLot 49 = .ok (.iload_n 1, 1) := by decide +kernel
theorem dX9_bestLot_50 : decode cX9_bestLot 50 = .ok (.iload 4, 2) := by decide +kernel
theorem dX9_bestLot_52 : decode cX9_bestLot 52 = .ok (.invokevirtual 251, 3) := by decide +kernel
theorem dX9_bestLot_55 : decode cX9_bestLot 55 = .ok (.invokestatic 254, 3) := by decide +kernel
theorem dX9_bestLot_58 : decode cX9_bestLot 58 = .ok (.aload_n 0, 1) := by decide +kernel
theorem dX9_bestLot_59 : decode cX9_bestLot 59 = .ok (.iload_n 1, 1) := by decide +kernel
theorem dX9_bestLot_60 : decode cX9_bestLot 60 = .ok (.iload_n 3, 1) := by decide +kernel
theorem dX9_bestLot_61 : decode cX9_bestLot 61 = .ok (.invokevirtual 251, 3) := by decide +kernel
theorem dX9_bestLot_64 : decode cX9_bestLot 64 = .ok (.invokestatic 254, 3) := by decide +kernel
theorem dX9_bestLot_67 : decode cX9_bestLot 67 = .ok (.if_icmp .ge 6, 3) := by decide +kernel
theorem dX9_bestLot_70 : decode cX9_bestLot 70 = .ok (.iload 4, 2) := by decide +kernel
theorem dX9_bestLot_72 : decode cX9_bestLot 72 = .ok (.istore_n 3, 1) := by decide +kernel
theorem dX9_bestLot_73 : decode cX9_bestLot 73 = .ok (.iinc 4 1, 3) := by decide +kernel
theorem dX9_bestLot_76 : decode cX9_bestLot 76 = .ok (.goto (-55), 3) := by decide +kernel
theorem dX9_bestLot_79 : decode cX9_bestLot 79 = .ok (.iload_n 3, 1) := by decide +kernel
theorem dX9_bestLot_80 : decode cX9_bestLot 80 = .ok (.ireturn, 1) := by decide +kernel
set_option maxRecDepth 20000 in
theorem ggX9_alike_X9_bits : GoodIn wsX9_alike wsX9_bits := goodIn_r _ [5] (by decide +kernel) (by decide +kernel)
set_option maxRecDepth 20000 in
theorem gX9_alike_X9_bits : GoodIn wsX9_alike (va_wsS RX9 238 yX9_bits wsX9_bits) := goodIn_app (goodIn_of _ (by decide +kernel)) ggX9_alike_X9_bits
theorem dX9_alike_0 : decode cX9_alike 0 = .ok (.aload_n 0, 1) := by decide +kernel
theorem dX9_alike_1 : decode cX9_alike 1 = .ok (.getfield 16, 3) := by decide +kernel
theorem dX9_alike_4 : decode cX9_alike 4 = .ok (.iload_n 1, 1) := by decide +kernel
theorem dX9_alike_5 : decode cX9_alike 5 = .ok (.iaload, 1) := by decide +kernel
theorem dX9_alike_6 : decode cX9_alike 6 = .ok (.iload_n 2, 1) := by decide +kernel
theorem dX9_alike_7 : decode cX9_alike 7 = .ok (.iload_n 3, 1) := by decide +kernel
theorem dX9_alike_8 : decode cX9_alike 8 = .ok (.ixor, 1) := by decide +kernel
theorem dX9_alike_9 : decode cX9_alike 9 = .ok (.iconst 1, 1) := by decide +kernel
theorem dX9_alike_10 : decode cX9_alike 10 = .ok (.aload_n 0, 1) := by decide +kernel
theorem dX9_alike_11 : decode cX9_alike 11 = .ok (.getfield 16, 3) := by decide +kernel
theorem dX9_alike_14 : decode cX9_alike 14 = .ok (.iload_n 1, 1) := by decide +kernel
theorem dX9_alike_15 : decode cX9_alike 15 = .ok (.iaload, 1) := by decide +kernel
theorem dX9_alike_16 : decode cX9_alike 16 = .ok (.ishl, 1) := by decide +kernel
theorem dX9_alike_17 : decode cX9_alike 17 = .ok (.iconst 1, 1) := by decide +kernel
theorem dX9_alike_18 : decode cX9_alike 18 = .ok (.isub, 1) := by decide +kernel
theorem dX9_alike_19 : decode cX9_alike 19 = .ok (.iand, 1) := by decide +kernel
theorem dX9_alike_20 : decode cX9_alike 20 = .ok (.invokestatic 238, 3) := by decide +kernel
theorem dX9_alike_23 : decode cX9_alike 23 = .ok (.isub, 1) := by decide +kernel
theorem dX9_alike_24 : decode cX9_alike 24 = .ok (.ireturn, 1) := by decide +kernel
set_option maxRecDepth 20000 in
theorem ggX9_marked_X9_wrongLot : GoodIn wsX9_marked wsX9_wrongLot := goodIn_r _ [5, 6, 7, 8, 9, 4, 10, 11, 12, 13, 14, 15, 16, 17, 18, 19, 20, 21, 22, 23, 36, 37, 38, 39, 40, 41, 42, 43, 44, 45, 46, 47, 48, 49, 50, 51, 52, 53, 54, 55, 56, 57, 58, 59, 60, 61, 62] (by decide +kernel) (by decide +kernel)
set_option maxRecDepth 20000 in
theorem gX9_marked_X9_wrongLot : GoodIn wsX9_marked (wsV RX9 247 RX9 yX9_wrongLot wsX9_wrongLot) := goodIn_app (goodIn_of _ (by decide +kernel)) ggX9_marked_X9_wrongLot
set_option maxRecDepth 20000 in
theorem ggX9_marked_X9_within : GoodIn wsX9_marked wsX9_within := goodIn_r _ [26] (by decide +kernel) (by decide +kernel)
set_option maxRecDepth 20000 in
theorem gX9_marked_X9_within : GoodIn wsX9_marked (va_wsS RX9 121 yX9_within wsX9_within) := goodIn_app (goodIn_of _ (by decide +kernel)) ggX9_marked_X9_within
set_option maxRecDepth 20000 in
theorem ggX9_marked_X9_refuse : GoodIn wsX9_marked wsX9_refuse := goodIn_r _ [30, 31, 36, 37, 38, 39, 40, 41, 42, 43, 44, 45, 46, 47, 48, 49, 50, 51, 52, 53, 54, 55, 56, 57, 58, 59, 60, 61, 62] (by decide +kernel) (by decide +kernel)
set_option maxRecDepth 20000 in
theorem gX9_marked_X9_refuse : GoodIn wsX9_marked (wsV RX9 56 RX9 yX9_refuse wsX9_refuse) := goodIn_app (goodIn_of _ (by decide +kernel)) ggX9_marked_X9_refuse
set_option maxRecDepth 20000 in
theorem ggX9_marked_X9_alike : GoodIn wsX9_marked wsX9_alike := goodIn_r _ [35, 19, 21, 22, 4, 23, 36, 37, 38, 39, 40, 41, 42, 43, 44, 45, 46, 47, 48, 49, 50, 51, 52, 53, 54, 55, 56, 57, 58, 59, 60, 61, 62] (by decide +kernel) (by decide +kernel)
set_option maxRecDepth 20000 in
theorem gX9_marked_X9_alike : GoodIn wsX9_marked (wsV RX9 257 RX9 yX9_alike wsX9_alike) := goodIn_app (goodIn_of _ (by decide +kernel)) ggX9_marked_X9_alike
theorem dX9_marked_0 : decode cX9_marked 0 = .ok (.aload_n 0, 1) := by decide +kernel
theorem dX9_marked_1 : decode cX9_marked 1 = .ok (.iload_n 1, 1) := by decide +kernel
theorem dX9_marked_2 : decode cX9_marked 2 = .ok (.iload_n 2, 1) := by decide +kernel
theorem dX9_marked_3 : decode cX9_marked 3 = .ok (.invokevirtual 247, 3) := by decide +kernel
theorem dX9_marked_6 : decode cX9_marked 6 = .ok (.istore 4, 2) := by decide +kernel
theorem dX9_marked_8 : decode cX9_marked 8 = .ok (.iload 4, 2) := by decide +kernel
theorem dX9_marked_10 : decode cX9_marked 10 = .ok (.ifCond .ne 13, 3) := by decide +kernel
theorem dX9_marked_13 : decode cX9_marked 13 = .ok (.iload_n 3, 1) := by decide +kernel
theorem dX9_marked_14 : decode cX9_marked 14 = .ok (.iconst 0, 1) := by decide +kernel
theorem dX9_marked_15 : decode cX9_marked 15 = .ok (.sipush 4095, 3) := by decide +kernel
theorem dX9_marked_18 : decode cX9_marked 18 = .ok (.invokestatic 121, 3) := by decide +kernel
theorem dX9_marked_21 : decode cX9_marked 21 = .ok (.istore 4, 2) := by decide +kernel
theorem dX9_marked_23 : decode cX9_marked 23 = .ok (.iload 4, 2) := by decide +kernel
theorem dX9_marked_25 : decode cX9_marked 25 = .ok (.ifCond .eq 12, 3) := by decide +kernel
theorem dX9_marked_28 : decode cX9_marked 28 = .ok (.aload_n 0, 1) := by decide +kernel
theorem dX9_marked_29 : decode cX9_marked 29 = .ok (.iload 4, 2) := by decide +kernel
theorem dX9_marked_31 : decode cX9_marked 31 = .ok (.invokevirtual 56, 3) := by decide +kernel
theorem dX9_marked_34 : decode cX9_marked 34 = .ok (.goto 10, 3) := by decide +kernel
theorem dX9_marked_37 : decode cX9_marked 37 = .ok (.aload_n 0, 1) := by decide +kernel
theorem dX9_marked_38 : decode cX9_marked 38 = .ok (.iload_n 1, 1) := by decide +kernel
theorem dX9_marked_39 : decode cX9_marked 39 = .ok (.iload_n 2, 1) := by decide +kernel
theorem dX9_marked_40 : decode cX9_marked 40 = .ok (.iload_n 3, 1) := by decide +kernel
theorem dX9_marked_41 : decode cX9_marked 41 = .ok (.invokevirtual 257, 3) := by decide +kernel
theorem dX9_marked_44 : decode cX9_marked 44 = .ok (.ireturn, 1) := by decide +kernel
set_option maxRecDepth 20000 in
theorem ggX9_free_X9_wrongLots : GoodIn wsX9_free wsX9_wrongLots := goodIn_r _ [6, 7, 8, 9, 10, 5, 11, 12, 13, 14, 15, 33, 34, 35, 36, 37, 38, 39, 40, 41, 42, 43, 44, 45, 46, 47, 48, 49, 50, 51, 52, 53, 54, 55, 56, 57, 58, 59] (by decide +kernel) (by decide +kernel)
set_option maxRecDepth 20000 in
theorem gX9_free_X9_wrongLots : GoodIn wsX9_free (wsV RX9 244 RX9 yX9_wrongLots wsX9_wrongLots) := goodIn_app (goodIn_of _ (by decide +kernel)) ggX9_free_X9_wrongLots
set_option maxRecDepth 20000 in
theorem ggX9_free_X9_refuse : GoodIn wsX9_free wsX9_refuse := goodIn_r _ [19, 20, 33, 34, 35, 36, 37, 38, 39, 40, 41, 42, 43, 44, 45, 46, 47, 48, 49, 50, 51, 52, 53, 54, 55, 56, 57, 58, 59] (by decide +kernel) (by decide +kernel)
set_option maxRecDepth 20000 in
theorem gX9_free_X9_refuse : GoodIn wsX9_free (wsV RX9 56 RX9 yX9_refuse wsX9_refuse) := goodIn_app (goodIn_of _ (by decide +kernel)) ggX9_free_X9_refuse
set_option maxRecDepth 20000 in
theorem ggX9_free_X9_isLot : GoodIn wsX9_free wsX9_isLot := goodIn_r _ [24, 1, 25, 26, 27, 5, 28, 33, 34, 35, 36, 37, 38, 39, 40, 41, 42, 43, 44, 45, 46, 47, 48, 49, 50, 51, 52, 53, 54, 55, 56, 57, 58, 59] (by decide +kernel) (by decide +kernel)
set_option maxRecDepth 20000 in
theorem gX9_free_X9_isLot : GoodIn wsX9_free (wsV RX9 241 RX9 yX9_isLot wsX9_isLot) := goodIn_app (goodIn_of _ (by decide +kernel)) ggX9_free_X9_isLot
set_option maxRecDepth 20000 in
theorem ggX9_free_X9_alike : GoodIn wsX9_free wsX9_alike := goodIn_r _ [32, 1, 26, 27, 5, 28, 33, 34, 35, 36, 37, 38, 39, 40, 41, 42, 43, 44, 45, 46, 47, 48, 49, 50, 51, 52, 53, 54, 55, 56, 57, 58, 59] (by decide +kernel) (by decide +kernel)
set_option maxRecDepth 20000 in
theorem gX9_free_X9_alike : GoodIn wsX9_free (wsV RX9 257 RX9 yX9_alike wsX9_alike) := goodIn_app (goodIn_of _ (by decide +kernel)) ggX9_free_X9_alike
theorem dX9_free_0 : decode cX9_free 0 = .ok (.aload_n 0, 1) := by decide +kernel
theorem dX9_free_1 : decode cX9_free 1 = .ok (.iload_n 1, 1) := by decide +kernel
theorem dX9_free_2 : decode cX9_free 2 = .ok (.invokevirtual 244, 3) := by decide +kernel
theorem dX9_free_5 : decode cX9_free 5 = .ok (.istore 4, 2) := by decide +kernel
theorem dX9_free_7 : decode cX9_free 7 = .ok (.iload 4, 2) := by decide +kernel
theorem dX9_free_9 : decode cX9_free 9 = .ok (.ifCond .ne 41, 3) := by decide +kernel
theorem dX9_free_12 : decode cX9_free 12 = .ok (.iload_n 2, 1) := by decide +kernel
theorem dX9_free_13 : decode cX9_free 13 = .ok (.ifCond .lt 7, 3) := by decide +kernel
theorem dX9_free_16 : decode cX9_free 16 = .ok (.iload_n 3, 1) := by decide +kernel
theorem dX9_free_17 : decode cX9_free 17 = .ok (.ifCond .ge 8, 3) := by decide +kernel
theorem dX9_free_20 : decode cX9_free 20 = .ok (.bipush (-4), 2) := by decide +kernel
theorem dX9_free_22 : decode cX9_free 22 = .ok (.goto 26, 3) := by decide +kernel
theorem dX9_free_25 : decode cX9_free 25 = .ok (.iload_n 2, 1) := by decide +kernel
theorem dX9_free_26 : decode cX9_free 26 = .ok (.sipush 4095, 3) := by decide +kernel
theorem dX9_free_29 : decode cX9_free 29 = .ok (.if_icmp .gt 13, 3) := by decide +kernel
theorem dX9_free_32 : decode cX9_free 32 = .ok (.iload_n 3, 1) := by decide +kernel
theorem dX9_free_33 : decode cX9_free 33 = .ok (.aload_n 0, 1) := by decide +kernel
theorem dX9_free_34 : decode cX9_free 34 = .ok (.getfield 16, 3) := by decide +kernel
theorem dX9_free_37 : decode cX9_free 37 = .ok (.iload_n 1, 1) := by decide +kernel
theorem dX9_free_38 : decode cX9_free 38 = .ok (.iaload, 1) := by decide +kernel
theorem dX9_free_39 : decode cX9_free 39 = .ok (.if_icmp .le 8, 3) := by decide +kernel
theorem dX9_free_42 : decode cX9_free 42 = .ok (.bipush (-6), 2) := by decide +kernel
theorem dX9_free_44 : decode cX9_free 44 = .ok (.goto 4, 3) := by decide +kernel
theorem dX9_free_47 : decode cX9_free 47 = .ok (.iconst 0, 1) := by decide +kernel
theorem dX9_free_48 : decode cX9_free 48 = .ok (.istore 4, 2) := by decide +kernel
theorem dX9_free_50 : decode cX9_free 50 = .ok (.iload 4, 2) := by decide +kernel
theorem dX9_free_52 : decode cX9_free 52 = .ok (.ifCond .eq 10, 3) := by decide +kernel
theorem dX9_free_55 : decode cX9_free 55 = .ok (.aload_n 0, 1) := by decide +kernel
theorem dX9_free_56 : decode cX9_free 56 = .ok (.iload 4, 2) := by decide +kernel
theorem dX9_free_58 : decode cX9_free 58 = .ok (.invokevirtual 56, 3) := by decide +kernel
theorem dX9_free_61 : decode cX9_free 61 = .ok (.ireturn, 1) := by decide +kernel
theorem dX9_free_62 : decode cX9_free 62 = .ok (.iconst 0, 1) := by decide +kernel
theorem dX9_free_63 : decode cX9_free 63 = .ok (.istore 5, 2) := by decide +kernel
theorem dX9_free_65 : decode cX9_free 65 = .ok (.iconst 0, 1) := by decide +kernel
theorem dX9_free_66 : decode cX9_free 66 = .ok (.istore 6, 2) := by decide +kernel
theorem dX9_free_68 : decode cX9_free 68 = .ok (.iload 6, 2) := by decide +kernel
theorem dX9_free_70 : decode cX9_free 70 = .ok (.iconst 1, 1) := by decide +kernel
theorem dX9_free_71 : decode cX9_free 71 = .ok (.aload_n 0, 1) := by decide +kernel
theorem dX9_free_72 : decode cX9_free 72 = .ok (.getfield 16, 3) := by decide +kernel
theorem dX9_free_75 : decode cX9_free 75 = .ok (.iload_n 1, 1) := by decide +kernel
theorem dX9_free_76 : decode cX9_free 76 = .ok (.iaload, 1) := by decide +kernel
theorem dX9_free_77 : decode cX9_free 77 = .ok (.ishl, 1) := by decide +kernel
theorem dX9_free_78 : decode cX9_free 78 = .ok (.if_icmp .ge 41, 3) := by decide +kernel
theorem dX9_free_81 : decode cX9_free 81 = .ok (.iload 5, 2) := by decide +kernel
theorem dX9_free_83 : decode cX9_free 83 = .ok (.aload_n 0, 1) := by decide +kernel
theorem dX9_free_84 : decode cX9_free 84 = .ok (.iload_n 1, 1) := by decide +kernel
theorem dX9_free_85 : decode cX9_free 85 = .ok (.iload 6, 2) := by decide +kernel
theorem dX9_free_87 : decode cX9_free 87 = .ok (.invokevirtual 241, 3) := by decide +kernel
theorem dX9_free_90 : decode cX9_free 90 = .ok (.ifCond .eq 19, 3) := by decide +kernel
theorem dX9_free_93 : decode cX9_free 93 = .ok (.aload_n 0, 1) := by decide +kernel
theorem dX9_free_94 : decode cX9_free 94 = .ok (.iload_n 1, 1) := by decide +kernel
theorem dX9_free_95 : decode cX9_free 95 = .ok (.iload 6, 2) := by decide +kernel
theorem dX9_free_97 : decode cX9_free 97 = .ok (.iload_n 2, 1) := by decide +kernel
theorem dX9_free_98 : decode cX9_free 98 = .ok (.invokevirtual 257, 3) := by decide +kernel
theorem dX9_free_101 : decode cX9_free 101 = .ok (.iload_n 3, 1) := by decide +kernel
theorem dX9_free_102 : decode cX9_free 102 = .ok (.if_icmp .ne 7, 3) := by decide +kernel
theorem dX9_free_105 : decode cX9_free 105 = .ok (.iconst 1, 1) := by decide +kernel
theorem dX9_free_106 : decode cX9_free 106 = .ok (.goto 4, 3) := by decide +kernel
theorem dX9_free_109 : decode cX9_free 109 = .ok (.iconst 0, 1) := by decide +kernel
theorem dX9_free_110 : decode cX9_free 110 = .ok (.iadd, 1) := by decide +kernel
theorem dX9_free_111 : decode cX9_free 111 = .ok (.istore 5, 2) := by decide +kernel
theorem dX9_free_113 : decode cX9_free 113 = .ok (.iinc 6 1, 3) := by decide +kernel
theorem dX9_free_116 : decode cX9_free 116 = .ok (.goto (-48), 3) := by decide +kernel
theorem dX9_free_119 : decode cX9_free 119 = .ok (.iload 5, 2) := by decide +kernel
theorem dX9_free_121 : decode cX9_free 121 = .ok (.ireturn, 1) := by decide +kernel
set_option maxRecDepth 20000 in
theorem ggX9_sit_X9_isPlan : GoodIn wsX9_sit wsX9_isPlan := goodIn_r _ [11, 12, 13, 14, 10, 15, 27, 28, 29, 30, 31, 32, 33, 34, 35, 36, 37, 38, 39, 40, 41, 42, 43, 44, 45, 46, 47, 48, 49, 50, 51, 52, 53] (by decide +kernel) (by decide +kernel)
set_option maxRecDepth 20000 in
theorem gX9_sit_X9_isPlan : GoodIn wsX9_sit (wsV RX9 75 RX9 yX9_isPlan wsX9_isPlan) := goodIn_app (goodIn_of _ (by decide +kernel)) ggX9_sit_X9_isPlan
set_option maxRecDepth 20000 in
theorem ggX9_sit_X9_sizeOf : GoodIn wsX9_sit wsX9_sizeOf := goodIn_r _ [18] (by decide +kernel) (by decide +kernel)
set_option maxRecDepth 20000 in
theorem gX9_sit_X9_sizeOf : GoodIn wsX9_sit (va_wsS RX9 79 yX9_sizeOf wsX9_sizeOf) := goodIn_app (goodIn_of _ (by decide +kernel)) ggX9_sit_X9_sizeOf
set_option maxRecDepth 20000 in
theorem ggX9_sit_X9_within : GoodIn wsX9_sit wsX9_within := goodIn_r _ [21] (by decide +kernel) (by decide +kernel)
set_option maxRecDepth 20000 in
theorem gX9_sit_X9_within : GoodIn wsX9_sit (va_wsS RX9 121 yX9_within wsX9_within) := goodIn_app (goodIn_of _ (by decide +kernel)) ggX9_sit_X9_within
set_option maxRecDepth 20000 in
theorem ggX9_sit_X9_refuse : GoodIn wsX9_sit wsX9_refuse := goodIn_r _ [25, 26, 27, 28, 29, 30, 31, 32, 33, 34, 35, 36, 37, 38, 39, 40, 41, 42, 43, 44, 45, 46, 47, 48, 49, 50, 51, 52, 53] (by decide +kernel) (by decide +kernel)
set_option maxRecDepth 20000 in
theorem gX9_sit_X9_refuse : GoodIn wsX9_sit (wsV RX9 56 RX9 yX9_refuse wsX9_refuse) := goodIn_app (goodIn_of _ (by decide +kernel)) ggX9_sit_X9_refuse
theorem dX9_sit_0 : decode cX9_sit 0 = .ok (.aload_n 0, 1) := by decide +kernel
theorem dX9_sit_1 : decode cX9_sit 1 = .ok (.iload_n 1, 1) := by decide +kernel
theorem dX9_sit_2 : decode cX9_sit 2 = .ok (.invokevirtual 75, 3) := by decide +kernel
theorem dX9_sit_5 : decode cX9_sit 5 = .ok (.ifCond .eq 26, 3) := by decide +kernel
theorem dX9_sit_8 : decode cX9_sit 8 = .ok (.iload_n 2, 1) := by decide +kernel
theorem dX9_sit_9 : decode cX9_sit 9 = .ok (.iconst 0, 1) := by decide +kernel
theorem dX9_sit_10 : decode cX9_sit 10 = .ok (.aload_n 0, 1) := by decide +kernel
theorem dX9_sit_11 : decode cX9_sit 11 = .ok (.getfield 13, 3) := by decide +kernel
theorem dX9_sit_14 : decode cX9_sit 14 = .ok (.iload_n 1, 1) := by decide +kernel
theorem dX9_sit_15 : decode cX9_sit 15 = .ok (.iaload, 1) := by decide +kernel
theorem dX9_sit_16 : decode cX9_sit 16 = .ok (.aload_n 0, 1) := by decide +kernel
theorem dX9_sit_17 : decode cX9_sit 17 = .ok (.getfield 16, 3) := by decide +kernel
theorem dX9_sit_20 : decode cX9_sit 20 = .ok (.iload_n 1, 1) := by decide +kernel
theorem dX9_sit_21 : decode cX9_sit 21 = .ok (.iaload, 1) := by decide +kernel
theorem dX9_sit_22 : decode cX9_sit 22 = .ok (.invokestatic 79, 3) := by decide +kernel
theorem dX9_sit_25 : decode cX9_sit 25 = .ok (.invokestatic 121, 3) := by decide +kernel
theorem dX9_sit_28 : decode cX9_sit 28 = .ok (.goto 4, 3) := by decide +kernel
theorem dX9_sit_31 : decode cX9_sit 31 = .ok (.iconst (-1), 1) := by decide +kernel
theorem dX9_sit_32 : decode cX9_sit 32 = .ok (.istore 4, 2) := by decide +kernel
theorem dX9_sit_34 : decode cX9_sit 34 = .ok (.iload 4, 2) := by decide +kernel
theorem dX9_sit_36 : decode cX9_sit 36 = .ok (.ifCond .ne 16, 3) := by decide +kernel
theorem dX9_sit_39 : decode cX9_sit 39 = .ok (.aload_n 0, 1) := by decide +kernel
theorem dX9_sit_40 : decode cX9_sit 40 = .ok (.getfield 260, 3) := by decide +kernel
theorem dX9_sit_43 : decode cX9_sit 43 = .ok (.bipush 30, 2) := by decide +kernel
theorem dX9_sit_45 : decode cX9_sit 45 = .ok (.if_icmp .ne 7, 3) := by decide +kernel
theorem dX9_sit_48 : decode cX9_sit 48 = .ok (.bipush (-6), 2) := by decide +kernel
theorem dX9_sit_50 : decode cX9_sit 50 = .ok (.istore 4, 2) := by decide +kernel
theorem dX9_sit_52 : decode cX9_sit 52 = .ok (.iload 4, 2) := by decide +kernel
theorem dX9_sit_54 : decode cX9_sit 54 = .ok (.ifCond .eq 10, 3) := by decide +kernel
theorem dX9_sit_57 : decode cX9_sit 57 = .ok (.aload_n 0, 1) := by decide +kernel
theorem dX9_sit_58 : decode cX9_sit 58 = .ok (.iload 4, 2) := by decide +kernel
theorem dX9_sit_60 : decode cX9_sit 60 = .ok (.invokevirtual 56, 3) := by decide +kernel
theorem dX9_sit_63 : decode cX9_sit 63 = .ok (.ireturn, 1) := by decide +kernel
theorem dX9_sit_64 : decode cX9_sit 64 = .ok (.aload_n 0, 1) := by decide +kernel
theorem dX9_sit_65 : decode cX9_sit 65 = .ok (.getfield 28, 3) := by decide +kernel
theorem dX9_sit_68 : decode cX9_sit 68 = .ok (.aload_n 0, 1) := by decide +kernel
theorem dX9_sit_69 : decode cX9_sit 69 = .ok (.getfield 260, 3) := by decide +kernel
theorem dX9_sit_72 : decode cX9_sit 72 = .ok (.iload_n 1, 1) := by decide +kernel
theorem dX9_sit_73 : decode cX9_sit 73 = .ok (.iastore, 1) := by decide +kernel
theorem dX9_sit_74 : decode cX9_sit 74 = .ok (.aload_n 0, 1) := by decide +kernel
theorem dX9_sit_75 : decode cX9_sit 75 = .ok (.getfield 31, 3) := by decide +kernel
theorem dX9_sit_78 : decode cX9_sit 78 = .ok (.aload_n 0, 1) := by decide +kernel
theorem dX9_sit_79 : decode cX9_sit 79 = .ok (.getfield 260, 3) := by decide +kernel
theorem dX9_sit_82 : decode cX9_sit 82 = .ok (.iload_n 2, 1) := by decide +kernel
theorem dX9_sit_83 : decode cX9_sit 83 = .ok (.iastore, 1) := by decide +kernel
theorem dX9_sit_84 : decode cX9_sit 84 = .ok (.aload_n 0, 1) := by decide +kernel
theorem dX9_sit_85 : decode cX9_sit 85 = .ok (.getfield 34, 3) := by decide +kernel
theorem dX9_sit_88 : decode cX9_sit 88 = .ok (.aload_n 0, 1) := by decide +kernel
theorem dX9_sit_89 : decode cX9_sit 89 = .ok (.getfield 260, 3) := by decide +kernel
theorem dX9_sit_92 : decode cX9_sit 92 = .ok (.iload_n 3, 1) := by decide +kernel
theorem dX9_sit_93 : decode cX9_sit 93 = .ok (.bastore, 1) := by decide +kernel
theorem dX9_sit_94 : decode cX9_sit 94 = .ok (.aload_n 0, 1) := by decide +kernel
theorem dX9_sit_95 : decode cX9_sit 95 = .ok (.dup, 1) := by decide +kernel
theorem dX9_sit_96 : decode cX9_sit 96 = .ok (.getfield 260, 3) := by decide +kernel
theorem dX9_sit_99 : decode cX9_sit 99 = .ok (.iconst 1, 1) := by decide +kernel
theorem dX9_sit_100 : decode cX9_sit 100 = .ok (.iadd, 1) := by decide +kernel
theorem dX9_sit_101 : decode cX9_sit 101 = .ok (.putfield 260, 3) := by decide +kernel
theorem dX9_sit_104 : decode cX9_sit 104 = .ok (.aload_n 0, 1) := by decide +kernel
theorem dX9_sit_105 : decode cX9_sit 105 = .ok (.getfield 260, 3) := by decide +kernel
theorem dX9_sit_108 : decode cX9_sit 108 = .ok (.iconst 1, 1) := by decide +kernel
theorem dX9_sit_109 : decode cX9_sit 109 = .ok (.isub, 1) := by decide +kernel
theorem dX9_sit_110 : decode cX9_sit 110 = .ok (.ireturn, 1) := by decide +kernel
set_option maxRecDepth 20000 in
theorem ggX9_show_X9_isIn : GoodIn wsX9_show wsX9_isIn := goodIn_r _ [6] (by decide +kernel) (by decide +kernel)
set_option maxRecDepth 20000 in
theorem gX9_show_X9_isIn : GoodIn wsX9_show (va_wsS RX9 64 yX9_isIn wsX9_isIn) := goodIn_app (goodIn_of _ (by decide +kernel)) ggX9_show_X9_isIn
set_option maxRecDepth 20000 in
theorem ggX9_show_X9_refuse : GoodIn wsX9_show wsX9_refuse := goodIn_r _ [10, 11, 12, 13, 14, 15, 16, 17, 18, 19, 20, 21, 22, 23, 24, 25, 26, 27, 28, 29, 30, 31, 32, 33, 34, 35, 36, 37, 38] (by decide +kernel) (by decide +kernel)
set_option maxRecDepth 20000 in
theorem gX9_show_X9_refuse : GoodIn wsX9_show (wsV RX9 56 RX9 yX9_refuse wsX9_refuse) := goodIn_app (goodIn_of _ (by decide +kernel)) ggX9_show_X9_refuse
theorem dX9_show_0 : decode cX9_show 0 = .ok (.iload_n 1, 1) := by decide +kernel
theorem dX9_show_1 : decode cX9_show 1 = .ok (.aload_n 0, 1) := by decide +kernel
theorem dX9_show_2 : decode cX9_show 2 = .ok (.getfield 260, 3) := by decide +kernel
theorem dX9_show_5 : decode cX9_show 5 = .ok (.invokestatic 64, 3) := by decide +kernel
theorem dX9_show_8 : decode cX9_show 8 = .ok (.ifCond .ne 9, 3) := by decide +kernel
theorem dX9_show_11 : decode cX9_show 11 = .ok (.aload_n 0, 1) := by decide +kernel
theorem dX9_show_12 : decode cX9_show 12 = .ok (.iconst (-1), 1) := by decide +kernel
theorem dX9_show_13 : decode cX9_show 13 = .ok (.invokevirtual 56, 3) := by decide +kernel
theorem dX9_show_16 : decode cX9_show 16 = .ok (.ireturn, 1) := by decide +kernel
theorem dX9_show_17 : decode cX9_show 17 = .ok (.aload_n 0, 1) := by decide +kernel
theorem dX9_show_18 : decode cX9_show 18 = .ok (.getfield 34, 3) := by decide +kernel
theorem dX9_show_21 : decode cX9_show 21 = .ok (.iload_n 1, 1) := by decide +kernel
theorem dX9_show_22 : decode cX9_show 22 = .ok (.baload, 1) := by decide +kernel
theorem dX9_show_23 : decode cX9_show 23 = .ok (.ifCond .eq 10, 3) := by decide +kernel
theorem dX9_show_26 : decode cX9_show 26 = .ok (.aload_n 0, 1) := by decide +kernel
theorem dX9_show_27 : decode cX9_show 27 = .ok (.bipush (-3), 2) := by decide +kernel
theorem dX9_show_29 : decode cX9_show 29 = .ok (.invokevirtual 56, 3) := by decide +kernel
theorem dX9_show_32 : decode cX9_show 32 = .ok (.ireturn, 1) := by decide +kernel
theorem dX9_show_33 : decode cX9_show 33 = .ok (.aload_n 0, 1) := by decide +kernel
theorem dX9_show_34 : decode cX9_show 34 = .ok (.getfield 34, 3) := by decide +kernel
theorem dX9_show_37 : decode cX9_show 37 = .ok (.iload_n 1, 1) := by decide +kernel
theorem dX9_show_38 : decode cX9_show 38 = .ok (.iconst 1, 1) := by decide +kernel
theorem dX9_show_39 : decode cX9_show 39 = .ok (.bastore, 1) := by decide +kernel
theorem dX9_show_40 : decode cX9_show 40 = .ok (.iconst 1, 1) := by decide +kernel
theorem dX9_show_41 : decode cX9_show 41 = .ok (.ireturn, 1) := by decide +kernel
theorem dX9_opens_0 : decode cX9_opens 0 = .ok (.aload_n 0, 1) := by decide +kernel
theorem dX9_opens_1 : decode cX9_opens 1 = .ok (.iconst 0, 1) := by decide +kernel
theorem dX9_opens_2 : decode cX9_opens 2 = .ok (.putfield 263, 3) := by decide +kernel
theorem dX9_opens_5 : decode cX9_opens 5 = .ok (.aload_n 0, 1) := by decide +kernel
theorem dX9_opens_6 : decode cX9_opens 6 = .ok (.iconst 0, 1) := by decide +kernel
theorem dX9_opens_7 : decode cX9_opens 7 = .ok (.putfield 266, 3) := by decide +kernel
theorem dX9_opens_10 : decode cX9_opens 10 = .ok (.aload_n 0, 1) := by decide +kernel
theorem dX9_opens_11 : decode cX9_opens 11 = .ok (.iconst 0, 1) := by decide +kernel
theorem dX9_opens_12 : decode cX9_opens 12 = .ok (.putfield 269, 3) := by decide +kernel
theorem dX9_opens_15 : decode cX9_opens 15 = .ok (.iconst 0, 1) := by decide +kernel
theorem dX9_opens_16 : decode cX9_opens 16 = .ok (.istore_n 2, 1) := by decide +kernel
theorem dX9_opens_17 : decode cX9_opens 17 = .ok (.iload_n 2, 1) := by decide +kernel
theorem dX9_opens_18 : decode cX9_opens 18 = .ok (.aload_n 0, 1) := by decide +kernel
theorem dX9_opens_19 : decode cX9_opens 19 = .ok (.getfield 260, 3) := by decide +kernel
theorem dX9_opens_22 : decode cX9_opens 22 = .ok (.if_icmp .ge 83, 3) := by decide +kernel
theorem dX9_opens_25 : decode cX9_opens 25 = .ok (.aload_n 0, 1) := by decide +kernel
theorem dX9_opens_26 : decode cX9_opens 26 = .ok (.getfield 28, 3) := by decide +kernel
theorem dX9_opens_29 : decode cX9_opens 29 = .ok (.iload_n 2, 1) := by decide +kernel
theorem dX9_opens_30 : decode cX9_opens 30 = .ok (.iaload, 1) := by decide +kernel
theorem dX9_opens_31 : decode cX9_opens 31 = .ok (.iload_n 1, 1) := by decide +kernel
theorem dX9_opens_32 : decode cX9_opens 32 = .ok (.if_icmp .eq 6, 3) := by decide +kernel
theorem dX9_opens_35 : decode cX9_opens 35 = .ok (.goto 64, 3) := by decide +kernel
theorem dX9_opens_38 : decode cX9_opens 38 = .ok (.aload_n 0, 1) := by decide +kernel
theorem dX9_opens_39 : decode cX9_opens 39 = .ok (.dup, 1) := by decide +kernel
theorem dX9_opens_40 : decode cX9_opens 40 = .ok (.getfield 263, 3) := by decide +kernel
theorem dX9_opens_43 : decode cX9_opens 43 = .ok (.iconst 1, 1) := by decide +kernel
theorem dX9_opens_44 : decode cX9_opens 44 = .ok (.iadd, 1) := by decide +kernel
theorem dX9_opens_45 : decode cX9_opens 45 = .ok (.putfield 263, 3) := by decide +kernel
theorem dX9_opens_48 : decode cX9_opens 48 = .ok (.aload_n 0, 1) := by decide +kernel
theorem dX9_opens_49 : decode cX9_opens 49 = .ok (.dup, 1) := by decide +kernel
theorem dX9_opens_50 : decode cX9_opens 50 = .ok (.getfield 266, 3) := by decide +kernel
theorem dX9_opens_53 : decode cX9_opens 53 = .ok (.aload_n 0, 1) := by decide +kernel
theorem dX9_opens_54 : decode cX9_opens 54 = .ok (.getfield 34, 3) := by decide +kernel
theorem dX9_opens_57 : decode cX9_opens 57 = .ok (.iload_n 2, 1) := by decide +kernel
theorem dX9_opens_58 : decode cX9_opens 58 = .ok (.baload, 1) := by decide +kernel
theorem dX9_opens_59 : decode cX9_opens 59 = .ok (.ifCond .eq 7, 3) := by decide +kernel
theorem dX9_opens_62 : decode cX9_opens 62 = .ok (.iconst 1, 1) := by decide +kernel
theorem dX9_opens_63 : decode cX9_opens 63 = .ok (.goto 4, 3) := by decide +kernel
theorem dX9_opens_66 : decode cX9_opens 66 = .ok (.iconst 0, 1) := by decide +kernel
theorem dX9_opens_67 : decode cX9_opens 67 = .ok (.iadd, 1) := by decide +kernel
theorem dX9_opens_68 : decode cX9_opens 68 = .ok (.putfield 266, 3) := by decide +kernel
theorem dX9_opens_71 : decode cX9_opens 71 = .ok (.aload_n 0, 1) := by decide +kernel
theorem dX9_opens_72 : decode cX9_opens 72 = .ok (.dup, 1) := by decide +kernel
theorem dX9_opens_73 : decode cX9_opens 73 = .ok (.getfield 269, 3) := by decide +kernel
theorem dX9_opens_76 : decode cX9_opens 76 = .ok (.aload_n 0, 1) := by decide +kernel
theorem dX9_opens_77 : decode cX9_opens 77 = .ok (.getfield 34, 3) := by decide +kernel
theorem dX9_opens_80 : decode cX9_opens 80 = .ok (.iload_n 2, 1) := by decide +kernel
theorem dX9_opens_81 : decode cX9_opens 81 = .ok (.baload, 1) := by decide +kernel
theorem dX9_opens_82 : decode cX9_opens 82 = .ok (.ifCond .eq 12, 3) := by decide +kernel
theorem dX9_opens_85 : decode cX9_opens 85 = .ok (.aload_n 0, 1) := by decide +kernel
theorem dX9_opens_86 : decode cX9_opens 86 = .ok (.getfield 31, 3) := by decide +kernel
theorem dX9_opens_89 : decode cX9_opens 89 = .ok (.iload_n 2, 1) := by decide +kernel
theorem dX9_opens_90 : decode cX9_opens 90 = .ok (.iaload, 1) := by decide +kernel
theorem dX9_opens_91 : decode cX9_opens 91 = .ok (.goto 4, 3) := by decide +kernel
theorem dX9_opens_94 : decode cX9_opens 94 = .ok (.iconst 0, 1) := by decide +kernel
theorem dX9_opens_95 : decode cX9_opens 95 = .ok (.iadd, 1) := by decide +kernel
theorem dX9_opens_96 : decode cX9_opens 96 = .ok (.putfield 269, 3) := by decide +kernel
theorem dX9_opens_99 : decode cX9_opens 99 = .ok (.iinc 2 1, 3) := by decide +kernel
theorem dX9_opens_102 : decode cX9_opens 102 = .ok (.goto (-85), 3) := by decide +kernel
theorem dX9_opens_105 : decode cX9_opens 105 = .ok (.return_, 1) := by decide +kernel
set_option maxRecDepth 20000 in
theorem ggX9_drawer_X9_isPlan : GoodIn wsX9_drawer wsX9_isPlan := goodIn_r _ [10, 11, 12, 13, 9, 14, 31, 32, 33, 34, 35, 36, 37, 38, 39, 40, 41, 42, 43, 44, 45, 46, 47, 48, 49, 50, 51, 52, 53, 54, 55, 56, 57] (by decide +kernel) (by decide +kernel)
set_option maxRecDepth 20000 in
theorem gX9_drawer_X9_isPlan : GoodIn wsX9_drawer (wsV RX9 75 RX9 yX9_isPlan wsX9_isPlan) := goodIn_app (goodIn_of _ (by decide +kernel)) ggX9_drawer_X9_isPlan
set_option maxRecDepth 20000 in
theorem ggX9_drawer_X9_refuse : GoodIn wsX9_drawer wsX9_refuse := goodIn_r _ [18, 19, 31, 32, 33, 34, 35, 36, 37, 38, 39, 40, 41, 42, 43, 44, 45, 46, 47, 48, 49, 50, 51, 52, 53, 54, 55, 56, 57] (by decide +kernel) (by decide +kernel)
set_option maxRecDepth 20000 in
theorem gX9_drawer_X9_refuse : GoodIn wsX9_drawer (wsV RX9 56 RX9 yX9_refuse wsX9_refuse) := goodIn_app (goodIn_of _ (by decide +kernel)) ggX9_drawer_X9_refuse
set_option maxRecDepth 20000 in
theorem ggX9_drawer_X9_isIn : GoodIn wsX9_drawer wsX9_isIn := goodIn_r _ [14] (by decide +kernel) (by decide +kernel)
set_option maxRecDepth 20000 in
theorem gX9_drawer_X9_isIn : GoodIn wsX9_drawer (va_wsS RX9 64 yX9_isIn wsX9_isIn) := goodIn_app (goodIn_of _ (by decide +kernel)) ggX9_drawer_X9_isIn
set_option maxRecDepth 20000 in
theorem ggX9_drawer_X9_opens : GoodIn wsX9_drawer wsX9_opens := goodIn_r _ [23, 1, 2, 3, 24, 25, 26, 27, 31, 32, 33, 34, 35, 36, 37, 38, 39, 40, 41, 42, 43, 44, 45, 46, 47, 48, 49, 50, 51, 52, 53, 54, 55, 56, 57] (by decide +kernel) (by decide +kernel)
set_option maxRecDepth 20000 in
theorem gX9_drawer_X9_opens : GoodIn wsX9_drawer (wsV RX9 272 RX9 yX9_opens wsX9_opens) := goodIn_app (goodIn_of _ (by decide +kernel)) ggX9_drawer_X9_opens
set_option maxRecDepth 20000 in
theorem ggX9_drawer_X9_sizeOf : GoodIn wsX9_drawer wsX9_sizeOf := goodIn_r _ [30] (by decide +kernel) (by decide +kernel)
set_option maxRecDepth 20000 in
theorem gX9_drawer_X9_sizeOf : GoodIn wsX9_drawer (va_wsS RX9 79 yX9_sizeOf wsX9_sizeOf) := goodIn_app (goodIn_of _ (by decide +kernel)) ggX9_drawer_X9_sizeOf
theorem dX9_drawer_0 : decode cX9_drawer 0 = .ok (.aload_n 0, 1) := by decide +kernel
theorem dX9_drawer_1 : decode cX9_drawer 1 = .ok (.iload_n 1, 1) := by decide +kernel
theorem dX9_drawer_2 : decode cX9_drawer 2 = .ok (.invokevirtual 75, 3) := by decide +kernel
theorem dX9_drawer_5 : decode cX9_drawer 5 = .ok (.ifCond .ne 9, 3) := by decide +kernel
theorem dX9_drawer_8 : decode cX9_drawer 8 = .ok (.aload_n 0, 1) := by decide +kernel
theorem dX9_drawer_9 : decode cX9_drawer 9 = .ok (.iconst (-1), 1) := by decide +kernel
theorem dX9_drawer_10 : decode cX9_drawer 10 = .ok (.invokevirtual 56, 3) := by decide +kernel
theorem dX9_drawer_13 : decode cX9_drawer 13 = .ok (.ireturn, 1) := by decide +kernel
theorem dX9_drawer_14 : decode cX9_drawer 14 = .ok (.iload_n 2, 1) := by decide +kernel
theorem dX9_drawer_15 : decode cX9_drawer 15 = .ok (.iconst 5, 1) := by decide +kernel
theorem dX9_drawer_16 : decode cX9_drawer 16 = .ok (.invokestatic 64, 3) := by decide +kernel
theorem dX9_drawer_19 : decode cX9_drawer 19 = .ok (.ifCond .ne 10, 3) := by decide +kernel
theorem dX9_drawer_22 : decode cX9_drawer 22 = .ok (.aload_n 0, 1) := by decide +kernel
theorem dX9_drawer_23 : decode cX9_drawer 23 = .ok (.bipush (-2), 2) := by decide +kernel
theorem dX9_drawer_25 : decode cX9_drawer 25 = .ok (.invokevirtual 56, 3) := by decide +kernel
theorem dX9_drawer_28 : decode cX9_drawer 28 = .ok (.ireturn, 1) := by decide +kernel
theorem dX9_drawer_29 : decode cX9_drawer 29 = .ok (.aload_n 0, 1) := by decide +kernel
theorem dX9_drawer_30 : decode cX9_drawer 30 = .ok (.iload_n 1, 1) := by decide +kernel
theorem dX9_drawer_31 : decode cX9_drawer 31 = .ok (.invokevirtual 272, 3) := by decide +kernel
theorem dX9_drawer_34 : decode cX9_drawer 34 = .ok (.iload_n 2, 1) := by decide +kernel
theorem dX9_drawer_35 : decode cX9_drawer 35 = .ok (.tableswitch 44 0 3 #[29, 34, 39, 39], 29) := by decide +kernel
theorem dX9_drawer_64 : decode cX9_drawer 64 = .ok (.aload_n 0, 1) := by decide +kernel
theorem dX9_drawer_65 : decode cX9_drawer 65 = .ok (.getfield 263, 3) := by decide +kernel
theorem dX9_drawer_68 : decode cX9_drawer 68 = .ok (.ireturn, 1) := by decide +kernel
theorem dX9_drawer_69 : decode cX9_drawer 69 = .ok (.aload_n 0, 1) := by decide +kernel
theorem dX9_drawer_70 : decode cX9_drawer 70 = .ok (.getfield 266, 3) := by decide +kernel
theorem dX9_drawer_73 : decode cX9_drawer 73 = .ok (.ireturn, 1) := by decide +kernel
theorem dX9_drawer_74 : decode cX9_drawer 74 = .ok (.aload_n 0, 1) := by decide +kernel
theorem dX9_drawer_75 : decode cX9_drawer 75 = .ok (.getfield 269, 3) := by decide +kernel
theorem dX9_drawer_78 : decode cX9_drawer 78 = .ok (.ireturn, 1) := by decide +kernel
theorem dX9_drawer_79 : decode cX9_drawer 79 = .ok (.aload_n 0, 1) := by decide +kernel
theorem dX9_drawer_80 : decode cX9_drawer 80 = .ok (.getfield 269, 3) := by decide +kernel
theorem dX9_drawer_83 : decode cX9_drawer 83 = .ok (.aload_n 0, 1) := by decide +kernel
theorem dX9_drawer_84 : decode cX9_drawer 84 = .ok (.getfield 263, 3) := by decide +kernel
theorem dX9_drawer_87 : decode cX9_drawer 87 = .ok (.aload_n 0, 1) := by decide +kernel
theorem dX9_drawer_88 : decode cX9_drawer 88 = .ok (.getfield 266, 3) := by decide +kernel
theorem dX9_drawer_91 : decode cX9_drawer 91 = .ok (.isub, 1) := by decide +kernel
theorem dX9_drawer_92 : decode cX9_drawer 92 = .ok (.aload_n 0, 1) := by decide +kernel
theorem dX9_drawer_93 : decode cX9_drawer 93 = .ok (.getfield 13, 3) := by decide +kernel
theorem dX9_drawer_96 : decode cX9_drawer 96 = .ok (.iload_n 1, 1) := by decide +kernel
theorem dX9_drawer_97 : decode cX9_drawer 97 = .ok (.iaload, 1) := by decide +kernel
theorem dX9_drawer_98 : decode cX9_drawer 98 = .ok (.aload_n 0, 1) := by decide +kernel
theorem dX9_drawer_99 : decode cX9_drawer 99 = .ok (.getfield 16, 3) := by decide +kernel
theorem dX9_drawer_102 : decode cX9_drawer 102 = .ok (.iload_n 1, 1) := by decide +kernel
theorem dX9_drawer_103 : decode cX9_drawer 103 = .ok (.iaload, 1) := by decide +kernel
theorem dX9_drawer_104 : decode cX9_drawer 104 = .ok (.invokestatic 79, 3) := by decide +kernel
theorem dX9_drawer_107 : decode cX9_drawer 107 = .ok (.imul, 1) := by decide +kernel
theorem dX9_drawer_108 : decode cX9_drawer 108 = .ok (.iadd, 1) := by decide +kernel
theorem dX9_drawer_109 : decode cX9_drawer 109 = .ok (.ireturn, 1) := by decide +kernel
set_option maxRecDepth 20000 in
theorem ggX9_turned_X9_isPlan : GoodIn wsX9_turned wsX9_isPlan := goodIn_r _ [10, 11, 12, 13, 9, 14, 34, 35, 36, 37, 38, 39, 40, 41, 42, 43, 44, 45, 46, 47, 48, 49, 50, 51, 52, 53, 54, 55, 56, 57, 58, 59, 60] (by decide +kernel) (by decide +kernel)
set_option maxRecDepth 20000 in
theorem gX9_turned_X9_isPlan : GoodIn wsX9_turned (wsV RX9 75 RX9 yX9_isPlan wsX9_isPlan) := goodIn_app (goodIn_of _ (by decide +kernel)) ggX9_turned_X9_isPlan
set_option maxRecDepth 20000 in
theorem ggX9_turned_X9_refuse : GoodIn wsX9_turned wsX9_refuse := goodIn_r _ [18, 19, 34, 35, 36, 37, 38, 39, 40, 41, 42, 43, 44, 45, 46, 47, 48, 49, 50, 51, 52, 53, 54, 55, 56, 57, 58, 59, 60] (by decide +kernel) (by decide +kernel)
set_option maxRecDepth 20000 in
theorem gX9_turned_X9_refuse : GoodIn wsX9_turned (wsV RX9 56 RX9 yX9_refuse wsX9_refuse) := goodIn_app (goodIn_of _ (by decide +kernel)) ggX9_turned_X9_refuse
set_option maxRecDepth 20000 in
theorem ggX9_turned_X9_opens : GoodIn wsX9_turned wsX9_opens := goodIn_r _ [23, 1, 4, 5, 24, 25, 26, 27, 34, 35, 36, 37, 38, 39, 40, 41, 42, 43, 44, 45, 46, 47, 48, 49, 50, 51, 52, 53, 54, 55, 56, 57, 58, 59, 60] (by decide +kernel) (by decide +kernel)
set_option maxRecDepth 20000 in
theorem gX9_turned_X9_opens : GoodIn wsX9_turned (wsV RX9 272 RX9 yX9_opens wsX9_opens) := goodIn_app (goodIn_of _ (by decide +kernel)) ggX9_turned_X9_opens
set_option maxRecDepth 20000 in
theorem ggX9_turned_X9_within : GoodIn wsX9_turned wsX9_within := goodIn_r _ [30] (by decide +kernel) (by decide +kernel)
set_option maxRecDepth 20000 in
theorem gX9_turned_X9_within : GoodIn wsX9_turned (va_wsS RX9 121 yX9_within wsX9_within) := goodIn_app (goodIn_of _ (by decide +kernel)) ggX9_turned_X9_within
set_option maxRecDepth 20000 in
theorem ggX9_turned_X9_sizeOf : GoodIn wsX9_turned wsX9_sizeOf := goodIn_r _ [33] (by decide +kernel) (by decide +kernel)
set_option maxRecDepth 20000 in
theorem gX9_turned_X9_sizeOf : GoodIn wsX9_turned (va_wsS RX9 79 yX9_sizeOf wsX9_sizeOf) := goodIn_app (goodIn_of _ (by decide +kernel)) ggX9_turned_X9_sizeOf
theorem dX9_turned_0 : decode cX9_turned 0 = .ok (.aload_n 0, 1) := by decide +kernel
theorem dX9_turned_1 : decode cX9_turned 1 = .ok (.iload_n 1, 1) := by decide +kernel
theorem dX9_turned_2 : decode cX9_turned 2 = .ok (.invokevirtual 75, 3) := by decide +kernel
theorem dX9_turned_5 : decode cX9_turned 5 = .ok (.ifCond .ne 9, 3) := by decide +kernel
theorem dX9_turned_8 : decode cX9_turned 8 = .ok (.aload_n 0, 1) := by decide +kernel
theorem dX9_turned_9 : decode cX9_turned 9 = .ok (.iconst (-1), 1) := by decide +kernel
theorem dX9_turned_10 : decode cX9_turned 10 = .ok (.invokevirtual 56, 3) := by decide +kernel
theorem dX9_turned_13 : decode cX9_turned 13 = .ok (.ireturn, 1) := by decide +kernel
theorem dX9_turned_14 : decode cX9_turned 14 = .ok (.aload_n 0, 1) := by decide +kernel
theorem dX9_turned_15 : decode cX9_turned 15 = .ok (.iload_n 1, 1) := by decide +kernel
theorem dX9_turned_16 : decode cX9_turned 16 = .ok (.invokevirtual 272, 3) := by decide +kernel
theorem dX9_turned_19 : decode cX9_turned 19 = .ok (.aload_n 0, 1) := by decide +kernel
theorem dX9_turned_20 : decode cX9_turned 20 = .ok (.getfield 263, 3) := by decide +kernel
theorem dX9_turned_23 : decode cX9_turned 23 = .ok (.ifCond .ne 8, 3) := by decide +kernel
theorem dX9_turned_26 : decode cX9_turned 26 = .ok (.bipush (-3), 2) := by decide +kernel
theorem dX9_turned_28 : decode cX9_turned 28 = .ok (.goto 11, 3) := by decide +kernel
theorem dX9_turned_31 : decode cX9_turned 31 = .ok (.iload_n 2, 1) := by decide +kernel
theorem dX9_turned_32 : decode cX9_turned 32 = .ok (.iconst 0, 1) := by decide +kernel
theorem dX9_turned_33 : decode cX9_turned 33 = .ok (.sipush 1000, 3) := by decide +kernel
theorem dX9_turned_36 : decode cX9_turned 36 = .ok (.invokestatic 121, 3) := by decide +kernel
theorem dX9_turned_39 : decode cX9_turned 39 = .ok (.istore_n 3, 1) := by decide +kernel
theorem dX9_turned_40 : decode cX9_turned 40 = .ok (.iload_n 3, 1) := by decide +kernel
theorem dX9_turned_41 : decode cX9_turned 41 = .ok (.ifCond .eq 9, 3) := by decide +kernel
theorem dX9_turned_44 : decode cX9_turned 44 = .ok (.aload_n 0, 1) := by decide +kernel
theorem dX9_turned_45 : decode cX9_turned 45 = .ok (.iload_n 3, 1) := by decide +kernel
theorem dX9_turned_46 : decode cX9_turned 46 = .ok (.invokevirtual 56, 3) := by decide +kernel
theorem dX9_turned_49 : decode cX9_turned 49 = .ok (.ireturn, 1) := by decide +kernel
theorem dX9_turned_50 : decode cX9_turned 50 = .ok (.aload_n 0, 1) := by decide +kernel
theorem dX9_turned_51 : decode cX9_turned 51 = .ok (.getfield 13, 3) := by decide +kernel
theorem dX9_turned_54 : decode cX9_turned 54 = .ok (.iload_n 1, 1) := by decide +kernel
theorem dX9_turned_55 : decode cX9_turned 55 = .ok (.iaload, 1) := by decide +kernel
theorem dX9_turned_56 : decode cX9_turned 56 = .ok (.aload_n 0, 1) := by decide +kernel
theorem dX9_turned_57 : decode cX9_turned 57 = .ok (.getfield 16, 3) := by decide +kernel
theorem dX9_turned_60 : decode cX9_turned 60 = .ok (.iload_n 1, 1) := by decide +kernel
theorem dX9_turned_61 : decode cX9_turned 61 = .ok (.iaload, 1) := by decide +kernel
theorem dX9_turned_62 : decode cX9_turned 62 = .ok (.invokestatic 79, 3) := by decide +kernel
theorem dX9_turned_65 : decode cX9_turned 65 = .ok (.istore 4, 2) := by decide +kernel
theorem dX9_turned_67 : decode cX9_turned 67 = .ok (.aload_n 0, 1) := by decide +kernel
theorem dX9_turned_68 : decode cX9_turned 68 = .ok (.getfield 263, 3) := by decide +kernel
theorem dX9_turned_71 : decode cX9_turned 71 = .ok (.aload_n 0, 1) := by decide +kernel
theorem dX9_turned_72 : decode cX9_turned 72 = .ok (.getfield 266, 3) := by decide +kernel
theorem dX9_turned_75 : decode cX9_turned 75 = .ok (.isub, 1) := by decide +kernel
theorem dX9_turned_76 : decode cX9_turned 76 = .ok (.istore 5, 2) := by decide +kernel
theorem dX9_turned_78 : decode cX9_turned 78 = .ok (.iconst 0, 1) := by decide +kernel
theorem dX9_turned_79 : decode cX9_turned 79 = .ok (.istore 6, 2) := by decide +kernel
theorem dX9_turned_81 : decode cX9_turned 81 = .ok (.iload 6, 2) := by decide +kernel
theorem dX9_turned_83 : decode cX9_turned 83 = .ok (.iload 5, 2) := by decide +kernel
theorem dX9_turned_85 : decode cX9_turned 85 = .ok (.if_icmp .gt 41, 3) := by decide +kernel
theorem dX9_turned_88 : decode cX9_turned 88 = .ok (.aload_n 0, 1) := by decide +kernel
theorem dX9_turned_89 : decode cX9_turned 89 = .ok (.getfield 269, 3) := by decide +kernel
theorem dX9_turned_92 : decode cX9_turned 92 = .ok (.iload 5, 2) := by decide +kernel
theorem dX9_turned_94 : decode cX9_turned 94 = .ok (.iload 6, 2) := by decide +kernel
theorem dX9_turned_96 : decode cX9_turned 96 = .ok (.isub, 1) := by decide +kernel
theorem dX9_turned_97 : decode cX9_turned 97 = .ok (.iload 4, 2) := by decide +kernel
theorem dX9_turned_99 : decode cX9_turned 99 = .ok (.imul, 1) := by decide +kernel
theorem dX9_turned_100 : decode cX9_turned 100 = .ok (.iadd, 1) := by decide +kernel
theorem dX9_turned_101 : decode cX9_turned 101 = .ok (.sipush 1000, 3) := by decide +kernel
theorem dX9_turned_104 : decode cX9_turned 104 = .ok (.imul, 1) := by decide +kernel
theorem dX9_turned_105 : decode cX9_turned 105 = .ok (.iload_n 2, 1) := by decide +kernel
theorem dX9_turned_106 : decode cX9_turned 106 = .ok (.aload_n 0, 1) := by decide +kernel
theorem dX9_turned_107 : decode cX9_turned 107 = .ok (.getfield 263, 3) := by decide +kernel
theorem dX9_turned_110 : decode cX9_turned 110 = .ok (.imul, 1) := by decide +kernel
theorem dX9_turned_111 : decode cX9_turned 111 = .ok (.iload 4, 2) := by decide +kernel
theorem dX9_turned_113 : decode cX9_turned 113 = .ok (.imul, 1) := by decide +kernel
theorem dX9_turned_114 : decode cX9_turned 114 = .ok (.if_icmp .gt 6, 3) := by decide +kernel
theorem dX9_turned_117 : decode cX9_turned 117 = .ok (.iload 6, 2) := by decide +kernel
theorem dX9_turned_119 : decode cX9_turned 119 = .ok (.ireturn, 1) := by decide +kernel
theorem dX9_turned_120 : decode cX9_turned 120 = .ok (.iinc 6 1, 3) := by decide +kernel
theorem dX9_turned_123 : decode cX9_turned 123 = .ok (.goto (-42), 3) := by decide +kernel
theorem dX9_turned_126 : decode cX9_turned 126 = .ok (.bipush (-9), 2) := by decide +kernel
theorem dX9_turned_128 : decode cX9_turned 128 = .ok (.ireturn, 1) := by decide +kernel
theorem dX9_count_0 : decode cX9_count 0 = .ok (.iload_n 1, 1) := by decide +kernel
theorem dX9_count_1 : decode cX9_count 1 = .ok (.bipush 10, 2) := by decide +kernel
theorem dX9_count_3 : decode cX9_count 3 = .ok (.if_icmp .le 19, 3) := by decide +kernel
theorem dX9_count_6 : decode cX9_count 6 = .ok (.iload_n 1, 1) := by decide +kernel
theorem dX9_count_7 : decode cX9_count 7 = .ok (.bipush 17, 2) := by decide +kernel
theorem dX9_count_9 : decode cX9_count 9 = .ok (.if_icmp .ge 13, 3) := by decide +kernel
theorem dX9_count_12 : decode cX9_count 12 = .ok (.aload_n 0, 1) := by decide +kernel
theorem dX9_count_13 : decode cX9_count 13 = .ok (.getfield 7, 3) := by decide +kernel
theorem dX9_count_16 : decode cX9_count 16 = .ok (.iload_n 1, 1) := by decide +kernel
theorem dX9_count_17 : decode cX9_count 17 = .ok (.bipush 10, 2) := by decide +kernel
theorem dX9_count_19 : decode cX9_count 19 = .ok (.isub, 1) := by decide +kernel
theorem dX9_count_20 : decode cX9_count 20 = .ok (.iaload, 1) := by decide +kernel
theorem dX9_count_21 : decode cX9_count 21 = .ok (.ireturn, 1) := by decide +kernel
theorem dX9_count_22 : decode cX9_count 22 = .ok (.iconst 0, 1) := by decide +kernel
theorem dX9_count_23 : decode cX9_count 23 = .ok (.istore_n 2, 1) := by decide +kernel
theorem dX9_count_24 : decode cX9_count 24 = .ok (.iload_n 1, 1) := by decide +kernel
theorem dX9_count_25 : decode cX9_count 25 = .ok (.tableswitch 90 0 4 #[35, 40, 45, 50, 85], 35) := by decide +kernel
theorem dX9_count_60 : decode cX9_count 60 = .ok (.aload_n 0, 1) := by decide +kernel
theorem dX9_count_61 : decode cX9_count 61 = .ok (.getfield 60, 3) := by decide +kernel
theorem dX9_count_64 : decode cX9_count 64 = .ok (.ireturn, 1) := by decide +kernel
theorem dX9_count_65 : decode cX9_count 65 = .ok (.aload_n 0, 1) := by decide +kernel
theorem dX9_count_66 : decode cX9_count 66 = .ok (.getfield 200, 3) := by decide +kernel
theorem dX9_count_69 : decode cX9_count 69 = .ok (.ireturn, 1) := by decide +kernel
theorem dX9_count_70 : decode cX9_count 70 = .ok (.aload_n 0, 1) := by decide +kernel
theorem dX9_count_71 : decode cX9_count 71 = .ok (.getfield 260, 3) := by decide +kernel
theorem dX9_count_74 : decode cX9_count 74 = .ok (.ireturn, 1) := by decide +kernel
theorem dX9_count_75 : decode cX9_count 75 = .ok (.iconst 0, 1) := by decide +kernel
theorem dX9_count_76 : decode cX9_count 76 = .ok (.istore_n 3, 1) := by decide +kernel
theorem dX9_count_77 : decode cX9_count 77 = .ok (.iload_n 3, 1) := by decide +kernel
theorem dX9_count_78 : decode cX9_count 78 = .ok (.aload_n 0, 1) := by decide +kernel
theorem dX9_count_79 : decode cX9_count 79 = .ok (.getfield 260, 3) := by decide +kernel
theorem dX9_count_82 : decode cX9_count 82 = .ok (.if_icmp .ge 26, 3) := by decide +kernel
theorem dX9_count_85 : decode cX9_count 85 = .ok (.iload_n 2, 1) := by decide +kernel
theorem dX9_count_86 : decode cX9_count 86 = .ok (.aload_n 0, 1) := by decide +kernel
theorem dX9_count_87 : decode cX9_count 87 = .ok (.getfield 34, 3) := by decide +kernel
theorem dX9_count_90 : decode cX9_count 90 = .ok (.iload_n 3, 1) := by decide +kernel
theorem dX9_count_91 : decode cX9_count 91 = .ok (.baload, 1) := by decide +kernel
theorem dX9_count_92 : decode cX9_count 92 = .ok (.ifCond .eq 7, 3) := by decide +kernel
theorem dX9_count_95 : decode cX9_count 95 = .ok (.iconst 1, 1) := by decide +kernel
theorem dX9_count_96 : decode cX9_count 96 = .ok (.goto 4, 3) := by decide +kernel
theorem dX9_count_99 : decode cX9_count 99 = .ok (.iconst 0, 1) := by decide +kernel
theorem dX9_count_100 : decode cX9_count 100 = .ok (.iadd, 1) := by decide +kernel
theorem dX9_count_101 : decode cX9_count 101 = .ok (.istore_n 2, 1) := by decide +kernel
theorem dX9_count_102 : decode cX9_count 102 = .ok (.iinc 3 1, 3) := by decide +kernel
theorem dX9_count_105 : decode cX9_count 105 = .ok (.goto (-28), 3) := by decide +kernel
theorem dX9_count_108 : decode cX9_count 108 = .ok (.iload_n 2, 1) := by decide +kernel
theorem dX9_count_109 : decode cX9_count 109 = .ok (.ireturn, 1) := by decide +kernel
theorem dX9_count_110 : decode cX9_count 110 = .ok (.aload_n 0, 1) := by decide +kernel
theorem dX9_count_111 : decode cX9_count 111 = .ok (.getfield 147, 3) := by decide +kernel
theorem dX9_count_114 : decode cX9_count 114 = .ok (.ireturn, 1) := by decide +kernel
theorem dX9_count_115 : decode cX9_count 115 = .ok (.bipush (-9), 2) := by decide +kernel
theorem dX9_count_117 : decode cX9_count 117 = .ok (.ireturn, 1) := by decide +kernel
theorem dJ6_bitCount_0f7a4_0 : decode cJ6_bitCount_0f7a4 0 = .ok (.iload_n 0, 1) := by decide +kernel
theorem dJ6_bitCount_0f7a4_1 : decode cJ6_bitCount_0f7a4 1 = .ok (.iload_n 0, 1) := by decide +kernel
theorem dJ6_bitCount_0f7a4_2 : decode cJ6_bitCount_0f7a4 2 = .ok (.iconst 1, 1) := by decide +kernel
theorem dJ6_bitCount_0f7a4_3 : decode cJ6_bitCount_0f7a4 3 = .ok (.iushr, 1) := by decide +kernel
theorem dJ6_bitCount_0f7a4_4 : decode cJ6_bitCount_0f7a4 4 = .ok (.ldc_w 265, 3) := by decide +kernel
theorem dJ6_bitCount_0f7a4_7 : decode cJ6_bitCount_0f7a4 7 = .ok (.iand, 1) := by decide +kernel
theorem dJ6_bitCount_0f7a4_8 : decode cJ6_bitCount_0f7a4 8 = .ok (.isub, 1) := by decide +kernel
theorem dJ6_bitCount_0f7a4_9 : decode cJ6_bitCount_0f7a4 9 = .ok (.istore_n 0, 1) := by decide +kernel
theorem dJ6_bitCount_0f7a4_10 : decode cJ6_bitCount_0f7a4 10 = .ok (.iload_n 0, 1) := by decide +kernel
theorem dJ6_bitCount_0f7a4_11 : decode cJ6_bitCount_0f7a4 11 = .ok (.ldc_w 266, 3) := by decide +kernel
theorem dJ6_bitCount_0f7a4_14 : decode cJ6_bitCount_0f7a4 14 = .ok (.iand, 1) := by decide +kernel
theorem dJ6_bitCount_0f7a4_15 : decode cJ6_bitCount_0f7a4 15 = .ok (.iload_n 0, 1) := by decide +kernel
theorem dJ6_bitCount_0f7a4_16 : decode cJ6_bitCount_0f7a4 16 = .ok (.iconst 2, 1) := by decide +kernel
theorem dJ6_bitCount_0f7a4_17 : decode cJ6_bitCount_0f7a4 17 = .ok (.iushr, 1) := by decide +kernel
theorem dJ6_bitCount_0f7a4_18 : decode cJ6_bitCount_0f7a4 18 = .ok (.ldc_w 266, 3) := by decide +kernel
theorem dJ6_bitCount_0f7a4_21 : decode cJ6_bitCount_0f7a4 21 = .ok (.iand, 1) := by decide +kernel
theorem dJ6_bitCount_0f7a4_22 : decode cJ6_bitCount_0f7a4 22 = .ok (.iadd, 1) := by decide +kernel
theorem dJ6_bitCount_0f7a4_23 : decode cJ6_bitCount_0f7a4 23 = .ok (.istore_n 0, 1) := by decide +kernel
theorem dJ6_bitCount_0f7a4_24 : decode cJ6_bitCount_0f7a4 24 = .ok (.iload_n 0, 1) := by decide +kernel
theorem dJ6_bitCount_0f7a4_25 : decode cJ6_bitCount_0f7a4 25 = .ok (.iload_n 0, 1) := by decide +kernel
theorem dJ6_bitCount_0f7a4_26 : decode cJ6_bitCount_0f7a4 26 = .ok (.iconst 4, 1) := by decide +kernel
theorem dJ6_bitCount_0f7a4_27 : decode cJ6_bitCount_0f7a4 27 = .ok (.iushr, 1) := by decide +kernel
theorem dJ6_bitCount_0f7a4_28 : decode cJ6_bitCount_0f7a4 28 = .ok (.iadd, 1) := by decide +kernel
theorem dJ6_bitCount_0f7a4_29 : decode cJ6_bitCount_0f7a4 29 = .ok (.ldc_w 267, 3) := by decide +kernel
theorem dJ6_bitCount_0f7a4_32 : decode cJ6_bitCount_0f7a4 32 = .ok (.iand, 1) := by decide +kernel
theorem dJ6_bitCount_0f7a4_33 : decode cJ6_bitCount_0f7a4 33 = .ok (.istore_n 0, 1) := by decide +kernel
theorem dJ6_bitCount_0f7a4_34 : decode cJ6_bitCount_0f7a4 34 = .ok (.iload_n 0, 1) := by decide +kernel
theorem dJ6_bitCount_0f7a4_35 : decode cJ6_bitCount_0f7a4 35 = .ok (.iload_n 0, 1) := by decide +kernel
theorem dJ6_bitCount_0f7a4_36 : decode cJ6_bitCount_0f7a4 36 = .ok (.bipush 8, 2) := by decide +kernel
theorem dJ6_bitCount_0f7a4_38 : decode cJ6_bitCount_0f7a4 38 = .ok (.iushr, 1) := by decide +kernel
theorem dJ6_bitCount_0f7a4_39 : decode cJ6_bitCount_0f7a4 39 = .ok (.iadd, 1) := by decide +kernel
theorem dJ6_bitCount_0f7a4_40 : decode cJ6_bitCount_0f7a4 40 = .ok (.istore_n 0, 1) := by decide +kernel
theorem dJ6_bitCount_0f7a4_41 : decode cJ6_bitCount_0f7a4 41 = .ok (.iload_n 0, 1) := by decide +kernel
theorem dJ6_bitCount_0f7a4_42 : decode cJ6_bitCount_0f7a4 42 = .ok (.iload_n 0, 1) := by decide +kernel
theorem dJ6_bitCount_0f7a4_43 : decode cJ6_bitCount_0f7a4 43 = .ok (.bipush 16, 2) := by decide +kernel
theorem dJ6_bitCount_0f7a4_45 : decode cJ6_bitCount_0f7a4 45 = .ok (.iushr, 1) := by decide +kernel
theorem dJ6_bitCount_0f7a4_46 : decode cJ6_bitCount_0f7a4 46 = .ok (.iadd, 1) := by decide +kernel
theorem dJ6_bitCount_0f7a4_47 : decode cJ6_bitCount_0f7a4 47 = .ok (.istore_n 0, 1) := by decide +kernel
theorem dJ6_bitCount_0f7a4_48 : decode cJ6_bitCount_0f7a4 48 = .ok (.iload_n 0, 1) := by decide +kernel
theorem dJ6_bitCount_0f7a4_49 : decode cJ6_bitCount_0f7a4 49 = .ok (.bipush 63, 2) := by decide +kernel
theorem dJ6_bitCount_0f7a4_51 : decode cJ6_bitCount_0f7a4 51 = .ok (.iand, 1) := by decide +kernel
theorem dJ6_bitCount_0f7a4_52 : decode cJ6_bitCount_0f7a4 52 = .ok (.ireturn, 1) := by decide +kernel
theorem dJ13_compare_74951_0 : decode cJ13_compare_74951 0 = .ok (.lload_n 0, 1) := by decide +kernel
theorem dJ13_compare_74951_1 : decode cJ13_compare_74951 1 = .ok (.lload_n 2, 1) := by decide +kernel
theorem dJ13_compare_74951_2 : decode cJ13_compare_74951 2 = .ok (.lcmp, 1) := by decide +kernel
theorem dJ13_compare_74951_3 : decode cJ13_compare_74951 3 = .ok (.ifCond .ge 7, 3) := by decide +kernel
theorem dJ13_compare_74951_6 : decode cJ13_compare_74951 6 = .ok (.iconst (-1), 1) := by decide +kernel
theorem dJ13_compare_74951_7 : decode cJ13_compare_74951 7 = .ok (.goto 14, 3) := by decide +kernel
theorem dJ13_compare_74951_10 : decode cJ13_compare_74951 10 = .ok (.lload_n 0, 1) := by decide +kernel
theorem dJ13_compare_74951_11 : decode cJ13_compare_74951 11 = .ok (.lload_n 2, 1) := by decide +kernel
theorem dJ13_compare_74951_12 : decode cJ13_compare_74951 12 = .ok (.lcmp, 1) := by decide +kernel
theorem dJ13_compare_74951_13 : decode cJ13_compare_74951 13 = .ok (.ifCond .ne 7, 3) := by decide +kernel
theorem dJ13_compare_74951_16 : decode cJ13_compare_74951 16 = .ok (.iconst 0, 1) := by decide +kernel
theorem dJ13_compare_74951_17 : decode cJ13_compare_74951 17 = .ok (.goto 4, 3) := by decide +kernel
theorem dJ13_compare_74951_20 : decode cJ13_compare_74951 20 = .ok (.iconst 1, 1) := by decide +kernel
theorem dJ13_compare_74951_21 : decode cJ13_compare_74951 21 = .ok (.ireturn, 1) := by decide +kernel
theorem dJ9_abs_0f7a4_0 : decode cJ9_abs_0f7a4 0 = .ok (.iload_n 0, 1) := by decide +kernel
theorem dJ9_abs_0f7a4_1 : decode cJ9_abs_0f7a4 1 = .ok (.ifCond .ge 8, 3) := by decide +kernel
theorem dJ9_abs_0f7a4_4 : decode cJ9_abs_0f7a4 4 = .ok (.iload_n 0, 1) := by decide +kernel
theorem dJ9_abs_0f7a4_5 : decode cJ9_abs_0f7a4 5 = .ok (.ineg, 1) := by decide +kernel
theorem dJ9_abs_0f7a4_6 : decode cJ9_abs_0f7a4 6 = .ok (.goto 4, 3) := by decide +kernel
theorem dJ9_abs_0f7a4_9 : decode cJ9_abs_0f7a4 9 = .ok (.iload_n 0, 1) := by decide +kernel
theorem dJ9_abs_0f7a4_10 : decode cJ9_abs_0f7a4 10 = .ok (.ireturn, 1) := by decide +kernel
theorem dJ9_abs_067f4_0 : decode cJ9_abs_067f4 0 = .ok (.lload_n 0, 1) := by decide +kernel
theorem dJ9_abs_067f4_1 : decode cJ9_abs_067f4 1 = .ok (.lconst 0, 1) := by decide +kernel
theorem dJ9_abs_067f4_2 : decode cJ9_abs_067f4 2 = .ok (.lcmp, 1) := by decide +kernel
theorem dJ9_abs_067f4_3 : decode cJ9_abs_067f4 3 = .ok (.ifCond .ge 8, 3) := by decide +kernel
theorem dJ9_abs_067f4_6 : decode cJ9_abs_067f4 6 = .ok (.lload_n 0, 1) := by decide +kernel
theorem dJ9_abs_067f4_7 : decode cJ9_abs_067f4 7 = .ok (.lneg, 1) := by decide +kernel
theorem dJ9_abs_067f4_8 : decode cJ9_abs_067f4 8 = .ok (.goto 4, 3) := by decide +kernel
theorem dJ9_abs_067f4_11 : decode cJ9_abs_067f4 11 = .ok (.lload_n 0, 1) := by decide +kernel
theorem dJ9_abs_067f4_12 : decode cJ9_abs_067f4 12 = .ok (.lreturn, 1) := by decide +kernel
theorem dJ9_max_7cf53_0 : decode cJ9_max_7cf53 0 = .ok (.iload_n 0, 1) := by decide +kernel
theorem dJ9_max_7cf53_1 : decode cJ9_max_7cf53 1 = .ok (.iload_n 1, 1) := by decide +kernel
theorem dJ9_max_7cf53_2 : decode cJ9_max_7cf53 2 = .ok (.if_icmp .lt 7, 3) := by decide +kernel
theorem dJ9_max_7cf53_5 : decode cJ9_max_7cf53 5 = .ok (.iload_n 0, 1) := by decide +kernel
theorem dJ9_max_7cf53_6 : decode cJ9_max_7cf53 6 = .ok (.goto 4, 3) := by decide +kernel
theorem dJ9_max_7cf53_9 : decode cJ9_max_7cf53 9 = .ok (.iload_n 1, 1) := by decide +kernel
theorem dJ9_max_7cf53_10 : decode cJ9_max_7cf53 10 = .ok (.ireturn, 1) := by decide +kernel
theorem dJ9_min_7cf53_0 : decode cJ9_min_7cf53 0 = .ok (.iload_n 0, 1) := by decide +kernel
theorem dJ9_min_7cf53_1 : decode cJ9_min_7cf53 1 = .ok (.iload_n 1, 1) := by decide +kernel
theorem dJ9_min_7cf53_2 : decode cJ9_min_7cf53 2 = .ok (.if_icmp .gt 7, 3) := by decide +kernel
theorem dJ9_min_7cf53_5 : decode cJ9_min_7cf53 5 = .ok (.iload_n 0, 1) := by decide +kernel
theorem dJ9_min_7cf53_6 : decode cJ9_min_7cf53 6 = .ok (.goto 4, 3) := by decide +kernel
theorem dJ9_min_7cf53_9 : decode cJ9_min_7cf53 9 = .ok (.iload_n 1, 1) := by decide +kernel
theorem dJ9_min_7cf53_10 : decode cJ9_min_7cf53 10 = .ok (.ireturn, 1) := by decide +kernel
theorem dJxa1e45_init_da8c8_0 : decode cJxa1e45_init_da8c8 0 = .ok (.aload_n 0, 1) := by decide +kernel
theorem dJxa1e45_init_da8c8_1 : decode cJxa1e45_init_da8c8 1 = .ok (.invokespecial 1, 3) := by decide +kernel
theorem dJxa1e45_init_da8c8_4 : decode cJxa1e45_init_da8c8 4 = .ok (.return_, 1) := by decide +kernel
set_option maxRecDepth 20000 in
theorem ggJxc12de_init_da8c8_Jxa1e45_init_da8c8 : GoodIn wsJxc12de_init_da8c8 wsJxa1e45_init_da8c8 := goodIn_r _ [5, 6, 7, 8] (by decide +kernel) (by decide +kernel)
set_option maxRecDepth 20000 in
theorem gJxc12de_init_da8c8_Jxa1e45_init_da8c8 : GoodIn wsJxc12de_init_da8c8 (wsJxa1e45_init_da8c8) := ggJxc12de_init_da8c8_Jxa1e45_init_da8c8
theorem dJxc12de_init_da8c8_0 : decode cJxc12de_init_da8c8 0 = .ok (.aload_n 0, 1) := by decide +kernel
theorem dJxc12de_init_da8c8_1 : decode cJxc12de_init_da8c8 1 = .ok (.invokespecial 1, 3) := by decide +kernel
theorem dJxc12de_init_da8c8_4 : decode cJxc12de_init_da8c8 4 = .ok (.aload_n 0, 1) := by decide +kernel
theorem dJxc12de_init_da8c8_5 : decode cJxc12de_init_da8c8 5 = .ok (.iconst 0, 1) := by decide +kernel
theorem dJxc12de_init_da8c8_6 : decode cJxc12de_init_da8c8 6 = .ok (.putfield 7, 3) := by decide +kernel
theorem dJxc12de_init_da8c8_9 : decode cJxc12de_init_da8c8 9 = .ok (.return_, 1) := by decide +kernel
set_option maxRecDepth 20000 in
theorem ggJx4a65c_init_da8c8_Jxc12de_init_da8c8 : GoodIn wsJx4a65c_init_da8c8 wsJxc12de_init_da8c8 := goodIn_r _ [6, 7, 8, 9, 10, 11, 12, 13, 14, 15, 16, 17] (by decide +kernel) (by decide +kernel)
set_option maxRecDepth 20000 in
theorem gJx4a65c_init_da8c8_Jxc12de_init_da8c8 : GoodIn wsJx4a65c_init_da8c8 (wsJxc12de_init_da8c8) := ggJx4a65c_init_da8c8_Jxc12de_init_da8c8
theorem dJx4a65c_init_da8c8_0 : decode cJx4a65c_init_da8c8 0 = .ok (.aload_n 0, 1) := by decide +kernel
theorem dJx4a65c_init_da8c8_1 : decode cJx4a65c_init_da8c8 1 = .ok (.invokespecial 1, 3) := by decide +kernel
theorem dJx4a65c_init_da8c8_4 : decode cJx4a65c_init_da8c8 4 = .ok (.aload_n 0, 1) := by decide +kernel
theorem dJx4a65c_init_da8c8_5 : decode cJx4a65c_init_da8c8 5 = .ok (.getstatic 39, 3) := by decide +kernel
theorem dJx4a65c_init_da8c8_8 : decode cJx4a65c_init_da8c8 8 = .ok (.putfield 9, 3) := by decide +kernel
theorem dJx4a65c_init_da8c8_11 : decode cJx4a65c_init_da8c8 11 = .ok (.return_, 1) := by decide +kernel
set_option maxRecDepth 20000 in
theorem ggJx4a65c_grow_92f84_J8_newLength_cabcc : GoodIn wsJx4a65c_grow_92f84 wsJ8_newLength_cabcc := goodIn_r _ [11, 12, 4, 5, 6, 13, 14, 15, 10, 16] (by decide +kernel) (by decide +kernel)
set_option maxRecDepth 20000 in
theorem gJx4a65c_grow_92f84_J8_newLength_cabcc : GoodIn wsJx4a65c_grow_92f84 (va_wsS RJx4a65c 73 yJ8_newLength_cabcc wsJ8_newLength_cabcc) := goodIn_app (goodIn_of _ (by decide +kernel)) ggJx4a65c_grow_92f84_J8_newLength_cabcc
set_option maxRecDepth 20000 in
theorem ggJx4a65c_grow_92f84_J7_copyOf_1904c : GoodIn wsJx4a65c_grow_92f84 wsJ7_copyOf_1904c := goodIn_r _ [20, 21, 22, 23, 24, 25, 26, 19, 27, 28, 29, 30, 31, 5, 32, 33, 34, 35, 36] (by decide +kernel) (by decide +kernel)
set_option maxRecDepth 20000 in
theorem gJx4a65c_grow_92f84_J7_copyOf_1904c : GoodIn wsJx4a65c_grow_92f84 (va_wsS RJx4a65c 66 yJ7_copyOf_1904c wsJ7_copyOf_1904c) := goodIn_app (goodIn_of _ (by decide +kernel)) ggJx4a65c_grow_92f84_J7_copyOf_1904c
theorem dJx4a65c_grow_92f84_0 : decode cJx4a65c_grow_92f84 0 = .ok (.aload_n 0, 1) := by decide +kernel
theorem dJx4a65c_grow_92f84_1 : decode cJx4a65c_grow_92f84 1 = .ok (.getfield 9, 3) := by decide +kernel
theorem dJx4a65c_grow_92f84_4 : decode cJx4a65c_grow_92f84 4 = .ok (.arraylength, 1) := by decide +kernel
theorem dJx4a65c_grow_92f84_5 : decode cJx4a65c_grow_92f84 5 = .ok (.istore_n 2, 1) := by decide +kernel
theorem dJx4a65c_grow_92f84_6 : decode cJx4a65c_grow_92f84 6 = .ok (.iload_n 2, 1) := by decide +kernel
theorem dJx4a65c_grow_92f84_7 : decode cJx4a65c_grow_92f84 7 = .ok (.ifCond .gt 13, 3) := by decide +kernel
theorem dJx4a65c_grow_92f84_10 : decode cJx4a65c_grow_92f84 10 = .ok (.aload_n 0, 1) := by decide +kernel
theorem dJx4a65c_grow_92f84_11 : decode cJx4a65c_grow_92f84 11 = .ok (.getfield 9, 3) := by decide +kernel
theorem dJx4a65c_grow_92f84_14 : decode cJx4a65c_grow_92f84 14 = .ok (.getstatic 39, 3) := by decide +kernel
theorem dJx4a65c_grow_92f84_17 : decode cJx4a65c_grow_92f84 17 = .ok (.if_acmp .eq 28, 3) := by decide +kernel
theorem dJx4a65c_grow_92f84_20 : decode cJx4a65c_grow_92f84 20 = .ok (.iload_n 2, 1) := by decide +kernel
theorem dJx4a65c_grow_92f84_21 : decode cJx4a65c_grow_92f84 21 = .ok (.iload_n 1, 1) := by decide +kernel
theorem dJx4a65c_grow_92f84_22 : decode cJx4a65c_grow_92f84 22 = .ok (.iload_n 2, 1) := by decide +kernel
theorem dJx4a65c_grow_92f84_23 : decode cJx4a65c_grow_92f84 23 = .ok (.isub, 1) := by decide +kernel
theorem dJx4a65c_grow_92f84_24 : decode cJx4a65c_grow_92f84 24 = .ok (.iload_n 2, 1) := by decide +kernel
theorem dJx4a65c_grow_92f84_25 : decode cJx4a65c_grow_92f84 25 = .ok (.iconst 1, 1) := by decide +kernel
theorem dJx4a65c_grow_92f84_26 : decode cJx4a65c_grow_92f84 26 = .ok (.ishr, 1) := by decide +kernel
theorem dJx4a65c_grow_92f84_27 : decode cJx4a65c_grow_92f84 27 = .ok (.invokestatic 73, 3) := by decide +kernel
theorem dJx4a65c_grow_92f84_30 : decode cJx4a65c_grow_92f84 30 = .ok (.istore_n 3, 1) := by decide +kernel
theorem dJx4a65c_grow_92f84_31 : decode cJx4a65c_grow_92f84 31 = .ok (.aload_n 0, 1) := by decide +kernel
theorem dJx4a65c_grow_92f84_32 : decode cJx4a65c_grow_92f84 32 = .ok (.aload_n 0, 1) := by decide +kernel
theorem dJx4a65c_grow_92f84_33 : decode cJx4a65c_grow_92f84 33 = .ok (.getfield 9, 3) := by decide +kernel
theorem dJx4a65c_grow_92f84_36 : decode cJx4a65c_grow_92f84 36 = .ok (.iload_n 3, 1) := by decide +kernel
theorem dJx4a65c_grow_92f84_37 : decode cJx4a65c_grow_92f84 37 = .ok (.invokestatic 66, 3) := by decide +kernel
theorem dJx4a65c_grow_92f84_40 : decode cJx4a65c_grow_92f84 40 = .ok (.dup_x1, 1) := by decide +kernel
theorem dJx4a65c_grow_92f84_41 : decode cJx4a65c_grow_92f84 41 = .ok (.putfield 9, 3) := by decide +kernel
theorem dJx4a65c_grow_92f84_44 : decode cJx4a65c_grow_92f84 44 = .ok (.areturn, 1) := by decide +kernel
theorem dJx4a65c_grow_92f84_45 : decode cJx4a65c_grow_92f84 45 = .ok (.aload_n 0, 1) := by decide +kernel
theorem dJx4a65c_grow_92f84_46 : decode cJx4a65c_grow_92f84 46 = .ok (.bipush 10, 2) := by decide +kernel
theorem dJx4a65c_grow_92f84_48 : decode cJx4a65c_grow_92f84 48 = .ok (.iload_n 1, 1) := by decide +kernel
theorem dJx4a65c_grow_92f84_49 : decode cJx4a65c_grow_92f84 49 = .ok (.invokestatic 79, 3) := by decide +kernel
theorem dJx4a65c_grow_92f84_52 : decode cJx4a65c_grow_92f84 52 = .ok (.anewarray 7, 3) := by decide +kernel
theorem dJx4a65c_grow_92f84_55 : decode cJx4a65c_grow_92f84 55 = .ok (.dup_x1, 1) := by decide +kernel
theorem dJx4a65c_grow_92f84_56 : decode cJx4a65c_grow_92f84 56 = .ok (.putfield 9, 3) := by decide +kernel
theorem dJx4a65c_grow_92f84_59 : decode cJx4a65c_grow_92f84 59 = .ok (.areturn, 1) := by decide +kernel
set_option maxRecDepth 20000 in
theorem ggJx4a65c_grow_d5877_Jx4a65c_grow_92f84 : GoodIn wsJx4a65c_grow_d5877 wsJx4a65c_grow_92f84 := goodIn_r _ [6, 7, 8, 9, 10, 11, 12, 13, 14, 15, 16, 17, 18, 19, 20, 21, 22, 23, 24, 25, 26, 27, 28, 29, 30, 31, 32, 33, 34, 35, 36, 37, 38, 39, 40, 41, 42, 43, 44, 45] (by decide +kernel) (by decide +kernel)
set_option maxRecDepth 20000 in
theorem gJx4a65c_grow_d5877_Jx4a65c_grow_92f84 : GoodIn wsJx4a65c_grow_d5877 (wsV RJx4a65c 69 RJx4a65c yJx4a65c_grow_92f84 wsJx4a65c_grow_92f84) := goodIn_app (goodIn_of _ (by decide +kernel)) ggJx4a65c_grow_d5877_Jx4a65c_grow_92f84
theorem dJx4a65c_grow_d5877_0 : decode cJx4a65c_grow_d5877 0 = .ok (.aload_n 0, 1) := by decide +kernel
theorem dJx4a65c_grow_d5877_1 : decode cJx4a65c_grow_d5877 1 = .ok (.aload_n 0, 1) := by decide +kernel
theorem dJx4a65c_grow_d5877_2 : decode cJx4a65c_grow_d5877 2 = .ok (.getfield 48, 3) := by decide +kernel
theorem dJx4a65c_grow_d5877_5 : decode cJx4a65c_grow_d5877 5 = .ok (.iconst 1, 1) := by decide +kernel
theorem dJx4a65c_grow_d5877_6 : decode cJx4a65c_grow_d5877 6 = .ok (.iadd, 1) := by decide +kernel
theorem dJx4a65c_grow_d5877_7 : decode cJx4a65c_grow_d5877 7 = .ok (.invokevirtual 69, 3) := by decide +kernel
theorem dJx4a65c_grow_d5877_10 : decode cJx4a65c_grow_d5877 10 = .ok (.areturn, 1) := by decide +kernel
theorem dJx4a65c_size_8abf5_0 : decode cJx4a65c_size_8abf5 0 = .ok (.aload_n 0, 1) := by decide +kernel
theorem dJx4a65c_size_8abf5_1 : decode cJx4a65c_size_8abf5 1 = .ok (.getfield 48, 3) := by decide +kernel
theorem dJx4a65c_size_8abf5_4 : decode cJx4a65c_size_8abf5 4 = .ok (.ireturn, 1) := by decide +kernel
theorem dJx4a65c_elementData_915e3_0 : decode cJx4a65c_elementData_915e3 0 = .ok (.aload_n 0, 1) := by decide +kernel
theorem dJx4a65c_elementData_915e3_1 : decode cJx4a65c_elementData_915e3 1 = .ok (.getfield 9, 3) := by decide +kernel
theorem dJx4a65c_elementData_915e3_4 : decode cJx4a65c_elementData_915e3 4 = .ok (.iload_n 1, 1) := by decide +kernel
theorem dJx4a65c_elementData_915e3_5 : decode cJx4a65c_elementData_915e3 5 = .ok (.aaload, 1) := by decide +kernel
theorem dJx4a65c_elementData_915e3_6 : decode cJx4a65c_elementData_915e3 6 = .ok (.areturn, 1) := by decide +kernel
set_option maxRecDepth 20000 in
theorem ggJx4a65c_get_915e3_J15_checkIndex_7cf53 : GoodIn wsJx4a65c_get_915e3 wsJ15_checkIndex_7cf53 := goodIn_r _ [5, 6, 7, 8, 9] (by decide +kernel) (by decide +kernel)
set_option maxRecDepth 20000 in
theorem gJx4a65c_get_915e3_J15_checkIndex_7cf53 : GoodIn wsJx4a65c_get_915e3 (va_wsS RJx4a65c 118 yJ15_checkIndex_7cf53 wsJ15_checkIndex_7cf53) := goodIn_app (goodIn_of _ (by decide +kernel)) ggJx4a65c_get_915e3_J15_checkIndex_7cf53
set_option maxRecDepth 20000 in
theorem ggJx4a65c_get_915e3_Jx4a65c_elementData_915e3 : GoodIn wsJx4a65c_get_915e3 wsJx4a65c_elementData_915e3 := goodIn_r _ [14, 15, 16, 17, 18] (by decide +kernel) (by decide +kernel)
set_option maxRecDepth 20000 in
theorem gJx4a65c_get_915e3_Jx4a65c_elementData_915e3 : GoodIn wsJx4a65c_get_915e3 (wsV RJx4a65c 123 RJx4a65c yJx4a65c_elementData_915e3 wsJx4a65c_elementData_915e3) := goodIn_app (goodIn_of _ (by decide +kernel)) ggJx4a65c_get_915e3_Jx4a65c_elementData_915e3
theorem dJx4a65c_get_915e3_0 : decode cJx4a65c_get_915e3 0 = .ok (.iload_n 1, 1) := by decide +kernel
theorem dJx4a65c_get_915e3_1 : decode cJx4a65c_get_915e3 1 = .ok (.aload_n 0, 1) := by decide +kernel
theorem dJx4a65c_get_915e3_2 : decode cJx4a65c_get_915e3 2 = .ok (.getfield 48, 3) := by decide +kernel
theorem dJx4a65c_get_915e3_5 : decode cJx4a65c_get_915e3 5 = .ok (.invokestatic 118, 3) := by decide +kernel
theorem dJx4a65c_get_915e3_8 : decode cJx4a65c_get_915e3 8 = .ok (.pop, 1) := by decide +kernel
theorem dJx4a65c_get_915e3_9 : decode cJx4a65c_get_915e3 9 = .ok (.aload_n 0, 1) := by decide +kernel
theorem dJx4a65c_get_915e3_10 : decode cJx4a65c_get_915e3 10 = .ok (.iload_n 1, 1) := by decide +kernel
theorem dJx4a65c_get_915e3_11 : decode cJx4a65c_get_915e3 11 = .ok (.invokevirtual 123, 3) := by decide +kernel
theorem dJx4a65c_get_915e3_14 : decode cJx4a65c_get_915e3 14 = .ok (.areturn, 1) := by decide +kernel
set_option maxRecDepth 20000 in
theorem ggJx4a65c_add_72be8_Jx4a65c_grow_d5877 : GoodIn wsJx4a65c_add_72be8 wsJx4a65c_grow_d5877 := goodIn_r _ [6, 1, 7, 8, 9, 5, 10, 11, 12, 13, 14, 15, 16, 17, 18, 19, 20, 21, 22, 23, 24, 25, 26, 27, 28, 29, 30, 31, 32, 33, 34, 35, 36, 37, 38, 39, 40, 41, 42, 43, 44, 45, 46, 47, 48, 49] (by decide +kernel) (by decide +kernel)
set_option maxRecDepth 20000 in
theorem gJx4a65c_add_72be8_Jx4a65c_grow_d5877 : GoodIn wsJx4a65c_add_72be8 (wsV RJx4a65c 129 RJx4a65c yJx4a65c_grow_d5877 wsJx4a65c_grow_d5877) := goodIn_app (goodIn_of _ (by decide +kernel)) ggJx4a65c_add_72be8_Jx4a65c_grow_d5877
theorem dJx4a65c_add_72be8_0 : decode cJx4a65c_add_72be8 0 = .ok (.iload_n 3, 1) := by decide +kernel
theorem dJx4a65c_add_72be8_1 : decode cJx4a65c_add_72be8 1 = .ok (.aload_n 2, 1) := by decide +kernel
theorem dJx4a65c_add_72be8_2 : decode cJx4a65c_add_72be8 2 = .ok (.arraylength, 1) := by decide +kernel
theorem dJx4a65c_add_72be8_3 : decode cJx4a65c_add_72be8 3 = .ok (.if_icmp .ne 8, 3) := by decide +kernel
theorem dJx4a65c_add_72be8_6 : decode cJx4a65c_add_72be8 6 = .ok (.aload_n 0, 1) := by decide +kernel
theorem dJx4a65c_add_72be8_7 : decode cJx4a65c_add_72be8 7 = .ok (.invokevirtual 129, 3) := by decide +kernel
theorem dJx4a65c_add_72be8_10 : decode cJx4a65c_add_72be8 10 = .ok (.astore_n 2, 1) := by decide +kernel
theorem dJx4a65c_add_72be8_11 : decode cJx4a65c_add_72be8 11 = .ok (.aload_n 2, 1) := by decide +kernel
theorem dJx4a65c_add_72be8_12 : decode cJx4a65c_add_72be8 12 = .ok (.iload_n 3, 1) := by decide +kernel
theorem dJx4a65c_add_72be8_13 : decode cJx4a65c_add_72be8 13 = .ok (.aload_n 1, 1) := by decide +kernel
theorem dJx4a65c_add_72be8_14 : decode cJx4a65c_add_72be8 14 = .ok (.aastore, 1) := by decide +kernel
theorem dJx4a65c_add_72be8_15 : decode cJx4a65c_add_72be8 15 = .ok (.aload_n 0, 1) := by decide +kernel
theorem dJx4a65c_add_72be8_16 : decode cJx4a65c_add_72be8 16 = .ok (.iload_n 3, 1) := by decide +kernel
theorem dJx4a65c_add_72be8_17 : decode cJx4a65c_add_72be8 17 = .ok (.iconst 1, 1) := by decide +kernel
theorem dJx4a65c_add_72be8_18 : decode cJx4a65c_add_72be8 18 = .ok (.iadd, 1) := by decide +kernel
theorem dJx4a65c_add_72be8_19 : decode cJx4a65c_add_72be8 19 = .ok (.putfield 48, 3) := by decide +kernel
theorem dJx4a65c_add_72be8_22 : decode cJx4a65c_add_72be8 22 = .ok (.return_, 1) := by decide +kernel
set_option maxRecDepth 20000 in
theorem ggJx4a65c_add_9ea2d_Jx4a65c_add_72be8 : GoodIn wsJx4a65c_add_9ea2d wsJx4a65c_add_72be8 := goodIn_r _ [9, 4, 10, 11, 12, 8, 13, 14, 15, 16, 17, 3, 18, 19, 20, 21, 22, 23, 24, 25, 26, 27, 28, 29, 30, 31, 32, 33, 34, 35, 36, 37, 38, 39, 40, 41, 42, 43, 44, 45, 46, 47, 48, 49, 50, 51, 52, 53, 54, 55] (by decide +kernel) (by decide +kernel)
set_option maxRecDepth 20000 in
theorem gJx4a65c_add_9ea2d_Jx4a65c_add_72be8 : GoodIn wsJx4a65c_add_9ea2d (wsV RJx4a65c 131 RJx4a65c yJx4a65c_add_72be8 wsJx4a65c_add_72be8) := goodIn_app (goodIn_of _ (by decide +kernel)) ggJx4a65c_add_9ea2d_Jx4a65c_add_72be8
theorem dJx4a65c_add_9ea2d_0 : decode cJx4a65c_add_9ea2d 0 = .ok (.aload_n 0, 1) := by decide +kernel
theorem dJx4a65c_add_9ea2d_1 : decode cJx4a65c_add_9ea2d 1 = .ok (.dup, 1) := by decide +kernel
theorem dJx4a65c_add_9ea2d_2 : decode cJx4a65c_add_9ea2d 2 = .ok (.getfield 63, 3) := by decide +kernel
theorem dJx4a65c_add_9ea2d_5 : decode cJx4a65c_add_9ea2d 5 = .ok (.iconst 1, 1) := by decide +kernel
theorem dJx4a65c_add_9ea2d_6 : decode cJx4a65c_add_9ea2d 6 = .ok (.iadd, 1) := by decide +kernel
theorem dJx4a65c_add_9ea2d_7 : decode cJx4a65c_add_9ea2d 7 = .ok (.putfield 63, 3) := by decide +kernel
theorem dJx4a65c_add_9ea2d_10 : decode cJx4a65c_add_9ea2d 10 = .ok (.aload_n 0, 1) := by decide +kernel
theorem dJx4a65c_add_9ea2d_11 : decode cJx4a65c_add_9ea2d 11 = .ok (.aload_n 1, 1) := by decide +kernel
theorem dJx4a65c_add_9ea2d_12 : decode cJx4a65c_add_9ea2d 12 = .ok (.aload_n 0, 1) := by decide +kernel
theorem dJx4a65c_add_9ea2d_13 : decode cJx4a65c_add_9ea2d 13 = .ok (.getfield 9, 3) := by decide +kernel
theorem dJx4a65c_add_9ea2d_16 : decode cJx4a65c_add_9ea2d 16 = .ok (.aload_n 0, 1) := by decide +kernel
theorem dJx4a65c_add_9ea2d_17 : decode cJx4a65c_add_9ea2d 17 = .ok (.getfield 48, 3) := by decide +kernel
theorem dJx4a65c_add_9ea2d_20 : decode cJx4a65c_add_9ea2d 20 = .ok (.invokevirtual 131, 3) := by decide +kernel
theorem dJx4a65c_add_9ea2d_23 : decode cJx4a65c_add_9ea2d 23 = .ok (.iconst 1, 1) := by decide +kernel
theorem dJx4a65c_add_9ea2d_24 : decode cJx4a65c_add_9ea2d 24 = .ok (.ireturn, 1) := by decide +kernel
theorem dJ7_fill_d0a16_0 : decode cJ7_fill_d0a16 0 = .ok (.iconst 0, 1) := by decide +kernel
theorem dJ7_fill_d0a16_1 : decode cJ7_fill_d0a16 1 = .ok (.istore_n 3, 1) := by decide +kernel
theorem dJ7_fill_d0a16_2 : decode cJ7_fill_d0a16 2 = .ok (.aload_n 0, 1) := by decide +kernel
theorem dJ7_fill_d0a16_3 : decode cJ7_fill_d0a16 3 = .ok (.arraylength, 1) := by decide +kernel
theorem dJ7_fill_d0a16_4 : decode cJ7_fill_d0a16 4 = .ok (.istore 4, 2) := by decide +kernel
theorem dJ7_fill_d0a16_6 : decode cJ7_fill_d0a16 6 = .ok (.iload_n 3, 1) := by decide +kernel
theorem dJ7_fill_d0a16_7 : decode cJ7_fill_d0a16 7 = .ok (.iload 4, 2) := by decide +kernel
theorem dJ7_fill_d0a16_9 : decode cJ7_fill_d0a16 9 = .ok (.if_icmp .ge 13, 3) := by decide +kernel
theorem dJ7_fill_d0a16_12 : decode cJ7_fill_d0a16 12 = .ok (.aload_n 0, 1) := by decide +kernel
theorem dJ7_fill_d0a16_13 : decode cJ7_fill_d0a16 13 = .ok (.iload_n 3, 1) := by decide +kernel
theorem dJ7_fill_d0a16_14 : decode cJ7_fill_d0a16 14 = .ok (.lload_n 1, 1) := by decide +kernel
theorem dJ7_fill_d0a16_15 : decode cJ7_fill_d0a16 15 = .ok (.lastore, 1) := by decide +kernel
theorem dJ7_fill_d0a16_16 : decode cJ7_fill_d0a16 16 = .ok (.iinc 3 1, 3) := by decide +kernel
theorem dJ7_fill_d0a16_19 : decode cJ7_fill_d0a16 19 = .ok (.goto (-13), 3) := by decide +kernel
theorem dJ7_fill_d0a16_22 : decode cJ7_fill_d0a16 22 = .ok (.return_, 1) := by decide +kernel
set_option maxRecDepth 20000 in
theorem ggJ7_copyOf_1904c_J7_copyOf_6403c : GoodIn wsJ7_copyOf_1904c wsJ7_copyOf_6403c := goodIn_r _ [8, 9, 10, 11, 12, 13, 14, 15, 16, 17, 18] (by decide +kernel) (by decide +kernel)
set_option maxRecDepth 20000 in
theorem gJ7_copyOf_1904c_J7_copyOf_6403c : GoodIn wsJ7_copyOf_1904c (va_wsS RJ7 300 yJ7_copyOf_6403c wsJ7_copyOf_6403c) := goodIn_app (goodIn_of _ (by decide +kernel)) ggJ7_copyOf_1904c_J7_copyOf_6403c
theorem dJ7_copyOf_1904c_0 : decode cJ7_copyOf_1904c 0 = .ok (.aload_n 0, 1) := by decide +kernel
theorem dJ7_copyOf_1904c_1 : decode cJ7_copyOf_1904c 1 = .ok (.iload_n 1, 1) := by decide +kernel
theorem dJ7_copyOf_1904c_2 : decode cJ7_copyOf_1904c 2 = .ok (.aload_n 0, 1) := by decide +kernel
theorem dJ7_copyOf_1904c_3 : decode cJ7_copyOf_1904c 3 = .ok (.invokevirtual 86, 3) := by decide +kernel
theorem dJ7_copyOf_1904c_6 : decode cJ7_copyOf_1904c 6 = .ok (.invokestatic 300, 3) := by decide +kernel
theorem dJ7_copyOf_1904c_9 : decode cJ7_copyOf_1904c 9 = .ok (.areturn, 1) := by decide +kernel
theorem dJ7_copyOf_6403c_0 : decode cJ7_copyOf_6403c 0 = .ok (.aload_n 2, 1) := by decide +kernel
theorem dJ7_copyOf_6403c_1 : decode cJ7_copyOf_6403c 1 = .ok (.ldc 110, 2) := by decide +kernel
theorem dJ7_copyOf_6403c_3 : decode cJ7_copyOf_6403c 3 = .ok (.if_acmp .ne 10, 3) := by decide +kernel
theorem dJ7_copyOf_6403c_6 : decode cJ7_copyOf_6403c 6 = .ok (.iload_n 1, 1) := by decide +kernel
theorem dJ7_copyOf_6403c_7 : decode cJ7_copyOf_6403c 7 = .ok (.anewarray 2, 3) := by decide +kernel
theorem dJ7_copyOf_6403c_10 : decode cJ7_copyOf_6403c 10 = .ok (.goto 14, 3) := by decide +kernel
theorem dJ7_copyOf_6403c_13 : decode cJ7_copyOf_6403c 13 = .ok (.aload_n 2, 1) := by decide +kernel
theorem dJ7_copyOf_6403c_14 : decode cJ7_copyOf_6403c 14 = .ok (.invokevirtual 90, 3) := by decide +kernel
theorem dJ7_copyOf_6403c_17 : decode cJ7_copyOf_6403c 17 = .ok (.iload_n 1, 1) := by decide +kernel
theorem dJ7_copyOf_6403c_18 : decode cJ7_copyOf_6403c 18 = .ok (.invokestatic 95, 3) := by decide +kernel
theorem dJ7_copyOf_6403c_21 : decode cJ7_copyOf_6403c 21 = .ok (.checkcast 110, 3) := by decide +kernel
theorem dJ7_copyOf_6403c_24 : decode cJ7_copyOf_6403c 24 = .ok (.astore_n 3, 1) := by decide +kernel
theorem dJ7_copyOf_6403c_25 : decode cJ7_copyOf_6403c 25 = .ok (.aload_n 0, 1) := by decide +kernel
theorem dJ7_copyOf_6403c_26 : decode cJ7_copyOf_6403c 26 = .ok (.iconst 0, 1) := by decide +kernel
theorem dJ7_copyOf_6403c_27 : decode cJ7_copyOf_6403c 27 = .ok (.aload_n 3, 1) := by decide +kernel
theorem dJ7_copyOf_6403c_28 : decode cJ7_copyOf_6403c 28 = .ok (.iconst 0, 1) := by decide +kernel
theorem dJ7_copyOf_6403c_29 : decode cJ7_copyOf_6403c 29 = .ok (.aload_n 0, 1) := by decide +kernel
theorem dJ7_copyOf_6403c_30 : decode cJ7_copyOf_6403c 30 = .ok (.arraylength, 1) := by decide +kernel
theorem dJ7_copyOf_6403c_31 : decode cJ7_copyOf_6403c 31 = .ok (.iload_n 1, 1) := by decide +kernel
theorem dJ7_copyOf_6403c_32 : decode cJ7_copyOf_6403c 32 = .ok (.invokestatic 304, 3) := by decide +kernel
theorem dJ7_copyOf_6403c_35 : decode cJ7_copyOf_6403c 35 = .ok (.invokestatic 150, 3) := by decide +kernel
theorem dJ7_copyOf_6403c_38 : decode cJ7_copyOf_6403c 38 = .ok (.aload_n 3, 1) := by decide +kernel
theorem dJ7_copyOf_6403c_39 : decode cJ7_copyOf_6403c 39 = .ok (.areturn, 1) := by decide +kernel
theorem dJ7_copyOf_59c91_0 : decode cJ7_copyOf_59c91 0 = .ok (.iload_n 1, 1) := by decide +kernel
theorem dJ7_copyOf_59c91_1 : decode cJ7_copyOf_59c91 1 = .ok (.aload_n 0, 1) := by decide +kernel
theorem dJ7_copyOf_59c91_2 : decode cJ7_copyOf_59c91 2 = .ok (.arraylength, 1) := by decide +kernel
theorem dJ7_copyOf_59c91_3 : decode cJ7_copyOf_59c91 3 = .ok (.if_icmp .ne 11, 3) := by decide +kernel
theorem dJ7_copyOf_59c91_6 : decode cJ7_copyOf_59c91 6 = .ok (.aload_n 0, 1) := by decide +kernel
theorem dJ7_copyOf_59c91_7 : decode cJ7_copyOf_59c91 7 = .ok (.invokevirtual 316, 3) := by decide +kernel
theorem dJ7_copyOf_59c91_10 : decode cJ7_copyOf_59c91 10 = .ok (.checkcast 317, 3) := by decide +kernel
theorem dJ7_copyOf_59c91_13 : decode cJ7_copyOf_59c91 13 = .ok (.areturn, 1) := by decide +kernel
theorem dJ7_copyOf_59c91_14 : decode cJ7_copyOf_59c91 14 = .ok (.iload_n 1, 1) := by decide +kernel
theorem dJ7_copyOf_59c91_15 : decode cJ7_copyOf_59c91 15 = .ok (.newarray .int, 2) := by decide +kernel
theorem dJ7_copyOf_59c91_17 : decode cJ7_copyOf_59c91 17 = .ok (.astore_n 2, 1) := by decide +kernel
theorem dJ7_copyOf_59c91_18 : decode cJ7_copyOf_59c91 18 = .ok (.aload_n 0, 1) := by decide +kernel
theorem dJ7_copyOf_59c91_19 : decode cJ7_copyOf_59c91 19 = .ok (.iconst 0, 1) := by decide +kernel
theorem dJ7_copyOf_59c91_20 : decode cJ7_copyOf_59c91 20 = .ok (.aload_n 2, 1) := by decide +kernel
theorem dJ7_copyOf_59c91_21 : decode cJ7_copyOf_59c91 21 = .ok (.iconst 0, 1) := by decide +kernel
theorem dJ7_copyOf_59c91_22 : decode cJ7_copyOf_59c91 22 = .ok (.aload_n 0, 1) := by decide +kernel
theorem dJ7_copyOf_59c91_23 : decode cJ7_copyOf_59c91 23 = .ok (.arraylength, 1) := by decide +kernel
theorem dJ7_copyOf_59c91_24 : decode cJ7_copyOf_59c91 24 = .ok (.iload_n 1, 1) := by decide +kernel
theorem dJ7_copyOf_59c91_25 : decode cJ7_copyOf_59c91 25 = .ok (.invokestatic 304, 3) := by decide +kernel
theorem dJ7_copyOf_59c91_28 : decode cJ7_copyOf_59c91 28 = .ok (.invokestatic 150, 3) := by decide +kernel
theorem dJ7_copyOf_59c91_31 : decode cJ7_copyOf_59c91 31 = .ok (.aload_n 2, 1) := by decide +kernel
theorem dJ7_copyOf_59c91_32 : decode cJ7_copyOf_59c91 32 = .ok (.areturn, 1) := by decide +kernel
set_option maxRecDepth 20000 in
theorem ggJ15_checkIndex_7cf53_J3_checkIndex_8e157 : GoodIn wsJ15_checkIndex_7cf53 wsJ3_checkIndex_8e157 := goodIn_r _ [4] (by decide +kernel) (by decide +kernel)
set_option maxRecDepth 20000 in
theorem gJ15_checkIndex_7cf53_J3_checkIndex_8e157 : GoodIn wsJ15_checkIndex_7cf53 (va_wsS RJ15 105 yJ3_checkIndex_8e157 wsJ3_checkIndex_8e157) := goodIn_app (goodIn_of _ (by decide +kernel)) ggJ15_checkIndex_7cf53_J3_checkIndex_8e157
theorem dJ15_checkIndex_7cf53_0 : decode cJ15_checkIndex_7cf53 0 = .ok (.iload_n 0, 1) := by decide +kernel
theorem dJ15_checkIndex_7cf53_1 : decode cJ15_checkIndex_7cf53 1 = .ok (.iload_n 1, 1) := by decide +kernel
theorem dJ15_checkIndex_7cf53_2 : decode cJ15_checkIndex_7cf53 2 = .ok (.aconst_null, 1) := by decide +kernel
theorem dJ15_checkIndex_7cf53_3 : decode cJ15_checkIndex_7cf53 3 = .ok (.invokestatic 105, 3) := by decide +kernel
theorem dJ15_checkIndex_7cf53_6 : decode cJ15_checkIndex_7cf53 6 = .ok (.ireturn, 1) := by decide +kernel
set_option maxRecDepth 20000 in
theorem ggJ8_newLength_cabcc_J8_hugeLength_7cf53 : GoodIn wsJ8_newLength_cabcc wsJ8_hugeLength_7cf53 := goodIn_r _ [9, 5] (by decide +kernel) (by decide +kernel)
set_option maxRecDepth 20000 in
theorem gJ8_newLength_cabcc_J8_hugeLength_7cf53 : GoodIn wsJ8_newLength_cabcc (va_wsS RJ8 201 yJ8_hugeLength_7cf53 wsJ8_hugeLength_7cf53) := goodIn_app (goodIn_of _ (by decide +kernel)) ggJ8_newLength_cabcc_J8_hugeLength_7cf53
theorem dJ8_newLength_cabcc_0 : decode cJ8_newLength_cabcc 0 = .ok (.iload_n 0, 1) := by decide +kernel
theorem dJ8_newLength_cabcc_1 : decode cJ8_newLength_cabcc 1 = .ok (.iload_n 1, 1) := by decide +kernel
theorem dJ8_newLength_cabcc_2 : decode cJ8_newLength_cabcc 2 = .ok (.iload_n 2, 1) := by decide +kernel
theorem dJ8_newLength_cabcc_3 : decode cJ8_newLength_cabcc 3 = .ok (.invokestatic 194, 3) := by decide +kernel
theorem dJ8_newLength_cabcc_6 : decode cJ8_newLength_cabcc 6 = .ok (.iadd, 1) := by decide +kernel
theorem dJ8_newLength_cabcc_7 : decode cJ8_newLength_cabcc 7 = .ok (.istore_n 3, 1) := by decide +kernel
theorem dJ8_newLength_cabcc_8 : decode cJ8_newLength_cabcc 8 = .ok (.iconst 0, 1) := by decide +kernel
theorem dJ8_newLength_cabcc_9 : decode cJ8_newLength_cabcc 9 = .ok (.iload_n 3, 1) := by decide +kernel
theorem dJ8_newLength_cabcc_10 : decode cJ8_newLength_cabcc 10 = .ok (.if_icmp .ge 11, 3) := by decide +kernel
theorem dJ8_newLength_cabcc_13 : decode cJ8_newLength_cabcc 13 = .ok (.iload_n 3, 1) := by decide +kernel
theorem dJ8_newLength_cabcc_14 : decode cJ8_newLength_cabcc 14 = .ok (.ldc 200, 2) := by decide +kernel
theorem dJ8_newLength_cabcc_16 : decode cJ8_newLength_cabcc 16 = .ok (.if_icmp .gt 5, 3) := by decide +kernel
theorem dJ8_newLength_cabcc_19 : decode cJ8_newLength_cabcc 19 = .ok (.iload_n 3, 1) := by decide +kernel
theorem dJ8_newLength_cabcc_20 : decode cJ8_newLength_cabcc 20 = .ok (.ireturn, 1) := by decide +kernel
theorem dJ8_newLength_cabcc_21 : decode cJ8_newLength_cabcc 21 = .ok (.iload_n 0, 1) := by decide +kernel
theorem dJ8_newLength_cabcc_22 : decode cJ8_newLength_cabcc 22 = .ok (.iload_n 1, 1) := by decide +kernel
theorem dJ8_newLength_cabcc_23 : decode cJ8_newLength_cabcc 23 = .ok (.invokestatic 201, 3) := by decide +kernel
theorem dJ8_newLength_cabcc_26 : decode cJ8_newLength_cabcc 26 = .ok (.ireturn, 1) := by decide +kernel
theorem dJ8_hugeLength_7cf53_0 : decode cJ8_hugeLength_7cf53 0 = .ok (.iload_n 0, 1) := by decide +kernel
theorem dJ8_hugeLength_7cf53_1 : decode cJ8_hugeLength_7cf53 1 = .ok (.iload_n 1, 1) := by decide +kernel
theorem dJ8_hugeLength_7cf53_2 : decode cJ8_hugeLength_7cf53 2 = .ok (.iadd, 1) := by decide +kernel
theorem dJ8_hugeLength_7cf53_3 : decode cJ8_hugeLength_7cf53 3 = .ok (.istore_n 2, 1) := by decide +kernel
theorem dJ8_hugeLength_7cf53_4 : decode cJ8_hugeLength_7cf53 4 = .ok (.iload_n 2, 1) := by decide +kernel
theorem dJ8_hugeLength_7cf53_5 : decode cJ8_hugeLength_7cf53 5 = .ok (.ifCond .ge 44, 3) := by decide +kernel
theorem dJ8_hugeLength_7cf53_8 : decode cJ8_hugeLength_7cf53 8 = .ok (.new 204, 3) := by decide +kernel
theorem dJ8_hugeLength_7cf53_11 : decode cJ8_hugeLength_7cf53 11 = .ok (.dup, 1) := by decide +kernel
theorem dJ8_hugeLength_7cf53_12 : decode cJ8_hugeLength_7cf53 12 = .ok (.new 89, 3) := by decide +kernel
theorem dJ8_hugeLength_7cf53_15 : decode cJ8_hugeLength_7cf53 15 = .ok (.dup, 1) := by decide +kernel
theorem dJ8_hugeLength_7cf53_16 : decode cJ8_hugeLength_7cf53 16 = .ok (.invokespecial 91, 3) := by decide +kernel
theorem dJ8_hugeLength_7cf53_19 : decode cJ8_hugeLength_7cf53 19 = .ok (.ldc 206, 2) := by decide +kernel
theorem dJ8_hugeLength_7cf53_21 : decode cJ8_hugeLength_7cf53 21 = .ok (.invokevirtual 94, 3) := by decide +kernel
theorem dJ8_hugeLength_7cf53_24 : decode cJ8_hugeLength_7cf53 24 = .ok (.iload_n 0, 1) := by decide +kernel
theorem dJ8_hugeLength_7cf53_25 : decode cJ8_hugeLength_7cf53 25 = .ok (.invokevirtual 98, 3) := by decide +kernel
theorem dJ8_hugeLength_7cf53_28 : decode cJ8_hugeLength_7cf53 28 = .ok (.ldc 208, 2) := by decide +kernel
theorem dJ8_hugeLength_7cf53_30 : decode cJ8_hugeLength_7cf53 30 = .ok (.invokevirtual 94, 3) := by decide +kernel
theorem dJ8_hugeLength_7cf53_33 : decode cJ8_hugeLength_7cf53 33 = .ok (.iload_n 1, 1) := by decide +kernel
theorem dJ8_hugeLength_7cf53_34 : decode cJ8_hugeLength_7cf53 34 = .ok (.invokevirtual 98, 3) := by decide +kernel
theorem dJ8_hugeLength_7cf53_37 : decode cJ8_hugeLength_7cf53 37 = .ok (.ldc 210, 2) := by decide +kernel
theorem dJ8_hugeLength_7cf53_39 : decode cJ8_hugeLength_7cf53 39 = .ok (.invokevirtual 94, 3) := by decide +kernel
theorem dJ8_hugeLength_7cf53_42 : decode cJ8_hugeLength_7cf53 42 = .ok (.invokevirtual 101, 3) := by decide +kernel
theorem dJ8_hugeLength_7cf53_45 : decode cJ8_hugeLength_7cf53 45 = .ok (.invokespecial 212, 3) := by decide +kernel
theorem dJ8_hugeLength_7cf53_48 : decode cJ8_hugeLength_7cf53 48 = .ok (.athrow, 1) := by decide +kernel
theorem dJ8_hugeLength_7cf53_49 : decode cJ8_hugeLength_7cf53 49 = .ok (.iload_n 2, 1) := by decide +kernel
theorem dJ8_hugeLength_7cf53_50 : decode cJ8_hugeLength_7cf53 50 = .ok (.ldc 200, 2) := by decide +kernel
theorem dJ8_hugeLength_7cf53_52 : decode cJ8_hugeLength_7cf53 52 = .ok (.if_icmp .gt 6, 3) := by decide +kernel
theorem dJ8_hugeLength_7cf53_55 : decode cJ8_hugeLength_7cf53 55 = .ok (.ldc 200, 2) := by decide +kernel
theorem dJ8_hugeLength_7cf53_57 : decode cJ8_hugeLength_7cf53 57 = .ok (.ireturn, 1) := by decide +kernel
theorem dJ8_hugeLength_7cf53_58 : decode cJ8_hugeLength_7cf53 58 = .ok (.iload_n 2, 1) := by decide +kernel
theorem dJ8_hugeLength_7cf53_59 : decode cJ8_hugeLength_7cf53 59 = .ok (.ireturn, 1) := by decide +kernel
theorem dJ3_checkIndex_8e157_0 : decode cJ3_checkIndex_8e157 0 = .ok (.iload_n 0, 1) := by decide +kernel
theorem dJ3_checkIndex_8e157_1 : decode cJ3_checkIndex_8e157 1 = .ok (.ifCond .lt 8, 3) := by decide +kernel
theorem dJ3_checkIndex_8e157_4 : decode cJ3_checkIndex_8e157 4 = .ok (.iload_n 0, 1) := by decide +kernel
theorem dJ3_checkIndex_8e157_5 : decode cJ3_checkIndex_8e157 5 = .ok (.iload_n 1, 1) := by decide +kernel
theorem dJ3_checkIndex_8e157_6 : decode cJ3_checkIndex_8e157 6 = .ok (.if_icmp .lt 10, 3) := by decide +kernel
theorem dJ3_checkIndex_8e157_9 : decode cJ3_checkIndex_8e157 9 = .ok (.aload_n 2, 1) := by decide +kernel
theorem dJ3_checkIndex_8e157_10 : decode cJ3_checkIndex_8e157 10 = .ok (.iload_n 0, 1) := by decide +kernel
theorem dJ3_checkIndex_8e157_11 : decode cJ3_checkIndex_8e157 11 = .ok (.iload_n 1, 1) := by decide +kernel
theorem dJ3_checkIndex_8e157_12 : decode cJ3_checkIndex_8e157 12 = .ok (.invokestatic 95, 3) := by decide +kernel
theorem dJ3_checkIndex_8e157_15 : decode cJ3_checkIndex_8e157 15 = .ok (.athrow, 1) := by decide +kernel
theorem dJ3_checkIndex_8e157_16 : decode cJ3_checkIndex_8e157 16 = .ok (.iload_n 0, 1) := by decide +kernel
theorem dJ3_checkIndex_8e157_17 : decode cJ3_checkIndex_8e157 17 = .ok (.ireturn, 1) := by decide +kernel
abbrev vwCl : List vw_C := [(RJx4a65c, TJx4a65c, 3), (RX0, TX0, 5), (RX1, TX1, 2), (RX3, TX3, 4), (RX4, TX4, 3), (RX6, TX6, 3), (RX7, TX7, 6), (RX8, TX8, 9), (RX9, TX9, 27)]

