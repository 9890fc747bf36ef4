theorem inlX0 : ∀ w ∈ wsX00, w ∈ wsL_law := fun _ h => List.mem_append_left _ (List.mem_append_left _ (List.mem_append_left _ (List.mem_append_left _ (List.mem_append_left _ (List.mem_append_right _ h)))))
theorem inX0 : ∀ w ∈ wsX00, w ∈ lw_tbl := fun w h => wsL_law_in w (inlX0 w h)
theorem inlX1 : ∀ w ∈ wsX10, w ∈ wsL_law := fun _ h => List.mem_append_left _ (List.mem_append_left _ (List.mem_append_left _ (List.mem_append_left _ (List.mem_append_right _ h))))
theorem inX1 : ∀ w ∈ wsX10, w ∈ lw_tbl := fun w h => wsL_law_in w (inlX1 w h)
theorem inX2 : ∀ w ∈ wsX20, w ∈ lw_tbl := by decide +kernel
theorem inlX3 : ∀ w ∈ wsX30, w ∈ wsL_law := fun _ h => List.mem_append_left _ (List.mem_append_left _ (List.mem_append_left _ (List.mem_append_right _ h)))
theorem inX3 : ∀ w ∈ wsX30, w ∈ lw_tbl := fun w h => wsL_law_in w (inlX3 w h)
theorem inlX4 : ∀ w ∈ wsX40, w ∈ wsL_law := fun _ h => List.mem_append_left _ (List.mem_append_left _ (List.mem_append_right _ h))
theorem inX4 : ∀ w ∈ wsX40, w ∈ lw_tbl := fun w h => wsL_law_in w (inlX4 w h)
theorem inX5 : ∀ w ∈ wsX50, w ∈ lw_tbl := by decide +kernel
theorem inlX6 : ∀ w ∈ wsX60, w ∈ wsL_law := fun _ h => List.mem_append_left _ (List.mem_append_right _ h)
theorem inX6 : ∀ w ∈ wsX60, w ∈ lw_tbl := fun w h => wsL_law_in w (inlX6 w h)
theorem inlX7 : ∀ w ∈ wsX70, w ∈ wsL_law := fun _ h => List.mem_append_left _ (List.mem_append_left _ (List.mem_append_left _ (List.mem_append_left _ (List.mem_append_left _ (List.mem_append_left _ (List.mem_append_right _ h))))))
theorem inX7 : ∀ w ∈ wsX70, w ∈ lw_tbl := fun w h => wsL_law_in w (inlX7 w h)
theorem inlX8 : ∀ w ∈ wsX80, w ∈ wsL_law := fun _ h => List.mem_append_left _ (List.mem_append_left _ (List.mem_append_left _ (List.mem_append_left _ (List.mem_append_left _ (List.mem_append_left _ (List.mem_append_left _ (List.mem_append_left _ (List.mem_append_left _ (List.mem_append_right _ h)))))))))
theorem inX8 : ∀ w ∈ wsX80, w ∈ lw_tbl := fun w h => wsL_law_in w (inlX8 w h)
theorem inlX9 : ∀ w ∈ wsX90, w ∈ wsL_law := fun _ h => List.mem_append_left _ (List.mem_append_left _ (List.mem_append_left _ (List.mem_append_left _ (List.mem_append_left _ (List.mem_append_left _ (List.mem_append_left _ (List.mem_append_left _ (List.mem_append_right _ h))))))))
theorem inX9 : ∀ w ∈ wsX90, w ∈ lw_tbl := fun w h => wsL_law_in w (inlX9 w h)
theorem inJx145de : ∀ w ∈ wsJx145de0, w ∈ lw_tbl := by decide +kernel
theorem inJx8e188 : ∀ w ∈ wsJx8e1880, w ∈ lw_tbl := by decide +kernel
theorem inJ6 : ∀ w ∈ wsJ60, w ∈ lw_tbl := by decide +kernel
theorem inJxab1ab : ∀ w ∈ wsJxab1ab0, w ∈ lw_tbl := by decide +kernel
theorem inJ13 : ∀ w ∈ wsJ130, w ∈ lw_tbl := by decide +kernel
theorem inJ9 : ∀ w ∈ wsJ90, w ∈ lw_tbl := by decide +kernel
theorem inJ10 : ∀ w ∈ wsJ100, w ∈ lw_tbl := by decide +kernel
theorem inJxa1e45 : ∀ w ∈ wsJxa1e450, w ∈ lw_tbl := by decide +kernel
theorem inJxc12de : ∀ w ∈ wsJxc12de0, w ∈ lw_tbl := by decide +kernel
theorem inlJx4a65c : ∀ w ∈ wsJx4a65c0, w ∈ wsL_law := fun _ h => List.mem_append_left _ (List.mem_append_left _ (List.mem_append_left _ (List.mem_append_left _ (List.mem_append_left _ (List.mem_append_left _ (List.mem_append_left _ (List.mem_append_right _ h)))))))
theorem inJx4a65c : ∀ w ∈ wsJx4a65c0, w ∈ lw_tbl := fun w h => wsL_law_in w (inlJx4a65c w h)
theorem inJ7 : ∀ w ∈ wsJ70, w ∈ lw_tbl := by decide +kernel
theorem inJx5ef63 : ∀ w ∈ wsJx5ef630, w ∈ lw_tbl := by decide +kernel
theorem inJxbd725 : ∀ w ∈ wsJxbd7250, w ∈ lw_tbl := by decide +kernel
theorem inJ15 : ∀ w ∈ wsJ150, w ∈ lw_tbl := by decide +kernel
theorem inJxf0a74 : ∀ w ∈ wsJxf0a740, w ∈ lw_tbl := by decide +kernel
theorem inJxa66e6 : ∀ w ∈ wsJxa66e60, w ∈ lw_tbl := by decide +kernel
theorem inJ8 : ∀ w ∈ wsJ80, w ∈ lw_tbl := by decide +kernel
theorem inJ3 : ∀ w ∈ wsJ30, w ∈ lw_tbl := by decide +kernel
theorem dX0_init_0 : decode cX0_init 0 = .ok (.aload_n 0, 1) := by decide +kernel
theorem dX0_init_1 : decode cX0_init 1 = .ok (.invokespecial 3, 3) := by decide +kernel
theorem dX0_init_4 : decode cX0_init 4 = .ok (.aload_n 0, 1) := by decide +kernel
theorem dX0_init_5 : decode cX0_init 5 = .ok (.bipush 13, 2) := by decide +kernel
theorem dX0_init_7 : decode cX0_init 7 = .ok (.newarray .long, 2) := by decide +kernel
theorem dX0_init_9 : decode cX0_init 9 = .ok (.putfield 9, 3) := by decide +kernel
theorem dX0_init_12 : decode cX0_init 12 = .ok (.aload_n 0, 1) := by decide +kernel
theorem dX0_init_13 : decode cX0_init 13 = .ok (.iconst 5, 1) := by decide +kernel
theorem dX0_init_14 : decode cX0_init 14 = .ok (.newarray .long, 2) := by decide +kernel
theorem dX0_init_16 : decode cX0_init 16 = .ok (.putfield 15, 3) := by decide +kernel
theorem dX0_init_19 : decode cX0_init 19 = .ok (.aload_n 0, 1) := by decide +kernel
theorem dX0_init_20 : decode cX0_init 20 = .ok (.bipush 13, 2) := by decide +kernel
theorem dX0_init_22 : decode cX0_init 22 = .ok (.newarray .long, 2) := by decide +kernel
theorem dX0_init_24 : decode cX0_init 24 = .ok (.putfield 18, 3) := by decide +kernel
theorem dX0_init_27 : decode cX0_init 27 = .ok (.aload_n 0, 1) := by decide +kernel
theorem dX0_init_28 : decode cX0_init 28 = .ok (.lconst 1, 1) := by decide +kernel
theorem dX0_init_29 : decode cX0_init 29 = .ok (.putfield 21, 3) := by decide +kernel
theorem dX0_init_32 : decode cX0_init 32 = .ok (.aload_n 0, 1) := by decide +kernel
theorem dX0_init_33 : decode cX0_init 33 = .ok (.iconst 0, 1) := by decide +kernel
theorem dX0_init_34 : decode cX0_init 34 = .ok (.putfield 25, 3) := by decide +kernel
theorem dX0_init_37 : decode cX0_init 37 = .ok (.return_, 1) := by decide +kernel
set_option maxRecDepth 20000 in
theorem ggX0_fill_J7_fill_d0a16 : GoodIn wsX0_fill wsJ7_fill_d0a16 := goodIn_r _ [10] (by decide +kernel) (by decide +kernel)
set_option maxRecDepth 20000 in
theorem gX0_fill_J7_fill_d0a16 : GoodIn wsX0_fill (va_wsS RX0 29 yJ7_fill_d0a16 wsJ7_fill_d0a16) := goodIn_app (goodIn_of _ (by decide +kernel)) ggX0_fill_J7_fill_d0a16
set_option maxRecDepth 20000 in
theorem ggX0_fill_X8_mostRight : GoodIn wsX0_fill wsX8_mostRight := goodIn_r _ [13] (by decide +kernel) (by decide +kernel)
set_option maxRecDepth 20000 in
theorem gX0_fill_X8_mostRight_n35 : GoodIn wsX0_fill (wsX8_mostRight) := ggX0_fill_X8_mostRight
set_option maxRecDepth 20000 in
theorem ggX0_fill_X0_fillFixed : GoodIn wsX0_fill wsX0_fillFixed := goodIn_r _ [17, 6, 18, 19, 20, 21, 22, 23, 24, 25, 26, 27, 28, 29, 30, 31, 16, 32] (by decide +kernel) (by decide +kernel)
set_option maxRecDepth 20000 in
theorem gX0_fill_X0_fillFixed : GoodIn wsX0_fill (va_wsS RX0 39 yX0_fillFixed wsX0_fillFixed) := goodIn_app (goodIn_of _ (by decide +kernel)) ggX0_fill_X0_fillFixed
set_option maxRecDepth 20000 in
theorem ggX0_fill_X0_rightOfPair : GoodIn wsX0_fill wsX0_rightOfPair := goodIn_r _ [35] (by decide +kernel) (by decide +kernel)
set_option maxRecDepth 20000 in
theorem gX0_fill_X0_rightOfPair : GoodIn wsX0_fill (va_wsS RX0 43 yX0_rightOfPair wsX0_rightOfPair) := goodIn_app (goodIn_of _ (by decide +kernel)) ggX0_fill_X0_rightOfPair
set_option maxRecDepth 20000 in
theorem ggX0_fill_X0_fillEach : GoodIn wsX0_fill wsX0_fillEach := goodIn_r _ [39, 1, 3, 23, 24, 20, 25, 26, 27, 28, 29, 62, 63, 64, 65, 66] (by decide +kernel) (by decide +kernel)
set_option maxRecDepth 20000 in
theorem gX0_fill_X0_fillEach : GoodIn wsX0_fill (wsV RX0 49 RX0 yX0_fillEach wsX0_fillEach) := goodIn_app (goodIn_of _ (by decide +kernel)) ggX0_fill_X0_fillEach
set_option maxRecDepth 20000 in
theorem ggX0_fill_X0_rightOfThree : GoodIn wsX0_fill wsX0_rightOfThree := goodIn_r _ [42, 43] (by decide +kernel) (by decide +kernel)
set_option maxRecDepth 20000 in
theorem gX0_fill_X0_rightOfThree : GoodIn wsX0_fill (va_wsS RX0 53 yX0_rightOfThree wsX0_rightOfThree) := goodIn_app (goodIn_of _ (by decide +kernel)) ggX0_fill_X0_rightOfThree
set_option maxRecDepth 20000 in
theorem ggX0_fill_X0_fillBlocks : GoodIn wsX0_fill wsX0_fillBlocks := goodIn_r _ [47, 48, 1, 3, 7, 8, 9, 10, 14, 15, 16, 17, 6, 18, 19, 20, 21, 22, 23, 24, 25, 26, 27, 28, 29, 30, 31, 32, 49, 50, 51, 52, 53, 54, 55, 56, 57, 58, 59, 60, 61, 62, 63, 64, 65, 66] (by decide +kernel) (by decide +kernel)
set_option maxRecDepth 20000 in
theorem gX0_fill_X0_fillBlocks : GoodIn wsX0_fill (wsV RX0 58 RX0 yX0_fillBlocks wsX0_fillBlocks) := goodIn_app (goodIn_of _ (by decide +kernel)) ggX0_fill_X0_fillBlocks
theorem dX0_fill_0 : decode cX0_fill 0 = .ok (.aload_n 0, 1) := by decide +kernel
theorem dX0_fill_1 : decode cX0_fill 1 = .ok (.getfield 9, 3) := by decide +kernel
theorem dX0_fill_4 : decode cX0_fill 4 = .ok (.lconst 0, 1) := by decide +kernel
theorem dX0_fill_5 : decode cX0_fill 5 = .ok (.invokestatic 29, 3) := by decide +kernel
theorem dX0_fill_8 : decode cX0_fill 8 = .ok (.aload_n 0, 1) := by decide +kernel
theorem dX0_fill_9 : decode cX0_fill 9 = .ok (.iload_n 1, 1) := by decide +kernel
theorem dX0_fill_10 : decode cX0_fill 10 = .ok (.iload_n 2, 1) := by decide +kernel
theorem dX0_fill_11 : decode cX0_fill 11 = .ok (.invokestatic 35, 3) := by decide +kernel
theorem dX0_fill_14 : decode cX0_fill 14 = .ok (.putfield 25, 3) := by decide +kernel
theorem dX0_fill_17 : decode cX0_fill 17 = .ok (.iload_n 1, 1) := by decide +kernel
theorem dX0_fill_18 : decode cX0_fill 18 = .ok (.tableswitch 91 1 4 #[30, 48, 64, 80], 30) := by decide +kernel
theorem dX0_fill_48 : decode cX0_fill 48 = .ok (.aload_n 0, 1) := by decide +kernel
theorem dX0_fill_49 : decode cX0_fill 49 = .ok (.aload_n 0, 1) := by decide +kernel
theorem dX0_fill_50 : decode cX0_fill 50 = .ok (.getfield 9, 3) := by decide +kernel
theorem dX0_fill_53 : decode cX0_fill 53 = .ok (.iload_n 2, 1) := by decide +kernel
theorem dX0_fill_54 : decode cX0_fill 54 = .ok (.iload_n 3, 1) := by decide +kernel
theorem dX0_fill_55 : decode cX0_fill 55 = .ok (.iload 4, 2) := by decide +kernel
theorem dX0_fill_57 : decode cX0_fill 57 = .ok (.invokestatic 39, 3) := by decide +kernel
theorem dX0_fill_60 : decode cX0_fill 60 = .ok (.putfield 21, 3) := by decide +kernel
theorem dX0_fill_63 : decode cX0_fill 63 = .ok (.goto 57, 3) := by decide +kernel
theorem dX0_fill_66 : decode cX0_fill 66 = .ok (.aload_n 0, 1) := by decide +kernel
theorem dX0_fill_67 : decode cX0_fill 67 = .ok (.iload_n 2, 1) := by decide +kernel
theorem dX0_fill_68 : decode cX0_fill 68 = .ok (.iload 4, 2) := by decide +kernel
theorem dX0_fill_70 : decode cX0_fill 70 = .ok (.invokestatic 43, 3) := by decide +kernel
theorem dX0_fill_73 : decode cX0_fill 73 = .ok (.ldc2_w 47, 3) := by decide +kernel
theorem dX0_fill_76 : decode cX0_fill 76 = .ok (.invokevirtual 49, 3) := by decide +kernel
theorem dX0_fill_79 : decode cX0_fill 79 = .ok (.goto 41, 3) := by decide +kernel
theorem dX0_fill_82 : decode cX0_fill 82 = .ok (.aload_n 0, 1) := by decide +kernel
theorem dX0_fill_83 : decode cX0_fill 83 = .ok (.iload_n 2, 1) := by decide +kernel
theorem dX0_fill_84 : decode cX0_fill 84 = .ok (.iload 4, 2) := by decide +kernel
theorem dX0_fill_86 : decode cX0_fill 86 = .ok (.invokestatic 53, 3) := by decide +kernel
theorem dX0_fill_89 : decode cX0_fill 89 = .ok (.ldc2_w 56, 3) := by decide +kernel
theorem dX0_fill_92 : decode cX0_fill 92 = .ok (.invokevirtual 49, 3) := by decide +kernel
theorem dX0_fill_95 : decode cX0_fill 95 = .ok (.goto 25, 3) := by decide +kernel
theorem dX0_fill_98 : decode cX0_fill 98 = .ok (.aload_n 0, 1) := by decide +kernel
theorem dX0_fill_99 : decode cX0_fill 99 = .ok (.iload_n 2, 1) := by decide +kernel
theorem dX0_fill_100 : decode cX0_fill 100 = .ok (.iload_n 3, 1) := by decide +kernel
theorem dX0_fill_101 : decode cX0_fill 101 = .ok (.iload 4, 2) := by decide +kernel
theorem dX0_fill_103 : decode cX0_fill 103 = .ok (.invokevirtual 58, 3) := by decide +kernel
theorem dX0_fill_106 : decode cX0_fill 106 = .ok (.goto 14, 3) := by decide +kernel
theorem dX0_fill_109 : decode cX0_fill 109 = .ok (.aload_n 0, 1) := by decide +kernel
theorem dX0_fill_110 : decode cX0_fill 110 = .ok (.iload_n 2, 1) := by decide +kernel
theorem dX0_fill_111 : decode cX0_fill 111 = .ok (.iload 4, 2) := by decide +kernel
theorem dX0_fill_113 : decode cX0_fill 113 = .ok (.i2l, 1) := by decide +kernel
theorem dX0_fill_114 : decode cX0_fill 114 = .ok (.ldc2_w 62, 3) := by decide +kernel
theorem dX0_fill_117 : decode cX0_fill 117 = .ok (.invokevirtual 49, 3) := by decide +kernel
theorem dX0_fill_120 : decode cX0_fill 120 = .ok (.return_, 1) := by decide +kernel
theorem dX0_rightOfPair_0 : decode cX0_rightOfPair 0 = .ok (.bipush 10, 2) := by decide +kernel
theorem dX0_rightOfPair_2 : decode cX0_rightOfPair 2 = .ok (.iload_n 0, 1) := by decide +kernel
theorem dX0_rightOfPair_3 : decode cX0_rightOfPair 3 = .ok (.isub, 1) := by decide +kernel
theorem dX0_rightOfPair_4 : decode cX0_rightOfPair 4 = .ok (.i2l, 1) := by decide +kernel
theorem dX0_rightOfPair_5 : decode cX0_rightOfPair 5 = .ok (.lstore_n 1, 1) := by decide +kernel
theorem dX0_rightOfPair_6 : decode cX0_rightOfPair 6 = .ok (.iconst 2, 1) := by decide +kernel
theorem dX0_rightOfPair_7 : decode cX0_rightOfPair 7 = .ok (.iload_n 0, 1) := by decide +kernel
theorem dX0_rightOfPair_8 : decode cX0_rightOfPair 8 = .ok (.imul, 1) := by decide +kernel
theorem dX0_rightOfPair_9 : decode cX0_rightOfPair 9 = .ok (.iload_n 0, 1) := by decide +kernel
theorem dX0_rightOfPair_10 : decode cX0_rightOfPair 10 = .ok (.imul, 1) := by decide +kernel
theorem dX0_rightOfPair_11 : decode cX0_rightOfPair 11 = .ok (.i2l, 1) := by decide +kernel
theorem dX0_rightOfPair_12 : decode cX0_rightOfPair 12 = .ok (.iconst 2, 1) := by decide +kernel
theorem dX0_rightOfPair_13 : decode cX0_rightOfPair 13 = .ok (.iload_n 0, 1) := by decide +kernel
theorem dX0_rightOfPair_14 : decode cX0_rightOfPair 14 = .ok (.imul, 1) := by decide +kernel
theorem dX0_rightOfPair_15 : decode cX0_rightOfPair 15 = .ok (.i2l, 1) := by decide +kernel
theorem dX0_rightOfPair_16 : decode cX0_rightOfPair 16 = .ok (.lload_n 1, 1) := by decide +kernel
theorem dX0_rightOfPair_17 : decode cX0_rightOfPair 17 = .ok (.lmul, 1) := by decide +kernel
theorem dX0_rightOfPair_18 : decode cX0_rightOfPair 18 = .ok (.ladd, 1) := by decide +kernel
theorem dX0_rightOfPair_19 : decode cX0_rightOfPair 19 = .ok (.lreturn, 1) := by decide +kernel
theorem dX0_rightOfThree_0 : decode cX0_rightOfThree 0 = .ok (.bipush 10, 2) := by decide +kernel
theorem dX0_rightOfThree_2 : decode cX0_rightOfThree 2 = .ok (.iload_n 0, 1) := by decide +kernel
theorem dX0_rightOfThree_3 : decode cX0_rightOfThree 3 = .ok (.isub, 1) := by decide +kernel
theorem dX0_rightOfThree_4 : decode cX0_rightOfThree 4 = .ok (.i2l, 1) := by decide +kernel
theorem dX0_rightOfThree_5 : decode cX0_rightOfThree 5 = .ok (.lstore_n 1, 1) := by decide +kernel
theorem dX0_rightOfThree_6 : decode cX0_rightOfThree 6 = .ok (.ldc2_w 64, 3) := by decide +kernel
theorem dX0_rightOfThree_9 : decode cX0_rightOfThree 9 = .ok (.iload_n 0, 1) := by decide +kernel
theorem dX0_rightOfThree_10 : decode cX0_rightOfThree 10 = .ok (.iload_n 0, 1) := by decide +kernel
theorem dX0_rightOfThree_11 : decode cX0_rightOfThree 11 = .ok (.imul, 1) := by decide +kernel
theorem dX0_rightOfThree_12 : decode cX0_rightOfThree 12 = .ok (.iload_n 0, 1) := by decide +kernel
theorem dX0_rightOfThree_13 : decode cX0_rightOfThree 13 = .ok (.imul, 1) := by decide +kernel
theorem dX0_rightOfThree_14 : decode cX0_rightOfThree 14 = .ok (.i2l, 1) := by decide +kernel
theorem dX0_rightOfThree_15 : decode cX0_rightOfThree 15 = .ok (.lload_n 1, 1) := by decide +kernel
theorem dX0_rightOfThree_16 : decode cX0_rightOfThree 16 = .ok (.lload_n 1, 1) := by decide +kernel
theorem dX0_rightOfThree_17 : decode cX0_rightOfThree 17 = .ok (.lmul, 1) := by decide +kernel
theorem dX0_rightOfThree_18 : decode cX0_rightOfThree 18 = .ok (.lload_n 1, 1) := by decide +kernel
theorem dX0_rightOfThree_19 : decode cX0_rightOfThree 19 = .ok (.lmul, 1) := by decide +kernel
theorem dX0_rightOfThree_20 : decode cX0_rightOfThree 20 = .ok (.ladd, 1) := by decide +kernel
theorem dX0_rightOfThree_21 : decode cX0_rightOfThree 21 = .ok (.lmul, 1) := by decide +kernel
theorem dX0_rightOfThree_22 : decode cX0_rightOfThree 22 = .ok (.iload_n 0, 1) := by decide +kernel
theorem dX0_rightOfThree_23 : decode cX0_rightOfThree 23 = .ok (.i2l, 1) := by decide +kernel
theorem dX0_rightOfThree_24 : decode cX0_rightOfThree 24 = .ok (.lload_n 1, 1) := by decide +kernel
theorem dX0_rightOfThree_25 : decode cX0_rightOfThree 25 = .ok (.lmul, 1) := by decide +kernel
theorem dX0_rightOfThree_26 : decode cX0_rightOfThree 26 = .ok (.lload_n 1, 1) := by decide +kernel
theorem dX0_rightOfThree_27 : decode cX0_rightOfThree 27 = .ok (.lmul, 1) := by decide +kernel
theorem dX0_rightOfThree_28 : decode cX0_rightOfThree 28 = .ok (.ladd, 1) := by decide +kernel
theorem dX0_rightOfThree_29 : decode cX0_rightOfThree 29 = .ok (.iload_n 0, 1) := by decide +kernel
theorem dX0_rightOfThree_30 : decode cX0_rightOfThree 30 = .ok (.iload_n 0, 1) := by decide +kernel
theorem dX0_rightOfThree_31 : decode cX0_rightOfThree 31 = .ok (.imul, 1) := by decide +kernel
theorem dX0_rightOfThree_32 : decode cX0_rightOfThree 32 = .ok (.i2l, 1) := by decide +kernel
theorem dX0_rightOfThree_33 : decode cX0_rightOfThree 33 = .ok (.lload_n 1, 1) := by decide +kernel
theorem dX0_rightOfThree_34 : decode cX0_rightOfThree 34 = .ok (.lmul, 1) := by decide +kernel
theorem dX0_rightOfThree_35 : decode cX0_rightOfThree 35 = .ok (.ladd, 1) := by decide +kernel
theorem dX0_rightOfThree_36 : decode cX0_rightOfThree 36 = .ok (.lreturn, 1) := by decide +kernel
set_option maxRecDepth 20000 in
theorem ggX0_fillEach_X2_ways : GoodIn wsX0_fillEach wsX2_ways := goodIn_r _ [6, 7] (by decide +kernel) (by decide +kernel)
set_option maxRecDepth 20000 in
theorem gX0_fillEach_X2_ways : GoodIn wsX0_fillEach (va_wsS RX0 66 yX2_ways wsX2_ways) := goodIn_app (goodIn_of _ (by decide +kernel)) ggX0_fillEach_X2_ways
set_option maxRecDepth 20000 in
theorem ggX0_fillEach_X2_power : GoodIn wsX0_fillEach wsX2_power := goodIn_r _ [10] (by decide +kernel) (by decide +kernel)
set_option maxRecDepth 20000 in
theorem gX0_fillEach_X2_power : GoodIn wsX0_fillEach (va_wsS RX0 72 yX2_power wsX2_power) := goodIn_app (goodIn_of _ (by decide +kernel)) ggX0_fillEach_X2_power
theorem dX0_fillEach_0 : decode cX0_fillEach 0 = .ok (.iconst 0, 1) := by decide +kernel
theorem dX0_fillEach_1 : decode cX0_fillEach 1 = .ok (.istore 6, 2) := by decide +kernel
theorem dX0_fillEach_3 : decode cX0_fillEach 3 = .ok (.iload 6, 2) := by decide +kernel
theorem dX0_fillEach_5 : decode cX0_fillEach 5 = .ok (.iload_n 1, 1) := by decide +kernel
theorem dX0_fillEach_6 : decode cX0_fillEach 6 = .ok (.if_icmp .gt 51, 3) := by decide +kernel
theorem dX0_fillEach_9 : decode cX0_fillEach 9 = .ok (.iload 6, 2) := by decide +kernel
theorem dX0_fillEach_11 : decode cX0_fillEach 11 = .ok (.aload_n 0, 1) := by decide +kernel
theorem dX0_fillEach_12 : decode cX0_fillEach 12 = .ok (.getfield 9, 3) := by decide +kernel
theorem dX0_fillEach_15 : decode cX0_fillEach 15 = .ok (.arraylength, 1) := by decide +kernel
theorem dX0_fillEach_16 : decode cX0_fillEach 16 = .ok (.if_icmp .ge 41, 3) := by decide +kernel
theorem dX0_fillEach_19 : decode cX0_fillEach 19 = .ok (.aload_n 0, 1) := by decide +kernel
theorem dX0_fillEach_20 : decode cX0_fillEach 20 = .ok (.getfield 9, 3) := by decide +kernel
theorem dX0_fillEach_23 : decode cX0_fillEach 23 = .ok (.iload 6, 2) := by decide +kernel
theorem dX0_fillEach_25 : decode cX0_fillEach 25 = .ok (.iload_n 1, 1) := by decide +kernel
theorem dX0_fillEach_26 : decode cX0_fillEach 26 = .ok (.iload 6, 2) := by decide +kernel
theorem dX0_fillEach_28 : decode cX0_fillEach 28 = .ok (.invokestatic 66, 3) := by decide +kernel
theorem dX0_fillEach_31 : decode cX0_fillEach 31 = .ok (.lload_n 2, 1) := by decide +kernel
theorem dX0_fillEach_32 : decode cX0_fillEach 32 = .ok (.iload 6, 2) := by decide +kernel
theorem dX0_fillEach_34 : decode cX0_fillEach 34 = .ok (.invokestatic 72, 3) := by decide +kernel
theorem dX0_fillEach_37 : decode cX0_fillEach 37 = .ok (.lmul, 1) := by decide +kernel
theorem dX0_fillEach_38 : decode cX0_fillEach 38 = .ok (.lload 4, 2) := by decide +kernel
theorem dX0_fillEach_40 : decode cX0_fillEach 40 = .ok (.lload_n 2, 1) := by decide +kernel
theorem dX0_fillEach_41 : decode cX0_fillEach 41 = .ok (.lsub, 1) := by decide +kernel
theorem dX0_fillEach_42 : decode cX0_fillEach 42 = .ok (.iload_n 1, 1) := by decide +kernel
theorem dX0_fillEach_43 : decode cX0_fillEach 43 = .ok (.iload 6, 2) := by decide +kernel
theorem dX0_fillEach_45 : decode cX0_fillEach 45 = .ok (.isub, 1) := by decide +kernel
theorem dX0_fillEach_46 : decode cX0_fillEach 46 = .ok (.invokestatic 72, 3) := by decide +kernel
theorem dX0_fillEach_49 : decode cX0_fillEach 49 = .ok (.lmul, 1) := by decide +kernel
theorem dX0_fillEach_50 : decode cX0_fillEach 50 = .ok (.lastore, 1) := by decide +kernel
theorem dX0_fillEach_51 : decode cX0_fillEach 51 = .ok (.iinc 6 1, 3) := by decide +kernel
theorem dX0_fillEach_54 : decode cX0_fillEach 54 = .ok (.goto (-51), 3) := by decide +kernel
theorem dX0_fillEach_57 : decode cX0_fillEach 57 = .ok (.aload_n 0, 1) := by decide +kernel
theorem dX0_fillEach_58 : decode cX0_fillEach 58 = .ok (.lload 4, 2) := by decide +kernel
theorem dX0_fillEach_60 : decode cX0_fillEach 60 = .ok (.iload_n 1, 1) := by decide +kernel
theorem dX0_fillEach_61 : decode cX0_fillEach 61 = .ok (.invokestatic 72, 3) := by decide +kernel
theorem dX0_fillEach_64 : decode cX0_fillEach 64 = .ok (.putfield 21, 3) := by decide +kernel
theorem dX0_fillEach_67 : decode cX0_fillEach 67 = .ok (.return_, 1) := by decide +kernel
set_option maxRecDepth 20000 in
theorem ggX0_fillBlocks_J7_fill_d0a16 : GoodIn wsX0_fillBlocks wsJ7_fill_d0a16 := goodIn_r _ [7] (by decide +kernel) (by decide +kernel)
set_option maxRecDepth 20000 in
theorem gX0_fillBlocks_J7_fill_d0a16 : GoodIn wsX0_fillBlocks (va_wsS RX0 29 yJ7_fill_d0a16 wsJ7_fill_d0a16) := goodIn_app (goodIn_of _ (by decide +kernel)) ggX0_fillBlocks_J7_fill_d0a16
set_option maxRecDepth 20000 in
theorem ggX0_fillBlocks_X0_fillFixed : GoodIn wsX0_fillBlocks wsX0_fillFixed := goodIn_r _ [11, 12, 13, 14, 15, 16, 17, 18, 19, 20, 21, 22, 23, 24, 25, 26, 10, 27] (by decide +kernel) (by decide +kernel)
set_option maxRecDepth 20000 in
theorem gX0_fillBlocks_X0_fillFixed : GoodIn wsX0_fillBlocks (va_wsS RX0 39 yX0_fillFixed wsX0_fillFixed) := goodIn_app (goodIn_of _ (by decide +kernel)) ggX0_fillBlocks_X0_fillFixed
set_option maxRecDepth 20000 in
theorem ggX0_fillBlocks_X0_joinBlock : GoodIn wsX0_fillBlocks wsX0_joinBlock := goodIn_r _ [31, 32, 2, 1, 33, 34, 35, 36, 37, 38, 39, 40, 4, 5, 6, 7, 41, 42, 43, 44, 45] (by decide +kernel) (by decide +kernel)
set_option maxRecDepth 20000 in
theorem gX0_fillBlocks_X0_joinBlock : GoodIn wsX0_fillBlocks (wsV RX0 76 RX0 yX0_joinBlock wsX0_joinBlock) := goodIn_app (goodIn_of _ (by decide +kernel)) ggX0_fillBlocks_X0_joinBlock
theorem dX0_fillBlocks_0 : decode cX0_fillBlocks 0 = .ok (.aload_n 0, 1) := by decide +kernel
theorem dX0_fillBlocks_1 : decode cX0_fillBlocks 1 = .ok (.getfield 15, 3) := by decide +kernel
theorem dX0_fillBlocks_4 : decode cX0_fillBlocks 4 = .ok (.lconst 0, 1) := by decide +kernel
theorem dX0_fillBlocks_5 : decode cX0_fillBlocks 5 = .ok (.invokestatic 29, 3) := by decide +kernel
theorem dX0_fillBlocks_8 : decode cX0_fillBlocks 8 = .ok (.aload_n 0, 1) := by decide +kernel
theorem dX0_fillBlocks_9 : decode cX0_fillBlocks 9 = .ok (.getfield 15, 3) := by decide +kernel
theorem dX0_fillBlocks_12 : decode cX0_fillBlocks 12 = .ok (.iconst 4, 1) := by decide +kernel
theorem dX0_fillBlocks_13 : decode cX0_fillBlocks 13 = .ok (.iload_n 2, 1) := by decide +kernel
theorem dX0_fillBlocks_14 : decode cX0_fillBlocks 14 = .ok (.iload_n 3, 1) := by decide +kernel
theorem dX0_fillBlocks_15 : decode cX0_fillBlocks 15 = .ok (.invokestatic 39, 3) := by decide +kernel
theorem dX0_fillBlocks_18 : decode cX0_fillBlocks 18 = .ok (.lstore 4, 2) := by decide +kernel
theorem dX0_fillBlocks_20 : decode cX0_fillBlocks 20 = .ok (.aload_n 0, 1) := by decide +kernel
theorem dX0_fillBlocks_21 : decode cX0_fillBlocks 21 = .ok (.getfield 9, 3) := by decide +kernel
theorem dX0_fillBlocks_24 : decode cX0_fillBlocks 24 = .ok (.arraylength, 1) := by decide +kernel
theorem dX0_fillBlocks_25 : decode cX0_fillBlocks 25 = .ok (.ifCond .le 10, 3) := by decide +kernel
theorem dX0_fillBlocks_28 : decode cX0_fillBlocks 28 = .ok (.aload_n 0, 1) := by decide +kernel
theorem dX0_fillBlocks_29 : decode cX0_fillBlocks 29 = .ok (.getfield 9, 3) := by decide +kernel
theorem dX0_fillBlocks_32 : decode cX0_fillBlocks 32 = .ok (.iconst 0, 1) := by decide +kernel
theorem dX0_fillBlocks_33 : decode cX0_fillBlocks 33 = .ok (.lconst 1, 1) := by decide +kernel
theorem dX0_fillBlocks_34 : decode cX0_fillBlocks 34 = .ok (.lastore, 1) := by decide +kernel
theorem dX0_fillBlocks_35 : decode cX0_fillBlocks 35 = .ok (.aload_n 0, 1) := by decide +kernel
theorem dX0_fillBlocks_36 : decode cX0_fillBlocks 36 = .ok (.lconst 1, 1) := by decide +kernel
theorem dX0_fillBlocks_37 : decode cX0_fillBlocks 37 = .ok (.putfield 21, 3) := by decide +kernel
theorem dX0_fillBlocks_40 : decode cX0_fillBlocks 40 = .ok (.iconst 0, 1) := by decide +kernel
theorem dX0_fillBlocks_41 : decode cX0_fillBlocks 41 = .ok (.istore 6, 2) := by decide +kernel
theorem dX0_fillBlocks_43 : decode cX0_fillBlocks 43 = .ok (.iload 6, 2) := by decide +kernel
theorem dX0_fillBlocks_45 : decode cX0_fillBlocks 45 = .ok (.iload_n 1, 1) := by decide +kernel
theorem dX0_fillBlocks_46 : decode cX0_fillBlocks 46 = .ok (.if_icmp .ge 24, 3) := by decide +kernel
theorem dX0_fillBlocks_49 : decode cX0_fillBlocks 49 = .ok (.aload_n 0, 1) := by decide +kernel
theorem dX0_fillBlocks_50 : decode cX0_fillBlocks 50 = .ok (.invokevirtual 76, 3) := by decide +kernel
theorem dX0_fillBlocks_53 : decode cX0_fillBlocks 53 = .ok (.aload_n 0, 1) := by decide +kernel
theorem dX0_fillBlocks_54 : decode cX0_fillBlocks 54 = .ok (.aload_n 0, 1) := by decide +kernel
theorem dX0_fillBlocks_55 : decode cX0_fillBlocks 55 = .ok (.getfield 21, 3) := by decide +kernel
theorem dX0_fillBlocks_58 : decode cX0_fillBlocks 58 = .ok (.lload 4, 2) := by decide +kernel
theorem dX0_fillBlocks_60 : decode cX0_fillBlocks 60 = .ok (.lmul, 1) := by decide +kernel
theorem dX0_fillBlocks_61 : decode cX0_fillBlocks 61 = .ok (.putfield 21, 3) := by decide +kernel
theorem dX0_fillBlocks_64 : decode cX0_fillBlocks 64 = .ok (.iinc 6 1, 3) := by decide +kernel
theorem dX0_fillBlocks_67 : decode cX0_fillBlocks 67 = .ok (.goto (-24), 3) := by decide +kernel
theorem dX0_fillBlocks_70 : decode cX0_fillBlocks 70 = .ok (.return_, 1) := by decide +kernel
set_option maxRecDepth 20000 in
theorem ggX0_joinBlock_J7_fill_d0a16 : GoodIn wsX0_joinBlock wsJ7_fill_d0a16 := goodIn_r _ [15] (by decide +kernel) (by decide +kernel)
set_option maxRecDepth 20000 in
theorem gX0_joinBlock_J7_fill_d0a16 : GoodIn wsX0_joinBlock (va_wsS RX0 29 yJ7_fill_d0a16 wsJ7_fill_d0a16) := goodIn_app (goodIn_of _ (by decide +kernel)) ggX0_joinBlock_J7_fill_d0a16
theorem dX0_joinBlock_0 : decode cX0_joinBlock 0 = .ok (.aload_n 0, 1) := by decide +kernel
theorem dX0_joinBlock_1 : decode cX0_joinBlock 1 = .ok (.getfield 18, 3) := by decide +kernel
theorem dX0_joinBlock_4 : decode cX0_joinBlock 4 = .ok (.lconst 0, 1) := by decide +kernel
theorem dX0_joinBlock_5 : decode cX0_joinBlock 5 = .ok (.invokestatic 29, 3) := by decide +kernel
theorem dX0_joinBlock_8 : decode cX0_joinBlock 8 = .ok (.iconst 0, 1) := by decide +kernel
theorem dX0_joinBlock_9 : decode cX0_joinBlock 9 = .ok (.istore_n 1, 1) := by decide +kernel
theorem dX0_joinBlock_10 : decode cX0_joinBlock 10 = .ok (.iload_n 1, 1) := by decide +kernel
theorem dX0_joinBlock_11 : decode cX0_joinBlock 11 = .ok (.aload_n 0, 1) := by decide +kernel
theorem dX0_joinBlock_12 : decode cX0_joinBlock 12 = .ok (.getfield 9, 3) := by decide +kernel
theorem dX0_joinBlock_15 : decode cX0_joinBlock 15 = .ok (.arraylength, 1) := by decide +kernel
theorem dX0_joinBlock_16 : decode cX0_joinBlock 16 = .ok (.if_icmp .ge 61, 3) := by decide +kernel
theorem dX0_joinBlock_19 : decode cX0_joinBlock 19 = .ok (.iconst 0, 1) := by decide +kernel
theorem dX0_joinBlock_20 : decode cX0_joinBlock 20 = .ok (.istore_n 2, 1) := by decide +kernel
theorem dX0_joinBlock_21 : decode cX0_joinBlock 21 = .ok (.iload_n 2, 1) := by decide +kernel
theorem dX0_joinBlock_22 : decode cX0_joinBlock 22 = .ok (.aload_n 0, 1) := by decide +kernel
theorem dX0_joinBlock_23 : decode cX0_joinBlock 23 = .ok (.getfield 15, 3) := by decide +kernel
theorem dX0_joinBlock_26 : decode cX0_joinBlock 26 = .ok (.arraylength, 1) := by decide +kernel
theorem dX0_joinBlock_27 : decode cX0_joinBlock 27 = .ok (.if_icmp .ge 44, 3) := by decide +kernel
theorem dX0_joinBlock_30 : decode cX0_joinBlock 30 = .ok (.iload_n 1, 1) := by decide +kernel
theorem dX0_joinBlock_31 : decode cX0_joinBlock 31 = .ok (.iload_n 2, 1) := by decide +kernel
theorem dX0_joinBlock_32 : decode cX0_joinBlock 32 = .ok (.iadd, 1) := by decide +kernel
theorem dX0_joinBlock_33 : decode cX0_joinBlock 33 = .ok (.aload_n 0, 1) := by decide +kernel
theorem dX0_joinBlock_34 : decode cX0_joinBlock 34 = .ok (.getfield 18, 3) := by decide +kernel
theorem dX0_joinBlock_37 : decode cX0_joinBlock 37 = .ok (.arraylength, 1) := by decide +kernel
theorem dX0_joinBlock_38 : decode cX0_joinBlock 38 = .ok (.if_icmp .ge 33, 3) := by decide +kernel
theorem dX0_joinBlock_41 : decode cX0_joinBlock 41 = .ok (.aload_n 0, 1) := by decide +kernel
theorem dX0_joinBlock_42 : decode cX0_joinBlock 42 = .ok (.getfield 18, 3) := by decide +kernel
theorem dX0_joinBlock_45 : decode cX0_joinBlock 45 = .ok (.iload_n 1, 1) := by decide +kernel
theorem dX0_joinBlock_46 : decode cX0_joinBlock 46 = .ok (.iload_n 2, 1) := by decide +kernel
theorem dX0_joinBlock_47 : decode cX0_joinBlock 47 = .ok (.iadd, 1) := by decide +kernel
theorem dX0_joinBlock_48 : decode cX0_joinBlock 48 = .ok (.dup2, 1) := by decide +kernel
theorem dX0_joinBlock_49 : decode cX0_joinBlock 49 = .ok (.laload, 1) := by decide +kernel
theorem dX0_joinBlock_50 : decode cX0_joinBlock 50 = .ok (.aload_n 0, 1) := by decide +kernel
theorem dX0_joinBlock_51 : decode cX0_joinBlock 51 = .ok (.getfield 9, 3) := by decide +kernel
theorem dX0_joinBlock_54 : decode cX0_joinBlock 54 = .ok (.iload_n 1, 1) := by decide +kernel
theorem dX0_joinBlock_55 : decode cX0_joinBlock 55 = .ok (.laload, 1) := by decide +kernel
theorem dX0_joinBlock_56 : decode cX0_joinBlock 56 = .ok (.aload_n 0, 1) := by decide +kernel
theorem dX0_joinBlock_57 : decode cX0_joinBlock 57 = .ok (.getfield 15, 3) := by decide +kernel
theorem dX0_joinBlock_60 : decode cX0_joinBlock 60 = .ok (.iload_n 2, 1) := by decide +kernel
theorem dX0_joinBlock_61 : decode cX0_joinBlock 61 = .ok (.laload, 1) := by decide +kernel
theorem dX0_joinBlock_62 : decode cX0_joinBlock 62 = .ok (.lmul, 1) := by decide +kernel
theorem dX0_joinBlock_63 : decode cX0_joinBlock 63 = .ok (.ladd, 1) := by decide +kernel
theorem dX0_joinBlock_64 : decode cX0_joinBlock 64 = .ok (.lastore, 1) := by decide +kernel
theorem dX0_joinBlock_65 : decode cX0_joinBlock 65 = .ok (.iinc 2 1, 3) := by decide +kernel
theorem dX0_joinBlock_68 : decode cX0_joinBlock 68 = .ok (.goto (-47), 3) := by decide +kernel
theorem dX0_joinBlock_71 : decode cX0_joinBlock 71 = .ok (.iinc 1 1, 3) := by decide +kernel
theorem dX0_joinBlock_74 : decode cX0_joinBlock 74 = .ok (.goto (-64), 3) := by decide +kernel
theorem dX0_joinBlock_77 : decode cX0_joinBlock 77 = .ok (.aload_n 0, 1) := by decide +kernel
theorem dX0_joinBlock_78 : decode cX0_joinBlock 78 = .ok (.getfield 18, 3) := by decide +kernel
theorem dX0_joinBlock_81 : decode cX0_joinBlock 81 = .ok (.iconst 0, 1) := by decide +kernel
theorem dX0_joinBlock_82 : decode cX0_joinBlock 82 = .ok (.aload_n 0, 1) := by decide +kernel
theorem dX0_joinBlock_83 : decode cX0_joinBlock 83 = .ok (.getfield 9, 3) := by decide +kernel
theorem dX0_joinBlock_86 : decode cX0_joinBlock 86 = .ok (.iconst 0, 1) := by decide +kernel
theorem dX0_joinBlock_87 : decode cX0_joinBlock 87 = .ok (.aload_n 0, 1) := by decide +kernel
theorem dX0_joinBlock_88 : decode cX0_joinBlock 88 = .ok (.getfield 18, 3) := by decide +kernel
theorem dX0_joinBlock_91 : decode cX0_joinBlock 91 = .ok (.arraylength, 1) := by decide +kernel
theorem dX0_joinBlock_92 : decode cX0_joinBlock 92 = .ok (.aload_n 0, 1) := by decide +kernel
theorem dX0_joinBlock_93 : decode cX0_joinBlock 93 = .ok (.getfield 9, 3) := by decide +kernel
theorem dX0_joinBlock_96 : decode cX0_joinBlock 96 = .ok (.arraylength, 1) := by decide +kernel
theorem dX0_joinBlock_97 : decode cX0_joinBlock 97 = .ok (.invokestatic 79, 3) := by decide +kernel
theorem dX0_joinBlock_100 : decode cX0_joinBlock 100 = .ok (.invokestatic 84, 3) := by decide +kernel
theorem dX0_joinBlock_103 : decode cX0_joinBlock 103 = .ok (.return_, 1) := by decide +kernel
set_option maxRecDepth 20000 in
theorem ggX0_fillFixed_X2_evenLots : GoodIn wsX0_fillFixed wsX2_evenLots := goodIn_r _ [5, 6] (by decide +kernel) (by decide +kernel)
set_option maxRecDepth 20000 in
theorem gX0_fillFixed_X2_evenLots : GoodIn wsX0_fillFixed (va_wsS RX0 90 yX2_evenLots wsX2_evenLots) := goodIn_app (goodIn_of _ (by decide +kernel)) ggX0_fillFixed_X2_evenLots
set_option maxRecDepth 20000 in
theorem ggX0_fillFixed_X2_ways : GoodIn wsX0_fillFixed wsX2_ways := goodIn_r _ [9, 10] (by decide +kernel) (by decide +kernel)
set_option maxRecDepth 20000 in
theorem gX0_fillFixed_X2_ways : GoodIn wsX0_fillFixed (va_wsS RX0 66 yX2_ways wsX2_ways) := goodIn_app (goodIn_of _ (by decide +kernel)) ggX0_fillFixed_X2_ways
set_option maxRecDepth 20000 in
theorem ggX0_fillFixed_X2_power : GoodIn wsX0_fillFixed wsX2_power := goodIn_r _ [13] (by decide +kernel) (by decide +kernel)
set_option maxRecDepth 20000 in
theorem gX0_fillFixed_X2_power : GoodIn wsX0_fillFixed (va_wsS RX0 72 yX2_power wsX2_power) := goodIn_app (goodIn_of _ (by decide +kernel)) ggX0_fillFixed_X2_power
set_option maxRecDepth 20000 in
theorem ggX0_fillFixed_X0_addNamed : GoodIn wsX0_fillFixed wsX0_addNamed := goodIn_r _ [17, 7, 8, 4, 9, 10] (by decide +kernel) (by decide +kernel)
set_option maxRecDepth 20000 in
theorem gX0_fillFixed_X0_addNamed : GoodIn wsX0_fillFixed (va_wsS RX0 93 yX0_addNamed wsX0_addNamed) := goodIn_app (goodIn_of _ (by decide +kernel)) ggX0_fillFixed_X0_addNamed
theorem dX0_fillFixed_0 : decode cX0_fillFixed 0 = .ok (.bipush 10, 2) := by decide +kernel
theorem dX0_fillFixed_2 : decode cX0_fillFixed 2 = .ok (.iload_n 3, 1) := by decide +kernel
theorem dX0_fillFixed_3 : decode cX0_fillFixed 3 = .ok (.isub, 1) := by decide +kernel
theorem dX0_fillFixed_4 : decode cX0_fillFixed 4 = .ok (.istore 4, 2) := by decide +kernel
theorem dX0_fillFixed_6 : decode cX0_fillFixed 6 = .ok (.iload_n 1, 1) := by decide +kernel
theorem dX0_fillFixed_7 : decode cX0_fillFixed 7 = .ok (.invokestatic 90, 3) := by decide +kernel
theorem dX0_fillFixed_10 : decode cX0_fillFixed 10 = .ok (.lstore 5, 2) := by decide +kernel
theorem dX0_fillFixed_12 : decode cX0_fillFixed 12 = .ok (.iconst 0, 1) := by decide +kernel
theorem dX0_fillFixed_13 : decode cX0_fillFixed 13 = .ok (.istore 7, 2) := by decide +kernel
theorem dX0_fillFixed_15 : decode cX0_fillFixed 15 = .ok (.iload 7, 2) := by decide +kernel
theorem dX0_fillFixed_17 : decode cX0_fillFixed 17 = .ok (.iload_n 2, 1) := by decide +kernel
theorem dX0_fillFixed_18 : decode cX0_fillFixed 18 = .ok (.if_icmp .gt 95, 3) := by decide +kernel
theorem dX0_fillFixed_21 : decode cX0_fillFixed 21 = .ok (.iconst 0, 1) := by decide +kernel
theorem dX0_fillFixed_22 : decode cX0_fillFixed 22 = .ok (.istore 8, 2) := by decide +kernel
theorem dX0_fillFixed_24 : decode cX0_fillFixed 24 = .ok (.iload 8, 2) := by decide +kernel
theorem dX0_fillFixed_26 : decode cX0_fillFixed 26 = .ok (.iload_n 1, 1) := by decide +kernel
theorem dX0_fillFixed_27 : decode cX0_fillFixed 27 = .ok (.iload_n 2, 1) := by decide +kernel
theorem dX0_fillFixed_28 : decode cX0_fillFixed 28 = .ok (.isub, 1) := by decide +kernel
theorem dX0_fillFixed_29 : decode cX0_fillFixed 29 = .ok (.if_icmp .gt 78, 3) := by decide +kernel
theorem dX0_fillFixed_32 : decode cX0_fillFixed 32 = .ok (.iload 7, 2) := by decide +kernel
theorem dX0_fillFixed_34 : decode cX0_fillFixed 34 = .ok (.iload_n 1, 1) := by decide +kernel
theorem dX0_fillFixed_35 : decode cX0_fillFixed 35 = .ok (.iadd, 1) := by decide +kernel
theorem dX0_fillFixed_36 : decode cX0_fillFixed 36 = .ok (.iload_n 2, 1) := by decide +kernel
theorem dX0_fillFixed_37 : decode cX0_fillFixed 37 = .ok (.isub, 1) := by decide +kernel
theorem dX0_fillFixed_38 : decode cX0_fillFixed 38 = .ok (.iload 8, 2) := by decide +kernel
theorem dX0_fillFixed_40 : decode cX0_fillFixed 40 = .ok (.isub, 1) := by decide +kernel
theorem dX0_fillFixed_41 : decode cX0_fillFixed 41 = .ok (.istore 9, 2) := by decide +kernel
theorem dX0_fillFixed_43 : decode cX0_fillFixed 43 = .ok (.iload_n 2, 1) := by decide +kernel
theorem dX0_fillFixed_44 : decode cX0_fillFixed 44 = .ok (.iload 7, 2) := by decide +kernel
theorem dX0_fillFixed_46 : decode cX0_fillFixed 46 = .ok (.invokestatic 66, 3) := by decide +kernel
theorem dX0_fillFixed_49 : decode cX0_fillFixed 49 = .ok (.iload_n 1, 1) := by decide +kernel
theorem dX0_fillFixed_50 : decode cX0_fillFixed 50 = .ok (.iload_n 2, 1) := by decide +kernel
theorem dX0_fillFixed_51 : decode cX0_fillFixed 51 = .ok (.isub, 1) := by decide +kernel
theorem dX0_fillFixed_52 : decode cX0_fillFixed 52 = .ok (.iload 8, 2) := by decide +kernel
theorem dX0_fillFixed_54 : decode cX0_fillFixed 54 = .ok (.invokestatic 66, 3) := by decide +kernel
theorem dX0_fillFixed_57 : decode cX0_fillFixed 57 = .ok (.lmul, 1) := by decide +kernel
theorem dX0_fillFixed_58 : decode cX0_fillFixed 58 = .ok (.iload_n 3, 1) := by decide +kernel
theorem dX0_fillFixed_59 : decode cX0_fillFixed 59 = .ok (.i2l, 1) := by decide +kernel
theorem dX0_fillFixed_60 : decode cX0_fillFixed 60 = .ok (.iload 9, 2) := by decide +kernel
theorem dX0_fillFixed_62 : decode cX0_fillFixed 62 = .ok (.invokestatic 72, 3) := by decide +kernel
theorem dX0_fillFixed_65 : decode cX0_fillFixed 65 = .ok (.lmul, 1) := by decide +kernel
theorem dX0_fillFixed_66 : decode cX0_fillFixed 66 = .ok (.iload 4, 2) := by decide +kernel
theorem dX0_fillFixed_68 : decode cX0_fillFixed 68 = .ok (.i2l, 1) := by decide +kernel
theorem dX0_fillFixed_69 : decode cX0_fillFixed 69 = .ok (.iload_n 1, 1) := by decide +kernel
theorem dX0_fillFixed_70 : decode cX0_fillFixed 70 = .ok (.iload 9, 2) := by decide +kernel
theorem dX0_fillFixed_72 : decode cX0_fillFixed 72 = .ok (.isub, 1) := by decide +kernel
theorem dX0_fillFixed_73 : decode cX0_fillFixed 73 = .ok (.invokestatic 72, 3) := by decide +kernel
theorem dX0_fillFixed_76 : decode cX0_fillFixed 76 = .ok (.lmul, 1) := by decide +kernel
theorem dX0_fillFixed_77 : decode cX0_fillFixed 77 = .ok (.lstore 10, 2) := by decide +kernel
theorem dX0_fillFixed_79 : decode cX0_fillFixed 79 = .ok (.lload 10, 2) := by decide +kernel
theorem dX0_fillFixed_81 : decode cX0_fillFixed 81 = .ok (.lconst 0, 1) := by decide +kernel
theorem dX0_fillFixed_82 : decode cX0_fillFixed 82 = .ok (.lcmp, 1) := by decide +kernel
theorem dX0_fillFixed_83 : decode cX0_fillFixed 83 = .ok (.ifCond .eq 18, 3) := by decide +kernel
theorem dX0_fillFixed_86 : decode cX0_fillFixed 86 = .ok (.aload_n 0, 1) := by decide +kernel
theorem dX0_fillFixed_87 : decode cX0_fillFixed 87 = .ok (.iload_n 1, 1) := by decide +kernel
theorem dX0_fillFixed_88 : decode cX0_fillFixed 88 = .ok (.iload_n 2, 1) := by decide +kernel
theorem dX0_fillFixed_89 : decode cX0_fillFixed 89 = .ok (.iload 7, 2) := by decide +kernel
theorem dX0_fillFixed_91 : decode cX0_fillFixed 91 = .ok (.iload 8, 2) := by decide +kernel
theorem dX0_fillFixed_93 : decode cX0_fillFixed 93 = .ok (.lload 10, 2) := by decide +kernel
theorem dX0_fillFixed_95 : decode cX0_fillFixed 95 = .ok (.lload 5, 2) := by decide +kernel
theorem dX0_fillFixed_97 : decode cX0_fillFixed 97 = .ok (.lmul, 1) := by decide +kernel
theorem dX0_fillFixed_98 : decode cX0_fillFixed 98 = .ok (.invokestatic 93, 3) := by decide +kernel
theorem dX0_fillFixed_101 : decode cX0_fillFixed 101 = .ok (.iinc 8 1, 3) := by decide +kernel
theorem dX0_fillFixed_104 : decode cX0_fillFixed 104 = .ok (.goto (-80), 3) := by decide +kernel
theorem dX0_fillFixed_107 : decode cX0_fillFixed 107 = .ok (.iinc 7 1, 3) := by decide +kernel
theorem dX0_fillFixed_110 : decode cX0_fillFixed 110 = .ok (.goto (-95), 3) := by decide +kernel
theorem dX0_fillFixed_113 : decode cX0_fillFixed 113 = .ok (.ldc2_w 62, 3) := by decide +kernel
theorem dX0_fillFixed_116 : decode cX0_fillFixed 116 = .ok (.iload_n 1, 1) := by decide +kernel
theorem dX0_fillFixed_117 : decode cX0_fillFixed 117 = .ok (.invokestatic 72, 3) := by decide +kernel
theorem dX0_fillFixed_120 : decode cX0_fillFixed 120 = .ok (.lload 5, 2) := by decide +kernel
theorem dX0_fillFixed_122 : decode cX0_fillFixed 122 = .ok (.lmul, 1) := by decide +kernel
theorem dX0_fillFixed_123 : decode cX0_fillFixed 123 = .ok (.lreturn, 1) := by decide +kernel
set_option maxRecDepth 20000 in
theorem ggX0_addNamed_X2_ways : GoodIn wsX0_addNamed wsX2_ways := goodIn_r _ [4, 5] (by decide +kernel) (by decide +kernel)
set_option maxRecDepth 20000 in
theorem gX0_addNamed_X2_ways : GoodIn wsX0_addNamed (va_wsS RX0 66 yX2_ways wsX2_ways) := goodIn_app (goodIn_of _ (by decide +kernel)) ggX0_addNamed_X2_ways
theorem dX0_addNamed_0 : decode cX0_addNamed 0 = .ok (.iload_n 3, 1) := by decide +kernel
theorem dX0_addNamed_1 : decode cX0_addNamed 1 = .ok (.iload 4, 2) := by decide +kernel
theorem dX0_addNamed_3 : decode cX0_addNamed 3 = .ok (.iadd, 1) := by decide +kernel
theorem dX0_addNamed_4 : decode cX0_addNamed 4 = .ok (.iload_n 2, 1) := by decide +kernel
theorem dX0_addNamed_5 : decode cX0_addNamed 5 = .ok (.if_icmp .lt 7, 3) := by decide +kernel
theorem dX0_addNamed_8 : decode cX0_addNamed 8 = .ok (.iconst 1, 1) := by decide +kernel
theorem dX0_addNamed_9 : decode cX0_addNamed 9 = .ok (.goto 4, 3) := by decide +kernel
theorem dX0_addNamed_12 : decode cX0_addNamed 12 = .ok (.iconst 0, 1) := by decide +kernel
theorem dX0_addNamed_13 : decode cX0_addNamed 13 = .ok (.istore 7, 2) := by decide +kernel
theorem dX0_addNamed_15 : decode cX0_addNamed 15 = .ok (.iload 7, 2) := by decide +kernel
theorem dX0_addNamed_17 : decode cX0_addNamed 17 = .ok (.ifCond .eq 7, 3) := by decide +kernel
theorem dX0_addNamed_20 : decode cX0_addNamed 20 = .ok (.iconst 0, 1) := by decide +kernel
theorem dX0_addNamed_21 : decode cX0_addNamed 21 = .ok (.goto 4, 3) := by decide +kernel
theorem dX0_addNamed_24 : decode cX0_addNamed 24 = .ok (.iload_n 3, 1) := by decide +kernel
theorem dX0_addNamed_25 : decode cX0_addNamed 25 = .ok (.istore 8, 2) := by decide +kernel
theorem dX0_addNamed_27 : decode cX0_addNamed 27 = .ok (.iload 7, 2) := by decide +kernel
theorem dX0_addNamed_29 : decode cX0_addNamed 29 = .ok (.ifCond .eq 7, 3) := by decide +kernel
theorem dX0_addNamed_32 : decode cX0_addNamed 32 = .ok (.iload_n 2, 1) := by decide +kernel
theorem dX0_addNamed_33 : decode cX0_addNamed 33 = .ok (.goto 9, 3) := by decide +kernel
theorem dX0_addNamed_36 : decode cX0_addNamed 36 = .ok (.iload_n 2, 1) := by decide +kernel
theorem dX0_addNamed_37 : decode cX0_addNamed 37 = .ok (.iload_n 3, 1) := by decide +kernel
theorem dX0_addNamed_38 : decode cX0_addNamed 38 = .ok (.isub, 1) := by decide +kernel
theorem dX0_addNamed_39 : decode cX0_addNamed 39 = .ok (.iload 4, 2) := by decide +kernel
theorem dX0_addNamed_41 : decode cX0_addNamed 41 = .ok (.isub, 1) := by decide +kernel
theorem dX0_addNamed_42 : decode cX0_addNamed 42 = .ok (.istore 9, 2) := by decide +kernel
theorem dX0_addNamed_44 : decode cX0_addNamed 44 = .ok (.iload 7, 2) := by decide +kernel
theorem dX0_addNamed_46 : decode cX0_addNamed 46 = .ok (.ifCond .eq 7, 3) := by decide +kernel
theorem dX0_addNamed_49 : decode cX0_addNamed 49 = .ok (.iload_n 3, 1) := by decide +kernel
theorem dX0_addNamed_50 : decode cX0_addNamed 50 = .ok (.goto 6, 3) := by decide +kernel
theorem dX0_addNamed_53 : decode cX0_addNamed 53 = .ok (.iload_n 2, 1) := by decide +kernel
theorem dX0_addNamed_54 : decode cX0_addNamed 54 = .ok (.iload_n 3, 1) := by decide +kernel
theorem dX0_addNamed_55 : decode cX0_addNamed 55 = .ok (.isub, 1) := by decide +kernel
theorem dX0_addNamed_56 : decode cX0_addNamed 56 = .ok (.istore 10, 2) := by decide +kernel
theorem dX0_addNamed_58 : decode cX0_addNamed 58 = .ok (.iload 7, 2) := by decide +kernel
theorem dX0_addNamed_60 : decode cX0_addNamed 60 = .ok (.ifCond .eq 8, 3) := by decide +kernel
theorem dX0_addNamed_63 : decode cX0_addNamed 63 = .ok (.iload 4, 2) := by decide +kernel
theorem dX0_addNamed_65 : decode cX0_addNamed 65 = .ok (.goto 9, 3) := by decide +kernel
theorem dX0_addNamed_68 : decode cX0_addNamed 68 = .ok (.iload_n 1, 1) := by decide +kernel
theorem dX0_addNamed_69 : decode cX0_addNamed 69 = .ok (.iload_n 2, 1) := by decide +kernel
theorem dX0_addNamed_70 : decode cX0_addNamed 70 = .ok (.isub, 1) := by decide +kernel
theorem dX0_addNamed_71 : decode cX0_addNamed 71 = .ok (.iload 4, 2) := by decide +kernel
theorem dX0_addNamed_73 : decode cX0_addNamed 73 = .ok (.isub, 1) := by decide +kernel
theorem dX0_addNamed_74 : decode cX0_addNamed 74 = .ok (.istore 11, 2) := by decide +kernel
theorem dX0_addNamed_76 : decode cX0_addNamed 76 = .ok (.iload 10, 2) := by decide +kernel
theorem dX0_addNamed_78 : decode cX0_addNamed 78 = .ok (.iload 11, 2) := by decide +kernel
theorem dX0_addNamed_80 : decode cX0_addNamed 80 = .ok (.iadd, 1) := by decide +kernel
theorem dX0_addNamed_81 : decode cX0_addNamed 81 = .ok (.iload 9, 2) := by decide +kernel
theorem dX0_addNamed_83 : decode cX0_addNamed 83 = .ok (.invokestatic 66, 3) := by decide +kernel
theorem dX0_addNamed_86 : decode cX0_addNamed 86 = .ok (.lstore 12, 2) := by decide +kernel
theorem dX0_addNamed_88 : decode cX0_addNamed 88 = .ok (.lload 12, 2) := by decide +kernel
theorem dX0_addNamed_90 : decode cX0_addNamed 90 = .ok (.lconst 0, 1) := by decide +kernel
theorem dX0_addNamed_91 : decode cX0_addNamed 91 = .ok (.lcmp, 1) := by decide +kernel
theorem dX0_addNamed_92 : decode cX0_addNamed 92 = .ok (.ifCond .ne 4, 3) := by decide +kernel
theorem dX0_addNamed_95 : decode cX0_addNamed 95 = .ok (.return_, 1) := by decide +kernel
theorem dX0_addNamed_96 : decode cX0_addNamed 96 = .ok (.iconst 0, 1) := by decide +kernel
theorem dX0_addNamed_97 : decode cX0_addNamed 97 = .ok (.istore 14, 2) := by decide +kernel
theorem dX0_addNamed_99 : decode cX0_addNamed 99 = .ok (.iload 14, 2) := by decide +kernel
theorem dX0_addNamed_101 : decode cX0_addNamed 101 = .ok (.iload 9, 2) := by decide +kernel
theorem dX0_addNamed_103 : decode cX0_addNamed 103 = .ok (.if_icmp .gt 69, 3) := by decide +kernel
theorem dX0_addNamed_106 : decode cX0_addNamed 106 = .ok (.iload 10, 2) := by decide +kernel
theorem dX0_addNamed_108 : decode cX0_addNamed 108 = .ok (.iload 14, 2) := by decide +kernel
theorem dX0_addNamed_110 : decode cX0_addNamed 110 = .ok (.invokestatic 66, 3) := by decide +kernel
theorem dX0_addNamed_113 : decode cX0_addNamed 113 = .ok (.iload 11, 2) := by decide +kernel
theorem dX0_addNamed_115 : decode cX0_addNamed 115 = .ok (.iload 9, 2) := by decide +kernel
theorem dX0_addNamed_117 : decode cX0_addNamed 117 = .ok (.iload 14, 2) := by decide +kernel
theorem dX0_addNamed_119 : decode cX0_addNamed 119 = .ok (.isub, 1) := by decide +kernel
theorem dX0_addNamed_120 : decode cX0_addNamed 120 = .ok (.invokestatic 66, 3) := by decide +kernel
theorem dX0_addNamed_123 : decode cX0_addNamed 123 = .ok (.lmul, 1) := by decide +kernel
theorem dX0_addNamed_124 : decode cX0_addNamed 124 = .ok (.lstore 15, 2) := by decide +kernel
theorem dX0_addNamed_126 : decode cX0_addNamed 126 = .ok (.iload_n 1, 1) := by decide +kernel
theorem dX0_addNamed_127 : decode cX0_addNamed 127 = .ok (.iconst 2, 1) := by decide +kernel
theorem dX0_addNamed_128 : decode cX0_addNamed 128 = .ok (.iload_n 2, 1) := by decide +kernel
theorem dX0_addNamed_129 : decode cX0_addNamed 129 = .ok (.iload 8, 2) := by decide +kernel
theorem dX0_addNamed_131 : decode cX0_addNamed 131 = .ok (.isub, 1) := by decide +kernel
theorem dX0_addNamed_132 : decode cX0_addNamed 132 = .ok (.iload 14, 2) := by decide +kernel
theorem dX0_addNamed_134 : decode cX0_addNamed 134 = .ok (.isub, 1) := by decide +kernel
theorem dX0_addNamed_135 : decode cX0_addNamed 135 = .ok (.imul, 1) := by decide +kernel
theorem dX0_addNamed_136 : decode cX0_addNamed 136 = .ok (.isub, 1) := by decide +kernel
theorem dX0_addNamed_137 : decode cX0_addNamed 137 = .ok (.istore 17, 2) := by decide +kernel
theorem dX0_addNamed_139 : decode cX0_addNamed 139 = .ok (.iload 17, 2) := by decide +kernel
theorem dX0_addNamed_141 : decode cX0_addNamed 141 = .ok (.ifCond .lt 25, 3) := by decide +kernel
theorem dX0_addNamed_144 : decode cX0_addNamed 144 = .ok (.iload 17, 2) := by decide +kernel
theorem dX0_addNamed_146 : decode cX0_addNamed 146 = .ok (.aload_n 0, 1) := by decide +kernel
theorem dX0_addNamed_147 : decode cX0_addNamed 147 = .ok (.arraylength, 1) := by decide +kernel
theorem dX0_addNamed_148 : decode cX0_addNamed 148 = .ok (.if_icmp .ge 18, 3) := by decide +kernel
theorem dX0_addNamed_151 : decode cX0_addNamed 151 = .ok (.aload_n 0, 1) := by decide +kernel
theorem dX0_addNamed_152 : decode cX0_addNamed 152 = .ok (.iload 17, 2) := by decide +kernel
theorem dX0_addNamed_154 : decode cX0_addNamed 154 = .ok (.dup2, 1) := by decide +kernel
theorem dX0_addNamed_155 : decode cX0_addNamed 155 = .ok (.laload, 1) := by decide +kernel
theorem dX0_addNamed_156 : decode cX0_addNamed 156 = .ok (.lload 5, 2) := by decide +kernel
theorem dX0_addNamed_158 : decode cX0_addNamed 158 = .ok (.lload 12, 2) := by decide +kernel
theorem dX0_addNamed_160 : decode cX0_addNamed 160 = .ok (.ldiv, 1) := by decide +kernel
theorem dX0_addNamed_161 : decode cX0_addNamed 161 = .ok (.lload 15, 2) := by decide +kernel
theorem dX0_addNamed_163 : decode cX0_addNamed 163 = .ok (.lmul, 1) := by decide +kernel
theorem dX0_addNamed_164 : decode cX0_addNamed 164 = .ok (.ladd, 1) := by decide +kernel
theorem dX0_addNamed_165 : decode cX0_addNamed 165 = .ok (.lastore, 1) := by decide +kernel
theorem dX0_addNamed_166 : decode cX0_addNamed 166 = .ok (.iinc 14 1, 3) := by decide +kernel
theorem dX0_addNamed_169 : decode cX0_addNamed 169 = .ok (.goto (-70), 3) := by decide +kernel
theorem dX0_addNamed_172 : decode cX0_addNamed 172 = .ok (.return_, 1) := by decide +kernel
theorem dX0_just_0 : decode cX0_just 0 = .ok (.iload_n 1, 1) := by decide +kernel
theorem dX0_just_1 : decode cX0_just 1 = .ok (.ifCond .lt 21, 3) := by decide +kernel
theorem dX0_just_4 : decode cX0_just 4 = .ok (.iload_n 1, 1) := by decide +kernel
theorem dX0_just_5 : decode cX0_just 5 = .ok (.aload_n 0, 1) := by decide +kernel
theorem dX0_just_6 : decode cX0_just 6 = .ok (.getfield 9, 3) := by decide +kernel
theorem dX0_just_9 : decode cX0_just 9 = .ok (.arraylength, 1) := by decide +kernel
theorem dX0_just_10 : decode cX0_just 10 = .ok (.if_icmp .ge 12, 3) := by decide +kernel
theorem dX0_just_13 : decode cX0_just 13 = .ok (.aload_n 0, 1) := by decide +kernel
theorem dX0_just_14 : decode cX0_just 14 = .ok (.getfield 9, 3) := by decide +kernel
theorem dX0_just_17 : decode cX0_just 17 = .ok (.iload_n 1, 1) := by decide +kernel
theorem dX0_just_18 : decode cX0_just 18 = .ok (.laload, 1) := by decide +kernel
theorem dX0_just_19 : decode cX0_just 19 = .ok (.goto 4, 3) := by decide +kernel
theorem dX0_just_22 : decode cX0_just 22 = .ok (.lconst 0, 1) := by decide +kernel
theorem dX0_just_23 : decode cX0_just 23 = .ok (.lreturn, 1) := by decide +kernel
theorem dX0_all_0 : decode cX0_all 0 = .ok (.aload_n 0, 1) := by decide +kernel
theorem dX0_all_1 : decode cX0_all 1 = .ok (.getfield 21, 3) := by decide +kernel
theorem dX0_all_4 : decode cX0_all 4 = .ok (.lreturn, 1) := by decide +kernel
theorem dX0_orMore_0 : decode cX0_orMore 0 = .ok (.lconst 0, 1) := by decide +kernel
theorem dX0_orMore_1 : decode cX0_orMore 1 = .ok (.lstore_n 2, 1) := by decide +kernel
theorem dX0_orMore_2 : decode cX0_orMore 2 = .ok (.iload_n 1, 1) := by decide +kernel
theorem dX0_orMore_3 : decode cX0_orMore 3 = .ok (.iconst 0, 1) := by decide +kernel
theorem dX0_orMore_4 : decode cX0_orMore 4 = .ok (.invokestatic 97, 3) := by decide +kernel
theorem dX0_orMore_7 : decode cX0_orMore 7 = .ok (.istore 4, 2) := by decide +kernel
theorem dX0_orMore_9 : decode cX0_orMore 9 = .ok (.iload 4, 2) := by decide +kernel
theorem dX0_orMore_11 : decode cX0_orMore 11 = .ok (.aload_n 0, 1) := by decide +kernel
theorem dX0_orMore_12 : decode cX0_orMore 12 = .ok (.getfield 9, 3) := by decide +kernel
theorem dX0_orMore_15 : decode cX0_orMore 15 = .ok (.arraylength, 1) := by decide +kernel
theorem dX0_orMore_16 : decode cX0_orMore 16 = .ok (.if_icmp .ge 19, 3) := by decide +kernel
theorem dX0_orMore_19 : decode cX0_orMore 19 = .ok (.lload_n 2, 1) := by decide +kernel
theorem dX0_orMore_20 : decode cX0_orMore 20 = .ok (.aload_n 0, 1) := by decide +kernel
theorem dX0_orMore_21 : decode cX0_orMore 21 = .ok (.getfield 9, 3) := by decide +kernel
theorem dX0_orMore_24 : decode cX0_orMore 24 = .ok (.iload 4, 2) := by decide +kernel
theorem dX0_orMore_26 : decode cX0_orMore 26 = .ok (.laload, 1) := by decide +kernel
theorem dX0_orMore_27 : decode cX0_orMore 27 = .ok (.ladd, 1) := by decide +kernel
theorem dX0_orMore_28 : decode cX0_orMore 28 = .ok (.lstore_n 2, 1) := by decide +kernel
theorem dX0_orMore_29 : decode cX0_orMore 29 = .ok (.iinc 4 1, 3) := by decide +kernel
theorem dX0_orMore_32 : decode cX0_orMore 32 = .ok (.goto (-23), 3) := by decide +kernel
theorem dX0_orMore_35 : decode cX0_orMore 35 = .ok (.lload_n 2, 1) := by decide +kernel
theorem dX0_orMore_36 : decode cX0_orMore 36 = .ok (.lreturn, 1) := by decide +kernel
theorem dX0_together_0 : decode cX0_together 0 = .ok (.lconst 0, 1) := by decide +kernel
theorem dX0_together_1 : decode cX0_together 1 = .ok (.lstore_n 1, 1) := by decide +kernel
theorem dX0_together_2 : decode cX0_together 2 = .ok (.iconst 0, 1) := by decide +kernel
theorem dX0_together_3 : decode cX0_together 3 = .ok (.istore_n 3, 1) := by decide +kernel
theorem dX0_together_4 : decode cX0_together 4 = .ok (.iload_n 3, 1) := by decide +kernel
theorem dX0_together_5 : decode cX0_together 5 = .ok (.aload_n 0, 1) := by decide +kernel
theorem dX0_together_6 : decode cX0_together 6 = .ok (.getfield 9, 3) := by decide +kernel
theorem dX0_together_9 : decode cX0_together 9 = .ok (.arraylength, 1) := by decide +kernel
theorem dX0_together_10 : decode cX0_together 10 = .ok (.if_icmp .ge 21, 3) := by decide +kernel
theorem dX0_together_13 : decode cX0_together 13 = .ok (.lload_n 1, 1) := by decide +kernel
theorem dX0_together_14 : decode cX0_together 14 = .ok (.iload_n 3, 1) := by decide +kernel
theorem dX0_together_15 : decode cX0_together 15 = .ok (.i2l, 1) := by decide +kernel
theorem dX0_together_16 : decode cX0_together 16 = .ok (.aload_n 0, 1) := by decide +kernel
theorem dX0_together_17 : decode cX0_together 17 = .ok (.getfield 9, 3) := by decide +kernel
theorem dX0_together_20 : decode cX0_together 20 = .ok (.iload_n 3, 1) := by decide +kernel
theorem dX0_together_21 : decode cX0_together 21 = .ok (.laload, 1) := by decide +kernel
theorem dX0_together_22 : decode cX0_together 22 = .ok (.lmul, 1) := by decide +kernel
theorem dX0_together_23 : decode cX0_together 23 = .ok (.ladd, 1) := by decide +kernel
theorem dX0_together_24 : decode cX0_together 24 = .ok (.lstore_n 1, 1) := by decide +kernel
theorem dX0_together_25 : decode cX0_together 25 = .ok (.iinc 3 1, 3) := by decide +kernel
theorem dX0_together_28 : decode cX0_together 28 = .ok (.goto (-24), 3) := by decide +kernel
theorem dX0_together_31 : decode cX0_together 31 = .ok (.lload_n 1, 1) := by decide +kernel
theorem dX0_together_32 : decode cX0_together 32 = .ok (.lreturn, 1) := by decide +kernel
set_option maxRecDepth 20000 in
theorem ggX0_lineFor_X0_orMore : GoodIn wsX0_lineFor wsX0_orMore := goodIn_r _ [7, 8, 9, 10, 11, 12, 28, 29, 30, 31, 32] (by decide +kernel) (by decide +kernel)
set_option maxRecDepth 20000 in
theorem gX0_lineFor_X0_orMore : GoodIn wsX0_lineFor (wsV RX0 100 RX0 yX0_orMore wsX0_orMore) := goodIn_app (goodIn_of _ (by decide +kernel)) ggX0_lineFor_X0_orMore
set_option maxRecDepth 20000 in
theorem ggX0_lineFor_X2_against : GoodIn wsX0_lineFor wsX2_against := goodIn_r _ [16, 17, 18, 19, 15, 20, 21, 22, 10, 23, 24, 25, 26, 27] (by decide +kernel) (by decide +kernel)
set_option maxRecDepth 20000 in
theorem gX0_lineFor_X2_against : GoodIn wsX0_lineFor (va_wsS RX0 103 yX2_against wsX2_against) := goodIn_app (goodIn_of _ (by decide +kernel)) ggX0_lineFor_X2_against
theorem dX0_lineFor_0 : decode cX0_lineFor 0 = .ok (.aload_n 0, 1) := by decide +kernel
theorem dX0_lineFor_1 : decode cX0_lineFor 1 = .ok (.getfield 25, 3) := by decide +kernel
theorem dX0_lineFor_4 : decode cX0_lineFor 4 = .ok (.iconst 1, 1) := by decide +kernel
theorem dX0_lineFor_5 : decode cX0_lineFor 5 = .ok (.iadd, 1) := by decide +kernel
theorem dX0_lineFor_6 : decode cX0_lineFor 6 = .ok (.istore_n 2, 1) := by decide +kernel
theorem dX0_lineFor_7 : decode cX0_lineFor 7 = .ok (.aload_n 0, 1) := by decide +kernel
theorem dX0_lineFor_8 : decode cX0_lineFor 8 = .ok (.getfield 25, 3) := by decide +kernel
theorem dX0_lineFor_11 : decode cX0_lineFor 11 = .ok (.istore_n 3, 1) := by decide +kernel
theorem dX0_lineFor_12 : decode cX0_lineFor 12 = .ok (.iload_n 3, 1) := by decide +kernel
theorem dX0_lineFor_13 : decode cX0_lineFor 13 = .ok (.ifCond .lt 29, 3) := by decide +kernel
theorem dX0_lineFor_16 : decode cX0_lineFor 16 = .ok (.aload_n 0, 1) := by decide +kernel
theorem dX0_lineFor_17 : decode cX0_lineFor 17 = .ok (.iload_n 3, 1) := by decide +kernel
theorem dX0_lineFor_18 : decode cX0_lineFor 18 = .ok (.invokevirtual 100, 3) := by decide +kernel
theorem dX0_lineFor_21 : decode cX0_lineFor 21 = .ok (.aload_n 0, 1) := by decide +kernel
theorem dX0_lineFor_22 : decode cX0_lineFor 22 = .ok (.getfield 21, 3) := by decide +kernel
theorem dX0_lineFor_25 : decode cX0_lineFor 25 = .ok (.iload_n 1, 1) := by decide +kernel
theorem dX0_lineFor_26 : decode cX0_lineFor 26 = .ok (.invokestatic 103, 3) := by decide +kernel
theorem dX0_lineFor_29 : decode cX0_lineFor 29 = .ok (.ifCond .le 5, 3) := by decide +kernel
theorem dX0_lineFor_32 : decode cX0_lineFor 32 = .ok (.iload_n 2, 1) := by decide +kernel
theorem dX0_lineFor_33 : decode cX0_lineFor 33 = .ok (.ireturn, 1) := by decide +kernel
theorem dX0_lineFor_34 : decode cX0_lineFor 34 = .ok (.iload_n 3, 1) := by decide +kernel
theorem dX0_lineFor_35 : decode cX0_lineFor 35 = .ok (.istore_n 2, 1) := by decide +kernel
theorem dX0_lineFor_36 : decode cX0_lineFor 36 = .ok (.iinc 3 (-1), 3) := by decide +kernel
theorem dX0_lineFor_39 : decode cX0_lineFor 39 = .ok (.goto (-27), 3) := by decide +kernel
theorem dX0_lineFor_42 : decode cX0_lineFor 42 = .ok (.iload_n 2, 1) := by decide +kernel
theorem dX0_lineFor_43 : decode cX0_lineFor 43 = .ok (.ireturn, 1) := by decide +kernel
theorem dX1_init_0 : decode cX1_init 0 = .ok (.aload_n 0, 1) := by decide +kernel
theorem dX1_init_1 : decode cX1_init 1 = .ok (.invokespecial 3, 3) := by decide +kernel
theorem dX1_init_4 : decode cX1_init 4 = .ok (.aload_n 0, 1) := by decide +kernel
theorem dX1_init_5 : decode cX1_init 5 = .ok (.bipush 25, 2) := by decide +kernel
theorem dX1_init_7 : decode cX1_init 7 = .ok (.newarray .long, 2) := by decide +kernel
theorem dX1_init_9 : decode cX1_init 9 = .ok (.putfield 9, 3) := by decide +kernel
theorem dX1_init_12 : decode cX1_init 12 = .ok (.aload_n 0, 1) := by decide +kernel
theorem dX1_init_13 : decode cX1_init 13 = .ok (.bipush 25, 2) := by decide +kernel
theorem dX1_init_15 : decode cX1_init 15 = .ok (.newarray .long, 2) := by decide +kernel
theorem dX1_init_17 : decode cX1_init 17 = .ok (.putfield 15, 3) := by decide +kernel
theorem dX1_init_20 : decode cX1_init 20 = .ok (.return_, 1) := by decide +kernel
set_option maxRecDepth 20000 in
theorem ggX1_stops_J7_fill_d0a16 : GoodIn wsX1_stops wsJ7_fill_d0a16 := goodIn_r _ [6] (by decide +kernel) (by decide +kernel)
set_option maxRecDepth 20000 in
theorem gX1_stops_J7_fill_d0a16 : GoodIn wsX1_stops (va_wsS RX1 18 yJ7_fill_d0a16 wsJ7_fill_d0a16) := goodIn_app (goodIn_of _ (by decide +kernel)) ggX1_stops_J7_fill_d0a16
set_option maxRecDepth 20000 in
theorem ggX1_stops_X1_taste : GoodIn wsX1_stops wsX1_taste := goodIn_r _ [11, 12, 1, 13, 14, 15, 16, 17, 18, 19, 20, 3, 4, 5, 6, 28, 29] (by decide +kernel) (by decide +kernel)
set_option maxRecDepth 20000 in
theorem gX1_stops_X1_taste : GoodIn wsX1_stops (wsV RX1 24 RX1 yX1_taste wsX1_taste) := goodIn_app (goodIn_of _ (by decide +kernel)) ggX1_stops_X1_taste
set_option maxRecDepth 20000 in
theorem ggX1_stops_X1_stopFrom : GoodIn wsX1_stops wsX1_stopFrom := goodIn_r _ [24, 25, 26, 15, 27, 1, 28, 29] (by decide +kernel) (by decide +kernel)
set_option maxRecDepth 20000 in
theorem gX1_stops_X1_stopFrom : GoodIn wsX1_stops (wsV RX1 30 RX1 yX1_stopFrom wsX1_stopFrom) := goodIn_app (goodIn_of _ (by decide +kernel)) ggX1_stops_X1_stopFrom
theorem dX1_stops_0 : decode cX1_stops 0 = .ok (.aload_n 0, 1) := by decide +kernel
theorem dX1_stops_1 : decode cX1_stops 1 = .ok (.getfield 9, 3) := by decide +kernel
theorem dX1_stops_4 : decode cX1_stops 4 = .ok (.lconst 0, 1) := by decide +kernel
theorem dX1_stops_5 : decode cX1_stops 5 = .ok (.invokestatic 18, 3) := by decide +kernel
theorem dX1_stops_8 : decode cX1_stops 8 = .ok (.bipush 12, 2) := by decide +kernel
theorem dX1_stops_10 : decode cX1_stops 10 = .ok (.aload_n 0, 1) := by decide +kernel
theorem dX1_stops_11 : decode cX1_stops 11 = .ok (.getfield 9, 3) := by decide +kernel
theorem dX1_stops_14 : decode cX1_stops 14 = .ok (.arraylength, 1) := by decide +kernel
theorem dX1_stops_15 : decode cX1_stops 15 = .ok (.if_icmp .ge 11, 3) := by decide +kernel
theorem dX1_stops_18 : decode cX1_stops 18 = .ok (.aload_n 0, 1) := by decide +kernel
theorem dX1_stops_19 : decode cX1_stops 19 = .ok (.getfield 9, 3) := by decide +kernel
theorem dX1_stops_22 : decode cX1_stops 22 = .ok (.bipush 12, 2) := by decide +kernel
theorem dX1_stops_24 : decode cX1_stops 24 = .ok (.lconst 1, 1) := by decide +kernel
theorem dX1_stops_25 : decode cX1_stops 25 = .ok (.lastore, 1) := by decide +kernel
theorem dX1_stops_26 : decode cX1_stops 26 = .ok (.lconst 0, 1) := by decide +kernel
theorem dX1_stops_27 : decode cX1_stops 27 = .ok (.lstore 5, 2) := by decide +kernel
theorem dX1_stops_29 : decode cX1_stops 29 = .ok (.iconst 0, 1) := by decide +kernel
theorem dX1_stops_30 : decode cX1_stops 30 = .ok (.istore 7, 2) := by decide +kernel
theorem dX1_stops_32 : decode cX1_stops 32 = .ok (.iload 7, 2) := by decide +kernel
theorem dX1_stops_34 : decode cX1_stops 34 = .ok (.iload_n 1, 1) := by decide +kernel
theorem dX1_stops_35 : decode cX1_stops 35 = .ok (.if_icmp .ge 50, 3) := by decide +kernel
theorem dX1_stops_38 : decode cX1_stops 38 = .ok (.iload 7, 2) := by decide +kernel
theorem dX1_stops_40 : decode cX1_stops 40 = .ok (.bipush 12, 2) := by decide +kernel
theorem dX1_stops_42 : decode cX1_stops 42 = .ok (.if_icmp .ge 43, 3) := by decide +kernel
theorem dX1_stops_45 : decode cX1_stops 45 = .ok (.aload_n 0, 1) := by decide +kernel
theorem dX1_stops_46 : decode cX1_stops 46 = .ok (.iload 4, 2) := by decide +kernel
theorem dX1_stops_48 : decode cX1_stops 48 = .ok (.invokevirtual 24, 3) := by decide +kernel
theorem dX1_stops_51 : decode cX1_stops 51 = .ok (.lload 5, 2) := by decide +kernel
theorem dX1_stops_53 : decode cX1_stops 53 = .ok (.ldc2_w 28, 3) := by decide +kernel
theorem dX1_stops_56 : decode cX1_stops 56 = .ok (.lmul, 1) := by decide +kernel
theorem dX1_stops_57 : decode cX1_stops 57 = .ok (.lstore 5, 2) := by decide +kernel
theorem dX1_stops_59 : decode cX1_stops 59 = .ok (.iload_n 2, 1) := by decide +kernel
theorem dX1_stops_60 : decode cX1_stops 60 = .ok (.iload 7, 2) := by decide +kernel
theorem dX1_stops_62 : decode cX1_stops 62 = .ok (.ishr, 1) := by decide +kernel
theorem dX1_stops_63 : decode cX1_stops 63 = .ok (.iconst 1, 1) := by decide +kernel
theorem dX1_stops_64 : decode cX1_stops 64 = .ok (.iand, 1) := by decide +kernel
theorem dX1_stops_65 : decode cX1_stops 65 = .ok (.iconst 1, 1) := by decide +kernel
theorem dX1_stops_66 : decode cX1_stops 66 = .ok (.if_icmp .ne 13, 3) := by decide +kernel
theorem dX1_stops_69 : decode cX1_stops 69 = .ok (.lload 5, 2) := by decide +kernel
theorem dX1_stops_71 : decode cX1_stops 71 = .ok (.aload_n 0, 1) := by decide +kernel
theorem dX1_stops_72 : decode cX1_stops 72 = .ok (.iload_n 3, 1) := by decide +kernel
theorem dX1_stops_73 : decode cX1_stops 73 = .ok (.invokevirtual 30, 3) := by decide +kernel
theorem dX1_stops_76 : decode cX1_stops 76 = .ok (.ladd, 1) := by decide +kernel
theorem dX1_stops_77 : decode cX1_stops 77 = .ok (.lstore 5, 2) := by decide +kernel
theorem dX1_stops_79 : decode cX1_stops 79 = .ok (.iinc 7 1, 3) := by decide +kernel
theorem dX1_stops_82 : decode cX1_stops 82 = .ok (.goto (-50), 3) := by decide +kernel
theorem dX1_stops_85 : decode cX1_stops 85 = .ok (.lload 5, 2) := by decide +kernel
theorem dX1_stops_87 : decode cX1_stops 87 = .ok (.lreturn, 1) := by decide +kernel
set_option maxRecDepth 20000 in
theorem ggX1_taste_J7_fill_d0a16 : GoodIn wsX1_taste wsJ7_fill_d0a16 := goodIn_r _ [14] (by decide +kernel) (by decide +kernel)
set_option maxRecDepth 20000 in
theorem gX1_taste_J7_fill_d0a16 : GoodIn wsX1_taste (va_wsS RX1 18 yJ7_fill_d0a16 wsJ7_fill_d0a16) := goodIn_app (goodIn_of _ (by decide +kernel)) ggX1_taste_J7_fill_d0a16
theorem dX1_taste_0 : decode cX1_taste 0 = .ok (.aload_n 0, 1) := by decide +kernel
theorem dX1_taste_1 : decode cX1_taste 1 = .ok (.getfield 15, 3) := by decide +kernel
theorem dX1_taste_4 : decode cX1_taste 4 = .ok (.lconst 0, 1) := by decide +kernel
theorem dX1_taste_5 : decode cX1_taste 5 = .ok (.invokestatic 18, 3) := by decide +kernel
theorem dX1_taste_8 : decode cX1_taste 8 = .ok (.iconst 0, 1) := by decide +kernel
theorem dX1_taste_9 : decode cX1_taste 9 = .ok (.istore_n 2, 1) := by decide +kernel
theorem dX1_taste_10 : decode cX1_taste 10 = .ok (.iload_n 2, 1) := by decide +kernel
theorem dX1_taste_11 : decode cX1_taste 11 = .ok (.aload_n 0, 1) := by decide +kernel
theorem dX1_taste_12 : decode cX1_taste 12 = .ok (.getfield 9, 3) := by decide +kernel
theorem dX1_taste_15 : decode cX1_taste 15 = .ok (.arraylength, 1) := by decide +kernel
theorem dX1_taste_16 : decode cX1_taste 16 = .ok (.if_icmp .ge 78, 3) := by decide +kernel
theorem dX1_taste_19 : decode cX1_taste 19 = .ok (.iload_n 2, 1) := by decide +kernel
theorem dX1_taste_20 : decode cX1_taste 20 = .ok (.iconst 1, 1) := by decide +kernel
theorem dX1_taste_21 : decode cX1_taste 21 = .ok (.iadd, 1) := by decide +kernel
theorem dX1_taste_22 : decode cX1_taste 22 = .ok (.aload_n 0, 1) := by decide +kernel
theorem dX1_taste_23 : decode cX1_taste 23 = .ok (.getfield 15, 3) := by decide +kernel
theorem dX1_taste_26 : decode cX1_taste 26 = .ok (.arraylength, 1) := by decide +kernel
theorem dX1_taste_27 : decode cX1_taste 27 = .ok (.if_icmp .ge 23, 3) := by decide +kernel
theorem dX1_taste_30 : decode cX1_taste 30 = .ok (.aload_n 0, 1) := by decide +kernel
theorem dX1_taste_31 : decode cX1_taste 31 = .ok (.getfield 15, 3) := by decide +kernel
theorem dX1_taste_34 : decode cX1_taste 34 = .ok (.iload_n 2, 1) := by decide +kernel
theorem dX1_taste_35 : decode cX1_taste 35 = .ok (.iconst 1, 1) := by decide +kernel
theorem dX1_taste_36 : decode cX1_taste 36 = .ok (.iadd, 1) := by decide +kernel
theorem dX1_taste_37 : decode cX1_taste 37 = .ok (.dup2, 1) := by decide +kernel
theorem dX1_taste_38 : decode cX1_taste 38 = .ok (.laload, 1) := by decide +kernel
theorem dX1_taste_39 : decode cX1_taste 39 = .ok (.aload_n 0, 1) := by decide +kernel
theorem dX1_taste_40 : decode cX1_taste 40 = .ok (.getfield 9, 3) := by decide +kernel
theorem dX1_taste_43 : decode cX1_taste 43 = .ok (.iload_n 2, 1) := by decide +kernel
theorem dX1_taste_44 : decode cX1_taste 44 = .ok (.laload, 1) := by decide +kernel
theorem dX1_taste_45 : decode cX1_taste 45 = .ok (.iload_n 1, 1) := by decide +kernel
theorem dX1_taste_46 : decode cX1_taste 46 = .ok (.i2l, 1) := by decide +kernel
theorem dX1_taste_47 : decode cX1_taste 47 = .ok (.lmul, 1) := by decide +kernel
theorem dX1_taste_48 : decode cX1_taste 48 = .ok (.ladd, 1) := by decide +kernel
theorem dX1_taste_49 : decode cX1_taste 49 = .ok (.lastore, 1) := by decide +kernel
theorem dX1_taste_50 : decode cX1_taste 50 = .ok (.iload_n 2, 1) := by decide +kernel
theorem dX1_taste_51 : decode cX1_taste 51 = .ok (.ifCond .le 37, 3) := by decide +kernel
theorem dX1_taste_54 : decode cX1_taste 54 = .ok (.iload_n 2, 1) := by decide +kernel
theorem dX1_taste_55 : decode cX1_taste 55 = .ok (.iconst 1, 1) := by decide +kernel
theorem dX1_taste_56 : decode cX1_taste 56 = .ok (.isub, 1) := by decide +kernel
theorem dX1_taste_57 : decode cX1_taste 57 = .ok (.aload_n 0, 1) := by decide +kernel
theorem dX1_taste_58 : decode cX1_taste 58 = .ok (.getfield 15, 3) := by decide +kernel
theorem dX1_taste_61 : decode cX1_taste 61 = .ok (.arraylength, 1) := by decide +kernel
theorem dX1_taste_62 : decode cX1_taste 62 = .ok (.if_icmp .ge 26, 3) := by decide +kernel
theorem dX1_taste_65 : decode cX1_taste 65 = .ok (.aload_n 0, 1) := by decide +kernel
theorem dX1_taste_66 : decode cX1_taste 66 = .ok (.getfield 15, 3) := by decide +kernel
theorem dX1_taste_69 : decode cX1_taste 69 = .ok (.iload_n 2, 1) := by decide +kernel
theorem dX1_taste_70 : decode cX1_taste 70 = .ok (.iconst 1, 1) := by decide +kernel
theorem dX1_taste_71 : decode cX1_taste 71 = .ok (.isub, 1) := by decide +kernel
theorem dX1_taste_72 : decode cX1_taste 72 = .ok (.dup2, 1) := by decide +kernel
theorem dX1_taste_73 : decode cX1_taste 73 = .ok (.laload, 1) := by decide +kernel
theorem dX1_taste_74 : decode cX1_taste 74 = .ok (.aload_n 0, 1) := by decide +kernel
theorem dX1_taste_75 : decode cX1_taste 75 = .ok (.getfield 9, 3) := by decide +kernel
theorem dX1_taste_78 : decode cX1_taste 78 = .ok (.iload_n 2, 1) := by decide +kernel
theorem dX1_taste_79 : decode cX1_taste 79 = .ok (.laload, 1) := by decide +kernel
theorem dX1_taste_80 : decode cX1_taste 80 = .ok (.bipush 10, 2) := by decide +kernel
theorem dX1_taste_82 : decode cX1_taste 82 = .ok (.iload_n 1, 1) := by decide +kernel
theorem dX1_taste_83 : decode cX1_taste 83 = .ok (.isub, 1) := by decide +kernel
theorem dX1_taste_84 : decode cX1_taste 84 = .ok (.i2l, 1) := by decide +kernel
theorem dX1_taste_85 : decode cX1_taste 85 = .ok (.lmul, 1) := by decide +kernel
theorem dX1_taste_86 : decode cX1_taste 86 = .ok (.ladd, 1) := by decide +kernel
theorem dX1_taste_87 : decode cX1_taste 87 = .ok (.lastore, 1) := by decide +kernel
theorem dX1_taste_88 : decode cX1_taste 88 = .ok (.iinc 2 1, 3) := by decide +kernel
theorem dX1_taste_91 : decode cX1_taste 91 = .ok (.goto (-81), 3) := by decide +kernel
theorem dX1_taste_94 : decode cX1_taste 94 = .ok (.aload_n 0, 1) := by decide +kernel
theorem dX1_taste_95 : decode cX1_taste 95 = .ok (.getfield 15, 3) := by decide +kernel
theorem dX1_taste_98 : decode cX1_taste 98 = .ok (.iconst 0, 1) := by decide +kernel
theorem dX1_taste_99 : decode cX1_taste 99 = .ok (.aload_n 0, 1) := by decide +kernel
theorem dX1_taste_100 : decode cX1_taste 100 = .ok (.getfield 9, 3) := by decide +kernel
theorem dX1_taste_103 : decode cX1_taste 103 = .ok (.iconst 0, 1) := by decide +kernel
theorem dX1_taste_104 : decode cX1_taste 104 = .ok (.aload_n 0, 1) := by decide +kernel
theorem dX1_taste_105 : decode cX1_taste 105 = .ok (.getfield 15, 3) := by decide +kernel
theorem dX1_taste_108 : decode cX1_taste 108 = .ok (.arraylength, 1) := by decide +kernel
theorem dX1_taste_109 : decode cX1_taste 109 = .ok (.aload_n 0, 1) := by decide +kernel
theorem dX1_taste_110 : decode cX1_taste 110 = .ok (.getfield 9, 3) := by decide +kernel
theorem dX1_taste_113 : decode cX1_taste 113 = .ok (.arraylength, 1) := by decide +kernel
theorem dX1_taste_114 : decode cX1_taste 114 = .ok (.invokestatic 34, 3) := by decide +kernel
theorem dX1_taste_117 : decode cX1_taste 117 = .ok (.invokestatic 40, 3) := by decide +kernel
theorem dX1_taste_120 : decode cX1_taste 120 = .ok (.return_, 1) := by decide +kernel
theorem dX1_stopFrom_0 : decode cX1_stopFrom 0 = .ok (.lconst 0, 1) := by decide +kernel
theorem dX1_stopFrom_1 : decode cX1_stopFrom 1 = .ok (.lstore_n 2, 1) := by decide +kernel
theorem dX1_stopFrom_2 : decode cX1_stopFrom 2 = .ok (.bipush 12, 2) := by decide +kernel
theorem dX1_stopFrom_4 : decode cX1_stopFrom 4 = .ok (.iload_n 1, 1) := by decide +kernel
theorem dX1_stopFrom_5 : decode cX1_stopFrom 5 = .ok (.iadd, 1) := by decide +kernel
theorem dX1_stopFrom_6 : decode cX1_stopFrom 6 = .ok (.iconst 0, 1) := by decide +kernel
theorem dX1_stopFrom_7 : decode cX1_stopFrom 7 = .ok (.invokestatic 46, 3) := by decide +kernel
theorem dX1_stopFrom_10 : decode cX1_stopFrom 10 = .ok (.istore 4, 2) := by decide +kernel
theorem dX1_stopFrom_12 : decode cX1_stopFrom 12 = .ok (.iload 4, 2) := by decide +kernel
theorem dX1_stopFrom_14 : decode cX1_stopFrom 14 = .ok (.aload_n 0, 1) := by decide +kernel
theorem dX1_stopFrom_15 : decode cX1_stopFrom 15 = .ok (.getfield 9, 3) := by decide +kernel
theorem dX1_stopFrom_18 : decode cX1_stopFrom 18 = .ok (.arraylength, 1) := by decide +kernel
theorem dX1_stopFrom_19 : decode cX1_stopFrom 19 = .ok (.if_icmp .ge 27, 3) := by decide +kernel
theorem dX1_stopFrom_22 : decode cX1_stopFrom 22 = .ok (.lload_n 2, 1) := by decide +kernel
theorem dX1_stopFrom_23 : decode cX1_stopFrom 23 = .ok (.aload_n 0, 1) := by decide +kernel
theorem dX1_stopFrom_24 : decode cX1_stopFrom 24 = .ok (.getfield 9, 3) := by decide +kernel
theorem dX1_stopFrom_27 : decode cX1_stopFrom 27 = .ok (.iload 4, 2) := by decide +kernel
theorem dX1_stopFrom_29 : decode cX1_stopFrom 29 = .ok (.laload, 1) := by decide +kernel
theorem dX1_stopFrom_30 : decode cX1_stopFrom 30 = .ok (.ladd, 1) := by decide +kernel
theorem dX1_stopFrom_31 : decode cX1_stopFrom 31 = .ok (.lstore_n 2, 1) := by decide +kernel
theorem dX1_stopFrom_32 : decode cX1_stopFrom 32 = .ok (.aload_n 0, 1) := by decide +kernel
theorem dX1_stopFrom_33 : decode cX1_stopFrom 33 = .ok (.getfield 9, 3) := by decide +kernel
theorem dX1_stopFrom_36 : decode cX1_stopFrom 36 = .ok (.iload 4, 2) := by decide +kernel
theorem dX1_stopFrom_38 : decode cX1_stopFrom 38 = .ok (.lconst 0, 1) := by decide +kernel
theorem dX1_stopFrom_39 : decode cX1_stopFrom 39 = .ok (.lastore, 1) := by decide +kernel
theorem dX1_stopFrom_40 : decode cX1_stopFrom 40 = .ok (.iinc 4 1, 3) := by decide +kernel
theorem dX1_stopFrom_43 : decode cX1_stopFrom 43 = .ok (.goto (-31), 3) := by decide +kernel
theorem dX1_stopFrom_46 : decode cX1_stopFrom 46 = .ok (.lload_n 2, 1) := by decide +kernel
theorem dX1_stopFrom_47 : decode cX1_stopFrom 47 = .ok (.lreturn, 1) := by decide +kernel
theorem dX2_ways_0 : decode cX2_ways 0 = .ok (.iload_n 0, 1) := by decide +kernel
theorem dX2_ways_1 : decode cX2_ways 1 = .ok (.ifCond .lt 18, 3) := by decide +kernel
theorem dX2_ways_4 : decode cX2_ways 4 = .ok (.iload_n 0, 1) := by decide +kernel
theorem dX2_ways_5 : decode cX2_ways 5 = .ok (.bipush 12, 2) := by decide +kernel
theorem dX2_ways_7 : decode cX2_ways 7 = .ok (.if_icmp .gt 12, 3) := by decide +kernel
theorem dX2_ways_10 : decode cX2_ways 10 = .ok (.iload_n 1, 1) := by decide +kernel
theorem dX2_ways_11 : decode cX2_ways 11 = .ok (.ifCond .lt 8, 3) := by decide +kernel
theorem dX2_ways_14 : decode cX2_ways 14 = .ok (.iload_n 1, 1) := by decide +kernel
theorem dX2_ways_15 : decode cX2_ways 15 = .ok (.iload_n 0, 1) := by decide +kernel
theorem dX2_ways_16 : decode cX2_ways 16 = .ok (.if_icmp .le 5, 3) := by decide +kernel
theorem dX2_ways_19 : decode cX2_ways 19 = .ok (.lconst 0, 1) := by decide +kernel
theorem dX2_ways_20 : decode cX2_ways 20 = .ok (.lreturn, 1) := by decide +kernel
theorem dX2_ways_21 : decode cX2_ways 21 = .ok (.iload_n 0, 1) := by decide +kernel
theorem dX2_ways_22 : decode cX2_ways 22 = .ok (.iload_n 0, 1) := by decide +kernel
theorem dX2_ways_23 : decode cX2_ways 23 = .ok (.iconst 1, 1) := by decide +kernel
theorem dX2_ways_24 : decode cX2_ways 24 = .ok (.iadd, 1) := by decide +kernel
theorem dX2_ways_25 : decode cX2_ways 25 = .ok (.imul, 1) := by decide +kernel
theorem dX2_ways_26 : decode cX2_ways 26 = .ok (.iconst 2, 1) := by decide +kernel
theorem dX2_ways_27 : decode cX2_ways 27 = .ok (.idiv, 1) := by decide +kernel
theorem dX2_ways_28 : decode cX2_ways 28 = .ok (.iload_n 1, 1) := by decide +kernel
theorem dX2_ways_29 : decode cX2_ways 29 = .ok (.iadd, 1) := by decide +kernel
theorem dX2_ways_30 : decode cX2_ways 30 = .ok (.istore_n 2, 1) := by decide +kernel
theorem dX2_ways_31 : decode cX2_ways 31 = .ok (.iload_n 2, 1) := by decide +kernel
theorem dX2_ways_32 : decode cX2_ways 32 = .ok (.ifCond .lt 20, 3) := by decide +kernel
theorem dX2_ways_35 : decode cX2_ways 35 = .ok (.iload_n 2, 1) := by decide +kernel
theorem dX2_ways_36 : decode cX2_ways 36 = .ok (.getstatic 9, 3) := by decide +kernel
theorem dX2_ways_39 : decode cX2_ways 39 = .ok (.arraylength, 1) := by decide +kernel
theorem dX2_ways_40 : decode cX2_ways 40 = .ok (.if_icmp .ge 12, 3) := by decide +kernel
theorem dX2_ways_43 : decode cX2_ways 43 = .ok (.getstatic 9, 3) := by decide +kernel
theorem dX2_ways_46 : decode cX2_ways 46 = .ok (.iload_n 2, 1) := by decide +kernel
theorem dX2_ways_47 : decode cX2_ways 47 = .ok (.iaload, 1) := by decide +kernel
theorem dX2_ways_48 : decode cX2_ways 48 = .ok (.i2l, 1) := by decide +kernel
theorem dX2_ways_49 : decode cX2_ways 49 = .ok (.goto 4, 3) := by decide +kernel
theorem dX2_ways_52 : decode cX2_ways 52 = .ok (.lconst 0, 1) := by decide +kernel
theorem dX2_ways_53 : decode cX2_ways 53 = .ok (.lreturn, 1) := by decide +kernel
theorem dX2_evenLots_0 : decode cX2_evenLots 0 = .ok (.iload_n 0, 1) := by decide +kernel
theorem dX2_evenLots_1 : decode cX2_evenLots 1 = .ok (.ifCond .lt 20, 3) := by decide +kernel
theorem dX2_evenLots_4 : decode cX2_evenLots 4 = .ok (.iload_n 0, 1) := by decide +kernel
theorem dX2_evenLots_5 : decode cX2_evenLots 5 = .ok (.getstatic 15, 3) := by decide +kernel
theorem dX2_evenLots_8 : decode cX2_evenLots 8 = .ok (.arraylength, 1) := by decide +kernel
theorem dX2_evenLots_9 : decode cX2_evenLots 9 = .ok (.if_icmp .ge 12, 3) := by decide +kernel
theorem dX2_evenLots_12 : decode cX2_evenLots 12 = .ok (.getstatic 15, 3) := by decide +kernel
theorem dX2_evenLots_15 : decode cX2_evenLots 15 = .ok (.iload_n 0, 1) := by decide +kernel
theorem dX2_evenLots_16 : decode cX2_evenLots 16 = .ok (.iaload, 1) := by decide +kernel
theorem dX2_evenLots_17 : decode cX2_evenLots 17 = .ok (.i2l, 1) := by decide +kernel
theorem dX2_evenLots_18 : decode cX2_evenLots 18 = .ok (.goto 4, 3) := by decide +kernel
theorem dX2_evenLots_21 : decode cX2_evenLots 21 = .ok (.lconst 1, 1) := by decide +kernel
theorem dX2_evenLots_22 : decode cX2_evenLots 22 = .ok (.lreturn, 1) := by decide +kernel
theorem dX2_power_0 : decode cX2_power 0 = .ok (.lconst 1, 1) := by decide +kernel
theorem dX2_power_1 : decode cX2_power 1 = .ok (.lstore_n 3, 1) := by decide +kernel
theorem dX2_power_2 : decode cX2_power 2 = .ok (.iconst 0, 1) := by decide +kernel
theorem dX2_power_3 : decode cX2_power 3 = .ok (.istore 5, 2) := by decide +kernel
theorem dX2_power_5 : decode cX2_power 5 = .ok (.iload 5, 2) := by decide +kernel
theorem dX2_power_7 : decode cX2_power 7 = .ok (.iload_n 2, 1) := by decide +kernel
theorem dX2_power_8 : decode cX2_power 8 = .ok (.if_icmp .ge 20, 3) := by decide +kernel
theorem dX2_power_11 : decode cX2_power 11 = .ok (.iload 5, 2) := by decide +kernel
theorem dX2_power_13 : decode cX2_power 13 = .ok (.bipush 12, 2) := by decide +kernel
theorem dX2_power_15 : decode cX2_power 15 = .ok (.if_icmp .gt 13, 3) := by decide +kernel
theorem dX2_power_18 : decode cX2_power 18 = .ok (.lload_n 3, 1) := by decide +kernel
theorem dX2_power_19 : decode cX2_power 19 = .ok (.lload_n 0, 1) := by decide +kernel
theorem dX2_power_20 : decode cX2_power 20 = .ok (.lmul, 1) := by decide +kernel
theorem dX2_power_21 : decode cX2_power 21 = .ok (.lstore_n 3, 1) := by decide +kernel
theorem dX2_power_22 : decode cX2_power 22 = .ok (.iinc 5 1, 3) := by decide +kernel
theorem dX2_power_25 : decode cX2_power 25 = .ok (.goto (-20), 3) := by decide +kernel
theorem dX2_power_28 : decode cX2_power 28 = .ok (.lload_n 3, 1) := by decide +kernel
theorem dX2_power_29 : decode cX2_power 29 = .ok (.lreturn, 1) := by decide +kernel
theorem dX2_commonFactor_0 : decode cX2_commonFactor 0 = .ok (.lload_n 0, 1) := by decide +kernel
theorem dX2_commonFactor_1 : decode cX2_commonFactor 1 = .ok (.invokestatic 18, 3) := by decide +kernel
theorem dX2_commonFactor_4 : decode cX2_commonFactor 4 = .ok (.lstore 4, 2) := by decide +kernel
theorem dX2_commonFactor_6 : decode cX2_commonFactor 6 = .ok (.lload_n 2, 1) := by decide +kernel
theorem dX2_commonFactor_7 : decode cX2_commonFactor 7 = .ok (.invokestatic 18, 3) := by decide +kernel
theorem dX2_commonFactor_10 : decode cX2_commonFactor 10 = .ok (.lstore 6, 2) := by decide +kernel
theorem dX2_commonFactor_12 : decode cX2_commonFactor 12 = .ok (.iconst 0, 1) := by decide +kernel
theorem dX2_commonFactor_13 : decode cX2_commonFactor 13 = .ok (.istore 8, 2) := by decide +kernel
theorem dX2_commonFactor_15 : decode cX2_commonFactor 15 = .ok (.iload 8, 2) := by decide +kernel
theorem dX2_commonFactor_17 : decode cX2_commonFactor 17 = .ok (.sipush 1000, 3) := by decide +kernel
theorem dX2_commonFactor_20 : decode cX2_commonFactor 20 = .ok (.if_icmp .ge 31, 3) := by decide +kernel
theorem dX2_commonFactor_23 : decode cX2_commonFactor 23 = .ok (.lload 6, 2) := by decide +kernel
theorem dX2_commonFactor_25 : decode cX2_commonFactor 25 = .ok (.lconst 0, 1) := by decide +kernel
theorem dX2_commonFactor_26 : decode cX2_commonFactor 26 = .ok (.lcmp, 1) := by decide +kernel
theorem dX2_commonFactor_27 : decode cX2_commonFactor 27 = .ok (.ifCond .eq 24, 3) := by decide +kernel
theorem dX2_commonFactor_30 : decode cX2_commonFactor 30 = .ok (.lload 4, 2) := by decide +kernel
theorem dX2_commonFactor_32 : decode cX2_commonFactor 32 = .ok (.lload 6, 2) := by decide +kernel
theorem dX2_commonFactor_34 : decode cX2_commonFactor 34 = .ok (.lrem, 1) := by decide +kernel
theorem dX2_commonFactor_35 : decode cX2_commonFactor 35 = .ok (.lstore 9, 2) := by decide +kernel
theorem dX2_commonFactor_37 : decode cX2_commonFactor 37 = .ok (.lload 6, 2) := by decide +kernel
theorem dX2_commonFactor_39 : decode cX2_commonFactor 39 = .ok (.lstore 4, 2) := by decide +kernel
theorem dX2_commonFactor_41 : decode cX2_commonFactor 41 = .ok (.lload 9, 2) := by decide +kernel
theorem dX2_commonFactor_43 : decode cX2_commonFactor 43 = .ok (.lstore 6, 2) := by decide +kernel
theorem dX2_commonFactor_45 : decode cX2_commonFactor 45 = .ok (.iinc 8 1, 3) := by decide +kernel
theorem dX2_commonFactor_48 : decode cX2_commonFactor 48 = .ok (.goto (-33), 3) := by decide +kernel
theorem dX2_commonFactor_51 : decode cX2_commonFactor 51 = .ok (.lload 4, 2) := by decide +kernel
theorem dX2_commonFactor_53 : decode cX2_commonFactor 53 = .ok (.lreturn, 1) := by decide +kernel
set_option maxRecDepth 20000 in
theorem ggX2_partOf_X2_commonFactor : GoodIn wsX2_partOf wsX2_commonFactor := goodIn_r _ [4, 5, 6, 7, 8] (by decide +kernel) (by decide +kernel)
set_option maxRecDepth 20000 in
theorem gX2_partOf_X2_commonFactor : GoodIn wsX2_partOf (va_wsS RX2 24 yX2_commonFactor wsX2_commonFactor) := goodIn_app (goodIn_of _ (by decide +kernel)) ggX2_partOf_X2_commonFactor
theorem dX2_partOf_0 : decode cX2_partOf 0 = .ok (.lload_n 0, 1) := by decide +kernel
theorem dX2_partOf_1 : decode cX2_partOf 1 = .ok (.lload_n 2, 1) := by decide +kernel
theorem dX2_partOf_2 : decode cX2_partOf 2 = .ok (.invokestatic 24, 3) := by decide +kernel
theorem dX2_partOf_5 : decode cX2_partOf 5 = .ok (.lstore 5, 2) := by decide +kernel
theorem dX2_partOf_7 : decode cX2_partOf 7 = .ok (.lload 5, 2) := by decide +kernel
theorem dX2_partOf_9 : decode cX2_partOf 9 = .ok (.lconst 0, 1) := by decide +kernel
theorem dX2_partOf_10 : decode cX2_partOf 10 = .ok (.lcmp, 1) := by decide +kernel
theorem dX2_partOf_11 : decode cX2_partOf 11 = .ok (.ifCond .ne 7, 3) := by decide +kernel
theorem dX2_partOf_14 : decode cX2_partOf 14 = .ok (.iload 4, 2) := by decide +kernel
theorem dX2_partOf_16 : decode cX2_partOf 16 = .ok (.i2l, 1) := by decide +kernel
theorem dX2_partOf_17 : decode cX2_partOf 17 = .ok (.lreturn, 1) := by decide +kernel
theorem dX2_partOf_18 : decode cX2_partOf 18 = .ok (.iload 4, 2) := by decide +kernel
theorem dX2_partOf_20 : decode cX2_partOf 20 = .ok (.ifCond .ne 7, 3) := by decide +kernel
theorem dX2_partOf_23 : decode cX2_partOf 23 = .ok (.lload_n 0, 1) := by decide +kernel
theorem dX2_partOf_24 : decode cX2_partOf 24 = .ok (.goto 4, 3) := by decide +kernel
theorem dX2_partOf_27 : decode cX2_partOf 27 = .ok (.lload_n 2, 1) := by decide +kernel
theorem dX2_partOf_28 : decode cX2_partOf 28 = .ok (.lload 5, 2) := by decide +kernel
theorem dX2_partOf_30 : decode cX2_partOf 30 = .ok (.ldiv, 1) := by decide +kernel
theorem dX2_partOf_31 : decode cX2_partOf 31 = .ok (.lreturn, 1) := by decide +kernel
set_option maxRecDepth 20000 in
theorem ggX2_inPartsOf_X2_partOf : GoodIn wsX2_inPartsOf wsX2_partOf := goodIn_r _ [4, 5, 6, 3, 7, 8, 9, 10, 11] (by decide +kernel) (by decide +kernel)
set_option maxRecDepth 20000 in
theorem gX2_inPartsOf_X2_partOf : GoodIn wsX2_inPartsOf (va_wsS RX2 28 yX2_partOf wsX2_partOf) := goodIn_app (goodIn_of _ (by decide +kernel)) ggX2_inPartsOf_X2_partOf
theorem dX2_inPartsOf_0 : decode cX2_inPartsOf 0 = .ok (.lload_n 2, 1) := by decide +kernel
theorem dX2_inPartsOf_1 : decode cX2_inPartsOf 1 = .ok (.lload 4, 2) := by decide +kernel
theorem dX2_inPartsOf_3 : decode cX2_inPartsOf 3 = .ok (.iconst 1, 1) := by decide +kernel
theorem dX2_inPartsOf_4 : decode cX2_inPartsOf 4 = .ok (.invokestatic 28, 3) := by decide +kernel
theorem dX2_inPartsOf_7 : decode cX2_inPartsOf 7 = .ok (.lstore 6, 2) := by decide +kernel
theorem dX2_inPartsOf_9 : decode cX2_inPartsOf 9 = .ok (.lload 6, 2) := by decide +kernel
theorem dX2_inPartsOf_11 : decode cX2_inPartsOf 11 = .ok (.lconst 0, 1) := by decide +kernel
theorem dX2_inPartsOf_12 : decode cX2_inPartsOf 12 = .ok (.lcmp, 1) := by decide +kernel
theorem dX2_inPartsOf_13 : decode cX2_inPartsOf 13 = .ok (.ifCond .ne 5, 3) := by decide +kernel
theorem dX2_inPartsOf_16 : decode cX2_inPartsOf 16 = .ok (.lconst 0, 1) := by decide +kernel
theorem dX2_inPartsOf_17 : decode cX2_inPartsOf 17 = .ok (.lreturn, 1) := by decide +kernel
theorem dX2_inPartsOf_18 : decode cX2_inPartsOf 18 = .ok (.lload_n 0, 1) := by decide +kernel
theorem dX2_inPartsOf_19 : decode cX2_inPartsOf 19 = .ok (.lload 6, 2) := by decide +kernel
theorem dX2_inPartsOf_21 : decode cX2_inPartsOf 21 = .ok (.ldiv, 1) := by decide +kernel
theorem dX2_inPartsOf_22 : decode cX2_inPartsOf 22 = .ok (.lload_n 2, 1) := by decide +kernel
theorem dX2_inPartsOf_23 : decode cX2_inPartsOf 23 = .ok (.lload 4, 2) := by decide +kernel
theorem dX2_inPartsOf_25 : decode cX2_inPartsOf 25 = .ok (.iconst 0, 1) := by decide +kernel
theorem dX2_inPartsOf_26 : decode cX2_inPartsOf 26 = .ok (.invokestatic 28, 3) := by decide +kernel
theorem dX2_inPartsOf_29 : decode cX2_inPartsOf 29 = .ok (.lmul, 1) := by decide +kernel
theorem dX2_inPartsOf_30 : decode cX2_inPartsOf 30 = .ok (.lreturn, 1) := by decide +kernel
set_option maxRecDepth 20000 in
theorem ggX2_against_X2_commonFactor : GoodIn wsX2_against wsX2_commonFactor := goodIn_r _ [5, 6, 7, 8, 9] (by decide +kernel) (by decide +kernel)
set_option maxRecDepth 20000 in
theorem gX2_against_X2_commonFactor : GoodIn wsX2_against (va_wsS RX2 24 yX2_commonFactor wsX2_commonFactor) := goodIn_app (goodIn_of _ (by decide +kernel)) ggX2_against_X2_commonFactor
set_option maxRecDepth 20000 in
theorem ggX2_against_J13_compare_74951 : GoodIn wsX2_against wsJ13_compare_74951 := goodIn_r _ [13] (by decide +kernel) (by decide +kernel)
set_option maxRecDepth 20000 in
theorem gX2_against_J13_compare_74951 : GoodIn wsX2_against (va_wsS RX2 34 yJ13_compare_74951 wsJ13_compare_74951) := goodIn_app (goodIn_of _ (by decide +kernel)) ggX2_against_J13_compare_74951
theorem dX2_against_0 : decode cX2_against 0 = .ok (.lload_n 2, 1) := by decide +kernel
theorem dX2_against_1 : decode cX2_against 1 = .ok (.ldc2_w 32, 3) := by decide +kernel
theorem dX2_against_4 : decode cX2_against 4 = .ok (.invokestatic 24, 3) := by decide +kernel
theorem dX2_against_7 : decode cX2_against 7 = .ok (.lstore 5, 2) := by decide +kernel
theorem dX2_against_9 : decode cX2_against 9 = .ok (.lload 5, 2) := by decide +kernel
theorem dX2_against_11 : decode cX2_against 11 = .ok (.lconst 0, 1) := by decide +kernel
theorem dX2_against_12 : decode cX2_against 12 = .ok (.lcmp, 1) := by decide +kernel
theorem dX2_against_13 : decode cX2_against 13 = .ok (.ifCond .ne 5, 3) := by decide +kernel
theorem dX2_against_16 : decode cX2_against 16 = .ok (.iconst 0, 1) := by decide +kernel
theorem dX2_against_17 : decode cX2_against 17 = .ok (.ireturn, 1) := by decide +kernel
theorem dX2_against_18 : decode cX2_against 18 = .ok (.ldc2_w 32, 3) := by decide +kernel
theorem dX2_against_21 : decode cX2_against 21 = .ok (.lload 5, 2) := by decide +kernel
theorem dX2_against_23 : decode cX2_against 23 = .ok (.ldiv, 1) := by decide +kernel
theorem dX2_against_24 : decode cX2_against 24 = .ok (.lload_n 0, 1) := by decide +kernel
theorem dX2_against_25 : decode cX2_against 25 = .ok (.lmul, 1) := by decide +kernel
theorem dX2_against_26 : decode cX2_against 26 = .ok (.lload_n 2, 1) := by decide +kernel
theorem dX2_against_27 : decode cX2_against 27 = .ok (.lload 5, 2) := by decide +kernel
theorem dX2_against_29 : decode cX2_against 29 = .ok (.ldiv, 1) := by decide +kernel
theorem dX2_against_30 : decode cX2_against 30 = .ok (.iload 4, 2) := by decide +kernel
theorem dX2_against_32 : decode cX2_against 32 = .ok (.i2l, 1) := by decide +kernel
theorem dX2_against_33 : decode cX2_against 33 = .ok (.lmul, 1) := by decide +kernel
theorem dX2_against_34 : decode cX2_against 34 = .ok (.invokestatic 34, 3) := by decide +kernel
theorem dX2_against_37 : decode cX2_against 37 = .ok (.ireturn, 1) := by decide +kernel
set_option maxRecDepth 20000 in
theorem ggX3_init_X0_init : GoodIn wsX3_init wsX0_init := goodIn_r _ [12, 13, 2, 3, 14, 15, 16, 17, 18, 19, 79, 80, 81, 82, 83] (by decide +kernel) (by decide +kernel)
set_option maxRecDepth 20000 in
theorem gX3_init_X0_init_n11 : GoodIn wsX3_init (wsX0_init) := ggX3_init_X0_init
set_option maxRecDepth 20000 in
theorem ggX3_init_X0_fill : GoodIn wsX3_init wsX0_fill := goodIn_r _ [23, 15, 19, 18, 24, 25, 26, 27, 28, 29, 30, 31, 32, 33, 34, 35, 6, 36, 37, 38, 39, 40, 41, 42, 43, 44, 45, 46, 47, 48, 49, 50, 51, 52, 53, 54, 55, 56, 57, 58, 59, 60, 61, 62, 63, 64, 65, 66, 16, 67, 68, 69, 70, 17, 71, 72, 73, 74, 75, 76, 77, 78, 79, 80, 81, 82, 83] (by decide +kernel) (by decide +kernel)
set_option maxRecDepth 20000 in
theorem gX3_init_X0_fill : GoodIn wsX3_init (wsV RX3 28 RX0 yX0_fill wsX0_fill) := goodIn_app (goodIn_of _ (by decide +kernel)) ggX3_init_X0_fill
theorem dX3_init_0 : decode cX3_init 0 = .ok (.aload_n 0, 1) := by decide +kernel
theorem dX3_init_1 : decode cX3_init 1 = .ok (.invokespecial 3, 3) := by decide +kernel
theorem dX3_init_4 : decode cX3_init 4 = .ok (.aload_n 0, 1) := by decide +kernel
theorem dX3_init_5 : decode cX3_init 5 = .ok (.new 9, 3) := by decide +kernel
theorem dX3_init_8 : decode cX3_init 8 = .ok (.dup, 1) := by decide +kernel
theorem dX3_init_9 : decode cX3_init 9 = .ok (.invokespecial 11, 3) := by decide +kernel
theorem dX3_init_12 : decode cX3_init 12 = .ok (.putfield 12, 3) := by decide +kernel
theorem dX3_init_15 : decode cX3_init 15 = .ok (.aload_n 0, 1) := by decide +kernel
theorem dX3_init_16 : decode cX3_init 16 = .ok (.iload_n 1, 1) := by decide +kernel
theorem dX3_init_17 : decode cX3_init 17 = .ok (.putfield 18, 3) := by decide +kernel
theorem dX3_init_20 : decode cX3_init 20 = .ok (.aload_n 0, 1) := by decide +kernel
theorem dX3_init_21 : decode cX3_init 21 = .ok (.iload_n 2, 1) := by decide +kernel
theorem dX3_init_22 : decode cX3_init 22 = .ok (.putfield 22, 3) := by decide +kernel
theorem dX3_init_25 : decode cX3_init 25 = .ok (.aload_n 0, 1) := by decide +kernel
theorem dX3_init_26 : decode cX3_init 26 = .ok (.iload_n 3, 1) := by decide +kernel
theorem dX3_init_27 : decode cX3_init 27 = .ok (.putfield 25, 3) := by decide +kernel
theorem dX3_init_30 : decode cX3_init 30 = .ok (.aload_n 0, 1) := by decide +kernel
theorem dX3_init_31 : decode cX3_init 31 = .ok (.getfield 12, 3) := by decide +kernel
theorem dX3_init_34 : decode cX3_init 34 = .ok (.iload_n 1, 1) := by decide +kernel
theorem dX3_init_35 : decode cX3_init 35 = .ok (.iload_n 2, 1) := by decide +kernel
theorem dX3_init_36 : decode cX3_init 36 = .ok (.iload_n 3, 1) := by decide +kernel
theorem dX3_init_37 : decode cX3_init 37 = .ok (.iconst 5, 1) := by decide +kernel
theorem dX3_init_38 : decode cX3_init 38 = .ok (.invokevirtual 28, 3) := by decide +kernel
theorem dX3_init_41 : decode cX3_init 41 = .ok (.return_, 1) := by decide +kernel
set_option maxRecDepth 20000 in
theorem ggX3_most_X8_mostRight : GoodIn wsX3_most wsX8_mostRight := goodIn_r _ [5] (by decide +kernel) (by decide +kernel)
set_option maxRecDepth 20000 in
theorem gX3_most_X8_mostRight_n32 : GoodIn wsX3_most (wsX8_mostRight) := ggX3_most_X8_mostRight
theorem dX3_most_0 : decode cX3_most 0 = .ok (.aload_n 0, 1) := by decide +kernel
theorem dX3_most_1 : decode cX3_most 1 = .ok (.getfield 18, 3) := by decide +kernel
theorem dX3_most_4 : decode cX3_most 4 = .ok (.aload_n 0, 1) := by decide +kernel
theorem dX3_most_5 : decode cX3_most 5 = .ok (.getfield 22, 3) := by decide +kernel
theorem dX3_most_8 : decode cX3_most 8 = .ok (.invokestatic 32, 3) := by decide +kernel
theorem dX3_most_11 : decode cX3_most 11 = .ok (.ireturn, 1) := by decide +kernel
set_option maxRecDepth 20000 in
theorem ggX3_lotCount_X2_ways : GoodIn wsX3_lotCount wsX2_ways := goodIn_r _ [6, 7] (by decide +kernel) (by decide +kernel)
set_option maxRecDepth 20000 in
theorem gX3_lotCount_X2_ways : GoodIn wsX3_lotCount (va_wsS RX3 36 yX2_ways wsX2_ways) := goodIn_app (goodIn_of _ (by decide +kernel)) ggX3_lotCount_X2_ways
theorem dX3_lotCount_0 : decode cX3_lotCount 0 = .ok (.aload_n 0, 1) := by decide +kernel
theorem dX3_lotCount_1 : decode cX3_lotCount 1 = .ok (.getfield 22, 3) := by decide +kernel
theorem dX3_lotCount_4 : decode cX3_lotCount 4 = .ok (.aload_n 0, 1) := by decide +kernel
theorem dX3_lotCount_5 : decode cX3_lotCount 5 = .ok (.getfield 25, 3) := by decide +kernel
theorem dX3_lotCount_8 : decode cX3_lotCount 8 = .ok (.invokestatic 36, 3) := by decide +kernel
theorem dX3_lotCount_11 : decode cX3_lotCount 11 = .ok (.l2i, 1) := by decide +kernel
theorem dX3_lotCount_12 : decode cX3_lotCount 12 = .ok (.ireturn, 1) := by decide +kernel
theorem dX3_firstLot_0 : decode cX3_firstLot 0 = .ok (.iconst 1, 1) := by decide +kernel
theorem dX3_firstLot_1 : decode cX3_firstLot 1 = .ok (.aload_n 0, 1) := by decide +kernel
theorem dX3_firstLot_2 : decode cX3_firstLot 2 = .ok (.getfield 25, 3) := by decide +kernel
theorem dX3_firstLot_5 : decode cX3_firstLot 5 = .ok (.ishl, 1) := by decide +kernel
theorem dX3_firstLot_6 : decode cX3_firstLot 6 = .ok (.iconst 1, 1) := by decide +kernel
theorem dX3_firstLot_7 : decode cX3_firstLot 7 = .ok (.isub, 1) := by decide +kernel
theorem dX3_firstLot_8 : decode cX3_firstLot 8 = .ok (.ireturn, 1) := by decide +kernel
set_option maxRecDepth 20000 in
theorem ggX3_hasLot_J6_bitCount_0f7a4 : GoodIn wsX3_hasLot wsJ6_bitCount_0f7a4 := goodIn_r _ [6, 7, 8, 9] (by decide +kernel) (by decide +kernel)
set_option maxRecDepth 20000 in
theorem gX3_hasLot_J6_bitCount_0f7a4 : GoodIn wsX3_hasLot (va_wsS RX3 42 yJ6_bitCount_0f7a4 wsJ6_bitCount_0f7a4) := goodIn_app (goodIn_of _ (by decide +kernel)) ggX3_hasLot_J6_bitCount_0f7a4
theorem dX3_hasLot_0 : decode cX3_hasLot 0 = .ok (.iload_n 1, 1) := by decide +kernel
theorem dX3_hasLot_1 : decode cX3_hasLot 1 = .ok (.ifCond .lt 28, 3) := by decide +kernel
theorem dX3_hasLot_4 : decode cX3_hasLot 4 = .ok (.iload_n 1, 1) := by decide +kernel
theorem dX3_hasLot_5 : decode cX3_hasLot 5 = .ok (.iconst 1, 1) := by decide +kernel
theorem dX3_hasLot_6 : decode cX3_hasLot 6 = .ok (.aload_n 0, 1) := by decide +kernel
theorem dX3_hasLot_7 : decode cX3_hasLot 7 = .ok (.getfield 22, 3) := by decide +kernel
theorem dX3_hasLot_10 : decode cX3_hasLot 10 = .ok (.ishl, 1) := by decide +kernel
theorem dX3_hasLot_11 : decode cX3_hasLot 11 = .ok (.if_icmp .ge 18, 3) := by decide +kernel
theorem dX3_hasLot_14 : decode cX3_hasLot 14 = .ok (.iload_n 1, 1) := by decide +kernel
theorem dX3_hasLot_15 : decode cX3_hasLot 15 = .ok (.invokestatic 42, 3) := by decide +kernel
theorem dX3_hasLot_18 : decode cX3_hasLot 18 = .ok (.aload_n 0, 1) := by decide +kernel
theorem dX3_hasLot_19 : decode cX3_hasLot 19 = .ok (.getfield 25, 3) := by decide +kernel
theorem dX3_hasLot_22 : decode cX3_hasLot 22 = .ok (.if_icmp .ne 7, 3) := by decide +kernel
theorem dX3_hasLot_25 : decode cX3_hasLot 25 = .ok (.iconst 1, 1) := by decide +kernel
theorem dX3_hasLot_26 : decode cX3_hasLot 26 = .ok (.goto 4, 3) := by decide +kernel
theorem dX3_hasLot_29 : decode cX3_hasLot 29 = .ok (.iconst 0, 1) := by decide +kernel
theorem dX3_hasLot_30 : decode cX3_hasLot 30 = .ok (.ireturn, 1) := by decide +kernel
set_option maxRecDepth 20000 in
theorem ggX3_leanOf_X5_places : GoodIn wsX3_leanOf wsX5_places := goodIn_r _ [6] (by decide +kernel) (by decide +kernel)
set_option maxRecDepth 20000 in
theorem gX3_leanOf_X5_places : GoodIn wsX3_leanOf (va_wsS RX3 48 yX5_places wsX5_places) := goodIn_app (goodIn_of _ (by decide +kernel)) ggX3_leanOf_X5_places
theorem dX3_leanOf_0 : decode cX3_leanOf 0 = .ok (.aload_n 0, 1) := by decide +kernel
theorem dX3_leanOf_1 : decode cX3_leanOf 1 = .ok (.getfield 22, 3) := by decide +kernel
theorem dX3_leanOf_4 : decode cX3_leanOf 4 = .ok (.iload_n 1, 1) := by decide +kernel
theorem dX3_leanOf_5 : decode cX3_leanOf 5 = .ok (.invokestatic 48, 3) := by decide +kernel
theorem dX3_leanOf_8 : decode cX3_leanOf 8 = .ok (.aload_n 0, 1) := by decide +kernel
theorem dX3_leanOf_9 : decode cX3_leanOf 9 = .ok (.getfield 22, 3) := by decide +kernel
theorem dX3_leanOf_12 : decode cX3_leanOf 12 = .ok (.imul, 1) := by decide +kernel
theorem dX3_leanOf_13 : decode cX3_leanOf 13 = .ok (.aload_n 0, 1) := by decide +kernel
theorem dX3_leanOf_14 : decode cX3_leanOf 14 = .ok (.getfield 25, 3) := by decide +kernel
theorem dX3_leanOf_17 : decode cX3_leanOf 17 = .ok (.aload_n 0, 1) := by decide +kernel
theorem dX3_leanOf_18 : decode cX3_leanOf 18 = .ok (.getfield 22, 3) := by decide +kernel
theorem dX3_leanOf_21 : decode cX3_leanOf 21 = .ok (.sipush 4095, 3) := by decide +kernel
theorem dX3_leanOf_24 : decode cX3_leanOf 24 = .ok (.invokestatic 48, 3) := by decide +kernel
theorem dX3_leanOf_27 : decode cX3_leanOf 27 = .ok (.imul, 1) := by decide +kernel
theorem dX3_leanOf_28 : decode cX3_leanOf 28 = .ok (.isub, 1) := by decide +kernel
theorem dX3_leanOf_29 : decode cX3_leanOf 29 = .ok (.ireturn, 1) := by decide +kernel
theorem dX4_init_0 : decode cX4_init 0 = .ok (.aload_n 0, 1) := by decide +kernel
theorem dX4_init_1 : decode cX4_init 1 = .ok (.invokespecial 1, 3) := by decide +kernel
theorem dX4_init_4 : decode cX4_init 4 = .ok (.aload_n 0, 1) := by decide +kernel
theorem dX4_init_5 : decode cX4_init 5 = .ok (.iconst 0, 1) := by decide +kernel
theorem dX4_init_6 : decode cX4_init 6 = .ok (.putfield 7, 3) := by decide +kernel
theorem dX4_init_9 : decode cX4_init 9 = .ok (.aload_n 0, 1) := by decide +kernel
theorem dX4_init_10 : decode cX4_init 10 = .ok (.aload_n 1, 1) := by decide +kernel
theorem dX4_init_11 : decode cX4_init 11 = .ok (.putfield 13, 3) := by decide +kernel
theorem dX4_init_14 : decode cX4_init 14 = .ok (.aload_n 0, 1) := by decide +kernel
theorem dX4_init_15 : decode cX4_init 15 = .ok (.aload_n 1, 1) := by decide +kernel
theorem dX4_init_16 : decode cX4_init 16 = .ok (.arraylength, 1) := by decide +kernel
theorem dX4_init_17 : decode cX4_init 17 = .ok (.newarray .long, 2) := by decide +kernel
theorem dX4_init_19 : decode cX4_init 19 = .ok (.putfield 17, 3) := by decide +kernel
theorem dX4_init_22 : decode cX4_init 22 = .ok (.return_, 1) := by decide +kernel
set_option maxRecDepth 20000 in
theorem ggX4_holds_X4_push : GoodIn wsX4_holds wsX4_push := goodIn_r _ [7, 1, 8, 36, 37, 38] (by decide +kernel) (by decide +kernel)
set_option maxRecDepth 20000 in
theorem gX4_holds_X4_push : GoodIn wsX4_holds (wsV RX4 21 RX4 yX4_push wsX4_push) := goodIn_app (goodIn_of _ (by decide +kernel)) ggX4_holds_X4_push
set_option maxRecDepth 20000 in
theorem ggX4_holds_X4_pop : GoodIn wsX4_holds wsX4_pop := goodIn_r _ [12, 1, 8, 36, 37, 38] (by decide +kernel) (by decide +kernel)
set_option maxRecDepth 20000 in
theorem gX4_holds_X4_pop : GoodIn wsX4_holds (wsV RX4 25 RX4 yX4_pop wsX4_pop) := goodIn_app (goodIn_of _ (by decide +kernel)) ggX4_holds_X4_pop
set_option maxRecDepth 20000 in
theorem ggX4_holds_X7_isLetter : GoodIn wsX4_holds wsX7_isLetter := goodIn_r _ [16] (by decide +kernel) (by decide +kernel)
set_option maxRecDepth 20000 in
theorem gX4_holds_X7_isLetter : GoodIn wsX4_holds (va_wsS RX4 29 yX7_isLetter wsX7_isLetter) := goodIn_app (goodIn_of _ (by decide +kernel)) ggX4_holds_X7_isLetter
set_option maxRecDepth 20000 in
theorem ggX4_holds_X4_valueOf : GoodIn wsX4_holds wsX4_valueOf := goodIn_r _ [19, 20, 21, 22, 23, 24, 25, 26, 27, 28, 29, 30, 31, 32, 39, 40, 41, 42] (by decide +kernel) (by decide +kernel)
set_option maxRecDepth 20000 in
theorem gX4_holds_X4_valueOf : GoodIn wsX4_holds (va_wsS RX4 35 yX4_valueOf wsX4_valueOf) := goodIn_app (goodIn_of _ (by decide +kernel)) ggX4_holds_X4_valueOf
set_option maxRecDepth 20000 in
theorem ggX4_holds_X4_joined : GoodIn wsX4_holds wsX4_joined := goodIn_r _ [35] (by decide +kernel) (by decide +kernel)
set_option maxRecDepth 20000 in
theorem gX4_holds_X4_joined : GoodIn wsX4_holds (va_wsS RX4 39 yX4_joined wsX4_joined) := goodIn_app (goodIn_of _ (by decide +kernel)) ggX4_holds_X4_joined
theorem dX4_holds_0 : decode cX4_holds 0 = .ok (.aload_n 0, 1) := by decide +kernel
theorem dX4_holds_1 : decode cX4_holds 1 = .ok (.iconst 0, 1) := by decide +kernel
theorem dX4_holds_2 : decode cX4_holds 2 = .ok (.putfield 7, 3) := by decide +kernel
theorem dX4_holds_5 : decode cX4_holds 5 = .ok (.iconst 0, 1) := by decide +kernel
theorem dX4_holds_6 : decode cX4_holds 6 = .ok (.istore_n 3, 1) := by decide +kernel
theorem dX4_holds_7 : decode cX4_holds 7 = .ok (.iload_n 3, 1) := by decide +kernel
theorem dX4_holds_8 : decode cX4_holds 8 = .ok (.aload_n 0, 1) := by decide +kernel
theorem dX4_holds_9 : decode cX4_holds 9 = .ok (.getfield 13, 3) := by decide +kernel
theorem dX4_holds_12 : decode cX4_holds 12 = .ok (.arraylength, 1) := by decide +kernel
theorem dX4_holds_13 : decode cX4_holds 13 = .ok (.if_icmp .ge 98, 3) := by decide +kernel
theorem dX4_holds_16 : decode cX4_holds 16 = .ok (.aload_n 0, 1) := by decide +kernel
theorem dX4_holds_17 : decode cX4_holds 17 = .ok (.getfield 13, 3) := by decide +kernel
theorem dX4_holds_20 : decode cX4_holds 20 = .ok (.iload_n 3, 1) := by decide +kernel
theorem dX4_holds_21 : decode cX4_holds 21 = .ok (.iaload, 1) := by decide +kernel
theorem dX4_holds_22 : decode cX4_holds 22 = .ok (.istore 4, 2) := by decide +kernel
theorem dX4_holds_24 : decode cX4_holds 24 = .ok (.iload 4, 2) := by decide +kernel
theorem dX4_holds_26 : decode cX4_holds 26 = .ok (.ifCond .lt 13, 3) := by decide +kernel
theorem dX4_holds_29 : decode cX4_holds 29 = .ok (.aload_n 0, 1) := by decide +kernel
theorem dX4_holds_30 : decode cX4_holds 30 = .ok (.iload 4, 2) := by decide +kernel
theorem dX4_holds_32 : decode cX4_holds 32 = .ok (.i2l, 1) := by decide +kernel
theorem dX4_holds_33 : decode cX4_holds 33 = .ok (.invokevirtual 21, 3) := by decide +kernel
theorem dX4_holds_36 : decode cX4_holds 36 = .ok (.goto 69, 3) := by decide +kernel
theorem dX4_holds_39 : decode cX4_holds 39 = .ok (.iload 4, 2) := by decide +kernel
theorem dX4_holds_41 : decode cX4_holds 41 = .ok (.bipush (-33), 2) := by decide +kernel
theorem dX4_holds_43 : decode cX4_holds 43 = .ok (.if_icmp .ne 16, 3) := by decide +kernel
theorem dX4_holds_46 : decode cX4_holds 46 = .ok (.aload_n 0, 1) := by decide +kernel
theorem dX4_holds_47 : decode cX4_holds 47 = .ok (.lconst 1, 1) := by decide +kernel
theorem dX4_holds_48 : decode cX4_holds 48 = .ok (.aload_n 0, 1) := by decide +kernel
theorem dX4_holds_49 : decode cX4_holds 49 = .ok (.invokevirtual 25, 3) := by decide +kernel
theorem dX4_holds_52 : decode cX4_holds 52 = .ok (.lsub, 1) := by decide +kernel
theorem dX4_holds_53 : decode cX4_holds 53 = .ok (.invokevirtual 21, 3) := by decide +kernel
theorem dX4_holds_56 : decode cX4_holds 56 = .ok (.goto 49, 3) := by decide +kernel
theorem dX4_holds_59 : decode cX4_holds 59 = .ok (.iload 4, 2) := by decide +kernel
theorem dX4_holds_61 : decode cX4_holds 61 = .ok (.ineg, 1) := by decide +kernel
theorem dX4_holds_62 : decode cX4_holds 62 = .ok (.invokestatic 29, 3) := by decide +kernel
theorem dX4_holds_65 : decode cX4_holds 65 = .ok (.ifCond .eq 18, 3) := by decide +kernel
theorem dX4_holds_68 : decode cX4_holds 68 = .ok (.aload_n 0, 1) := by decide +kernel
theorem dX4_holds_69 : decode cX4_holds 69 = .ok (.iload 4, 2) := by decide +kernel
theorem dX4_holds_71 : decode cX4_holds 71 = .ok (.ineg, 1) := by decide +kernel
theorem dX4_holds_72 : decode cX4_holds 72 = .ok (.aload_n 1, 1) := by decide +kernel
theorem dX4_holds_73 : decode cX4_holds 73 = .ok (.iload_n 2, 1) := by decide +kernel
theorem dX4_holds_74 : decode cX4_holds 74 = .ok (.invokestatic 35, 3) := by decide +kernel
theorem dX4_holds_77 : decode cX4_holds 77 = .ok (.invokevirtual 21, 3) := by decide +kernel
theorem dX4_holds_80 : decode cX4_holds 80 = .ok (.goto 25, 3) := by decide +kernel
theorem dX4_holds_83 : decode cX4_holds 83 = .ok (.aload_n 0, 1) := by decide +kernel
theorem dX4_holds_84 : decode cX4_holds 84 = .ok (.invokevirtual 25, 3) := by decide +kernel
theorem dX4_holds_87 : decode cX4_holds 87 = .ok (.lstore 5, 2) := by decide +kernel
theorem dX4_holds_89 : decode cX4_holds 89 = .ok (.aload_n 0, 1) := by decide +kernel
theorem dX4_holds_90 : decode cX4_holds 90 = .ok (.iload 4, 2) := by decide +kernel
theorem dX4_holds_92 : decode cX4_holds 92 = .ok (.ineg, 1) := by decide +kernel
theorem dX4_holds_93 : decode cX4_holds 93 = .ok (.aload_n 0, 1) := by decide +kernel
theorem dX4_holds_94 : decode cX4_holds 94 = .ok (.invokevirtual 25, 3) := by decide +kernel
theorem dX4_holds_97 : decode cX4_holds 97 = .ok (.lload 5, 2) := by decide +kernel
theorem dX4_holds_99 : decode cX4_holds 99 = .ok (.invokestatic 39, 3) := by decide +kernel
theorem dX4_holds_102 : decode cX4_holds 102 = .ok (.invokevirtual 21, 3) := by decide +kernel
theorem dX4_holds_105 : decode cX4_holds 105 = .ok (.iinc 3 1, 3) := by decide +kernel
theorem dX4_holds_108 : decode cX4_holds 108 = .ok (.goto (-101), 3) := by decide +kernel
theorem dX4_holds_111 : decode cX4_holds 111 = .ok (.aload_n 0, 1) := by decide +kernel
theorem dX4_holds_112 : decode cX4_holds 112 = .ok (.invokevirtual 25, 3) := by decide +kernel
theorem dX4_holds_115 : decode cX4_holds 115 = .ok (.lconst 1, 1) := by decide +kernel
theorem dX4_holds_116 : decode cX4_holds 116 = .ok (.lcmp, 1) := by decide +kernel
theorem dX4_holds_117 : decode cX4_holds 117 = .ok (.ifCond .ne 7, 3) := by decide +kernel
theorem dX4_holds_120 : decode cX4_holds 120 = .ok (.iconst 1, 1) := by decide +kernel
theorem dX4_holds_121 : decode cX4_holds 121 = .ok (.goto 4, 3) := by decide +kernel
theorem dX4_holds_124 : decode cX4_holds 124 = .ok (.iconst 0, 1) := by decide +kernel
theorem dX4_holds_125 : decode cX4_holds 125 = .ok (.ireturn, 1) := by decide +kernel
set_option maxRecDepth 20000 in
theorem ggX4_valueOf_X3_most : GoodIn wsX4_valueOf wsX3_most := goodIn_r _ [8, 9, 10, 11, 12, 13, 14, 15, 16, 17] (by decide +kernel) (by decide +kernel)
set_option maxRecDepth 20000 in
theorem gX4_valueOf_X3_most : GoodIn wsX4_valueOf (wsV RX4 43 RX3 yX3_most wsX3_most) := goodIn_app (goodIn_of _ (by decide +kernel)) ggX4_valueOf_X3_most
theorem dX4_valueOf_0 : decode cX4_valueOf 0 = .ok (.iload_n 0, 1) := by decide +kernel
theorem dX4_valueOf_1 : decode cX4_valueOf 1 = .ok (.tableswitch 96 107 119 #[90, 96, 96, 84, 96, 96, 96, 67, 78, 96, 96, 96, 70], 67) := by decide +kernel
theorem dX4_valueOf_68 : decode cX4_valueOf 68 = .ok (.iload_n 2, 1) := by decide +kernel
theorem dX4_valueOf_69 : decode cX4_valueOf 69 = .ok (.i2l, 1) := by decide +kernel
theorem dX4_valueOf_70 : decode cX4_valueOf 70 = .ok (.lreturn, 1) := by decide +kernel
theorem dX4_valueOf_71 : decode cX4_valueOf 71 = .ok (.aload_n 1, 1) := by decide +kernel
theorem dX4_valueOf_72 : decode cX4_valueOf 72 = .ok (.invokevirtual 43, 3) := by decide +kernel
theorem dX4_valueOf_75 : decode cX4_valueOf 75 = .ok (.iload_n 2, 1) := by decide +kernel
theorem dX4_valueOf_76 : decode cX4_valueOf 76 = .ok (.isub, 1) := by decide +kernel
theorem dX4_valueOf_77 : decode cX4_valueOf 77 = .ok (.i2l, 1) := by decide +kernel
theorem dX4_valueOf_78 : decode cX4_valueOf 78 = .ok (.lreturn, 1) := by decide +kernel
theorem dX4_valueOf_79 : decode cX4_valueOf 79 = .ok (.aload_n 1, 1) := by decide +kernel
theorem dX4_valueOf_80 : decode cX4_valueOf 80 = .ok (.invokevirtual 43, 3) := by decide +kernel
theorem dX4_valueOf_83 : decode cX4_valueOf 83 = .ok (.i2l, 1) := by decide +kernel
theorem dX4_valueOf_84 : decode cX4_valueOf 84 = .ok (.lreturn, 1) := by decide +kernel
theorem dX4_valueOf_85 : decode cX4_valueOf 85 = .ok (.aload_n 1, 1) := by decide +kernel
theorem dX4_valueOf_86 : decode cX4_valueOf 86 = .ok (.getfield 49, 3) := by decide +kernel
theorem dX4_valueOf_89 : decode cX4_valueOf 89 = .ok (.i2l, 1) := by decide +kernel
theorem dX4_valueOf_90 : decode cX4_valueOf 90 = .ok (.lreturn, 1) := by decide +kernel
theorem dX4_valueOf_91 : decode cX4_valueOf 91 = .ok (.aload_n 1, 1) := by decide +kernel
theorem dX4_valueOf_92 : decode cX4_valueOf 92 = .ok (.getfield 52, 3) := by decide +kernel
theorem dX4_valueOf_95 : decode cX4_valueOf 95 = .ok (.i2l, 1) := by decide +kernel
theorem dX4_valueOf_96 : decode cX4_valueOf 96 = .ok (.lreturn, 1) := by decide +kernel
theorem dX4_valueOf_97 : decode cX4_valueOf 97 = .ok (.aload_n 1, 1) := by decide +kernel
theorem dX4_valueOf_98 : decode cX4_valueOf 98 = .ok (.getfield 55, 3) := by decide +kernel
theorem dX4_valueOf_101 : decode cX4_valueOf 101 = .ok (.i2l, 1) := by decide +kernel
theorem dX4_valueOf_102 : decode cX4_valueOf 102 = .ok (.lreturn, 1) := by decide +kernel
theorem dX4_joined_0 : decode cX4_joined 0 = .ok (.iload_n 0, 1) := by decide +kernel
theorem dX4_joined_1 : decode cX4_joined 1 = .ok (.tableswitch 167 38 62 #[163, 167, 167, 167, 123, 115, 167, 119, 167, 167, 167, 167, 167, 167, 167, 167, 167, 167, 167, 167, 167, 167, 127, 139, 151], 115) := by decide +kernel
theorem dX4_joined_116 : decode cX4_joined 116 = .ok (.lload_n 1, 1) := by decide +kernel
theorem dX4_joined_117 : decode cX4_joined 117 = .ok (.lload_n 3, 1) := by decide +kernel
theorem dX4_joined_118 : decode cX4_joined 118 = .ok (.ladd, 1) := by decide +kernel
theorem dX4_joined_119 : decode cX4_joined 119 = .ok (.lreturn, 1) := by decide +kernel
theorem dX4_joined_120 : decode cX4_joined 120 = .ok (.lload_n 1, 1) := by decide +kernel
theorem dX4_joined_121 : decode cX4_joined 121 = .ok (.lload_n 3, 1) := by decide +kernel
theorem dX4_joined_122 : decode cX4_joined 122 = .ok (.lsub, 1) := by decide +kernel
theorem dX4_joined_123 : decode cX4_joined 123 = .ok (.lreturn, 1) := by decide +kernel
theorem dX4_joined_124 : decode cX4_joined 124 = .ok (.lload_n 1, 1) := by decide +kernel
theorem dX4_joined_125 : decode cX4_joined 125 = .ok (.lload_n 3, 1) := by decide +kernel
theorem dX4_joined_126 : decode cX4_joined 126 = .ok (.lmul, 1) := by decide +kernel
theorem dX4_joined_127 : decode cX4_joined 127 = .ok (.lreturn, 1) := by decide +kernel
theorem dX4_joined_128 : decode cX4_joined 128 = .ok (.lload_n 1, 1) := by decide +kernel
theorem dX4_joined_129 : decode cX4_joined 129 = .ok (.lload_n 3, 1) := by decide +kernel
theorem dX4_joined_130 : decode cX4_joined 130 = .ok (.lcmp, 1) := by decide +kernel
theorem dX4_joined_131 : decode cX4_joined 131 = .ok (.ifCond .ge 7, 3) := by decide +kernel
theorem dX4_joined_134 : decode cX4_joined 134 = .ok (.lconst 1, 1) := by decide +kernel
theorem dX4_joined_135 : decode cX4_joined 135 = .ok (.goto 4, 3) := by decide +kernel
theorem dX4_joined_138 : decode cX4_joined 138 = .ok (.lconst 0, 1) := by decide +kernel
theorem dX4_joined_139 : decode cX4_joined 139 = .ok (.lreturn, 1) := by decide +kernel
theorem dX4_joined_140 : decode cX4_joined 140 = .ok (.lload_n 1, 1) := by decide +kernel
theorem dX4_joined_141 : decode cX4_joined 141 = .ok (.lload_n 3, 1) := by decide +kernel
theorem dX4_joined_142 : decode cX4_joined 142 = .ok (.lcmp, 1) := by decide +kernel
theorem dX4_joined_143 : decode cX4_joined 143 = .ok (.ifCond .ne 7, 3) := by decide +kernel
theorem dX4_joined_146 : decode cX4_joined 146 = .ok (.lconst 1, 1) := by decide +kernel
theorem dX4_joined_147 : decode cX4_joined 147 = .ok (.goto 4, 3) := by decide +kernel
theorem dX4_joined_150 : decode cX4_joined 150 = .ok (.lconst 0, 1) := by decide +kernel
theorem dX4_joined_151 : decode cX4_joined 151 = .ok (.lreturn, 1) := by decide +kernel
theorem dX4_joined_152 : decode cX4_joined 152 = .ok (.lload_n 1, 1) := by decide +kernel
theorem dX4_joined_153 : decode cX4_joined 153 = .ok (.lload_n 3, 1) := by decide +kernel
theorem dX4_joined_154 : decode cX4_joined 154 = .ok (.lcmp, 1) := by decide +kernel
theorem dX4_joined_155 : decode cX4_joined 155 = .ok (.ifCond .le 7, 3) := by decide +kernel
theorem dX4_joined_158 : decode cX4_joined 158 = .ok (.lconst 1, 1) := by decide +kernel
theorem dX4_joined_159 : decode cX4_joined 159 = .ok (.goto 4, 3) := by decide +kernel
theorem dX4_joined_162 : decode cX4_joined 162 = .ok (.lconst 0, 1) := by decide +kernel
theorem dX4_joined_163 : decode cX4_joined 163 = .ok (.lreturn, 1) := by decide +kernel
theorem dX4_joined_164 : decode cX4_joined 164 = .ok (.lload_n 1, 1) := by decide +kernel
theorem dX4_joined_165 : decode cX4_joined 165 = .ok (.lload_n 3, 1) := by decide +kernel
theorem dX4_joined_166 : decode cX4_joined 166 = .ok (.land, 1) := by decide +kernel
theorem dX4_joined_167 : decode cX4_joined 167 = .ok (.lreturn, 1) := by decide +kernel
theorem dX4_joined_168 : decode cX4_joined 168 = .ok (.lload_n 1, 1) := by decide +kernel
theorem dX4_joined_169 : decode cX4_joined 169 = .ok (.lload_n 3, 1) := by decide +kernel
theorem dX4_joined_170 : decode cX4_joined 170 = .ok (.lor, 1) := by decide +kernel
theorem dX4_joined_171 : decode cX4_joined 171 = .ok (.lreturn, 1) := by decide +kernel
theorem dX4_push_0 : decode cX4_push 0 = .ok (.aload_n 0, 1) := by decide +kernel
theorem dX4_push_1 : decode cX4_push 1 = .ok (.getfield 7, 3) := by decide +kernel
theorem dX4_push_4 : decode cX4_push 4 = .ok (.ifCond .lt 35, 3) := by decide +kernel
theorem dX4_push_7 : decode cX4_push 7 = .ok (.aload_n 0, 1) := by decide +kernel
theorem dX4_push_8 : decode cX4_push 8 = .ok (.getfield 7, 3) := by decide +kernel
theorem dX4_push_11 : decode cX4_push 11 = .ok (.aload_n 0, 1) := by decide +kernel
theorem dX4_push_12 : decode cX4_push 12 = .ok (.getfield 17, 3) := by decide +kernel
theorem dX4_push_15 : decode cX4_push 15 = .ok (.arraylength, 1) := by decide +kernel
theorem dX4_push_16 : decode cX4_push 16 = .ok (.if_icmp .ge 23, 3) := by decide +kernel
theorem dX4_push_19 : decode cX4_push 19 = .ok (.aload_n 0, 1) := by decide +kernel
theorem dX4_push_20 : decode cX4_push 20 = .ok (.getfield 17, 3) := by decide +kernel
theorem dX4_push_23 : decode cX4_push 23 = .ok (.aload_n 0, 1) := by decide +kernel
theorem dX4_push_24 : decode cX4_push 24 = .ok (.getfield 7, 3) := by decide +kernel
theorem dX4_push_27 : decode cX4_push 27 = .ok (.lload_n 1, 1) := by decide +kernel
theorem dX4_push_28 : decode cX4_push 28 = .ok (.lastore, 1) := by decide +kernel
theorem dX4_push_29 : decode cX4_push 29 = .ok (.aload_n 0, 1) := by decide +kernel
theorem dX4_push_30 : decode cX4_push 30 = .ok (.dup, 1) := by decide +kernel
theorem dX4_push_31 : decode cX4_push 31 = .ok (.getfield 7, 3) := by decide +kernel
theorem dX4_push_34 : decode cX4_push 34 = .ok (.iconst 1, 1) := by decide +kernel
theorem dX4_push_35 : decode cX4_push 35 = .ok (.iadd, 1) := by decide +kernel
theorem dX4_push_36 : decode cX4_push 36 = .ok (.putfield 7, 3) := by decide +kernel
theorem dX4_push_39 : decode cX4_push 39 = .ok (.return_, 1) := by decide +kernel
theorem dX4_pop_0 : decode cX4_pop 0 = .ok (.aload_n 0, 1) := by decide +kernel
theorem dX4_pop_1 : decode cX4_pop 1 = .ok (.getfield 7, 3) := by decide +kernel
theorem dX4_pop_4 : decode cX4_pop 4 = .ok (.ifCond .le 15, 3) := by decide +kernel
theorem dX4_pop_7 : decode cX4_pop 7 = .ok (.aload_n 0, 1) := by decide +kernel
theorem dX4_pop_8 : decode cX4_pop 8 = .ok (.getfield 7, 3) := by decide +kernel
theorem dX4_pop_11 : decode cX4_pop 11 = .ok (.aload_n 0, 1) := by decide +kernel
theorem dX4_pop_12 : decode cX4_pop 12 = .ok (.getfield 17, 3) := by decide +kernel
theorem dX4_pop_15 : decode cX4_pop 15 = .ok (.arraylength, 1) := by decide +kernel
theorem dX4_pop_16 : decode cX4_pop 16 = .ok (.if_icmp .le 5, 3) := by decide +kernel
theorem dX4_pop_19 : decode cX4_pop 19 = .ok (.lconst 0, 1) := by decide +kernel
theorem dX4_pop_20 : decode cX4_pop 20 = .ok (.lreturn, 1) := by decide +kernel
theorem dX4_pop_21 : decode cX4_pop 21 = .ok (.aload_n 0, 1) := by decide +kernel
theorem dX4_pop_22 : decode cX4_pop 22 = .ok (.dup, 1) := by decide +kernel
theorem dX4_pop_23 : decode cX4_pop 23 = .ok (.getfield 7, 3) := by decide +kernel
theorem dX4_pop_26 : decode cX4_pop 26 = .ok (.iconst 1, 1) := by decide +kernel
theorem dX4_pop_27 : decode cX4_pop 27 = .ok (.isub, 1) := by decide +kernel
theorem dX4_pop_28 : decode cX4_pop 28 = .ok (.putfield 7, 3) := by decide +kernel
theorem dX4_pop_31 : decode cX4_pop 31 = .ok (.aload_n 0, 1) := by decide +kernel
theorem dX4_pop_32 : decode cX4_pop 32 = .ok (.getfield 17, 3) := by decide +kernel
theorem dX4_pop_35 : decode cX4_pop 35 = .ok (.aload_n 0, 1) := by decide +kernel
theorem dX4_pop_36 : decode cX4_pop 36 = .ok (.getfield 7, 3) := by decide +kernel
theorem dX4_pop_39 : decode cX4_pop 39 = .ok (.laload, 1) := by decide +kernel
theorem dX4_pop_40 : decode cX4_pop 40 = .ok (.lreturn, 1) := by decide +kernel
set_option maxRecDepth 20000 in
theorem ggX5_numberOf_X2_ways : GoodIn wsX5_numberOf wsX2_ways := goodIn_r _ [4, 5] (by decide +kernel) (by decide +kernel)
set_option maxRecDepth 20000 in
theorem gX5_numberOf_X2_ways : GoodIn wsX5_numberOf (va_wsS RX5 7 yX2_ways wsX2_ways) := goodIn_app (goodIn_of _ (by decide +kernel)) ggX5_numberOf_X2_ways
theorem dX5_numberOf_0 : decode cX5_numberOf 0 = .ok (.lconst 0, 1) := by decide +kernel
theorem dX5_numberOf_1 : decode cX5_numberOf 1 = .ok (.lstore_n 2, 1) := by decide +kernel
theorem dX5_numberOf_2 : decode cX5_numberOf 2 = .ok (.iconst 0, 1) := by decide +kernel
theorem dX5_numberOf_3 : decode cX5_numberOf 3 = .ok (.istore 4, 2) := by decide +kernel
theorem dX5_numberOf_5 : decode cX5_numberOf 5 = .ok (.iconst 0, 1) := by decide +kernel
theorem dX5_numberOf_6 : decode cX5_numberOf 6 = .ok (.istore 5, 2) := by decide +kernel
theorem dX5_numberOf_8 : decode cX5_numberOf 8 = .ok (.iload 5, 2) := by decide +kernel
theorem dX5_numberOf_10 : decode cX5_numberOf 10 = .ok (.iload_n 0, 1) := by decide +kernel
theorem dX5_numberOf_11 : decode cX5_numberOf 11 = .ok (.if_icmp .ge 32, 3) := by decide +kernel
theorem dX5_numberOf_14 : decode cX5_numberOf 14 = .ok (.iload_n 1, 1) := by decide +kernel
theorem dX5_numberOf_15 : decode cX5_numberOf 15 = .ok (.iload 5, 2) := by decide +kernel
theorem dX5_numberOf_17 : decode cX5_numberOf 17 = .ok (.ishr, 1) := by decide +kernel
theorem dX5_numberOf_18 : decode cX5_numberOf 18 = .ok (.iconst 1, 1) := by decide +kernel
theorem dX5_numberOf_19 : decode cX5_numberOf 19 = .ok (.iand, 1) := by decide +kernel
theorem dX5_numberOf_20 : decode cX5_numberOf 20 = .ok (.iconst 1, 1) := by decide +kernel
theorem dX5_numberOf_21 : decode cX5_numberOf 21 = .ok (.if_icmp .ne 16, 3) := by decide +kernel
theorem dX5_numberOf_24 : decode cX5_numberOf 24 = .ok (.iinc 4 1, 3) := by decide +kernel
theorem dX5_numberOf_27 : decode cX5_numberOf 27 = .ok (.lload_n 2, 1) := by decide +kernel
theorem dX5_numberOf_28 : decode cX5_numberOf 28 = .ok (.iload 5, 2) := by decide +kernel
theorem dX5_numberOf_30 : decode cX5_numberOf 30 = .ok (.iload 4, 2) := by decide +kernel
theorem dX5_numberOf_32 : decode cX5_numberOf 32 = .ok (.invokestatic 7, 3) := by decide +kernel
theorem dX5_numberOf_35 : decode cX5_numberOf 35 = .ok (.ladd, 1) := by decide +kernel
theorem dX5_numberOf_36 : decode cX5_numberOf 36 = .ok (.lstore_n 2, 1) := by decide +kernel
theorem dX5_numberOf_37 : decode cX5_numberOf 37 = .ok (.iinc 5 1, 3) := by decide +kernel
theorem dX5_numberOf_40 : decode cX5_numberOf 40 = .ok (.goto (-32), 3) := by decide +kernel
theorem dX5_numberOf_43 : decode cX5_numberOf 43 = .ok (.lload_n 2, 1) := by decide +kernel
theorem dX5_numberOf_44 : decode cX5_numberOf 44 = .ok (.l2i, 1) := by decide +kernel
theorem dX5_numberOf_45 : decode cX5_numberOf 45 = .ok (.ireturn, 1) := by decide +kernel
set_option maxRecDepth 20000 in
theorem ggX5_numbered_X2_ways : GoodIn wsX5_numbered wsX2_ways := goodIn_r _ [4, 5] (by decide +kernel) (by decide +kernel)
set_option maxRecDepth 20000 in
theorem gX5_numbered_X2_ways : GoodIn wsX5_numbered (va_wsS RX5 7 yX2_ways wsX2_ways) := goodIn_app (goodIn_of _ (by decide +kernel)) ggX5_numbered_X2_ways
theorem dX5_numbered_0 : decode cX5_numbered 0 = .ok (.iconst 0, 1) := by decide +kernel
theorem dX5_numbered_1 : decode cX5_numbered 1 = .ok (.istore_n 3, 1) := by decide +kernel
theorem dX5_numbered_2 : decode cX5_numbered 2 = .ok (.iload_n 1, 1) := by decide +kernel
theorem dX5_numbered_3 : decode cX5_numbered 3 = .ok (.istore 4, 2) := by decide +kernel
theorem dX5_numbered_5 : decode cX5_numbered 5 = .ok (.iload_n 2, 1) := by decide +kernel
theorem dX5_numbered_6 : decode cX5_numbered 6 = .ok (.i2l, 1) := by decide +kernel
theorem dX5_numbered_7 : decode cX5_numbered 7 = .ok (.lstore 5, 2) := by decide +kernel
theorem dX5_numbered_9 : decode cX5_numbered 9 = .ok (.iload_n 0, 1) := by decide +kernel
theorem dX5_numbered_10 : decode cX5_numbered 10 = .ok (.iconst 1, 1) := by decide +kernel
theorem dX5_numbered_11 : decode cX5_numbered 11 = .ok (.isub, 1) := by decide +kernel
theorem dX5_numbered_12 : decode cX5_numbered 12 = .ok (.istore 7, 2) := by decide +kernel
theorem dX5_numbered_14 : decode cX5_numbered 14 = .ok (.iload 7, 2) := by decide +kernel
theorem dX5_numbered_16 : decode cX5_numbered 16 = .ok (.ifCond .lt 48, 3) := by decide +kernel
theorem dX5_numbered_19 : decode cX5_numbered 19 = .ok (.iload 7, 2) := by decide +kernel
theorem dX5_numbered_21 : decode cX5_numbered 21 = .ok (.iload 4, 2) := by decide +kernel
theorem dX5_numbered_23 : decode cX5_numbered 23 = .ok (.invokestatic 7, 3) := by decide +kernel
theorem dX5_numbered_26 : decode cX5_numbered 26 = .ok (.lstore 8, 2) := by decide +kernel
theorem dX5_numbered_28 : decode cX5_numbered 28 = .ok (.iload 4, 2) := by decide +kernel
theorem dX5_numbered_30 : decode cX5_numbered 30 = .ok (.ifCond .le 28, 3) := by decide +kernel
theorem dX5_numbered_33 : decode cX5_numbered 33 = .ok (.lload 5, 2) := by decide +kernel
theorem dX5_numbered_35 : decode cX5_numbered 35 = .ok (.lload 8, 2) := by decide +kernel
theorem dX5_numbered_37 : decode cX5_numbered 37 = .ok (.lcmp, 1) := by decide +kernel
theorem dX5_numbered_38 : decode cX5_numbered 38 = .ok (.ifCond .lt 20, 3) := by decide +kernel
theorem dX5_numbered_41 : decode cX5_numbered 41 = .ok (.iload_n 3, 1) := by decide +kernel
theorem dX5_numbered_42 : decode cX5_numbered 42 = .ok (.iconst 1, 1) := by decide +kernel
theorem dX5_numbered_43 : decode cX5_numbered 43 = .ok (.iload 7, 2) := by decide +kernel
theorem dX5_numbered_45 : decode cX5_numbered 45 = .ok (.ishl, 1) := by decide +kernel
theorem dX5_numbered_46 : decode cX5_numbered 46 = .ok (.ior, 1) := by decide +kernel
theorem dX5_numbered_47 : decode cX5_numbered 47 = .ok (.istore_n 3, 1) := by decide +kernel
theorem dX5_numbered_48 : decode cX5_numbered 48 = .ok (.lload 5, 2) := by decide +kernel
theorem dX5_numbered_50 : decode cX5_numbered 50 = .ok (.lload 8, 2) := by decide +kernel
theorem dX5_numbered_52 : decode cX5_numbered 52 = .ok (.lsub, 1) := by decide +kernel
theorem dX5_numbered_53 : decode cX5_numbered 53 = .ok (.lstore 5, 2) := by decide +kernel
theorem dX5_numbered_55 : decode cX5_numbered 55 = .ok (.iinc 4 (-1), 3) := by decide +kernel
theorem dX5_numbered_58 : decode cX5_numbered 58 = .ok (.iinc 7 (-1), 3) := by decide +kernel
theorem dX5_numbered_61 : decode cX5_numbered 61 = .ok (.goto (-47), 3) := by decide +kernel
theorem dX5_numbered_64 : decode cX5_numbered 64 = .ok (.iload_n 3, 1) := by decide +kernel
theorem dX5_numbered_65 : decode cX5_numbered 65 = .ok (.ireturn, 1) := by decide +kernel
set_option maxRecDepth 20000 in
theorem ggX5_next_J6_bitCount_0f7a4 : GoodIn wsX5_next wsJ6_bitCount_0f7a4 := goodIn_r _ [8, 9, 10, 11] (by decide +kernel) (by decide +kernel)
set_option maxRecDepth 20000 in
theorem gX5_next_J6_bitCount_0f7a4 : GoodIn wsX5_next (va_wsS RX5 13 yJ6_bitCount_0f7a4 wsJ6_bitCount_0f7a4) := goodIn_app (goodIn_of _ (by decide +kernel)) ggX5_next_J6_bitCount_0f7a4
theorem dX5_next_0 : decode cX5_next 0 = .ok (.iload_n 0, 1) := by decide +kernel
theorem dX5_next_1 : decode cX5_next 1 = .ok (.iload_n 0, 1) := by decide +kernel
theorem dX5_next_2 : decode cX5_next 2 = .ok (.iload_n 0, 1) := by decide +kernel
theorem dX5_next_3 : decode cX5_next 3 = .ok (.ineg, 1) := by decide +kernel
theorem dX5_next_4 : decode cX5_next 4 = .ok (.iand, 1) := by decide +kernel
theorem dX5_next_5 : decode cX5_next 5 = .ok (.iadd, 1) := by decide +kernel
theorem dX5_next_6 : decode cX5_next 6 = .ok (.istore_n 1, 1) := by decide +kernel
theorem dX5_next_7 : decode cX5_next 7 = .ok (.iload_n 0, 1) := by decide +kernel
theorem dX5_next_8 : decode cX5_next 8 = .ok (.iload_n 1, 1) := by decide +kernel
theorem dX5_next_9 : decode cX5_next 9 = .ok (.ixor, 1) := by decide +kernel
theorem dX5_next_10 : decode cX5_next 10 = .ok (.invokestatic 13, 3) := by decide +kernel
theorem dX5_next_13 : decode cX5_next 13 = .ok (.iconst 2, 1) := by decide +kernel
theorem dX5_next_14 : decode cX5_next 14 = .ok (.isub, 1) := by decide +kernel
theorem dX5_next_15 : decode cX5_next 15 = .ok (.istore_n 2, 1) := by decide +kernel
theorem dX5_next_16 : decode cX5_next 16 = .ok (.iload_n 1, 1) := by decide +kernel
theorem dX5_next_17 : decode cX5_next 17 = .ok (.iconst 1, 1) := by decide +kernel
theorem dX5_next_18 : decode cX5_next 18 = .ok (.iload_n 2, 1) := by decide +kernel
theorem dX5_next_19 : decode cX5_next 19 = .ok (.iconst 0, 1) := by decide +kernel
theorem dX5_next_20 : decode cX5_next 20 = .ok (.invokestatic 19, 3) := by decide +kernel
theorem dX5_next_23 : decode cX5_next 23 = .ok (.ishl, 1) := by decide +kernel
theorem dX5_next_24 : decode cX5_next 24 = .ok (.iconst 1, 1) := by decide +kernel
theorem dX5_next_25 : decode cX5_next 25 = .ok (.isub, 1) := by decide +kernel
theorem dX5_next_26 : decode cX5_next 26 = .ok (.ior, 1) := by decide +kernel
theorem dX5_next_27 : decode cX5_next 27 = .ok (.ireturn, 1) := by decide +kernel
theorem dX5_places_0 : decode cX5_places 0 = .ok (.iconst 0, 1) := by decide +kernel
theorem dX5_places_1 : decode cX5_places 1 = .ok (.istore_n 2, 1) := by decide +kernel
theorem dX5_places_2 : decode cX5_places 2 = .ok (.iconst 0, 1) := by decide +kernel
theorem dX5_places_3 : decode cX5_places 3 = .ok (.istore_n 3, 1) := by decide +kernel
theorem dX5_places_4 : decode cX5_places 4 = .ok (.iload_n 3, 1) := by decide +kernel
theorem dX5_places_5 : decode cX5_places 5 = .ok (.iload_n 0, 1) := by decide +kernel
theorem dX5_places_6 : decode cX5_places 6 = .ok (.if_icmp .ge 22, 3) := by decide +kernel
theorem dX5_places_9 : decode cX5_places 9 = .ok (.iload_n 1, 1) := by decide +kernel
theorem dX5_places_10 : decode cX5_places 10 = .ok (.iload_n 3, 1) := by decide +kernel
theorem dX5_places_11 : decode cX5_places 11 = .ok (.ishr, 1) := by decide +kernel
theorem dX5_places_12 : decode cX5_places 12 = .ok (.iconst 1, 1) := by decide +kernel
theorem dX5_places_13 : decode cX5_places 13 = .ok (.iand, 1) := by decide +kernel
theorem dX5_places_14 : decode cX5_places 14 = .ok (.iconst 1, 1) := by decide +kernel
theorem dX5_places_15 : decode cX5_places 15 = .ok (.if_icmp .ne 7, 3) := by decide +kernel
theorem dX5_places_18 : decode cX5_places 18 = .ok (.iload_n 2, 1) := by decide +kernel
theorem dX5_places_19 : decode cX5_places 19 = .ok (.iload_n 3, 1) := by decide +kernel
theorem dX5_places_20 : decode cX5_places 20 = .ok (.iadd, 1) := by decide +kernel
theorem dX5_places_21 : decode cX5_places 21 = .ok (.istore_n 2, 1) := by decide +kernel
theorem dX5_places_22 : decode cX5_places 22 = .ok (.iinc 3 1, 3) := by decide +kernel
theorem dX5_places_25 : decode cX5_places 25 = .ok (.goto (-21), 3) := by decide +kernel
theorem dX5_places_28 : decode cX5_places 28 = .ok (.iload_n 2, 1) := by decide +kernel
theorem dX5_places_29 : decode cX5_places 29 = .ok (.ireturn, 1) := by decide +kernel
set_option maxRecDepth 20000 in
theorem ggX5_alike_J6_bitCount_0f7a4 : GoodIn wsX5_alike wsJ6_bitCount_0f7a4 := goodIn_r _ [4, 5, 6, 7] (by decide +kernel) (by decide +kernel)
set_option maxRecDepth 20000 in
theorem gX5_alike_J6_bitCount_0f7a4 : GoodIn wsX5_alike (va_wsS RX5 13 yJ6_bitCount_0f7a4 wsJ6_bitCount_0f7a4) := goodIn_app (goodIn_of _ (by decide +kernel)) ggX5_alike_J6_bitCount_0f7a4
theorem dX5_alike_0 : decode cX5_alike 0 = .ok (.iload_n 0, 1) := by decide +kernel
theorem dX5_alike_1 : decode cX5_alike 1 = .ok (.iload_n 1, 1) := by decide +kernel
theorem dX5_alike_2 : decode cX5_alike 2 = .ok (.iload_n 2, 1) := by decide +kernel
theorem dX5_alike_3 : decode cX5_alike 3 = .ok (.ixor, 1) := by decide +kernel
theorem dX5_alike_4 : decode cX5_alike 4 = .ok (.iconst 1, 1) := by decide +kernel
theorem dX5_alike_5 : decode cX5_alike 5 = .ok (.iload_n 0, 1) := by decide +kernel
theorem dX5_alike_6 : decode cX5_alike 6 = .ok (.ishl, 1) := by decide +kernel
theorem dX5_alike_7 : decode cX5_alike 7 = .ok (.iconst 1, 1) := by decide +kernel
theorem dX5_alike_8 : decode cX5_alike 8 = .ok (.isub, 1) := by decide +kernel
theorem dX5_alike_9 : decode cX5_alike 9 = .ok (.iand, 1) := by decide +kernel
theorem dX5_alike_10 : decode cX5_alike 10 = .ok (.invokestatic 13, 3) := by decide +kernel
theorem dX5_alike_13 : decode cX5_alike 13 = .ok (.isub, 1) := by decide +kernel
theorem dX5_alike_14 : decode cX5_alike 14 = .ok (.ireturn, 1) := by decide +kernel
theorem dX6_init_0 : decode cX6_init 0 = .ok (.aload_n 0, 1) := by decide +kernel
theorem dX6_init_1 : decode cX6_init 1 = .ok (.invokespecial 1, 3) := by decide +kernel
theorem dX6_init_4 : decode cX6_init 4 = .ok (.aload_n 0, 1) := by decide +kernel
theorem dX6_init_5 : decode cX6_init 5 = .ok (.iload_n 1, 1) := by decide +kernel
theorem dX6_init_6 : decode cX6_init 6 = .ok (.putfield 7, 3) := by decide +kernel
theorem dX6_init_9 : decode cX6_init 9 = .ok (.aload_n 0, 1) := by decide +kernel
theorem dX6_init_10 : decode cX6_init 10 = .ok (.iload_n 2, 1) := by decide +kernel
theorem dX6_init_11 : decode cX6_init 11 = .ok (.putfield 13, 3) := by decide +kernel
theorem dX6_init_14 : decode cX6_init 14 = .ok (.aload_n 0, 1) := by decide +kernel
theorem dX6_init_15 : decode cX6_init 15 = .ok (.iload_n 3, 1) := by decide +kernel
theorem dX6_init_16 : decode cX6_init 16 = .ok (.putfield 16, 3) := by decide +kernel
theorem dX6_init_19 : decode cX6_init 19 = .ok (.return_, 1) := by decide +kernel
theorem dX7_init_0 : decode cX7_init 0 = .ok (.aload_n 0, 1) := by decide +kernel
theorem dX7_init_1 : decode cX7_init 1 = .ok (.invokespecial 3, 3) := by decide +kernel
theorem dX7_init_4 : decode cX7_init 4 = .ok (.aload_n 0, 1) := by decide +kernel
theorem dX7_init_5 : decode cX7_init 5 = .ok (.bipush 40, 2) := by decide +kernel
theorem dX7_init_7 : decode cX7_init 7 = .ok (.newarray .int, 2) := by decide +kernel
theorem dX7_init_9 : decode cX7_init 9 = .ok (.putfield 9, 3) := by decide +kernel
theorem dX7_init_12 : decode cX7_init 12 = .ok (.aload_n 0, 1) := by decide +kernel
theorem dX7_init_13 : decode cX7_init 13 = .ok (.bipush 40, 2) := by decide +kernel
theorem dX7_init_15 : decode cX7_init 15 = .ok (.newarray .int, 2) := by decide +kernel
theorem dX7_init_17 : decode cX7_init 17 = .ok (.putfield 15, 3) := by decide +kernel
theorem dX7_init_20 : decode cX7_init 20 = .ok (.aload_n 0, 1) := by decide +kernel
theorem dX7_init_21 : decode cX7_init 21 = .ok (.iconst 0, 1) := by decide +kernel
theorem dX7_init_22 : decode cX7_init 22 = .ok (.putfield 18, 3) := by decide +kernel
theorem dX7_init_25 : decode cX7_init 25 = .ok (.aload_n 0, 1) := by decide +kernel
theorem dX7_init_26 : decode cX7_init 26 = .ok (.iconst 0, 1) := by decide +kernel
theorem dX7_init_27 : decode cX7_init 27 = .ok (.putfield 22, 3) := by decide +kernel
theorem dX7_init_30 : decode cX7_init 30 = .ok (.aload_n 0, 1) := by decide +kernel
theorem dX7_init_31 : decode cX7_init 31 = .ok (.iconst 0, 1) := by decide +kernel
theorem dX7_init_32 : decode cX7_init 32 = .ok (.putfield 25, 3) := by decide +kernel
theorem dX7_init_35 : decode cX7_init 35 = .ok (.aload_n 0, 1) := by decide +kernel
theorem dX7_init_36 : decode cX7_init 36 = .ok (.iconst (-1), 1) := by decide +kernel
theorem dX7_init_37 : decode cX7_init 37 = .ok (.putfield 28, 3) := by decide +kernel
theorem dX7_init_40 : decode cX7_init 40 = .ok (.return_, 1) := by decide +kernel
theorem dX7_fed_0 : decode cX7_fed 0 = .ok (.aload_n 0, 1) := by decide +kernel
theorem dX7_fed_1 : decode cX7_fed 1 = .ok (.getfield 18, 3) := by decide +kernel
theorem dX7_fed_4 : decode cX7_fed 4 = .ok (.ireturn, 1) := by decide +kernel
theorem dX7_take_0 : decode cX7_take 0 = .ok (.aload_n 0, 1) := by decide +kernel
theorem dX7_take_1 : decode cX7_take 1 = .ok (.getfield 18, 3) := by decide +kernel
theorem dX7_take_4 : decode cX7_take 4 = .ok (.ifCond .lt 35, 3) := by decide +kernel
theorem dX7_take_7 : decode cX7_take 7 = .ok (.aload_n 0, 1) := by decide +kernel
theorem dX7_take_8 : decode cX7_take 8 = .ok (.getfield 18, 3) := by decide +kernel
theorem dX7_take_11 : decode cX7_take 11 = .ok (.aload_n 0, 1) := by decide +kernel
theorem dX7_take_12 : decode cX7_take 12 = .ok (.getfield 9, 3) := by decide +kernel
theorem dX7_take_15 : decode cX7_take 15 = .ok (.arraylength, 1) := by decide +kernel
theorem dX7_take_16 : decode cX7_take 16 = .ok (.if_icmp .ge 23, 3) := by decide +kernel
theorem dX7_take_19 : decode cX7_take 19 = .ok (.aload_n 0, 1) := by decide +kernel
theorem dX7_take_20 : decode cX7_take 20 = .ok (.getfield 9, 3) := by decide +kernel
theorem dX7_take_23 : decode cX7_take 23 = .ok (.aload_n 0, 1) := by decide +kernel
theorem dX7_take_24 : decode cX7_take 24 = .ok (.getfield 18, 3) := by decide +kernel
theorem dX7_take_27 : decode cX7_take 27 = .ok (.iload_n 1, 1) := by decide +kernel
theorem dX7_take_28 : decode cX7_take 28 = .ok (.iastore, 1) := by decide +kernel
theorem dX7_take_29 : decode cX7_take 29 = .ok (.aload_n 0, 1) := by decide +kernel
theorem dX7_take_30 : decode cX7_take 30 = .ok (.dup, 1) := by decide +kernel
theorem dX7_take_31 : decode cX7_take 31 = .ok (.getfield 18, 3) := by decide +kernel
theorem dX7_take_34 : decode cX7_take 34 = .ok (.iconst 1, 1) := by decide +kernel
theorem dX7_take_35 : decode cX7_take 35 = .ok (.iadd, 1) := by decide +kernel
theorem dX7_take_36 : decode cX7_take 36 = .ok (.putfield 18, 3) := by decide +kernel
theorem dX7_take_39 : decode cX7_take 39 = .ok (.return_, 1) := by decide +kernel
theorem dX7_clear_0 : decode cX7_clear 0 = .ok (.aload_n 0, 1) := by decide +kernel
theorem dX7_clear_1 : decode cX7_clear 1 = .ok (.iconst 0, 1) := by decide +kernel
theorem dX7_clear_2 : decode cX7_clear 2 = .ok (.putfield 18, 3) := by decide +kernel
theorem dX7_clear_5 : decode cX7_clear 5 = .ok (.return_, 1) := by decide +kernel
set_option maxRecDepth 20000 in
theorem ggX7_read_X7_readOr : GoodIn wsX7_read wsX7_readOr := goodIn_r _ [8, 9, 2, 10, 11, 12, 7, 13, 14, 15, 16, 3, 17, 18, 19, 20, 21, 1, 22, 23, 24, 25, 26, 27, 28, 29, 30, 31, 4, 5, 6, 32, 33, 34, 35, 36, 37, 38, 39, 40, 41, 42, 43, 44, 45, 46, 47, 48, 49, 50, 51] (by decide +kernel) (by decide +kernel)
set_option maxRecDepth 20000 in
theorem gX7_read_X7_readOr : GoodIn wsX7_read (wsV RX7 31 RX7 yX7_readOr wsX7_readOr) := goodIn_app (goodIn_of _ (by decide +kernel)) ggX7_read_X7_readOr
set_option maxRecDepth 20000 in
theorem ggX7_read_X7_sign : GoodIn wsX7_read wsX7_sign := goodIn_r _ [16, 3, 2, 9, 17, 46, 47, 48, 49, 50, 51] (by decide +kernel) (by decide +kernel)
set_option maxRecDepth 20000 in
theorem gX7_read_X7_sign : GoodIn wsX7_read (wsV RX7 35 RX7 yX7_sign wsX7_sign) := goodIn_app (goodIn_of _ (by decide +kernel)) ggX7_read_X7_sign
set_option maxRecDepth 20000 in
theorem ggX7_read_X7_faultHere : GoodIn wsX7_read wsX7_faultHere := goodIn_r _ [31, 3, 2, 46, 47, 48, 49, 50, 51] (by decide +kernel) (by decide +kernel)
set_option maxRecDepth 20000 in
theorem gX7_read_X7_faultHere : GoodIn wsX7_read (wsV RX7 39 RX7 yX7_faultHere wsX7_faultHere) := goodIn_app (goodIn_of _ (by decide +kernel)) ggX7_read_X7_faultHere
theorem dX7_read_0 : decode cX7_read 0 = .ok (.aload_n 0, 1) := by decide +kernel
theorem dX7_read_1 : decode cX7_read 1 = .ok (.iconst 0, 1) := by decide +kernel
theorem dX7_read_2 : decode cX7_read 2 = .ok (.putfield 22, 3) := by decide +kernel
theorem dX7_read_5 : decode cX7_read 5 = .ok (.aload_n 0, 1) := by decide +kernel
theorem dX7_read_6 : decode cX7_read 6 = .ok (.iconst 0, 1) := by decide +kernel
theorem dX7_read_7 : decode cX7_read 7 = .ok (.putfield 25, 3) := by decide +kernel
theorem dX7_read_10 : decode cX7_read 10 = .ok (.aload_n 0, 1) := by decide +kernel
theorem dX7_read_11 : decode cX7_read 11 = .ok (.iconst (-1), 1) := by decide +kernel
theorem dX7_read_12 : decode cX7_read 12 = .ok (.putfield 28, 3) := by decide +kernel
theorem dX7_read_15 : decode cX7_read 15 = .ok (.aload_n 0, 1) := by decide +kernel
theorem dX7_read_16 : decode cX7_read 16 = .ok (.iconst 0, 1) := by decide +kernel
theorem dX7_read_17 : decode cX7_read 17 = .ok (.invokevirtual 31, 3) := by decide +kernel
theorem dX7_read_20 : decode cX7_read 20 = .ok (.aload_n 0, 1) := by decide +kernel
theorem dX7_read_21 : decode cX7_read 21 = .ok (.invokevirtual 35, 3) := by decide +kernel
theorem dX7_read_24 : decode cX7_read 24 = .ok (.iconst (-1), 1) := by decide +kernel
theorem dX7_read_25 : decode cX7_read 25 = .ok (.if_icmp .eq 7, 3) := by decide +kernel
theorem dX7_read_28 : decode cX7_read 28 = .ok (.aload_n 0, 1) := by decide +kernel
theorem dX7_read_29 : decode cX7_read 29 = .ok (.invokevirtual 39, 3) := by decide +kernel
theorem dX7_read_32 : decode cX7_read 32 = .ok (.aload_n 0, 1) := by decide +kernel
theorem dX7_read_33 : decode cX7_read 33 = .ok (.getfield 28, 3) := by decide +kernel
theorem dX7_read_36 : decode cX7_read 36 = .ok (.ireturn, 1) := by decide +kernel
set_option maxRecDepth 20000 in
theorem ggX7_codeRead_J7_copyOf_59c91 : GoodIn wsX7_codeRead wsJ7_copyOf_59c91 := goodIn_r _ [10, 11, 12, 13, 14, 15, 16, 17, 18, 19, 5, 20, 21, 22, 23, 24] (by decide +kernel) (by decide +kernel)
set_option maxRecDepth 20000 in
theorem gX7_codeRead_J7_copyOf_59c91 : GoodIn wsX7_codeRead (va_wsS RX7 48 yJ7_copyOf_59c91 wsJ7_copyOf_59c91) := goodIn_app (goodIn_of _ (by decide +kernel)) ggX7_codeRead_J7_copyOf_59c91
theorem dX7_codeRead_0 : decode cX7_codeRead 0 = .ok (.aload_n 0, 1) := by decide +kernel
theorem dX7_codeRead_1 : decode cX7_codeRead 1 = .ok (.getfield 15, 3) := by decide +kernel
theorem dX7_codeRead_4 : decode cX7_codeRead 4 = .ok (.aload_n 0, 1) := by decide +kernel
theorem dX7_codeRead_5 : decode cX7_codeRead 5 = .ok (.getfield 22, 3) := by decide +kernel
theorem dX7_codeRead_8 : decode cX7_codeRead 8 = .ok (.iconst 0, 1) := by decide +kernel
theorem dX7_codeRead_9 : decode cX7_codeRead 9 = .ok (.invokestatic 42, 3) := by decide +kernel
theorem dX7_codeRead_12 : decode cX7_codeRead 12 = .ok (.invokestatic 48, 3) := by decide +kernel
theorem dX7_codeRead_15 : decode cX7_codeRead 15 = .ok (.areturn, 1) := by decide +kernel
set_option maxRecDepth 20000 in
theorem ggX7_readOr_X7_readAnd : GoodIn wsX7_readOr wsX7_readAnd := goodIn_r _ [19, 1, 2, 20, 21, 22, 6, 7, 8, 9, 10, 11, 12, 13, 14, 15, 16, 17, 18, 0, 3, 4, 5, 23, 24, 25, 26, 27, 28, 29, 30, 31, 32, 33, 34, 35, 36, 37, 38, 39, 40, 41, 42, 43, 44, 45, 46, 47, 48, 49, 50] (by decide +kernel) (by decide +kernel)
set_option maxRecDepth 20000 in
theorem gX7_readOr_X7_readAnd : GoodIn wsX7_readOr (wsV RX7 54 RX7 yX7_readAnd wsX7_readAnd) := goodIn_app (goodIn_of _ (by decide +kernel)) ggX7_readOr_X7_readAnd
set_option maxRecDepth 20000 in
theorem ggX7_readOr_X7_sign : GoodIn wsX7_readOr wsX7_sign := goodIn_r _ [10, 11, 2, 1, 12, 45, 46, 47, 48, 49, 50] (by decide +kernel) (by decide +kernel)
set_option maxRecDepth 20000 in
theorem gX7_readOr_X7_sign : GoodIn wsX7_readOr (wsV RX7 35 RX7 yX7_sign wsX7_sign) := goodIn_app (goodIn_of _ (by decide +kernel)) ggX7_readOr_X7_sign
set_option maxRecDepth 20000 in
theorem ggX7_readOr_X7_write : GoodIn wsX7_readOr wsX7_write := goodIn_r _ [16, 17, 18, 45, 46, 47, 48, 49, 50] (by decide +kernel) (by decide +kernel)
set_option maxRecDepth 20000 in
theorem gX7_readOr_X7_write : GoodIn wsX7_readOr (wsV RX7 57 RX7 yX7_write wsX7_write) := goodIn_app (goodIn_of _ (by decide +kernel)) ggX7_readOr_X7_write
theorem dX7_readOr_0 : decode cX7_readOr 0 = .ok (.aload_n 0, 1) := by decide +kernel
theorem dX7_readOr_1 : decode cX7_readOr 1 = .ok (.iload_n 1, 1) := by decide +kernel
theorem dX7_readOr_2 : decode cX7_readOr 2 = .ok (.invokevirtual 54, 3) := by decide +kernel
theorem dX7_readOr_5 : decode cX7_readOr 5 = .ok (.iconst 0, 1) := by decide +kernel
theorem dX7_readOr_6 : decode cX7_readOr 6 = .ok (.istore_n 2, 1) := by decide +kernel
theorem dX7_readOr_7 : decode cX7_readOr 7 = .ok (.iload_n 2, 1) := by decide +kernel
theorem dX7_readOr_8 : decode cX7_readOr 8 = .ok (.aload_n 0, 1) := by decide +kernel
theorem dX7_readOr_9 : decode cX7_readOr 9 = .ok (.getfield 18, 3) := by decide +kernel
theorem dX7_readOr_12 : decode cX7_readOr 12 = .ok (.if_icmp .ge 39, 3) := by decide +kernel
theorem dX7_readOr_15 : decode cX7_readOr 15 = .ok (.aload_n 0, 1) := by decide +kernel
theorem dX7_readOr_16 : decode cX7_readOr 16 = .ok (.invokevirtual 35, 3) := by decide +kernel
theorem dX7_readOr_19 : decode cX7_readOr 19 = .ok (.bipush 124, 2) := by decide +kernel
theorem dX7_readOr_21 : decode cX7_readOr 21 = .ok (.if_icmp .ne 30, 3) := by decide +kernel
theorem dX7_readOr_24 : decode cX7_readOr 24 = .ok (.aload_n 0, 1) := by decide +kernel
theorem dX7_readOr_25 : decode cX7_readOr 25 = .ok (.dup, 1) := by decide +kernel
theorem dX7_readOr_26 : decode cX7_readOr 26 = .ok (.getfield 25, 3) := by decide +kernel
theorem dX7_readOr_29 : decode cX7_readOr 29 = .ok (.iconst 1, 1) := by decide +kernel
theorem dX7_readOr_30 : decode cX7_readOr 30 = .ok (.iadd, 1) := by decide +kernel
theorem dX7_readOr_31 : decode cX7_readOr 31 = .ok (.putfield 25, 3) := by decide +kernel
theorem dX7_readOr_34 : decode cX7_readOr 34 = .ok (.aload_n 0, 1) := by decide +kernel
theorem dX7_readOr_35 : decode cX7_readOr 35 = .ok (.iload_n 1, 1) := by decide +kernel
theorem dX7_readOr_36 : decode cX7_readOr 36 = .ok (.invokevirtual 54, 3) := by decide +kernel
theorem dX7_readOr_39 : decode cX7_readOr 39 = .ok (.aload_n 0, 1) := by decide +kernel
theorem dX7_readOr_40 : decode cX7_readOr 40 = .ok (.bipush (-124), 2) := by decide +kernel
theorem dX7_readOr_42 : decode cX7_readOr 42 = .ok (.invokevirtual 57, 3) := by decide +kernel
theorem dX7_readOr_45 : decode cX7_readOr 45 = .ok (.iinc 2 1, 3) := by decide +kernel
theorem dX7_readOr_48 : decode cX7_readOr 48 = .ok (.goto (-41), 3) := by decide +kernel
theorem dX7_readOr_51 : decode cX7_readOr 51 = .ok (.return_, 1) := by decide +kernel
set_option maxRecDepth 20000 in
theorem ggX7_readAnd_X7_readTest : GoodIn wsX7_readAnd wsX7_readTest := goodIn_r _ [23, 2, 7, 8, 9, 6, 10, 11, 1, 12, 24, 25, 26, 27, 3, 4, 5, 13, 14, 15, 16, 17, 18, 28, 29, 30, 31, 32, 33, 34, 35, 36, 37, 38, 39, 40, 41, 42, 43, 44, 0, 19, 20, 21, 22, 45, 46, 47, 48, 49, 50] (by decide +kernel) (by decide +kernel)
set_option maxRecDepth 20000 in
theorem gX7_readAnd_X7_readTest : GoodIn wsX7_readAnd (wsV RX7 60 RX7 yX7_readTest wsX7_readTest) := goodIn_app (goodIn_of _ (by decide +kernel)) ggX7_readAnd_X7_readTest
set_option maxRecDepth 20000 in
theorem ggX7_readAnd_X7_sign : GoodIn wsX7_readAnd wsX7_sign := goodIn_r _ [10, 11, 2, 1, 12, 45, 46, 47, 48, 49, 50] (by decide +kernel) (by decide +kernel)
set_option maxRecDepth 20000 in
theorem gX7_readAnd_X7_sign : GoodIn wsX7_readAnd (wsV RX7 35 RX7 yX7_sign wsX7_sign) := goodIn_app (goodIn_of _ (by decide +kernel)) ggX7_readAnd_X7_sign
set_option maxRecDepth 20000 in
theorem ggX7_readAnd_X7_write : GoodIn wsX7_readAnd wsX7_write := goodIn_r _ [16, 17, 18, 45, 46, 47, 48, 49, 50] (by decide +kernel) (by decide +kernel)
set_option maxRecDepth 20000 in
theorem gX7_readAnd_X7_write : GoodIn wsX7_readAnd (wsV RX7 57 RX7 yX7_write wsX7_write) := goodIn_app (goodIn_of _ (by decide +kernel)) ggX7_readAnd_X7_write
theorem dX7_readAnd_0 : decode cX7_readAnd 0 = .ok (.aload_n 0, 1) := by decide +kernel
theorem dX7_readAnd_1 : decode cX7_readAnd 1 = .ok (.iload_n 1, 1) := by decide +kernel
theorem dX7_readAnd_2 : decode cX7_readAnd 2 = .ok (.invokevirtual 60, 3) := by decide +kernel
theorem dX7_readAnd_5 : decode cX7_readAnd 5 = .ok (.iconst 0, 1) := by decide +kernel
theorem dX7_readAnd_6 : decode cX7_readAnd 6 = .ok (.istore_n 2, 1) := by decide +kernel
theorem dX7_readAnd_7 : decode cX7_readAnd 7 = .ok (.iload_n 2, 1) := by decide +kernel
theorem dX7_readAnd_8 : decode cX7_readAnd 8 = .ok (.aload_n 0, 1) := by decide +kernel
theorem dX7_readAnd_9 : decode cX7_readAnd 9 = .ok (.getfield 18, 3) := by decide +kernel
theorem dX7_readAnd_12 : decode cX7_readAnd 12 = .ok (.if_icmp .ge 39, 3) := by decide +kernel
theorem dX7_readAnd_15 : decode cX7_readAnd 15 = .ok (.aload_n 0, 1) := by decide +kernel
theorem dX7_readAnd_16 : decode cX7_readAnd 16 = .ok (.invokevirtual 35, 3) := by decide +kernel
theorem dX7_readAnd_19 : decode cX7_readAnd 19 = .ok (.bipush 38, 2) := by decide +kernel
theorem dX7_readAnd_21 : decode cX7_readAnd 21 = .ok (.if_icmp .ne 30, 3) := by decide +kernel
theorem dX7_readAnd_24 : decode cX7_readAnd 24 = .ok (.aload_n 0, 1) := by decide +kernel
theorem dX7_readAnd_25 : decode cX7_readAnd 25 = .ok (.dup, 1) := by decide +kernel
theorem dX7_readAnd_26 : decode cX7_readAnd 26 = .ok (.getfield 25, 3) := by decide +kernel
theorem dX7_readAnd_29 : decode cX7_readAnd 29 = .ok (.iconst 1, 1) := by decide +kernel
theorem dX7_readAnd_30 : decode cX7_readAnd 30 = .ok (.iadd, 1) := by decide +kernel
theorem dX7_readAnd_31 : decode cX7_readAnd 31 = .ok (.putfield 25, 3) := by decide +kernel
theorem dX7_readAnd_34 : decode cX7_readAnd 34 = .ok (.aload_n 0, 1) := by decide +kernel
theorem dX7_readAnd_35 : decode cX7_readAnd 35 = .ok (.iload_n 1, 1) := by decide +kernel
theorem dX7_readAnd_36 : decode cX7_readAnd 36 = .ok (.invokevirtual 60, 3) := by decide +kernel
theorem dX7_readAnd_39 : decode cX7_readAnd 39 = .ok (.aload_n 0, 1) := by decide +kernel
theorem dX7_readAnd_40 : decode cX7_readAnd 40 = .ok (.bipush (-38), 2) := by decide +kernel
theorem dX7_readAnd_42 : decode cX7_readAnd 42 = .ok (.invokevirtual 57, 3) := by decide +kernel
theorem dX7_readAnd_45 : decode cX7_readAnd 45 = .ok (.iinc 2 1, 3) := by decide +kernel
theorem dX7_readAnd_48 : decode cX7_readAnd 48 = .ok (.goto (-41), 3) := by decide +kernel
theorem dX7_readAnd_51 : decode cX7_readAnd 51 = .ok (.return_, 1) := by decide +kernel
set_option maxRecDepth 20000 in
theorem ggX7_readTest_X7_sign : GoodIn wsX7_readTest wsX7_sign := goodIn_r _ [6, 7, 1, 8, 9, 45, 46, 47, 48, 49, 50] (by decide +kernel) (by decide +kernel)
set_option maxRecDepth 20000 in
theorem gX7_readTest_X7_sign : GoodIn wsX7_readTest (wsV RX7 35 RX7 yX7_sign wsX7_sign) := goodIn_app (goodIn_of _ (by decide +kernel)) ggX7_readTest_X7_sign
set_option maxRecDepth 20000 in
theorem ggX7_readTest_X7_faultHere : GoodIn wsX7_readTest wsX7_faultHere := goodIn_r _ [13, 7, 1, 45, 46, 47, 48, 49, 50] (by decide +kernel) (by decide +kernel)
set_option maxRecDepth 20000 in
theorem gX7_readTest_X7_faultHere : GoodIn wsX7_readTest (wsV RX7 39 RX7 yX7_faultHere wsX7_faultHere) := goodIn_app (goodIn_of _ (by decide +kernel)) ggX7_readTest_X7_faultHere
set_option maxRecDepth 20000 in
theorem ggX7_readTest_X7_readTest : GoodIn wsX7_readTest wsX7_readTest := goodIn_r _ [0, 1, 2, 3, 4, 5, 6, 7, 8, 9, 10, 11, 12, 13, 14, 15, 16, 17, 18, 19, 20, 21, 22, 23, 24, 25, 26, 27, 28, 29, 30, 31, 32, 33, 34, 35, 36, 37, 38, 39, 40, 41, 42, 43, 44, 45, 46, 47, 48, 49, 50] (by decide +kernel) (by decide +kernel)
set_option maxRecDepth 20000 in
theorem gX7_readTest_X7_readTest : GoodIn wsX7_readTest (wsV RX7 60 RX7 yX7_readTest wsX7_readTest) := goodIn_app (goodIn_of _ (by decide +kernel)) ggX7_readTest_X7_readTest
set_option maxRecDepth 20000 in
theorem ggX7_readTest_X7_write : GoodIn wsX7_readTest wsX7_write := goodIn_r _ [20, 21, 22, 45, 46, 47, 48, 49, 50] (by decide +kernel) (by decide +kernel)
set_option maxRecDepth 20000 in
theorem gX7_readTest_X7_write : GoodIn wsX7_readTest (wsV RX7 57 RX7 yX7_write wsX7_write) := goodIn_app (goodIn_of _ (by decide +kernel)) ggX7_readTest_X7_write
set_option maxRecDepth 20000 in
theorem ggX7_readTest_X7_readOr : GoodIn wsX7_readTest wsX7_readOr := goodIn_r _ [41, 8, 1, 42, 43, 44, 5, 2, 3, 4, 6, 7, 9, 17, 18, 19, 20, 21, 22, 40, 14, 15, 16, 0, 10, 11, 12, 13, 23, 24, 25, 26, 27, 28, 29, 30, 31, 32, 33, 34, 35, 36, 37, 38, 39, 45, 46, 47, 48, 49, 50] (by decide +kernel) (by decide +kernel)
set_option maxRecDepth 20000 in
theorem gX7_readTest_X7_readOr : GoodIn wsX7_readTest (wsV RX7 31 RX7 yX7_readOr wsX7_readOr) := goodIn_app (goodIn_of _ (by decide +kernel)) ggX7_readTest_X7_readOr
set_option maxRecDepth 20000 in
theorem ggX7_readTest_X7_readSum : GoodIn wsX7_readTest wsX7_readSum := goodIn_r _ [29, 8, 1, 30, 31, 32, 5, 33, 2, 3, 4, 6, 7, 9, 34, 35, 36, 17, 18, 19, 20, 21, 22, 37, 38, 39, 10, 11, 12, 13, 45, 46, 47, 48, 49, 50] (by decide +kernel) (by decide +kernel)
set_option maxRecDepth 20000 in
theorem gX7_readTest_X7_readSum : GoodIn wsX7_readTest (wsV RX7 63 RX7 yX7_readSum wsX7_readSum) := goodIn_app (goodIn_of _ (by decide +kernel)) ggX7_readTest_X7_readSum
theorem dX7_readTest_0 : decode cX7_readTest 0 = .ok (.aload_n 0, 1) := by decide +kernel
theorem dX7_readTest_1 : decode cX7_readTest 1 = .ok (.invokevirtual 35, 3) := by decide +kernel
theorem dX7_readTest_4 : decode cX7_readTest 4 = .ok (.istore_n 2, 1) := by decide +kernel
theorem dX7_readTest_5 : decode cX7_readTest 5 = .ok (.iload_n 2, 1) := by decide +kernel
theorem dX7_readTest_6 : decode cX7_readTest 6 = .ok (.bipush 33, 2) := by decide +kernel
theorem dX7_readTest_8 : decode cX7_readTest 8 = .ok (.if_icmp .eq 9, 3) := by decide +kernel
theorem dX7_readTest_11 : decode cX7_readTest 11 = .ok (.iload_n 2, 1) := by decide +kernel
theorem dX7_readTest_12 : decode cX7_readTest 12 = .ok (.bipush 40, 2) := by decide +kernel
theorem dX7_readTest_14 : decode cX7_readTest 14 = .ok (.if_icmp .ne 7, 3) := by decide +kernel
theorem dX7_readTest_17 : decode cX7_readTest 17 = .ok (.iconst 1, 1) := by decide +kernel
theorem dX7_readTest_18 : decode cX7_readTest 18 = .ok (.goto 4, 3) := by decide +kernel
theorem dX7_readTest_21 : decode cX7_readTest 21 = .ok (.iconst 0, 1) := by decide +kernel
theorem dX7_readTest_22 : decode cX7_readTest 22 = .ok (.istore_n 3, 1) := by decide +kernel
theorem dX7_readTest_23 : decode cX7_readTest 23 = .ok (.iload_n 3, 1) := by decide +kernel
theorem dX7_readTest_24 : decode cX7_readTest 24 = .ok (.ifCond .eq 15, 3) := by decide +kernel
theorem dX7_readTest_27 : decode cX7_readTest 27 = .ok (.iload_n 1, 1) := by decide +kernel
theorem dX7_readTest_28 : decode cX7_readTest 28 = .ok (.iconst 4, 1) := by decide +kernel
theorem dX7_readTest_29 : decode cX7_readTest 29 = .ok (.if_icmp .lt 10, 3) := by decide +kernel
theorem dX7_readTest_32 : decode cX7_readTest 32 = .ok (.aload_n 0, 1) := by decide +kernel
theorem dX7_readTest_33 : decode cX7_readTest 33 = .ok (.invokevirtual 39, 3) := by decide +kernel
theorem dX7_readTest_36 : decode cX7_readTest 36 = .ok (.goto 143, 3) := by decide +kernel
theorem dX7_readTest_39 : decode cX7_readTest 39 = .ok (.iload_n 2, 1) := by decide +kernel
theorem dX7_readTest_40 : decode cX7_readTest 40 = .ok (.bipush 33, 2) := by decide +kernel
theorem dX7_readTest_42 : decode cX7_readTest 42 = .ok (.if_icmp .ne 29, 3) := by decide +kernel
theorem dX7_readTest_45 : decode cX7_readTest 45 = .ok (.aload_n 0, 1) := by decide +kernel
theorem dX7_readTest_46 : decode cX7_readTest 46 = .ok (.dup, 1) := by decide +kernel
theorem dX7_readTest_47 : decode cX7_readTest 47 = .ok (.getfield 25, 3) := by decide +kernel
theorem dX7_readTest_50 : decode cX7_readTest 50 = .ok (.iconst 1, 1) := by decide +kernel
theorem dX7_readTest_51 : decode cX7_readTest 51 = .ok (.iadd, 1) := by decide +kernel
theorem dX7_readTest_52 : decode cX7_readTest 52 = .ok (.putfield 25, 3) := by decide +kernel
theorem dX7_readTest_55 : decode cX7_readTest 55 = .ok (.aload_n 0, 1) := by decide +kernel
theorem dX7_readTest_56 : decode cX7_readTest 56 = .ok (.iload_n 1, 1) := by decide +kernel
theorem dX7_readTest_57 : decode cX7_readTest 57 = .ok (.iconst 1, 1) := by decide +kernel
theorem dX7_readTest_58 : decode cX7_readTest 58 = .ok (.iadd, 1) := by decide +kernel
theorem dX7_readTest_59 : decode cX7_readTest 59 = .ok (.invokevirtual 60, 3) := by decide +kernel
theorem dX7_readTest_62 : decode cX7_readTest 62 = .ok (.aload_n 0, 1) := by decide +kernel
theorem dX7_readTest_63 : decode cX7_readTest 63 = .ok (.bipush (-33), 2) := by decide +kernel
theorem dX7_readTest_65 : decode cX7_readTest 65 = .ok (.invokevirtual 57, 3) := by decide +kernel
theorem dX7_readTest_68 : decode cX7_readTest 68 = .ok (.goto 111, 3) := by decide +kernel
theorem dX7_readTest_71 : decode cX7_readTest 71 = .ok (.iload_n 2, 1) := by decide +kernel
theorem dX7_readTest_72 : decode cX7_readTest 72 = .ok (.bipush 40, 2) := by decide +kernel
theorem dX7_readTest_74 : decode cX7_readTest 74 = .ok (.if_icmp .ne 49, 3) := by decide +kernel
theorem dX7_readTest_77 : decode cX7_readTest 77 = .ok (.aload_n 0, 1) := by decide +kernel
theorem dX7_readTest_78 : decode cX7_readTest 78 = .ok (.dup, 1) := by decide +kernel
theorem dX7_readTest_79 : decode cX7_readTest 79 = .ok (.getfield 25, 3) := by decide +kernel
theorem dX7_readTest_82 : decode cX7_readTest 82 = .ok (.iconst 1, 1) := by decide +kernel
theorem dX7_readTest_83 : decode cX7_readTest 83 = .ok (.iadd, 1) := by decide +kernel
theorem dX7_readTest_84 : decode cX7_readTest 84 = .ok (.putfield 25, 3) := by decide +kernel
theorem dX7_readTest_87 : decode cX7_readTest 87 = .ok (.aload_n 0, 1) := by decide +kernel
theorem dX7_readTest_88 : decode cX7_readTest 88 = .ok (.iload_n 1, 1) := by decide +kernel
theorem dX7_readTest_89 : decode cX7_readTest 89 = .ok (.iconst 1, 1) := by decide +kernel
theorem dX7_readTest_90 : decode cX7_readTest 90 = .ok (.iadd, 1) := by decide +kernel
theorem dX7_readTest_91 : decode cX7_readTest 91 = .ok (.invokevirtual 31, 3) := by decide +kernel
theorem dX7_readTest_94 : decode cX7_readTest 94 = .ok (.aload_n 0, 1) := by decide +kernel
theorem dX7_readTest_95 : decode cX7_readTest 95 = .ok (.invokevirtual 35, 3) := by decide +kernel
theorem dX7_readTest_98 : decode cX7_readTest 98 = .ok (.bipush 41, 2) := by decide +kernel
theorem dX7_readTest_100 : decode cX7_readTest 100 = .ok (.if_icmp .ne 16, 3) := by decide +kernel

