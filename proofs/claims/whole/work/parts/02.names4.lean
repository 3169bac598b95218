set_option maxRecDepth 20000 in
theorem gX5_isDesk_X5_in : GoodIn wsX5_isDesk (va_wsS RX5 77 yX5_in wsX5_in) := goodIn_app (goodIn_of _ (by decide +kernel)) ggX5_isDesk_X5_in
theorem dX5_isDesk_0 : decode cX5_isDesk 0 = .ok (.iload_n 0, 1) := by decide +kernel
theorem dX5_isDesk_1 : decode cX5_isDesk 1 = .ok (.i2l, 1) := by decide +kernel
theorem dX5_isDesk_2 : decode cX5_isDesk 2 = .ok (.lconst 0, 1) := by decide +kernel
theorem dX5_isDesk_3 : decode cX5_isDesk 3 = .ok (.ldc2_w 81, 3) := by decide +kernel
theorem dX5_isDesk_6 : decode cX5_isDesk 6 = .ok (.invokestatic 77, 3) := by decide +kernel
theorem dX5_isDesk_9 : decode cX5_isDesk 9 = .ok (.ireturn, 1) := by decide +kernel
set_option maxRecDepth 20000 in
theorem ggX5_isItem_X5_in : GoodIn wsX5_isItem wsX5_in := goodIn_r _ [5] (by decide +kernel) (by decide +kernel)
set_option maxRecDepth 20000 in
theorem gX5_isItem_X5_in : GoodIn wsX5_isItem (va_wsS RX5 77 yX5_in wsX5_in) := goodIn_app (goodIn_of _ (by decide +kernel)) ggX5_isItem_X5_in
set_option maxRecDepth 20000 in
theorem ggX5_isItem_X5_at : GoodIn wsX5_isItem wsX5_at := goodIn_r _ [8] (by decide +kernel) (by decide +kernel)
set_option maxRecDepth 20000 in
theorem gX5_isItem_X5_at : GoodIn wsX5_isItem (va_wsS RX5 83 yX5_at wsX5_at) := goodIn_app (goodIn_of _ (by decide +kernel)) ggX5_isItem_X5_at
theorem dX5_isItem_0 : decode cX5_isItem 0 = .ok (.iload_n 1, 1) := by decide +kernel
theorem dX5_isItem_1 : decode cX5_isItem 1 = .ok (.i2l, 1) := by decide +kernel
theorem dX5_isItem_2 : decode cX5_isItem 2 = .ok (.lconst 0, 1) := by decide +kernel
theorem dX5_isItem_3 : decode cX5_isItem 3 = .ok (.aload_n 0, 1) := by decide +kernel
theorem dX5_isItem_4 : decode cX5_isItem 4 = .ok (.getfield 13, 3) := by decide +kernel
theorem dX5_isItem_7 : decode cX5_isItem 7 = .ok (.iconst 0, 1) := by decide +kernel
theorem dX5_isItem_8 : decode cX5_isItem 8 = .ok (.iaload, 1) := by decide +kernel
theorem dX5_isItem_9 : decode cX5_isItem 9 = .ok (.i2l, 1) := by decide +kernel
theorem dX5_isItem_10 : decode cX5_isItem 10 = .ok (.lconst 1, 1) := by decide +kernel
theorem dX5_isItem_11 : decode cX5_isItem 11 = .ok (.lsub, 1) := by decide +kernel
theorem dX5_isItem_12 : decode cX5_isItem 12 = .ok (.invokestatic 77, 3) := by decide +kernel
theorem dX5_isItem_15 : decode cX5_isItem 15 = .ok (.ifCond .eq 22, 3) := by decide +kernel
theorem dX5_isItem_18 : decode cX5_isItem 18 = .ok (.aload_n 0, 1) := by decide +kernel
theorem dX5_isItem_19 : decode cX5_isItem 19 = .ok (.getfield 13, 3) := by decide +kernel
theorem dX5_isItem_22 : decode cX5_isItem 22 = .ok (.iload_n 1, 1) := by decide +kernel
theorem dX5_isItem_23 : decode cX5_isItem 23 = .ok (.invokestatic 83, 3) := by decide +kernel
theorem dX5_isItem_26 : decode cX5_isItem 26 = .ok (.iconst 1, 1) := by decide +kernel
theorem dX5_isItem_27 : decode cX5_isItem 27 = .ok (.iadd, 1) := by decide +kernel
theorem dX5_isItem_28 : decode cX5_isItem 28 = .ok (.iaload, 1) := by decide +kernel
theorem dX5_isItem_29 : decode cX5_isItem 29 = .ok (.iconst (-1), 1) := by decide +kernel
theorem dX5_isItem_30 : decode cX5_isItem 30 = .ok (.if_icmp .eq 7, 3) := by decide +kernel
theorem dX5_isItem_33 : decode cX5_isItem 33 = .ok (.iconst 1, 1) := by decide +kernel
theorem dX5_isItem_34 : decode cX5_isItem 34 = .ok (.goto 4, 3) := by decide +kernel
theorem dX5_isItem_37 : decode cX5_isItem 37 = .ok (.iconst 0, 1) := by decide +kernel
theorem dX5_isItem_38 : decode cX5_isItem 38 = .ok (.ireturn, 1) := by decide +kernel
set_option maxRecDepth 20000 in
theorem ggX5_left_X5_at : GoodIn wsX5_left wsX5_at := goodIn_r _ [5] (by decide +kernel) (by decide +kernel)
set_option maxRecDepth 20000 in
theorem gX5_left_X5_at : GoodIn wsX5_left (va_wsS RX5 83 yX5_at wsX5_at) := goodIn_app (goodIn_of _ (by decide +kernel)) ggX5_left_X5_at
theorem dX5_left_0 : decode cX5_left 0 = .ok (.aload_n 0, 1) := by decide +kernel
theorem dX5_left_1 : decode cX5_left 1 = .ok (.getfield 13, 3) := by decide +kernel
theorem dX5_left_4 : decode cX5_left 4 = .ok (.iload_n 1, 1) := by decide +kernel
theorem dX5_left_5 : decode cX5_left 5 = .ok (.invokestatic 83, 3) := by decide +kernel
theorem dX5_left_8 : decode cX5_left 8 = .ok (.iconst 3, 1) := by decide +kernel
theorem dX5_left_9 : decode cX5_left 9 = .ok (.iadd, 1) := by decide +kernel
theorem dX5_left_10 : decode cX5_left 10 = .ok (.iaload, 1) := by decide +kernel
theorem dX5_left_11 : decode cX5_left 11 = .ok (.ireturn, 1) := by decide +kernel
set_option maxRecDepth 20000 in
theorem ggX5_right_X5_at : GoodIn wsX5_right wsX5_at := goodIn_r _ [5] (by decide +kernel) (by decide +kernel)
set_option maxRecDepth 20000 in
theorem gX5_right_X5_at : GoodIn wsX5_right (va_wsS RX5 83 yX5_at wsX5_at) := goodIn_app (goodIn_of _ (by decide +kernel)) ggX5_right_X5_at
theorem dX5_right_0 : decode cX5_right 0 = .ok (.aload_n 0, 1) := by decide +kernel
theorem dX5_right_1 : decode cX5_right 1 = .ok (.getfield 13, 3) := by decide +kernel
theorem dX5_right_4 : decode cX5_right 4 = .ok (.iload_n 1, 1) := by decide +kernel
theorem dX5_right_5 : decode cX5_right 5 = .ok (.invokestatic 83, 3) := by decide +kernel
theorem dX5_right_8 : decode cX5_right 8 = .ok (.iconst 4, 1) := by decide +kernel
theorem dX5_right_9 : decode cX5_right 9 = .ok (.iadd, 1) := by decide +kernel
theorem dX5_right_10 : decode cX5_right 10 = .ok (.iaload, 1) := by decide +kernel
theorem dX5_right_11 : decode cX5_right 11 = .ok (.ireturn, 1) := by decide +kernel
set_option maxRecDepth 20000 in
theorem ggX5_rank_X5_at : GoodIn wsX5_rank wsX5_at := goodIn_r _ [5] (by decide +kernel) (by decide +kernel)
set_option maxRecDepth 20000 in
theorem gX5_rank_X5_at : GoodIn wsX5_rank (va_wsS RX5 83 yX5_at wsX5_at) := goodIn_app (goodIn_of _ (by decide +kernel)) ggX5_rank_X5_at
theorem dX5_rank_0 : decode cX5_rank 0 = .ok (.iload_n 1, 1) := by decide +kernel
theorem dX5_rank_1 : decode cX5_rank 1 = .ok (.iconst (-1), 1) := by decide +kernel
theorem dX5_rank_2 : decode cX5_rank 2 = .ok (.if_icmp .ne 7, 3) := by decide +kernel
theorem dX5_rank_5 : decode cX5_rank 5 = .ok (.iconst 0, 1) := by decide +kernel
theorem dX5_rank_6 : decode cX5_rank 6 = .ok (.goto 15, 3) := by decide +kernel
theorem dX5_rank_9 : decode cX5_rank 9 = .ok (.aload_n 0, 1) := by decide +kernel
theorem dX5_rank_10 : decode cX5_rank 10 = .ok (.getfield 13, 3) := by decide +kernel
theorem dX5_rank_13 : decode cX5_rank 13 = .ok (.iload_n 1, 1) := by decide +kernel
theorem dX5_rank_14 : decode cX5_rank 14 = .ok (.invokestatic 83, 3) := by decide +kernel
theorem dX5_rank_17 : decode cX5_rank 17 = .ok (.bipush 6, 2) := by decide +kernel
theorem dX5_rank_19 : decode cX5_rank 19 = .ok (.iadd, 1) := by decide +kernel
theorem dX5_rank_20 : decode cX5_rank 20 = .ok (.iaload, 1) := by decide +kernel
theorem dX5_rank_21 : decode cX5_rank 21 = .ok (.ireturn, 1) := by decide +kernel
theorem dX5_isLess_0 : decode cX5_isLess 0 = .ok (.aload_n 0, 1) := by decide +kernel
theorem dX5_isLess_1 : decode cX5_isLess 1 = .ok (.getfield 16, 3) := by decide +kernel
theorem dX5_isLess_4 : decode cX5_isLess 4 = .ok (.iload_n 1, 1) := by decide +kernel
theorem dX5_isLess_5 : decode cX5_isLess 5 = .ok (.laload, 1) := by decide +kernel
theorem dX5_isLess_6 : decode cX5_isLess 6 = .ok (.aload_n 0, 1) := by decide +kernel
theorem dX5_isLess_7 : decode cX5_isLess 7 = .ok (.getfield 16, 3) := by decide +kernel
theorem dX5_isLess_10 : decode cX5_isLess 10 = .ok (.iload_n 2, 1) := by decide +kernel
theorem dX5_isLess_11 : decode cX5_isLess 11 = .ok (.laload, 1) := by decide +kernel
theorem dX5_isLess_12 : decode cX5_isLess 12 = .ok (.lcmp, 1) := by decide +kernel
theorem dX5_isLess_13 : decode cX5_isLess 13 = .ok (.ifCond .lt 24, 3) := by decide +kernel
theorem dX5_isLess_16 : decode cX5_isLess 16 = .ok (.aload_n 0, 1) := by decide +kernel
theorem dX5_isLess_17 : decode cX5_isLess 17 = .ok (.getfield 16, 3) := by decide +kernel
theorem dX5_isLess_20 : decode cX5_isLess 20 = .ok (.iload_n 1, 1) := by decide +kernel
theorem dX5_isLess_21 : decode cX5_isLess 21 = .ok (.laload, 1) := by decide +kernel
theorem dX5_isLess_22 : decode cX5_isLess 22 = .ok (.aload_n 0, 1) := by decide +kernel
theorem dX5_isLess_23 : decode cX5_isLess 23 = .ok (.getfield 16, 3) := by decide +kernel
theorem dX5_isLess_26 : decode cX5_isLess 26 = .ok (.iload_n 2, 1) := by decide +kernel
theorem dX5_isLess_27 : decode cX5_isLess 27 = .ok (.laload, 1) := by decide +kernel
theorem dX5_isLess_28 : decode cX5_isLess 28 = .ok (.lcmp, 1) := by decide +kernel
theorem dX5_isLess_29 : decode cX5_isLess 29 = .ok (.ifCond .ne 12, 3) := by decide +kernel
theorem dX5_isLess_32 : decode cX5_isLess 32 = .ok (.iload_n 1, 1) := by decide +kernel
theorem dX5_isLess_33 : decode cX5_isLess 33 = .ok (.iload_n 2, 1) := by decide +kernel
theorem dX5_isLess_34 : decode cX5_isLess 34 = .ok (.if_icmp .ge 7, 3) := by decide +kernel
theorem dX5_isLess_37 : decode cX5_isLess 37 = .ok (.iconst 1, 1) := by decide +kernel
theorem dX5_isLess_38 : decode cX5_isLess 38 = .ok (.goto 4, 3) := by decide +kernel
theorem dX5_isLess_41 : decode cX5_isLess 41 = .ok (.iconst 0, 1) := by decide +kernel
theorem dX5_isLess_42 : decode cX5_isLess 42 = .ok (.ireturn, 1) := by decide +kernel
set_option maxRecDepth 20000 in
theorem ggX5_setAbove_X5_at : GoodIn wsX5_setAbove wsX5_at := goodIn_r _ [5] (by decide +kernel) (by decide +kernel)
set_option maxRecDepth 20000 in
theorem gX5_setAbove_X5_at : GoodIn wsX5_setAbove (va_wsS RX5 83 yX5_at wsX5_at) := goodIn_app (goodIn_of _ (by decide +kernel)) ggX5_setAbove_X5_at
theorem dX5_setAbove_0 : decode cX5_setAbove 0 = .ok (.iload_n 1, 1) := by decide +kernel
theorem dX5_setAbove_1 : decode cX5_setAbove 1 = .ok (.iconst (-1), 1) := by decide +kernel
theorem dX5_setAbove_2 : decode cX5_setAbove 2 = .ok (.if_icmp .eq 15, 3) := by decide +kernel
theorem dX5_setAbove_5 : decode cX5_setAbove 5 = .ok (.aload_n 0, 1) := by decide +kernel
theorem dX5_setAbove_6 : decode cX5_setAbove 6 = .ok (.getfield 13, 3) := by decide +kernel
theorem dX5_setAbove_9 : decode cX5_setAbove 9 = .ok (.iload_n 1, 1) := by decide +kernel
theorem dX5_setAbove_10 : decode cX5_setAbove 10 = .ok (.invokestatic 83, 3) := by decide +kernel
theorem dX5_setAbove_13 : decode cX5_setAbove 13 = .ok (.iconst 5, 1) := by decide +kernel
theorem dX5_setAbove_14 : decode cX5_setAbove 14 = .ok (.iadd, 1) := by decide +kernel
theorem dX5_setAbove_15 : decode cX5_setAbove 15 = .ok (.iload_n 2, 1) := by decide +kernel
theorem dX5_setAbove_16 : decode cX5_setAbove 16 = .ok (.iastore, 1) := by decide +kernel
theorem dX5_setAbove_17 : decode cX5_setAbove 17 = .ok (.return_, 1) := by decide +kernel
set_option maxRecDepth 20000 in
theorem ggX5_settle_X5_at : GoodIn wsX5_settle wsX5_at := goodIn_r _ [5] (by decide +kernel) (by decide +kernel)
set_option maxRecDepth 20000 in
theorem gX5_settle_X5_at : GoodIn wsX5_settle (va_wsS RX5 83 yX5_at wsX5_at) := goodIn_app (goodIn_of _ (by decide +kernel)) ggX5_settle_X5_at
set_option maxRecDepth 20000 in
theorem ggX5_settle_X5_rank : GoodIn wsX5_settle wsX5_rank := goodIn_r _ [9, 1, 2, 3, 4, 5, 10, 11, 12, 13, 14, 15, 16, 17, 18, 19, 20, 21, 22, 23, 24, 25, 26, 27, 28, 29, 30, 31, 32, 33, 34, 35, 36] (by decide +kernel) (by decide +kernel)
set_option maxRecDepth 20000 in
theorem gX5_settle_X5_rank : GoodIn wsX5_settle (wsV RX5 87 RX5 yX5_rank wsX5_rank) := goodIn_app (goodIn_of _ (by decide +kernel)) ggX5_settle_X5_rank
theorem dX5_settle_0 : decode cX5_settle 0 = .ok (.iload_n 1, 1) := by decide +kernel
theorem dX5_settle_1 : decode cX5_settle 1 = .ok (.invokestatic 83, 3) := by decide +kernel
theorem dX5_settle_4 : decode cX5_settle 4 = .ok (.istore_n 2, 1) := by decide +kernel
theorem dX5_settle_5 : decode cX5_settle 5 = .ok (.aload_n 0, 1) := by decide +kernel
theorem dX5_settle_6 : decode cX5_settle 6 = .ok (.aload_n 0, 1) := by decide +kernel
theorem dX5_settle_7 : decode cX5_settle 7 = .ok (.getfield 13, 3) := by decide +kernel
theorem dX5_settle_10 : decode cX5_settle 10 = .ok (.iload_n 2, 1) := by decide +kernel
theorem dX5_settle_11 : decode cX5_settle 11 = .ok (.iconst 3, 1) := by decide +kernel
theorem dX5_settle_12 : decode cX5_settle 12 = .ok (.iadd, 1) := by decide +kernel
theorem dX5_settle_13 : decode cX5_settle 13 = .ok (.iaload, 1) := by decide +kernel
theorem dX5_settle_14 : decode cX5_settle 14 = .ok (.invokevirtual 87, 3) := by decide +kernel
theorem dX5_settle_17 : decode cX5_settle 17 = .ok (.aload_n 0, 1) := by decide +kernel
theorem dX5_settle_18 : decode cX5_settle 18 = .ok (.aload_n 0, 1) := by decide +kernel
theorem dX5_settle_19 : decode cX5_settle 19 = .ok (.getfield 13, 3) := by decide +kernel
theorem dX5_settle_22 : decode cX5_settle 22 = .ok (.iload_n 2, 1) := by decide +kernel
theorem dX5_settle_23 : decode cX5_settle 23 = .ok (.iconst 4, 1) := by decide +kernel
theorem dX5_settle_24 : decode cX5_settle 24 = .ok (.iadd, 1) := by decide +kernel
theorem dX5_settle_25 : decode cX5_settle 25 = .ok (.iaload, 1) := by decide +kernel
theorem dX5_settle_26 : decode cX5_settle 26 = .ok (.invokevirtual 87, 3) := by decide +kernel
theorem dX5_settle_29 : decode cX5_settle 29 = .ok (.if_icmp .ge 37, 3) := by decide +kernel
theorem dX5_settle_32 : decode cX5_settle 32 = .ok (.aload_n 0, 1) := by decide +kernel
theorem dX5_settle_33 : decode cX5_settle 33 = .ok (.getfield 13, 3) := by decide +kernel
theorem dX5_settle_36 : decode cX5_settle 36 = .ok (.iload_n 2, 1) := by decide +kernel
theorem dX5_settle_37 : decode cX5_settle 37 = .ok (.iconst 3, 1) := by decide +kernel
theorem dX5_settle_38 : decode cX5_settle 38 = .ok (.iadd, 1) := by decide +kernel
theorem dX5_settle_39 : decode cX5_settle 39 = .ok (.iaload, 1) := by decide +kernel
theorem dX5_settle_40 : decode cX5_settle 40 = .ok (.istore_n 3, 1) := by decide +kernel
theorem dX5_settle_41 : decode cX5_settle 41 = .ok (.aload_n 0, 1) := by decide +kernel
theorem dX5_settle_42 : decode cX5_settle 42 = .ok (.getfield 13, 3) := by decide +kernel
theorem dX5_settle_45 : decode cX5_settle 45 = .ok (.iload_n 2, 1) := by decide +kernel
theorem dX5_settle_46 : decode cX5_settle 46 = .ok (.iconst 3, 1) := by decide +kernel
theorem dX5_settle_47 : decode cX5_settle 47 = .ok (.iadd, 1) := by decide +kernel
theorem dX5_settle_48 : decode cX5_settle 48 = .ok (.aload_n 0, 1) := by decide +kernel
theorem dX5_settle_49 : decode cX5_settle 49 = .ok (.getfield 13, 3) := by decide +kernel
theorem dX5_settle_52 : decode cX5_settle 52 = .ok (.iload_n 2, 1) := by decide +kernel
theorem dX5_settle_53 : decode cX5_settle 53 = .ok (.iconst 4, 1) := by decide +kernel
theorem dX5_settle_54 : decode cX5_settle 54 = .ok (.iadd, 1) := by decide +kernel
theorem dX5_settle_55 : decode cX5_settle 55 = .ok (.iaload, 1) := by decide +kernel
theorem dX5_settle_56 : decode cX5_settle 56 = .ok (.iastore, 1) := by decide +kernel
theorem dX5_settle_57 : decode cX5_settle 57 = .ok (.aload_n 0, 1) := by decide +kernel
theorem dX5_settle_58 : decode cX5_settle 58 = .ok (.getfield 13, 3) := by decide +kernel
theorem dX5_settle_61 : decode cX5_settle 61 = .ok (.iload_n 2, 1) := by decide +kernel
theorem dX5_settle_62 : decode cX5_settle 62 = .ok (.iconst 4, 1) := by decide +kernel
theorem dX5_settle_63 : decode cX5_settle 63 = .ok (.iadd, 1) := by decide +kernel
theorem dX5_settle_64 : decode cX5_settle 64 = .ok (.iload_n 3, 1) := by decide +kernel
theorem dX5_settle_65 : decode cX5_settle 65 = .ok (.iastore, 1) := by decide +kernel
theorem dX5_settle_66 : decode cX5_settle 66 = .ok (.aload_n 0, 1) := by decide +kernel
theorem dX5_settle_67 : decode cX5_settle 67 = .ok (.getfield 13, 3) := by decide +kernel
theorem dX5_settle_70 : decode cX5_settle 70 = .ok (.iload_n 2, 1) := by decide +kernel
theorem dX5_settle_71 : decode cX5_settle 71 = .ok (.bipush 6, 2) := by decide +kernel
theorem dX5_settle_73 : decode cX5_settle 73 = .ok (.iadd, 1) := by decide +kernel
theorem dX5_settle_74 : decode cX5_settle 74 = .ok (.aload_n 0, 1) := by decide +kernel
theorem dX5_settle_75 : decode cX5_settle 75 = .ok (.aload_n 0, 1) := by decide +kernel
theorem dX5_settle_76 : decode cX5_settle 76 = .ok (.getfield 13, 3) := by decide +kernel
theorem dX5_settle_79 : decode cX5_settle 79 = .ok (.iload_n 2, 1) := by decide +kernel
theorem dX5_settle_80 : decode cX5_settle 80 = .ok (.iconst 4, 1) := by decide +kernel
theorem dX5_settle_81 : decode cX5_settle 81 = .ok (.iadd, 1) := by decide +kernel
theorem dX5_settle_82 : decode cX5_settle 82 = .ok (.iaload, 1) := by decide +kernel
theorem dX5_settle_83 : decode cX5_settle 83 = .ok (.invokevirtual 87, 3) := by decide +kernel
theorem dX5_settle_86 : decode cX5_settle 86 = .ok (.iconst 1, 1) := by decide +kernel
theorem dX5_settle_87 : decode cX5_settle 87 = .ok (.iadd, 1) := by decide +kernel
theorem dX5_settle_88 : decode cX5_settle 88 = .ok (.iastore, 1) := by decide +kernel
theorem dX5_settle_89 : decode cX5_settle 89 = .ok (.return_, 1) := by decide +kernel
set_option maxRecDepth 20000 in
theorem ggX5_meldTrees_X5_isLess : GoodIn wsX5_meldTrees wsX5_isLess := goodIn_r _ [8, 9, 29, 30, 31, 32, 33, 34, 35, 36, 37, 38, 39, 40, 41, 42, 43, 44, 45, 46, 47, 48, 49, 50, 51, 52, 53, 54, 55] (by decide +kernel) (by decide +kernel)
set_option maxRecDepth 20000 in
theorem gX5_meldTrees_X5_isLess : GoodIn wsX5_meldTrees (wsV RX5 90 RX5 yX5_isLess wsX5_isLess) := goodIn_app (goodIn_of _ (by decide +kernel)) ggX5_meldTrees_X5_isLess
set_option maxRecDepth 20000 in
theorem ggX5_meldTrees_X5_right : GoodIn wsX5_meldTrees wsX5_right := goodIn_r _ [13, 3, 14, 15, 7, 16, 29, 30, 31, 32, 33, 34, 35, 36, 37, 38, 39, 40, 41, 42, 43, 44, 45, 46, 47, 48, 49, 50, 51, 52, 53, 54, 55] (by decide +kernel) (by decide +kernel)
set_option maxRecDepth 20000 in
theorem gX5_meldTrees_X5_right : GoodIn wsX5_meldTrees (wsV RX5 94 RX5 yX5_right wsX5_right) := goodIn_app (goodIn_of _ (by decide +kernel)) ggX5_meldTrees_X5_right
set_option maxRecDepth 20000 in
theorem ggX5_meldTrees_X5_at : GoodIn wsX5_meldTrees wsX5_at := goodIn_r _ [16] (by decide +kernel) (by decide +kernel)
set_option maxRecDepth 20000 in
theorem gX5_meldTrees_X5_at : GoodIn wsX5_meldTrees (va_wsS RX5 83 yX5_at wsX5_at) := goodIn_app (goodIn_of _ (by decide +kernel)) ggX5_meldTrees_X5_at
set_option maxRecDepth 20000 in
theorem ggX5_meldTrees_X5_setAbove : GoodIn wsX5_meldTrees wsX5_setAbove := goodIn_r _ [20, 3, 14, 15, 7, 16, 29, 30, 31, 32, 33, 34, 35, 36, 37, 38, 39, 40, 41, 42, 43, 44, 45, 46, 47, 48, 49, 50, 51, 52, 53, 54, 55] (by decide +kernel) (by decide +kernel)
set_option maxRecDepth 20000 in
theorem gX5_meldTrees_X5_setAbove : GoodIn wsX5_meldTrees (wsV RX5 97 RX5 yX5_setAbove wsX5_setAbove) := goodIn_app (goodIn_of _ (by decide +kernel)) ggX5_meldTrees_X5_setAbove
set_option maxRecDepth 20000 in
theorem ggX5_meldTrees_X5_settle : GoodIn wsX5_meldTrees wsX5_settle := goodIn_r _ [24, 3, 14, 15, 7, 16, 25, 26, 27, 28, 29, 30, 31, 32, 33, 34, 35, 36, 37, 38, 39, 40, 41, 42, 43, 44, 45, 46, 47, 48, 49, 50, 51, 52, 53, 54, 55] (by decide +kernel) (by decide +kernel)
set_option maxRecDepth 20000 in
theorem gX5_meldTrees_X5_settle : GoodIn wsX5_meldTrees (wsV RX5 101 RX5 yX5_settle wsX5_settle) := goodIn_app (goodIn_of _ (by decide +kernel)) ggX5_meldTrees_X5_settle
theorem dX5_meldTrees_0 : decode cX5_meldTrees 0 = .ok (.iload_n 1, 1) := by decide +kernel
theorem dX5_meldTrees_1 : decode cX5_meldTrees 1 = .ok (.istore_n 3, 1) := by decide +kernel
theorem dX5_meldTrees_2 : decode cX5_meldTrees 2 = .ok (.iload_n 2, 1) := by decide +kernel
theorem dX5_meldTrees_3 : decode cX5_meldTrees 3 = .ok (.istore 4, 2) := by decide +kernel
theorem dX5_meldTrees_5 : decode cX5_meldTrees 5 = .ok (.iconst 0, 1) := by decide +kernel
theorem dX5_meldTrees_6 : decode cX5_meldTrees 6 = .ok (.istore 5, 2) := by decide +kernel
theorem dX5_meldTrees_8 : decode cX5_meldTrees 8 = .ok (.iload_n 3, 1) := by decide +kernel
theorem dX5_meldTrees_9 : decode cX5_meldTrees 9 = .ok (.iconst (-1), 1) := by decide +kernel
theorem dX5_meldTrees_10 : decode cX5_meldTrees 10 = .ok (.if_icmp .eq 67, 3) := by decide +kernel
theorem dX5_meldTrees_13 : decode cX5_meldTrees 13 = .ok (.iload 4, 2) := by decide +kernel
theorem dX5_meldTrees_15 : decode cX5_meldTrees 15 = .ok (.iconst (-1), 1) := by decide +kernel
theorem dX5_meldTrees_16 : decode cX5_meldTrees 16 = .ok (.if_icmp .eq 61, 3) := by decide +kernel
theorem dX5_meldTrees_19 : decode cX5_meldTrees 19 = .ok (.aload_n 0, 1) := by decide +kernel
theorem dX5_meldTrees_20 : decode cX5_meldTrees 20 = .ok (.iload_n 3, 1) := by decide +kernel
theorem dX5_meldTrees_21 : decode cX5_meldTrees 21 = .ok (.iload 4, 2) := by decide +kernel
theorem dX5_meldTrees_23 : decode cX5_meldTrees 23 = .ok (.invokevirtual 90, 3) := by decide +kernel
theorem dX5_meldTrees_26 : decode cX5_meldTrees 26 = .ok (.ifCond .eq 7, 3) := by decide +kernel
theorem dX5_meldTrees_29 : decode cX5_meldTrees 29 = .ok (.iload_n 3, 1) := by decide +kernel
theorem dX5_meldTrees_30 : decode cX5_meldTrees 30 = .ok (.goto 5, 3) := by decide +kernel
theorem dX5_meldTrees_33 : decode cX5_meldTrees 33 = .ok (.iload 4, 2) := by decide +kernel
theorem dX5_meldTrees_35 : decode cX5_meldTrees 35 = .ok (.istore 6, 2) := by decide +kernel
theorem dX5_meldTrees_37 : decode cX5_meldTrees 37 = .ok (.iload 6, 2) := by decide +kernel
theorem dX5_meldTrees_39 : decode cX5_meldTrees 39 = .ok (.iload_n 3, 1) := by decide +kernel
theorem dX5_meldTrees_40 : decode cX5_meldTrees 40 = .ok (.if_icmp .ne 8, 3) := by decide +kernel
theorem dX5_meldTrees_43 : decode cX5_meldTrees 43 = .ok (.iload 4, 2) := by decide +kernel
theorem dX5_meldTrees_45 : decode cX5_meldTrees 45 = .ok (.goto 4, 3) := by decide +kernel
theorem dX5_meldTrees_48 : decode cX5_meldTrees 48 = .ok (.iload_n 3, 1) := by decide +kernel
theorem dX5_meldTrees_49 : decode cX5_meldTrees 49 = .ok (.istore 7, 2) := by decide +kernel
theorem dX5_meldTrees_51 : decode cX5_meldTrees 51 = .ok (.aload_n 0, 1) := by decide +kernel
theorem dX5_meldTrees_52 : decode cX5_meldTrees 52 = .ok (.getfield 36, 3) := by decide +kernel
theorem dX5_meldTrees_55 : decode cX5_meldTrees 55 = .ok (.iload 5, 2) := by decide +kernel
theorem dX5_meldTrees_57 : decode cX5_meldTrees 57 = .ok (.iload 6, 2) := by decide +kernel
theorem dX5_meldTrees_59 : decode cX5_meldTrees 59 = .ok (.iastore, 1) := by decide +kernel
theorem dX5_meldTrees_60 : decode cX5_meldTrees 60 = .ok (.iinc 5 1, 3) := by decide +kernel
theorem dX5_meldTrees_63 : decode cX5_meldTrees 63 = .ok (.aload_n 0, 1) := by decide +kernel
theorem dX5_meldTrees_64 : decode cX5_meldTrees 64 = .ok (.iload 6, 2) := by decide +kernel
theorem dX5_meldTrees_66 : decode cX5_meldTrees 66 = .ok (.invokevirtual 94, 3) := by decide +kernel
theorem dX5_meldTrees_69 : decode cX5_meldTrees 69 = .ok (.istore_n 3, 1) := by decide +kernel
theorem dX5_meldTrees_70 : decode cX5_meldTrees 70 = .ok (.iload 7, 2) := by decide +kernel
theorem dX5_meldTrees_72 : decode cX5_meldTrees 72 = .ok (.istore 4, 2) := by decide +kernel
theorem dX5_meldTrees_74 : decode cX5_meldTrees 74 = .ok (.goto (-66), 3) := by decide +kernel
theorem dX5_meldTrees_77 : decode cX5_meldTrees 77 = .ok (.aload_n 0, 1) := by decide +kernel
theorem dX5_meldTrees_78 : decode cX5_meldTrees 78 = .ok (.dup, 1) := by decide +kernel
theorem dX5_meldTrees_79 : decode cX5_meldTrees 79 = .ok (.getfield 71, 3) := by decide +kernel
theorem dX5_meldTrees_82 : decode cX5_meldTrees 82 = .ok (.iload 5, 2) := by decide +kernel
theorem dX5_meldTrees_84 : decode cX5_meldTrees 84 = .ok (.iadd, 1) := by decide +kernel
theorem dX5_meldTrees_85 : decode cX5_meldTrees 85 = .ok (.putfield 71, 3) := by decide +kernel
theorem dX5_meldTrees_88 : decode cX5_meldTrees 88 = .ok (.iload_n 3, 1) := by decide +kernel
theorem dX5_meldTrees_89 : decode cX5_meldTrees 89 = .ok (.iconst (-1), 1) := by decide +kernel
theorem dX5_meldTrees_90 : decode cX5_meldTrees 90 = .ok (.if_icmp .ne 8, 3) := by decide +kernel
theorem dX5_meldTrees_93 : decode cX5_meldTrees 93 = .ok (.iload 4, 2) := by decide +kernel
theorem dX5_meldTrees_95 : decode cX5_meldTrees 95 = .ok (.goto 4, 3) := by decide +kernel
theorem dX5_meldTrees_98 : decode cX5_meldTrees 98 = .ok (.iload_n 3, 1) := by decide +kernel
theorem dX5_meldTrees_99 : decode cX5_meldTrees 99 = .ok (.istore 6, 2) := by decide +kernel
theorem dX5_meldTrees_101 : decode cX5_meldTrees 101 = .ok (.iload 5, 2) := by decide +kernel
theorem dX5_meldTrees_103 : decode cX5_meldTrees 103 = .ok (.iconst 1, 1) := by decide +kernel
theorem dX5_meldTrees_104 : decode cX5_meldTrees 104 = .ok (.isub, 1) := by decide +kernel
theorem dX5_meldTrees_105 : decode cX5_meldTrees 105 = .ok (.istore 7, 2) := by decide +kernel
theorem dX5_meldTrees_107 : decode cX5_meldTrees 107 = .ok (.iload 7, 2) := by decide +kernel
theorem dX5_meldTrees_109 : decode cX5_meldTrees 109 = .ok (.ifCond .lt 50, 3) := by decide +kernel
theorem dX5_meldTrees_112 : decode cX5_meldTrees 112 = .ok (.aload_n 0, 1) := by decide +kernel
theorem dX5_meldTrees_113 : decode cX5_meldTrees 113 = .ok (.getfield 36, 3) := by decide +kernel
theorem dX5_meldTrees_116 : decode cX5_meldTrees 116 = .ok (.iload 7, 2) := by decide +kernel
theorem dX5_meldTrees_118 : decode cX5_meldTrees 118 = .ok (.iaload, 1) := by decide +kernel
theorem dX5_meldTrees_119 : decode cX5_meldTrees 119 = .ok (.istore 8, 2) := by decide +kernel
theorem dX5_meldTrees_121 : decode cX5_meldTrees 121 = .ok (.aload_n 0, 1) := by decide +kernel
theorem dX5_meldTrees_122 : decode cX5_meldTrees 122 = .ok (.getfield 13, 3) := by decide +kernel
theorem dX5_meldTrees_125 : decode cX5_meldTrees 125 = .ok (.iload 8, 2) := by decide +kernel
theorem dX5_meldTrees_127 : decode cX5_meldTrees 127 = .ok (.invokestatic 83, 3) := by decide +kernel
theorem dX5_meldTrees_130 : decode cX5_meldTrees 130 = .ok (.iconst 4, 1) := by decide +kernel
theorem dX5_meldTrees_131 : decode cX5_meldTrees 131 = .ok (.iadd, 1) := by decide +kernel
theorem dX5_meldTrees_132 : decode cX5_meldTrees 132 = .ok (.iload 6, 2) := by decide +kernel
theorem dX5_meldTrees_134 : decode cX5_meldTrees 134 = .ok (.iastore, 1) := by decide +kernel
theorem dX5_meldTrees_135 : decode cX5_meldTrees 135 = .ok (.aload_n 0, 1) := by decide +kernel
theorem dX5_meldTrees_136 : decode cX5_meldTrees 136 = .ok (.iload 6, 2) := by decide +kernel
theorem dX5_meldTrees_138 : decode cX5_meldTrees 138 = .ok (.iload 8, 2) := by decide +kernel
theorem dX5_meldTrees_140 : decode cX5_meldTrees 140 = .ok (.invokevirtual 97, 3) := by decide +kernel
theorem dX5_meldTrees_143 : decode cX5_meldTrees 143 = .ok (.aload_n 0, 1) := by decide +kernel
theorem dX5_meldTrees_144 : decode cX5_meldTrees 144 = .ok (.iload 8, 2) := by decide +kernel
theorem dX5_meldTrees_146 : decode cX5_meldTrees 146 = .ok (.invokevirtual 101, 3) := by decide +kernel
theorem dX5_meldTrees_149 : decode cX5_meldTrees 149 = .ok (.iload 8, 2) := by decide +kernel
theorem dX5_meldTrees_151 : decode cX5_meldTrees 151 = .ok (.istore 6, 2) := by decide +kernel
theorem dX5_meldTrees_153 : decode cX5_meldTrees 153 = .ok (.iinc 7 (-1), 3) := by decide +kernel
theorem dX5_meldTrees_156 : decode cX5_meldTrees 156 = .ok (.goto (-49), 3) := by decide +kernel
theorem dX5_meldTrees_159 : decode cX5_meldTrees 159 = .ok (.aload_n 0, 1) := by decide +kernel
theorem dX5_meldTrees_160 : decode cX5_meldTrees 160 = .ok (.iload 6, 2) := by decide +kernel
theorem dX5_meldTrees_162 : decode cX5_meldTrees 162 = .ok (.iconst (-1), 1) := by decide +kernel
theorem dX5_meldTrees_163 : decode cX5_meldTrees 163 = .ok (.invokevirtual 97, 3) := by decide +kernel
theorem dX5_meldTrees_166 : decode cX5_meldTrees 166 = .ok (.iload 6, 2) := by decide +kernel
theorem dX5_meldTrees_168 : decode cX5_meldTrees 168 = .ok (.ireturn, 1) := by decide +kernel
set_option maxRecDepth 20000 in
theorem ggX5_lay_X5_at : GoodIn wsX5_lay wsX5_at := goodIn_r _ [5] (by decide +kernel) (by decide +kernel)
set_option maxRecDepth 20000 in
theorem gX5_lay_X5_at : GoodIn wsX5_lay (va_wsS RX5 83 yX5_at wsX5_at) := goodIn_app (goodIn_of _ (by decide +kernel)) ggX5_lay_X5_at
theorem dX5_lay_0 : decode cX5_lay 0 = .ok (.iload_n 1, 1) := by decide +kernel
theorem dX5_lay_1 : decode cX5_lay 1 = .ok (.invokestatic 83, 3) := by decide +kernel
theorem dX5_lay_4 : decode cX5_lay 4 = .ok (.istore_n 2, 1) := by decide +kernel
theorem dX5_lay_5 : decode cX5_lay 5 = .ok (.aload_n 0, 1) := by decide +kernel
theorem dX5_lay_6 : decode cX5_lay 6 = .ok (.getfield 13, 3) := by decide +kernel
theorem dX5_lay_9 : decode cX5_lay 9 = .ok (.iload_n 2, 1) := by decide +kernel
theorem dX5_lay_10 : decode cX5_lay 10 = .ok (.iconst 3, 1) := by decide +kernel
theorem dX5_lay_11 : decode cX5_lay 11 = .ok (.iadd, 1) := by decide +kernel
theorem dX5_lay_12 : decode cX5_lay 12 = .ok (.iconst (-1), 1) := by decide +kernel
theorem dX5_lay_13 : decode cX5_lay 13 = .ok (.iastore, 1) := by decide +kernel
theorem dX5_lay_14 : decode cX5_lay 14 = .ok (.aload_n 0, 1) := by decide +kernel
theorem dX5_lay_15 : decode cX5_lay 15 = .ok (.getfield 13, 3) := by decide +kernel
theorem dX5_lay_18 : decode cX5_lay 18 = .ok (.iload_n 2, 1) := by decide +kernel
theorem dX5_lay_19 : decode cX5_lay 19 = .ok (.iconst 4, 1) := by decide +kernel
theorem dX5_lay_20 : decode cX5_lay 20 = .ok (.iadd, 1) := by decide +kernel
theorem dX5_lay_21 : decode cX5_lay 21 = .ok (.iconst (-1), 1) := by decide +kernel
theorem dX5_lay_22 : decode cX5_lay 22 = .ok (.iastore, 1) := by decide +kernel
theorem dX5_lay_23 : decode cX5_lay 23 = .ok (.aload_n 0, 1) := by decide +kernel
theorem dX5_lay_24 : decode cX5_lay 24 = .ok (.getfield 13, 3) := by decide +kernel
theorem dX5_lay_27 : decode cX5_lay 27 = .ok (.iload_n 2, 1) := by decide +kernel
theorem dX5_lay_28 : decode cX5_lay 28 = .ok (.iconst 5, 1) := by decide +kernel
theorem dX5_lay_29 : decode cX5_lay 29 = .ok (.iadd, 1) := by decide +kernel
theorem dX5_lay_30 : decode cX5_lay 30 = .ok (.iconst (-1), 1) := by decide +kernel
theorem dX5_lay_31 : decode cX5_lay 31 = .ok (.iastore, 1) := by decide +kernel
theorem dX5_lay_32 : decode cX5_lay 32 = .ok (.aload_n 0, 1) := by decide +kernel
theorem dX5_lay_33 : decode cX5_lay 33 = .ok (.getfield 13, 3) := by decide +kernel
theorem dX5_lay_36 : decode cX5_lay 36 = .ok (.iload_n 2, 1) := by decide +kernel
theorem dX5_lay_37 : decode cX5_lay 37 = .ok (.bipush 6, 2) := by decide +kernel
theorem dX5_lay_39 : decode cX5_lay 39 = .ok (.iadd, 1) := by decide +kernel
theorem dX5_lay_40 : decode cX5_lay 40 = .ok (.iconst 1, 1) := by decide +kernel
theorem dX5_lay_41 : decode cX5_lay 41 = .ok (.iastore, 1) := by decide +kernel
theorem dX5_lay_42 : decode cX5_lay 42 = .ok (.return_, 1) := by decide +kernel
set_option maxRecDepth 20000 in
theorem ggX5_put_X5_lay : GoodIn wsX5_put wsX5_lay := goodIn_r _ [6, 1, 7, 8, 5, 9, 37, 38, 39, 40, 41, 42, 43, 44, 45, 46, 47, 48, 49, 50, 51, 52, 53, 54, 55, 56, 57, 58, 59, 60, 61, 62, 63] (by decide +kernel) (by decide +kernel)
set_option maxRecDepth 20000 in
theorem gX5_put_X5_lay : GoodIn wsX5_put (wsV RX5 105 RX5 yX5_lay wsX5_lay) := goodIn_app (goodIn_of _ (by decide +kernel)) ggX5_put_X5_lay
set_option maxRecDepth 20000 in
theorem ggX5_put_X5_at : GoodIn wsX5_put wsX5_at := goodIn_r _ [9] (by decide +kernel) (by decide +kernel)
set_option maxRecDepth 20000 in
theorem gX5_put_X5_at : GoodIn wsX5_put (va_wsS RX5 83 yX5_at wsX5_at) := goodIn_app (goodIn_of _ (by decide +kernel)) ggX5_put_X5_at
set_option maxRecDepth 20000 in
theorem ggX5_put_X5_meldTrees : GoodIn wsX5_put wsX5_meldTrees := goodIn_r _ [13, 14, 15, 1, 16, 17, 18, 5, 19, 20, 21, 22, 23, 24, 7, 8, 9, 25, 26, 27, 28, 29, 30, 31, 32, 33, 34, 35, 36, 37, 38, 39, 40, 41, 42, 43, 44, 45, 46, 47, 48, 49, 50, 51, 52, 53, 54, 55, 56, 57, 58, 59, 60, 61, 62, 63] (by decide +kernel) (by decide +kernel)
set_option maxRecDepth 20000 in
theorem gX5_put_X5_meldTrees : GoodIn wsX5_put (wsV RX5 108 RX5 yX5_meldTrees wsX5_meldTrees) := goodIn_app (goodIn_of _ (by decide +kernel)) ggX5_put_X5_meldTrees
theorem dX5_put_0 : decode cX5_put 0 = .ok (.aload_n 0, 1) := by decide +kernel
theorem dX5_put_1 : decode cX5_put 1 = .ok (.iload_n 1, 1) := by decide +kernel
theorem dX5_put_2 : decode cX5_put 2 = .ok (.invokevirtual 105, 3) := by decide +kernel
theorem dX5_put_5 : decode cX5_put 5 = .ok (.aload_n 0, 1) := by decide +kernel
theorem dX5_put_6 : decode cX5_put 6 = .ok (.getfield 13, 3) := by decide +kernel
theorem dX5_put_9 : decode cX5_put 9 = .ok (.iload_n 1, 1) := by decide +kernel
theorem dX5_put_10 : decode cX5_put 10 = .ok (.invokestatic 83, 3) := by decide +kernel
theorem dX5_put_13 : decode cX5_put 13 = .ok (.iconst 1, 1) := by decide +kernel
theorem dX5_put_14 : decode cX5_put 14 = .ok (.iadd, 1) := by decide +kernel
theorem dX5_put_15 : decode cX5_put 15 = .ok (.iload_n 2, 1) := by decide +kernel
theorem dX5_put_16 : decode cX5_put 16 = .ok (.iastore, 1) := by decide +kernel
theorem dX5_put_17 : decode cX5_put 17 = .ok (.aload_n 0, 1) := by decide +kernel
theorem dX5_put_18 : decode cX5_put 18 = .ok (.getfield 13, 3) := by decide +kernel
theorem dX5_put_21 : decode cX5_put 21 = .ok (.iconst 4, 1) := by decide +kernel
theorem dX5_put_22 : decode cX5_put 22 = .ok (.iload_n 2, 1) := by decide +kernel
theorem dX5_put_23 : decode cX5_put 23 = .ok (.iadd, 1) := by decide +kernel
theorem dX5_put_24 : decode cX5_put 24 = .ok (.aload_n 0, 1) := by decide +kernel
theorem dX5_put_25 : decode cX5_put 25 = .ok (.aload_n 0, 1) := by decide +kernel
theorem dX5_put_26 : decode cX5_put 26 = .ok (.getfield 13, 3) := by decide +kernel
theorem dX5_put_29 : decode cX5_put 29 = .ok (.iconst 4, 1) := by decide +kernel
theorem dX5_put_30 : decode cX5_put 30 = .ok (.iload_n 2, 1) := by decide +kernel
theorem dX5_put_31 : decode cX5_put 31 = .ok (.iadd, 1) := by decide +kernel
theorem dX5_put_32 : decode cX5_put 32 = .ok (.iaload, 1) := by decide +kernel
theorem dX5_put_33 : decode cX5_put 33 = .ok (.iload_n 1, 1) := by decide +kernel
theorem dX5_put_34 : decode cX5_put 34 = .ok (.invokevirtual 108, 3) := by decide +kernel
theorem dX5_put_37 : decode cX5_put 37 = .ok (.iastore, 1) := by decide +kernel
theorem dX5_put_38 : decode cX5_put 38 = .ok (.return_, 1) := by decide +kernel
set_option maxRecDepth 20000 in
theorem ggX5_takeRoot_X5_left : GoodIn wsX5_takeRoot wsX5_left := goodIn_r _ [6, 1, 7, 8, 5, 9, 37, 38, 39, 40, 41, 42, 43, 44, 45, 46, 47, 48, 49, 50, 51, 52, 53, 54, 55, 56, 57, 58, 59, 60, 61, 62, 63] (by decide +kernel) (by decide +kernel)
set_option maxRecDepth 20000 in
theorem gX5_takeRoot_X5_left : GoodIn wsX5_takeRoot (wsV RX5 112 RX5 yX5_left wsX5_left) := goodIn_app (goodIn_of _ (by decide +kernel)) ggX5_takeRoot_X5_left
set_option maxRecDepth 20000 in
theorem ggX5_takeRoot_X5_right : GoodIn wsX5_takeRoot wsX5_right := goodIn_r _ [13, 1, 7, 8, 5, 9, 37, 38, 39, 40, 41, 42, 43, 44, 45, 46, 47, 48, 49, 50, 51, 52, 53, 54, 55, 56, 57, 58, 59, 60, 61, 62, 63] (by decide +kernel) (by decide +kernel)
set_option maxRecDepth 20000 in
theorem gX5_takeRoot_X5_right : GoodIn wsX5_takeRoot (wsV RX5 94 RX5 yX5_right wsX5_right) := goodIn_app (goodIn_of _ (by decide +kernel)) ggX5_takeRoot_X5_right
set_option maxRecDepth 20000 in
theorem ggX5_takeRoot_X5_meldTrees : GoodIn wsX5_takeRoot wsX5_meldTrees := goodIn_r _ [17, 18, 19, 1, 20, 21, 22, 5, 23, 24, 10, 11, 12, 13, 7, 8, 9, 25, 26, 27, 28, 29, 30, 31, 32, 33, 34, 35, 36, 37, 38, 39, 40, 41, 42, 43, 44, 45, 46, 47, 48, 49, 50, 51, 52, 53, 54, 55, 56, 57, 58, 59, 60, 61, 62, 63] (by decide +kernel) (by decide +kernel)
set_option maxRecDepth 20000 in
theorem gX5_takeRoot_X5_meldTrees : GoodIn wsX5_takeRoot (wsV RX5 108 RX5 yX5_meldTrees wsX5_meldTrees) := goodIn_app (goodIn_of _ (by decide +kernel)) ggX5_takeRoot_X5_meldTrees
theorem dX5_takeRoot_0 : decode cX5_takeRoot 0 = .ok (.aload_n 0, 1) := by decide +kernel
theorem dX5_takeRoot_1 : decode cX5_takeRoot 1 = .ok (.getfield 13, 3) := by decide +kernel
theorem dX5_takeRoot_4 : decode cX5_takeRoot 4 = .ok (.iconst 4, 1) := by decide +kernel
theorem dX5_takeRoot_5 : decode cX5_takeRoot 5 = .ok (.iload_n 1, 1) := by decide +kernel
theorem dX5_takeRoot_6 : decode cX5_takeRoot 6 = .ok (.iadd, 1) := by decide +kernel
theorem dX5_takeRoot_7 : decode cX5_takeRoot 7 = .ok (.iaload, 1) := by decide +kernel
theorem dX5_takeRoot_8 : decode cX5_takeRoot 8 = .ok (.istore_n 2, 1) := by decide +kernel
theorem dX5_takeRoot_9 : decode cX5_takeRoot 9 = .ok (.aload_n 0, 1) := by decide +kernel
theorem dX5_takeRoot_10 : decode cX5_takeRoot 10 = .ok (.getfield 13, 3) := by decide +kernel
theorem dX5_takeRoot_13 : decode cX5_takeRoot 13 = .ok (.iconst 4, 1) := by decide +kernel
theorem dX5_takeRoot_14 : decode cX5_takeRoot 14 = .ok (.iload_n 1, 1) := by decide +kernel
theorem dX5_takeRoot_15 : decode cX5_takeRoot 15 = .ok (.iadd, 1) := by decide +kernel
theorem dX5_takeRoot_16 : decode cX5_takeRoot 16 = .ok (.aload_n 0, 1) := by decide +kernel
theorem dX5_takeRoot_17 : decode cX5_takeRoot 17 = .ok (.aload_n 0, 1) := by decide +kernel
theorem dX5_takeRoot_18 : decode cX5_takeRoot 18 = .ok (.iload_n 2, 1) := by decide +kernel
theorem dX5_takeRoot_19 : decode cX5_takeRoot 19 = .ok (.invokevirtual 112, 3) := by decide +kernel
theorem dX5_takeRoot_22 : decode cX5_takeRoot 22 = .ok (.aload_n 0, 1) := by decide +kernel
theorem dX5_takeRoot_23 : decode cX5_takeRoot 23 = .ok (.iload_n 2, 1) := by decide +kernel
theorem dX5_takeRoot_24 : decode cX5_takeRoot 24 = .ok (.invokevirtual 94, 3) := by decide +kernel
theorem dX5_takeRoot_27 : decode cX5_takeRoot 27 = .ok (.invokevirtual 108, 3) := by decide +kernel
theorem dX5_takeRoot_30 : decode cX5_takeRoot 30 = .ok (.iastore, 1) := by decide +kernel
theorem dX5_takeRoot_31 : decode cX5_takeRoot 31 = .ok (.iload_n 2, 1) := by decide +kernel
theorem dX5_takeRoot_32 : decode cX5_takeRoot 32 = .ok (.ireturn, 1) := by decide +kernel
set_option maxRecDepth 20000 in
theorem ggX5_goes_X5_at : GoodIn wsX5_goes wsX5_at := goodIn_r _ [5] (by decide +kernel) (by decide +kernel)
set_option maxRecDepth 20000 in
theorem gX5_goes_X5_at : GoodIn wsX5_goes (va_wsS RX5 83 yX5_at wsX5_at) := goodIn_app (goodIn_of _ (by decide +kernel)) ggX5_goes_X5_at
theorem dX5_goes_0 : decode cX5_goes 0 = .ok (.aload_n 0, 1) := by decide +kernel
theorem dX5_goes_1 : decode cX5_goes 1 = .ok (.getfield 13, 3) := by decide +kernel
theorem dX5_goes_4 : decode cX5_goes 4 = .ok (.iload_n 1, 1) := by decide +kernel
theorem dX5_goes_5 : decode cX5_goes 5 = .ok (.invokestatic 83, 3) := by decide +kernel
theorem dX5_goes_8 : decode cX5_goes 8 = .ok (.iconst 1, 1) := by decide +kernel
theorem dX5_goes_9 : decode cX5_goes 9 = .ok (.iadd, 1) := by decide +kernel
theorem dX5_goes_10 : decode cX5_goes 10 = .ok (.iconst (-1), 1) := by decide +kernel
theorem dX5_goes_11 : decode cX5_goes 11 = .ok (.iastore, 1) := by decide +kernel
theorem dX5_goes_12 : decode cX5_goes 12 = .ok (.return_, 1) := by decide +kernel
set_option maxRecDepth 20000 in
theorem ggX5_sweep_X5_at : GoodIn wsX5_sweep wsX5_at := goodIn_r _ [5] (by decide +kernel) (by decide +kernel)
set_option maxRecDepth 20000 in
theorem gX5_sweep_X5_at : GoodIn wsX5_sweep (va_wsS RX5 83 yX5_at wsX5_at) := goodIn_app (goodIn_of _ (by decide +kernel)) ggX5_sweep_X5_at
set_option maxRecDepth 20000 in
theorem ggX5_sweep_X5_takeRoot : GoodIn wsX5_sweep wsX5_takeRoot := goodIn_r _ [9, 1, 10, 11, 12, 4, 13, 2, 3, 5, 14, 15, 16, 17, 18, 19, 20, 21, 22, 23, 24, 25, 26, 27, 28, 29, 30, 31, 32, 33, 34, 35, 36, 37, 38, 39, 40, 45, 46, 47, 48, 49, 50, 51, 52, 53, 54, 55, 56, 57, 58, 59, 60, 61, 62, 63, 64, 65, 66, 67, 68, 69, 70, 71] (by decide +kernel) (by decide +kernel)
set_option maxRecDepth 20000 in
theorem gX5_sweep_X5_takeRoot : GoodIn wsX5_sweep (wsV RX5 115 RX5 yX5_takeRoot wsX5_takeRoot) := goodIn_app (goodIn_of _ (by decide +kernel)) ggX5_sweep_X5_takeRoot
set_option maxRecDepth 20000 in
theorem ggX5_sweep_X5_goes : GoodIn wsX5_sweep wsX5_goes := goodIn_r _ [44, 1, 2, 3, 4, 5, 45, 46, 47, 48, 49, 50, 51, 52, 53, 54, 55, 56, 57, 58, 59, 60, 61, 62, 63, 64, 65, 66, 67, 68, 69, 70, 71] (by decide +kernel) (by decide +kernel)
set_option maxRecDepth 20000 in
theorem gX5_sweep_X5_goes : GoodIn wsX5_sweep (wsV RX5 118 RX5 yX5_goes wsX5_goes) := goodIn_app (goodIn_of _ (by decide +kernel)) ggX5_sweep_X5_goes
theorem dX5_sweep_0 : decode cX5_sweep 0 = .ok (.iconst 0, 1) := by decide +kernel
theorem dX5_sweep_1 : decode cX5_sweep 1 = .ok (.istore_n 1, 1) := by decide +kernel
theorem dX5_sweep_2 : decode cX5_sweep 2 = .ok (.iload_n 1, 1) := by decide +kernel
theorem dX5_sweep_3 : decode cX5_sweep 3 = .ok (.bipush 6, 2) := by decide +kernel
theorem dX5_sweep_5 : decode cX5_sweep 5 = .ok (.if_icmp .ge 65, 3) := by decide +kernel
theorem dX5_sweep_8 : decode cX5_sweep 8 = .ok (.aload_n 0, 1) := by decide +kernel
theorem dX5_sweep_9 : decode cX5_sweep 9 = .ok (.getfield 13, 3) := by decide +kernel
theorem dX5_sweep_12 : decode cX5_sweep 12 = .ok (.iconst 4, 1) := by decide +kernel
theorem dX5_sweep_13 : decode cX5_sweep 13 = .ok (.iload_n 1, 1) := by decide +kernel
theorem dX5_sweep_14 : decode cX5_sweep 14 = .ok (.iadd, 1) := by decide +kernel
theorem dX5_sweep_15 : decode cX5_sweep 15 = .ok (.iaload, 1) := by decide +kernel
theorem dX5_sweep_16 : decode cX5_sweep 16 = .ok (.iconst (-1), 1) := by decide +kernel
theorem dX5_sweep_17 : decode cX5_sweep 17 = .ok (.if_icmp .eq 47, 3) := by decide +kernel
theorem dX5_sweep_20 : decode cX5_sweep 20 = .ok (.aload_n 0, 1) := by decide +kernel
theorem dX5_sweep_21 : decode cX5_sweep 21 = .ok (.getfield 13, 3) := by decide +kernel
theorem dX5_sweep_24 : decode cX5_sweep 24 = .ok (.aload_n 0, 1) := by decide +kernel
theorem dX5_sweep_25 : decode cX5_sweep 25 = .ok (.getfield 13, 3) := by decide +kernel
theorem dX5_sweep_28 : decode cX5_sweep 28 = .ok (.iconst 4, 1) := by decide +kernel
theorem dX5_sweep_29 : decode cX5_sweep 29 = .ok (.iload_n 1, 1) := by decide +kernel
theorem dX5_sweep_30 : decode cX5_sweep 30 = .ok (.iadd, 1) := by decide +kernel
theorem dX5_sweep_31 : decode cX5_sweep 31 = .ok (.iaload, 1) := by decide +kernel
theorem dX5_sweep_32 : decode cX5_sweep 32 = .ok (.invokestatic 83, 3) := by decide +kernel
theorem dX5_sweep_35 : decode cX5_sweep 35 = .ok (.iconst 2, 1) := by decide +kernel
theorem dX5_sweep_36 : decode cX5_sweep 36 = .ok (.iadd, 1) := by decide +kernel
theorem dX5_sweep_37 : decode cX5_sweep 37 = .ok (.iaload, 1) := by decide +kernel
theorem dX5_sweep_38 : decode cX5_sweep 38 = .ok (.iconst 1, 1) := by decide +kernel
theorem dX5_sweep_39 : decode cX5_sweep 39 = .ok (.if_icmp .ne 25, 3) := by decide +kernel
theorem dX5_sweep_42 : decode cX5_sweep 42 = .ok (.aload_n 0, 1) := by decide +kernel
theorem dX5_sweep_43 : decode cX5_sweep 43 = .ok (.aload_n 0, 1) := by decide +kernel
theorem dX5_sweep_44 : decode cX5_sweep 44 = .ok (.iload_n 1, 1) := by decide +kernel
theorem dX5_sweep_45 : decode cX5_sweep 45 = .ok (.invokevirtual 115, 3) := by decide +kernel
theorem dX5_sweep_48 : decode cX5_sweep 48 = .ok (.invokevirtual 118, 3) := by decide +kernel
theorem dX5_sweep_51 : decode cX5_sweep 51 = .ok (.aload_n 0, 1) := by decide +kernel
theorem dX5_sweep_52 : decode cX5_sweep 52 = .ok (.getfield 13, 3) := by decide +kernel
theorem dX5_sweep_55 : decode cX5_sweep 55 = .ok (.iconst 3, 1) := by decide +kernel
theorem dX5_sweep_56 : decode cX5_sweep 56 = .ok (.dup2, 1) := by decide +kernel
theorem dX5_sweep_57 : decode cX5_sweep 57 = .ok (.iaload, 1) := by decide +kernel
theorem dX5_sweep_58 : decode cX5_sweep 58 = .ok (.iconst 1, 1) := by decide +kernel
theorem dX5_sweep_59 : decode cX5_sweep 59 = .ok (.iadd, 1) := by decide +kernel
theorem dX5_sweep_60 : decode cX5_sweep 60 = .ok (.iastore, 1) := by decide +kernel
theorem dX5_sweep_61 : decode cX5_sweep 61 = .ok (.goto (-53), 3) := by decide +kernel
theorem dX5_sweep_64 : decode cX5_sweep 64 = .ok (.iinc 1 1, 3) := by decide +kernel
theorem dX5_sweep_67 : decode cX5_sweep 67 = .ok (.goto (-65), 3) := by decide +kernel
theorem dX5_sweep_70 : decode cX5_sweep 70 = .ok (.return_, 1) := by decide +kernel
set_option maxRecDepth 20000 in
theorem ggX5_cutOut_X5_at : GoodIn wsX5_cutOut wsX5_at := goodIn_r _ [5] (by decide +kernel) (by decide +kernel)
set_option maxRecDepth 20000 in
theorem gX5_cutOut_X5_at : GoodIn wsX5_cutOut (va_wsS RX5 83 yX5_at wsX5_at) := goodIn_app (goodIn_of _ (by decide +kernel)) ggX5_cutOut_X5_at
set_option maxRecDepth 20000 in
theorem ggX5_cutOut_X5_left : GoodIn wsX5_cutOut wsX5_left := goodIn_r _ [9, 1, 2, 3, 4, 5, 37, 38, 39, 40, 41, 42, 43, 44, 45, 46, 47, 48, 49, 50, 51, 52, 53, 54, 55, 56, 57, 58, 59, 60, 61, 62, 63] (by decide +kernel) (by decide +kernel)
set_option maxRecDepth 20000 in
theorem gX5_cutOut_X5_left : GoodIn wsX5_cutOut (wsV RX5 112 RX5 yX5_left wsX5_left) := goodIn_app (goodIn_of _ (by decide +kernel)) ggX5_cutOut_X5_left
set_option maxRecDepth 20000 in
theorem ggX5_cutOut_X5_right : GoodIn wsX5_cutOut wsX5_right := goodIn_r _ [13, 1, 2, 3, 4, 5, 37, 38, 39, 40, 41, 42, 43, 44, 45, 46, 47, 48, 49, 50, 51, 52, 53, 54, 55, 56, 57, 58, 59, 60, 61, 62, 63] (by decide +kernel) (by decide +kernel)
set_option maxRecDepth 20000 in
theorem gX5_cutOut_X5_right : GoodIn wsX5_cutOut (wsV RX5 94 RX5 yX5_right wsX5_right) := goodIn_app (goodIn_of _ (by decide +kernel)) ggX5_cutOut_X5_right
set_option maxRecDepth 20000 in
theorem ggX5_cutOut_X5_meldTrees : GoodIn wsX5_cutOut wsX5_meldTrees := goodIn_r _ [17, 18, 19, 1, 20, 21, 22, 4, 23, 24, 10, 11, 12, 13, 2, 3, 5, 25, 26, 27, 28, 29, 30, 31, 32, 33, 34, 35, 36, 37, 38, 39, 40, 41, 42, 43, 44, 45, 46, 47, 48, 49, 50, 51, 52, 53, 54, 55, 56, 57, 58, 59, 60, 61, 62, 63] (by decide +kernel) (by decide +kernel)
set_option maxRecDepth 20000 in
theorem gX5_cutOut_X5_meldTrees : GoodIn wsX5_cutOut (wsV RX5 108 RX5 yX5_meldTrees wsX5_meldTrees) := goodIn_app (goodIn_of _ (by decide +kernel)) ggX5_cutOut_X5_meldTrees
set_option maxRecDepth 20000 in
theorem ggX5_cutOut_X5_setAbove : GoodIn wsX5_cutOut wsX5_setAbove := goodIn_r _ [28, 1, 2, 3, 4, 5, 37, 38, 39, 40, 41, 42, 43, 44, 45, 46, 47, 48, 49, 50, 51, 52, 53, 54, 55, 56, 57, 58, 59, 60, 61, 62, 63] (by decide +kernel) (by decide +kernel)
set_option maxRecDepth 20000 in
theorem gX5_cutOut_X5_setAbove : GoodIn wsX5_cutOut (wsV RX5 97 RX5 yX5_setAbove wsX5_setAbove) := goodIn_app (goodIn_of _ (by decide +kernel)) ggX5_cutOut_X5_setAbove
set_option maxRecDepth 20000 in
theorem ggX5_cutOut_X5_settle : GoodIn wsX5_cutOut wsX5_settle := goodIn_r _ [32, 1, 2, 3, 4, 5, 33, 34, 35, 36, 37, 38, 39, 40, 41, 42, 43, 44, 45, 46, 47, 48, 49, 50, 51, 52, 53, 54, 55, 56, 57, 58, 59, 60, 61, 62, 63] (by decide +kernel) (by decide +kernel)
set_option maxRecDepth 20000 in
theorem gX5_cutOut_X5_settle : GoodIn wsX5_cutOut (wsV RX5 101 RX5 yX5_settle wsX5_settle) := goodIn_app (goodIn_of _ (by decide +kernel)) ggX5_cutOut_X5_settle
theorem dX5_cutOut_0 : decode cX5_cutOut 0 = .ok (.aload_n 0, 1) := by decide +kernel
theorem dX5_cutOut_1 : decode cX5_cutOut 1 = .ok (.getfield 13, 3) := by decide +kernel
theorem dX5_cutOut_4 : decode cX5_cutOut 4 = .ok (.iload_n 1, 1) := by decide +kernel
theorem dX5_cutOut_5 : decode cX5_cutOut 5 = .ok (.invokestatic 83, 3) := by decide +kernel
theorem dX5_cutOut_8 : decode cX5_cutOut 8 = .ok (.iconst 1, 1) := by decide +kernel
theorem dX5_cutOut_9 : decode cX5_cutOut 9 = .ok (.iadd, 1) := by decide +kernel
theorem dX5_cutOut_10 : decode cX5_cutOut 10 = .ok (.iaload, 1) := by decide +kernel
theorem dX5_cutOut_11 : decode cX5_cutOut 11 = .ok (.istore_n 2, 1) := by decide +kernel
theorem dX5_cutOut_12 : decode cX5_cutOut 12 = .ok (.aload_n 0, 1) := by decide +kernel
theorem dX5_cutOut_13 : decode cX5_cutOut 13 = .ok (.getfield 13, 3) := by decide +kernel
theorem dX5_cutOut_16 : decode cX5_cutOut 16 = .ok (.iload_n 1, 1) := by decide +kernel
theorem dX5_cutOut_17 : decode cX5_cutOut 17 = .ok (.invokestatic 83, 3) := by decide +kernel
theorem dX5_cutOut_20 : decode cX5_cutOut 20 = .ok (.iconst 5, 1) := by decide +kernel
theorem dX5_cutOut_21 : decode cX5_cutOut 21 = .ok (.iadd, 1) := by decide +kernel
theorem dX5_cutOut_22 : decode cX5_cutOut 22 = .ok (.iaload, 1) := by decide +kernel
theorem dX5_cutOut_23 : decode cX5_cutOut 23 = .ok (.istore_n 3, 1) := by decide +kernel
theorem dX5_cutOut_24 : decode cX5_cutOut 24 = .ok (.aload_n 0, 1) := by decide +kernel
theorem dX5_cutOut_25 : decode cX5_cutOut 25 = .ok (.aload_n 0, 1) := by decide +kernel
theorem dX5_cutOut_26 : decode cX5_cutOut 26 = .ok (.iload_n 1, 1) := by decide +kernel
theorem dX5_cutOut_27 : decode cX5_cutOut 27 = .ok (.invokevirtual 112, 3) := by decide +kernel
theorem dX5_cutOut_30 : decode cX5_cutOut 30 = .ok (.aload_n 0, 1) := by decide +kernel
theorem dX5_cutOut_31 : decode cX5_cutOut 31 = .ok (.iload_n 1, 1) := by decide +kernel
theorem dX5_cutOut_32 : decode cX5_cutOut 32 = .ok (.invokevirtual 94, 3) := by decide +kernel
theorem dX5_cutOut_35 : decode cX5_cutOut 35 = .ok (.invokevirtual 108, 3) := by decide +kernel
theorem dX5_cutOut_38 : decode cX5_cutOut 38 = .ok (.istore 4, 2) := by decide +kernel
theorem dX5_cutOut_40 : decode cX5_cutOut 40 = .ok (.iload_n 3, 1) := by decide +kernel
theorem dX5_cutOut_41 : decode cX5_cutOut 41 = .ok (.iconst (-1), 1) := by decide +kernel
theorem dX5_cutOut_42 : decode cX5_cutOut 42 = .ok (.if_icmp .ne 14, 3) := by decide +kernel
theorem dX5_cutOut_45 : decode cX5_cutOut 45 = .ok (.aload_n 0, 1) := by decide +kernel
theorem dX5_cutOut_46 : decode cX5_cutOut 46 = .ok (.getfield 13, 3) := by decide +kernel
theorem dX5_cutOut_49 : decode cX5_cutOut 49 = .ok (.iconst 4, 1) := by decide +kernel
theorem dX5_cutOut_50 : decode cX5_cutOut 50 = .ok (.iload_n 2, 1) := by decide +kernel
theorem dX5_cutOut_51 : decode cX5_cutOut 51 = .ok (.iadd, 1) := by decide +kernel
theorem dX5_cutOut_52 : decode cX5_cutOut 52 = .ok (.iload 4, 2) := by decide +kernel
theorem dX5_cutOut_54 : decode cX5_cutOut 54 = .ok (.iastore, 1) := by decide +kernel
theorem dX5_cutOut_55 : decode cX5_cutOut 55 = .ok (.return_, 1) := by decide +kernel
theorem dX5_cutOut_56 : decode cX5_cutOut 56 = .ok (.aload_n 0, 1) := by decide +kernel
theorem dX5_cutOut_57 : decode cX5_cutOut 57 = .ok (.iload_n 3, 1) := by decide +kernel
theorem dX5_cutOut_58 : decode cX5_cutOut 58 = .ok (.invokevirtual 112, 3) := by decide +kernel
theorem dX5_cutOut_61 : decode cX5_cutOut 61 = .ok (.iload_n 1, 1) := by decide +kernel
theorem dX5_cutOut_62 : decode cX5_cutOut 62 = .ok (.if_icmp .ne 19, 3) := by decide +kernel
theorem dX5_cutOut_65 : decode cX5_cutOut 65 = .ok (.aload_n 0, 1) := by decide +kernel
theorem dX5_cutOut_66 : decode cX5_cutOut 66 = .ok (.getfield 13, 3) := by decide +kernel
theorem dX5_cutOut_69 : decode cX5_cutOut 69 = .ok (.iload_n 3, 1) := by decide +kernel
theorem dX5_cutOut_70 : decode cX5_cutOut 70 = .ok (.invokestatic 83, 3) := by decide +kernel
theorem dX5_cutOut_73 : decode cX5_cutOut 73 = .ok (.iconst 3, 1) := by decide +kernel
theorem dX5_cutOut_74 : decode cX5_cutOut 74 = .ok (.iadd, 1) := by decide +kernel
theorem dX5_cutOut_75 : decode cX5_cutOut 75 = .ok (.iload 4, 2) := by decide +kernel
theorem dX5_cutOut_77 : decode cX5_cutOut 77 = .ok (.iastore, 1) := by decide +kernel
theorem dX5_cutOut_78 : decode cX5_cutOut 78 = .ok (.goto 16, 3) := by decide +kernel
theorem dX5_cutOut_81 : decode cX5_cutOut 81 = .ok (.aload_n 0, 1) := by decide +kernel
theorem dX5_cutOut_82 : decode cX5_cutOut 82 = .ok (.getfield 13, 3) := by decide +kernel
theorem dX5_cutOut_85 : decode cX5_cutOut 85 = .ok (.iload_n 3, 1) := by decide +kernel
theorem dX5_cutOut_86 : decode cX5_cutOut 86 = .ok (.invokestatic 83, 3) := by decide +kernel
theorem dX5_cutOut_89 : decode cX5_cutOut 89 = .ok (.iconst 4, 1) := by decide +kernel
theorem dX5_cutOut_90 : decode cX5_cutOut 90 = .ok (.iadd, 1) := by decide +kernel
theorem dX5_cutOut_91 : decode cX5_cutOut 91 = .ok (.iload 4, 2) := by decide +kernel
theorem dX5_cutOut_93 : decode cX5_cutOut 93 = .ok (.iastore, 1) := by decide +kernel
theorem dX5_cutOut_94 : decode cX5_cutOut 94 = .ok (.aload_n 0, 1) := by decide +kernel
theorem dX5_cutOut_95 : decode cX5_cutOut 95 = .ok (.iload 4, 2) := by decide +kernel
theorem dX5_cutOut_97 : decode cX5_cutOut 97 = .ok (.iload_n 3, 1) := by decide +kernel
theorem dX5_cutOut_98 : decode cX5_cutOut 98 = .ok (.invokevirtual 97, 3) := by decide +kernel
theorem dX5_cutOut_101 : decode cX5_cutOut 101 = .ok (.iload_n 3, 1) := by decide +kernel
theorem dX5_cutOut_102 : decode cX5_cutOut 102 = .ok (.istore 5, 2) := by decide +kernel
theorem dX5_cutOut_104 : decode cX5_cutOut 104 = .ok (.iload 5, 2) := by decide +kernel
theorem dX5_cutOut_106 : decode cX5_cutOut 106 = .ok (.iconst (-1), 1) := by decide +kernel
theorem dX5_cutOut_107 : decode cX5_cutOut 107 = .ok (.if_icmp .eq 26, 3) := by decide +kernel
theorem dX5_cutOut_110 : decode cX5_cutOut 110 = .ok (.aload_n 0, 1) := by decide +kernel
theorem dX5_cutOut_111 : decode cX5_cutOut 111 = .ok (.iload 5, 2) := by decide +kernel
theorem dX5_cutOut_113 : decode cX5_cutOut 113 = .ok (.invokevirtual 101, 3) := by decide +kernel
theorem dX5_cutOut_116 : decode cX5_cutOut 116 = .ok (.aload_n 0, 1) := by decide +kernel
theorem dX5_cutOut_117 : decode cX5_cutOut 117 = .ok (.getfield 13, 3) := by decide +kernel
theorem dX5_cutOut_120 : decode cX5_cutOut 120 = .ok (.iload 5, 2) := by decide +kernel
theorem dX5_cutOut_122 : decode cX5_cutOut 122 = .ok (.invokestatic 83, 3) := by decide +kernel
theorem dX5_cutOut_125 : decode cX5_cutOut 125 = .ok (.iconst 5, 1) := by decide +kernel
theorem dX5_cutOut_126 : decode cX5_cutOut 126 = .ok (.iadd, 1) := by decide +kernel
theorem dX5_cutOut_127 : decode cX5_cutOut 127 = .ok (.iaload, 1) := by decide +kernel
theorem dX5_cutOut_128 : decode cX5_cutOut 128 = .ok (.istore 5, 2) := by decide +kernel
theorem dX5_cutOut_130 : decode cX5_cutOut 130 = .ok (.goto (-26), 3) := by decide +kernel
theorem dX5_cutOut_133 : decode cX5_cutOut 133 = .ok (.return_, 1) := by decide +kernel
set_option maxRecDepth 20000 in
theorem ggX5_many_X5_at : GoodIn wsX5_many wsX5_at := goodIn_r _ [5] (by decide +kernel) (by decide +kernel)
set_option maxRecDepth 20000 in
theorem gX5_many_X5_at : GoodIn wsX5_many (va_wsS RX5 83 yX5_at wsX5_at) := goodIn_app (goodIn_of _ (by decide +kernel)) ggX5_many_X5_at
theorem dX5_many_0 : decode cX5_many 0 = .ok (.iconst 0, 1) := by decide +kernel
theorem dX5_many_1 : decode cX5_many 1 = .ok (.istore_n 3, 1) := by decide +kernel
theorem dX5_many_2 : decode cX5_many 2 = .ok (.iconst 0, 1) := by decide +kernel
theorem dX5_many_3 : decode cX5_many 3 = .ok (.istore 4, 2) := by decide +kernel
theorem dX5_many_5 : decode cX5_many 5 = .ok (.iload 4, 2) := by decide +kernel
theorem dX5_many_7 : decode cX5_many 7 = .ok (.aload_n 0, 1) := by decide +kernel
theorem dX5_many_8 : decode cX5_many 8 = .ok (.getfield 13, 3) := by decide +kernel
theorem dX5_many_11 : decode cX5_many 11 = .ok (.iconst 0, 1) := by decide +kernel
theorem dX5_many_12 : decode cX5_many 12 = .ok (.iaload, 1) := by decide +kernel
theorem dX5_many_13 : decode cX5_many 13 = .ok (.if_icmp .ge 52, 3) := by decide +kernel
theorem dX5_many_16 : decode cX5_many 16 = .ok (.iload_n 3, 1) := by decide +kernel
theorem dX5_many_17 : decode cX5_many 17 = .ok (.aload_n 0, 1) := by decide +kernel
theorem dX5_many_18 : decode cX5_many 18 = .ok (.getfield 13, 3) := by decide +kernel
theorem dX5_many_21 : decode cX5_many 21 = .ok (.iload 4, 2) := by decide +kernel
theorem dX5_many_23 : decode cX5_many 23 = .ok (.invokestatic 83, 3) := by decide +kernel
theorem dX5_many_26 : decode cX5_many 26 = .ok (.iconst 1, 1) := by decide +kernel
theorem dX5_many_27 : decode cX5_many 27 = .ok (.iadd, 1) := by decide +kernel
theorem dX5_many_28 : decode cX5_many 28 = .ok (.iaload, 1) := by decide +kernel
theorem dX5_many_29 : decode cX5_many 29 = .ok (.iload_n 1, 1) := by decide +kernel
theorem dX5_many_30 : decode cX5_many 30 = .ok (.if_icmp .ne 26, 3) := by decide +kernel
theorem dX5_many_33 : decode cX5_many 33 = .ok (.iload_n 2, 1) := by decide +kernel
theorem dX5_many_34 : decode cX5_many 34 = .ok (.ifCond .ne 18, 3) := by decide +kernel
theorem dX5_many_37 : decode cX5_many 37 = .ok (.aload_n 0, 1) := by decide +kernel
theorem dX5_many_38 : decode cX5_many 38 = .ok (.getfield 13, 3) := by decide +kernel
theorem dX5_many_41 : decode cX5_many 41 = .ok (.iload 4, 2) := by decide +kernel
theorem dX5_many_43 : decode cX5_many 43 = .ok (.invokestatic 83, 3) := by decide +kernel
theorem dX5_many_46 : decode cX5_many 46 = .ok (.iconst 2, 1) := by decide +kernel
theorem dX5_many_47 : decode cX5_many 47 = .ok (.iadd, 1) := by decide +kernel
theorem dX5_many_48 : decode cX5_many 48 = .ok (.iaload, 1) := by decide +kernel
theorem dX5_many_49 : decode cX5_many 49 = .ok (.ifCond .ne 7, 3) := by decide +kernel
theorem dX5_many_52 : decode cX5_many 52 = .ok (.iconst 1, 1) := by decide +kernel
theorem dX5_many_53 : decode cX5_many 53 = .ok (.goto 4, 3) := by decide +kernel
theorem dX5_many_56 : decode cX5_many 56 = .ok (.iconst 0, 1) := by decide +kernel
theorem dX5_many_57 : decode cX5_many 57 = .ok (.iadd, 1) := by decide +kernel
theorem dX5_many_58 : decode cX5_many 58 = .ok (.istore_n 3, 1) := by decide +kernel
theorem dX5_many_59 : decode cX5_many 59 = .ok (.iinc 4 1, 3) := by decide +kernel
theorem dX5_many_62 : decode cX5_many 62 = .ok (.goto (-57), 3) := by decide +kernel
theorem dX5_many_65 : decode cX5_many 65 = .ok (.iload_n 3, 1) := by decide +kernel
theorem dX5_many_66 : decode cX5_many 66 = .ok (.ireturn, 1) := by decide +kernel
set_option maxRecDepth 20000 in
theorem ggX5_isKey_X5_in : GoodIn wsX5_isKey wsX5_in := goodIn_r _ [6] (by decide +kernel) (by decide +kernel)
set_option maxRecDepth 20000 in
theorem gX5_isKey_X5_in : GoodIn wsX5_isKey (va_wsS RX5 77 yX5_in wsX5_in) := goodIn_app (goodIn_of _ (by decide +kernel)) ggX5_isKey_X5_in
theorem dX5_isKey_0 : decode cX5_isKey 0 = .ok (.lload_n 0, 1) := by decide +kernel
theorem dX5_isKey_1 : decode cX5_isKey 1 = .ok (.ldc2_w 121, 3) := by decide +kernel
theorem dX5_isKey_4 : decode cX5_isKey 4 = .ok (.ldc2_w 123, 3) := by decide +kernel
theorem dX5_isKey_7 : decode cX5_isKey 7 = .ok (.invokestatic 77, 3) := by decide +kernel
theorem dX5_isKey_10 : decode cX5_isKey 10 = .ok (.ireturn, 1) := by decide +kernel
set_option maxRecDepth 20000 in
theorem ggX5_enter_X5_isDesk : GoodIn wsX5_enter wsX5_isDesk := goodIn_r _ [8, 9, 10, 11, 7, 12] (by decide +kernel) (by decide +kernel)
set_option maxRecDepth 20000 in
theorem gX5_enter_X5_isDesk : GoodIn wsX5_enter (va_wsS RX5 125 yX5_isDesk wsX5_isDesk) := goodIn_app (goodIn_of _ (by decide +kernel)) ggX5_enter_X5_isDesk
set_option maxRecDepth 20000 in
theorem ggX5_enter_X5_isKey : GoodIn wsX5_enter wsX5_isKey := goodIn_r _ [15, 16, 17, 10, 11, 7, 12] (by decide +kernel) (by decide +kernel)
set_option maxRecDepth 20000 in
theorem gX5_enter_X5_isKey : GoodIn wsX5_enter (va_wsS RX5 129 yX5_isKey wsX5_isKey) := goodIn_app (goodIn_of _ (by decide +kernel)) ggX5_enter_X5_isKey
set_option maxRecDepth 20000 in
theorem ggX5_enter_X5_in : GoodIn wsX5_enter wsX5_in := goodIn_r _ [12] (by decide +kernel) (by decide +kernel)
set_option maxRecDepth 20000 in
theorem gX5_enter_X5_in : GoodIn wsX5_enter (va_wsS RX5 77 yX5_in wsX5_in) := goodIn_app (goodIn_of _ (by decide +kernel)) ggX5_enter_X5_in
set_option maxRecDepth 20000 in
theorem ggX5_enter_X5_refuse : GoodIn wsX5_enter wsX5_refuse := goodIn_r _ [21, 22, 76, 77, 78, 79, 80, 81, 82, 83, 84, 85, 86, 87, 88, 89, 90, 91, 92, 93, 94, 95, 96, 97, 98, 99, 100, 101, 102] (by decide +kernel) (by decide +kernel)
set_option maxRecDepth 20000 in
theorem gX5_enter_X5_refuse : GoodIn wsX5_enter (wsV RX5 135 RX5 yX5_refuse wsX5_refuse) := goodIn_app (goodIn_of _ (by decide +kernel)) ggX5_enter_X5_refuse
set_option maxRecDepth 20000 in
theorem ggX5_enter_X5_at : GoodIn wsX5_enter wsX5_at := goodIn_r _ [25] (by decide +kernel) (by decide +kernel)
set_option maxRecDepth 20000 in
theorem gX5_enter_X5_at : GoodIn wsX5_enter (va_wsS RX5 83 yX5_at wsX5_at) := goodIn_app (goodIn_of _ (by decide +kernel)) ggX5_enter_X5_at
set_option maxRecDepth 20000 in
theorem ggX5_enter_X5_put : GoodIn wsX5_enter wsX5_put := goodIn_r _ [29, 3, 30, 31, 32, 7, 33, 23, 24, 25, 34, 35, 36, 37, 38, 39, 40, 41, 42, 43, 4, 44, 45, 46, 47, 48, 49, 50, 51, 52, 53, 54, 55, 56, 57, 58, 59, 76, 77, 78, 79, 80, 81, 82, 83, 84, 85, 86, 87, 88, 89, 90, 91, 92, 93, 94, 95, 96, 97, 98, 99, 100, 101, 102] (by decide +kernel) (by decide +kernel)
set_option maxRecDepth 20000 in
theorem gX5_enter_X5_put : GoodIn wsX5_enter (wsV RX5 138 RX5 yX5_put wsX5_put) := goodIn_app (goodIn_of _ (by decide +kernel)) ggX5_enter_X5_put
set_option maxRecDepth 20000 in
theorem ggX5_enter_X5_sweep : GoodIn wsX5_enter wsX5_sweep := goodIn_r _ [63, 3, 23, 24, 7, 25, 64, 65, 66, 67, 68, 69, 70, 71, 44, 45, 46, 47, 34, 35, 36, 37, 38, 39, 40, 41, 42, 43, 4, 48, 49, 50, 51, 52, 53, 54, 55, 56, 57, 58, 59, 72, 73, 74, 75, 76, 77, 78, 79, 80, 81, 82, 83, 84, 85, 86, 87, 88, 89, 90, 91, 92, 93, 94, 95, 96, 97, 98, 99, 100, 101, 102] (by decide +kernel) (by decide +kernel)
set_option maxRecDepth 20000 in
theorem gX5_enter_X5_sweep : GoodIn wsX5_enter (wsV RX5 141 RX5 yX5_sweep wsX5_sweep) := goodIn_app (goodIn_of _ (by decide +kernel)) ggX5_enter_X5_sweep
theorem dX5_enter_0 : decode cX5_enter 0 = .ok (.aload_n 0, 1) := by decide +kernel
theorem dX5_enter_1 : decode cX5_enter 1 = .ok (.iconst 0, 1) := by decide +kernel
theorem dX5_enter_2 : decode cX5_enter 2 = .ok (.putfield 63, 3) := by decide +kernel
theorem dX5_enter_5 : decode cX5_enter 5 = .ok (.iload_n 1, 1) := by decide +kernel
theorem dX5_enter_6 : decode cX5_enter 6 = .ok (.invokestatic 125, 3) := by decide +kernel
theorem dX5_enter_9 : decode cX5_enter 9 = .ok (.ifCond .eq 23, 3) := by decide +kernel
theorem dX5_enter_12 : decode cX5_enter 12 = .ok (.iload_n 2, 1) := by decide +kernel
theorem dX5_enter_13 : decode cX5_enter 13 = .ok (.i2l, 1) := by decide +kernel
theorem dX5_enter_14 : decode cX5_enter 14 = .ok (.invokestatic 129, 3) := by decide +kernel
theorem dX5_enter_17 : decode cX5_enter 17 = .ok (.ifCond .eq 15, 3) := by decide +kernel
theorem dX5_enter_20 : decode cX5_enter 20 = .ok (.iload_n 3, 1) := by decide +kernel
theorem dX5_enter_21 : decode cX5_enter 21 = .ok (.i2l, 1) := by decide +kernel
theorem dX5_enter_22 : decode cX5_enter 22 = .ok (.lconst 0, 1) := by decide +kernel
theorem dX5_enter_23 : decode cX5_enter 23 = .ok (.ldc2_w 133, 3) := by decide +kernel
theorem dX5_enter_26 : decode cX5_enter 26 = .ok (.invokestatic 77, 3) := by decide +kernel
theorem dX5_enter_29 : decode cX5_enter 29 = .ok (.ifCond .ne 9, 3) := by decide +kernel
theorem dX5_enter_32 : decode cX5_enter 32 = .ok (.aload_n 0, 1) := by decide +kernel
theorem dX5_enter_33 : decode cX5_enter 33 = .ok (.iconst (-1), 1) := by decide +kernel
theorem dX5_enter_34 : decode cX5_enter 34 = .ok (.invokevirtual 135, 3) := by decide +kernel
theorem dX5_enter_37 : decode cX5_enter 37 = .ok (.ireturn, 1) := by decide +kernel
theorem dX5_enter_38 : decode cX5_enter 38 = .ok (.aload_n 0, 1) := by decide +kernel
theorem dX5_enter_39 : decode cX5_enter 39 = .ok (.getfield 13, 3) := by decide +kernel
theorem dX5_enter_42 : decode cX5_enter 42 = .ok (.iconst 0, 1) := by decide +kernel
theorem dX5_enter_43 : decode cX5_enter 43 = .ok (.iaload, 1) := by decide +kernel
theorem dX5_enter_44 : decode cX5_enter 44 = .ok (.istore 4, 2) := by decide +kernel
theorem dX5_enter_46 : decode cX5_enter 46 = .ok (.iload 4, 2) := by decide +kernel
theorem dX5_enter_48 : decode cX5_enter 48 = .ok (.sipush 300, 3) := by decide +kernel
theorem dX5_enter_51 : decode cX5_enter 51 = .ok (.if_icmp .ne 10, 3) := by decide +kernel
theorem dX5_enter_54 : decode cX5_enter 54 = .ok (.aload_n 0, 1) := by decide +kernel
theorem dX5_enter_55 : decode cX5_enter 55 = .ok (.bipush (-5), 2) := by decide +kernel
theorem dX5_enter_57 : decode cX5_enter 57 = .ok (.invokevirtual 135, 3) := by decide +kernel
theorem dX5_enter_60 : decode cX5_enter 60 = .ok (.ireturn, 1) := by decide +kernel
theorem dX5_enter_61 : decode cX5_enter 61 = .ok (.aload_n 0, 1) := by decide +kernel
theorem dX5_enter_62 : decode cX5_enter 62 = .ok (.getfield 13, 3) := by decide +kernel
theorem dX5_enter_65 : decode cX5_enter 65 = .ok (.iload 4, 2) := by decide +kernel
theorem dX5_enter_67 : decode cX5_enter 67 = .ok (.invokestatic 83, 3) := by decide +kernel
theorem dX5_enter_70 : decode cX5_enter 70 = .ok (.iconst 0, 1) := by decide +kernel
theorem dX5_enter_71 : decode cX5_enter 71 = .ok (.iadd, 1) := by decide +kernel
theorem dX5_enter_72 : decode cX5_enter 72 = .ok (.iload_n 3, 1) := by decide +kernel
theorem dX5_enter_73 : decode cX5_enter 73 = .ok (.iastore, 1) := by decide +kernel
theorem dX5_enter_74 : decode cX5_enter 74 = .ok (.aload_n 0, 1) := by decide +kernel
theorem dX5_enter_75 : decode cX5_enter 75 = .ok (.getfield 13, 3) := by decide +kernel
theorem dX5_enter_78 : decode cX5_enter 78 = .ok (.iload 4, 2) := by decide +kernel
theorem dX5_enter_80 : decode cX5_enter 80 = .ok (.invokestatic 83, 3) := by decide +kernel
theorem dX5_enter_83 : decode cX5_enter 83 = .ok (.iconst 2, 1) := by decide +kernel
theorem dX5_enter_84 : decode cX5_enter 84 = .ok (.iadd, 1) := by decide +kernel
theorem dX5_enter_85 : decode cX5_enter 85 = .ok (.iconst 0, 1) := by decide +kernel
theorem dX5_enter_86 : decode cX5_enter 86 = .ok (.iastore, 1) := by decide +kernel
theorem dX5_enter_87 : decode cX5_enter 87 = .ok (.aload_n 0, 1) := by decide +kernel
theorem dX5_enter_88 : decode cX5_enter 88 = .ok (.getfield 16, 3) := by decide +kernel
theorem dX5_enter_91 : decode cX5_enter 91 = .ok (.iload 4, 2) := by decide +kernel
theorem dX5_enter_93 : decode cX5_enter 93 = .ok (.iload_n 2, 1) := by decide +kernel
theorem dX5_enter_94 : decode cX5_enter 94 = .ok (.i2l, 1) := by decide +kernel
theorem dX5_enter_95 : decode cX5_enter 95 = .ok (.lastore, 1) := by decide +kernel
theorem dX5_enter_96 : decode cX5_enter 96 = .ok (.aload_n 0, 1) := by decide +kernel
theorem dX5_enter_97 : decode cX5_enter 97 = .ok (.getfield 13, 3) := by decide +kernel
theorem dX5_enter_100 : decode cX5_enter 100 = .ok (.iconst 0, 1) := by decide +kernel
theorem dX5_enter_101 : decode cX5_enter 101 = .ok (.dup2, 1) := by decide +kernel
theorem dX5_enter_102 : decode cX5_enter 102 = .ok (.iaload, 1) := by decide +kernel
theorem dX5_enter_103 : decode cX5_enter 103 = .ok (.iconst 1, 1) := by decide +kernel
theorem dX5_enter_104 : decode cX5_enter 104 = .ok (.iadd, 1) := by decide +kernel
theorem dX5_enter_105 : decode cX5_enter 105 = .ok (.iastore, 1) := by decide +kernel
theorem dX5_enter_106 : decode cX5_enter 106 = .ok (.aload_n 0, 1) := by decide +kernel
theorem dX5_enter_107 : decode cX5_enter 107 = .ok (.iload 4, 2) := by decide +kernel
theorem dX5_enter_109 : decode cX5_enter 109 = .ok (.iload_n 1, 1) := by decide +kernel
theorem dX5_enter_110 : decode cX5_enter 110 = .ok (.invokevirtual 138, 3) := by decide +kernel
theorem dX5_enter_113 : decode cX5_enter 113 = .ok (.aload_n 0, 1) := by decide +kernel
theorem dX5_enter_114 : decode cX5_enter 114 = .ok (.invokevirtual 141, 3) := by decide +kernel
theorem dX5_enter_117 : decode cX5_enter 117 = .ok (.iload 4, 2) := by decide +kernel
theorem dX5_enter_119 : decode cX5_enter 119 = .ok (.ireturn, 1) := by decide +kernel
set_option maxRecDepth 20000 in
theorem ggX5_dispatch_X5_takeRoot : GoodIn wsX5_dispatch wsX5_takeRoot := goodIn_r _ [7, 1, 8, 9, 10, 6, 11, 12, 13, 14, 15, 16, 17, 18, 19, 20, 21, 22, 23, 24, 25, 26, 27, 28, 2, 29, 30, 31, 32, 33, 34, 35, 36, 37, 38, 39, 40, 49, 50, 51, 52, 53, 54, 55, 56, 57, 58, 59, 60, 61, 62, 63, 64, 65, 66, 67, 68, 69, 70, 71, 72, 73, 74, 75] (by decide +kernel) (by decide +kernel)
set_option maxRecDepth 20000 in
theorem gX5_dispatch_X5_takeRoot : GoodIn wsX5_dispatch (wsV RX5 115 RX5 yX5_takeRoot wsX5_takeRoot) := goodIn_app (goodIn_of _ (by decide +kernel)) ggX5_dispatch_X5_takeRoot
set_option maxRecDepth 20000 in
theorem ggX5_dispatch_X5_goes : GoodIn wsX5_dispatch wsX5_goes := goodIn_r _ [44, 1, 12, 13, 6, 14, 49, 50, 51, 52, 53, 54, 55, 56, 57, 58, 59, 60, 61, 62, 63, 64, 65, 66, 67, 68, 69, 70, 71, 72, 73, 74, 75] (by decide +kernel) (by decide +kernel)
set_option maxRecDepth 20000 in
theorem gX5_dispatch_X5_goes : GoodIn wsX5_dispatch (wsV RX5 118 RX5 yX5_goes wsX5_goes) := goodIn_app (goodIn_of _ (by decide +kernel)) ggX5_dispatch_X5_goes
set_option maxRecDepth 20000 in
theorem ggX5_dispatch_X5_sweep : GoodIn wsX5_dispatch wsX5_sweep := goodIn_r _ [48, 1, 12, 13, 6, 14, 3, 4, 5, 7, 8, 9, 10, 11, 15, 16, 17, 18, 19, 20, 21, 22, 23, 24, 25, 26, 27, 28, 2, 29, 30, 31, 32, 33, 34, 35, 36, 37, 38, 39, 40, 41, 42, 43, 44, 49, 50, 51, 52, 53, 54, 55, 56, 57, 58, 59, 60, 61, 62, 63, 64, 65, 66, 67, 68, 69, 70, 71, 72, 73, 74, 75] (by decide +kernel) (by decide +kernel)
set_option maxRecDepth 20000 in
theorem gX5_dispatch_X5_sweep : GoodIn wsX5_dispatch (wsV RX5 141 RX5 yX5_sweep wsX5_sweep) := goodIn_app (goodIn_of _ (by decide +kernel)) ggX5_dispatch_X5_sweep
theorem dX5_dispatch_0 : decode cX5_dispatch 0 = .ok (.aload_n 0, 1) := by decide +kernel
theorem dX5_dispatch_1 : decode cX5_dispatch 1 = .ok (.iload_n 1, 1) := by decide +kernel
theorem dX5_dispatch_2 : decode cX5_dispatch 2 = .ok (.invokevirtual 115, 3) := by decide +kernel
theorem dX5_dispatch_5 : decode cX5_dispatch 5 = .ok (.istore_n 2, 1) := by decide +kernel
theorem dX5_dispatch_6 : decode cX5_dispatch 6 = .ok (.aload_n 0, 1) := by decide +kernel
theorem dX5_dispatch_7 : decode cX5_dispatch 7 = .ok (.getfield 13, 3) := by decide +kernel
theorem dX5_dispatch_10 : decode cX5_dispatch 10 = .ok (.iconst 2, 1) := by decide +kernel
theorem dX5_dispatch_11 : decode cX5_dispatch 11 = .ok (.iaload, 1) := by decide +kernel
theorem dX5_dispatch_12 : decode cX5_dispatch 12 = .ok (.bipush 40, 2) := by decide +kernel
theorem dX5_dispatch_14 : decode cX5_dispatch 14 = .ok (.if_icmp .ne 103, 3) := by decide +kernel
theorem dX5_dispatch_17 : decode cX5_dispatch 17 = .ok (.aload_n 0, 1) := by decide +kernel
theorem dX5_dispatch_18 : decode cX5_dispatch 18 = .ok (.getfield 13, 3) := by decide +kernel
theorem dX5_dispatch_21 : decode cX5_dispatch 21 = .ok (.iconst 2, 1) := by decide +kernel
theorem dX5_dispatch_22 : decode cX5_dispatch 22 = .ok (.dup2, 1) := by decide +kernel
theorem dX5_dispatch_23 : decode cX5_dispatch 23 = .ok (.iaload, 1) := by decide +kernel
theorem dX5_dispatch_24 : decode cX5_dispatch 24 = .ok (.iconst 1, 1) := by decide +kernel
theorem dX5_dispatch_25 : decode cX5_dispatch 25 = .ok (.isub, 1) := by decide +kernel
theorem dX5_dispatch_26 : decode cX5_dispatch 26 = .ok (.iastore, 1) := by decide +kernel
theorem dX5_dispatch_27 : decode cX5_dispatch 27 = .ok (.iconst 0, 1) := by decide +kernel
theorem dX5_dispatch_28 : decode cX5_dispatch 28 = .ok (.istore_n 3, 1) := by decide +kernel
theorem dX5_dispatch_29 : decode cX5_dispatch 29 = .ok (.iload_n 3, 1) := by decide +kernel
theorem dX5_dispatch_30 : decode cX5_dispatch 30 = .ok (.aload_n 0, 1) := by decide +kernel
theorem dX5_dispatch_31 : decode cX5_dispatch 31 = .ok (.getfield 13, 3) := by decide +kernel
theorem dX5_dispatch_34 : decode cX5_dispatch 34 = .ok (.iconst 2, 1) := by decide +kernel
theorem dX5_dispatch_35 : decode cX5_dispatch 35 = .ok (.iaload, 1) := by decide +kernel
theorem dX5_dispatch_36 : decode cX5_dispatch 36 = .ok (.if_icmp .ge 81, 3) := by decide +kernel
theorem dX5_dispatch_39 : decode cX5_dispatch 39 = .ok (.aload_n 0, 1) := by decide +kernel
theorem dX5_dispatch_40 : decode cX5_dispatch 40 = .ok (.getfield 13, 3) := by decide +kernel
theorem dX5_dispatch_43 : decode cX5_dispatch 43 = .ok (.bipush 70, 2) := by decide +kernel
theorem dX5_dispatch_45 : decode cX5_dispatch 45 = .ok (.iconst 2, 1) := by decide +kernel
theorem dX5_dispatch_46 : decode cX5_dispatch 46 = .ok (.iload_n 3, 1) := by decide +kernel
theorem dX5_dispatch_47 : decode cX5_dispatch 47 = .ok (.imul, 1) := by decide +kernel
theorem dX5_dispatch_48 : decode cX5_dispatch 48 = .ok (.iadd, 1) := by decide +kernel
theorem dX5_dispatch_49 : decode cX5_dispatch 49 = .ok (.aload_n 0, 1) := by decide +kernel
theorem dX5_dispatch_50 : decode cX5_dispatch 50 = .ok (.getfield 13, 3) := by decide +kernel
theorem dX5_dispatch_53 : decode cX5_dispatch 53 = .ok (.bipush 70, 2) := by decide +kernel
theorem dX5_dispatch_55 : decode cX5_dispatch 55 = .ok (.iconst 2, 1) := by decide +kernel
theorem dX5_dispatch_56 : decode cX5_dispatch 56 = .ok (.iload_n 3, 1) := by decide +kernel
theorem dX5_dispatch_57 : decode cX5_dispatch 57 = .ok (.imul, 1) := by decide +kernel
theorem dX5_dispatch_58 : decode cX5_dispatch 58 = .ok (.iadd, 1) := by decide +kernel
theorem dX5_dispatch_59 : decode cX5_dispatch 59 = .ok (.iconst 2, 1) := by decide +kernel
theorem dX5_dispatch_60 : decode cX5_dispatch 60 = .ok (.iadd, 1) := by decide +kernel
theorem dX5_dispatch_61 : decode cX5_dispatch 61 = .ok (.iaload, 1) := by decide +kernel
theorem dX5_dispatch_62 : decode cX5_dispatch 62 = .ok (.iastore, 1) := by decide +kernel
theorem dX5_dispatch_63 : decode cX5_dispatch 63 = .ok (.aload_n 0, 1) := by decide +kernel
theorem dX5_dispatch_64 : decode cX5_dispatch 64 = .ok (.getfield 13, 3) := by decide +kernel
theorem dX5_dispatch_67 : decode cX5_dispatch 67 = .ok (.bipush 70, 2) := by decide +kernel
theorem dX5_dispatch_69 : decode cX5_dispatch 69 = .ok (.iconst 2, 1) := by decide +kernel
theorem dX5_dispatch_70 : decode cX5_dispatch 70 = .ok (.iload_n 3, 1) := by decide +kernel
theorem dX5_dispatch_71 : decode cX5_dispatch 71 = .ok (.imul, 1) := by decide +kernel
theorem dX5_dispatch_72 : decode cX5_dispatch 72 = .ok (.iadd, 1) := by decide +kernel
theorem dX5_dispatch_73 : decode cX5_dispatch 73 = .ok (.iconst 1, 1) := by decide +kernel
theorem dX5_dispatch_74 : decode cX5_dispatch 74 = .ok (.iadd, 1) := by decide +kernel
theorem dX5_dispatch_75 : decode cX5_dispatch 75 = .ok (.aload_n 0, 1) := by decide +kernel
theorem dX5_dispatch_76 : decode cX5_dispatch 76 = .ok (.getfield 13, 3) := by decide +kernel
theorem dX5_dispatch_79 : decode cX5_dispatch 79 = .ok (.bipush 70, 2) := by decide +kernel
theorem dX5_dispatch_81 : decode cX5_dispatch 81 = .ok (.iconst 2, 1) := by decide +kernel
theorem dX5_dispatch_82 : decode cX5_dispatch 82 = .ok (.iload_n 3, 1) := by decide +kernel
theorem dX5_dispatch_83 : decode cX5_dispatch 83 = .ok (.imul, 1) := by decide +kernel
theorem dX5_dispatch_84 : decode cX5_dispatch 84 = .ok (.iadd, 1) := by decide +kernel
theorem dX5_dispatch_85 : decode cX5_dispatch 85 = .ok (.iconst 3, 1) := by decide +kernel
theorem dX5_dispatch_86 : decode cX5_dispatch 86 = .ok (.iadd, 1) := by decide +kernel
theorem dX5_dispatch_87 : decode cX5_dispatch 87 = .ok (.iaload, 1) := by decide +kernel
theorem dX5_dispatch_88 : decode cX5_dispatch 88 = .ok (.iastore, 1) := by decide +kernel
theorem dX5_dispatch_89 : decode cX5_dispatch 89 = .ok (.aload_n 0, 1) := by decide +kernel
theorem dX5_dispatch_90 : decode cX5_dispatch 90 = .ok (.getfield 16, 3) := by decide +kernel
theorem dX5_dispatch_93 : decode cX5_dispatch 93 = .ok (.sipush 300, 3) := by decide +kernel
theorem dX5_dispatch_96 : decode cX5_dispatch 96 = .ok (.iload_n 3, 1) := by decide +kernel
theorem dX5_dispatch_97 : decode cX5_dispatch 97 = .ok (.iadd, 1) := by decide +kernel
theorem dX5_dispatch_98 : decode cX5_dispatch 98 = .ok (.aload_n 0, 1) := by decide +kernel
theorem dX5_dispatch_99 : decode cX5_dispatch 99 = .ok (.getfield 16, 3) := by decide +kernel
theorem dX5_dispatch_102 : decode cX5_dispatch 102 = .ok (.sipush 300, 3) := by decide +kernel
theorem dX5_dispatch_105 : decode cX5_dispatch 105 = .ok (.iload_n 3, 1) := by decide +kernel
theorem dX5_dispatch_106 : decode cX5_dispatch 106 = .ok (.iadd, 1) := by decide +kernel
theorem dX5_dispatch_107 : decode cX5_dispatch 107 = .ok (.iconst 1, 1) := by decide +kernel
theorem dX5_dispatch_108 : decode cX5_dispatch 108 = .ok (.iadd, 1) := by decide +kernel
theorem dX5_dispatch_109 : decode cX5_dispatch 109 = .ok (.laload, 1) := by decide +kernel
theorem dX5_dispatch_110 : decode cX5_dispatch 110 = .ok (.lastore, 1) := by decide +kernel
theorem dX5_dispatch_111 : decode cX5_dispatch 111 = .ok (.iinc 3 1, 3) := by decide +kernel
theorem dX5_dispatch_114 : decode cX5_dispatch 114 = .ok (.goto (-85), 3) := by decide +kernel
theorem dX5_dispatch_117 : decode cX5_dispatch 117 = .ok (.aload_n 0, 1) := by decide +kernel
theorem dX5_dispatch_118 : decode cX5_dispatch 118 = .ok (.getfield 13, 3) := by decide +kernel
theorem dX5_dispatch_121 : decode cX5_dispatch 121 = .ok (.iconst 2, 1) := by decide +kernel
theorem dX5_dispatch_122 : decode cX5_dispatch 122 = .ok (.iaload, 1) := by decide +kernel
theorem dX5_dispatch_123 : decode cX5_dispatch 123 = .ok (.istore_n 3, 1) := by decide +kernel
theorem dX5_dispatch_124 : decode cX5_dispatch 124 = .ok (.aload_n 0, 1) := by decide +kernel
theorem dX5_dispatch_125 : decode cX5_dispatch 125 = .ok (.getfield 13, 3) := by decide +kernel
theorem dX5_dispatch_128 : decode cX5_dispatch 128 = .ok (.bipush 70, 2) := by decide +kernel
theorem dX5_dispatch_130 : decode cX5_dispatch 130 = .ok (.iconst 2, 1) := by decide +kernel
theorem dX5_dispatch_131 : decode cX5_dispatch 131 = .ok (.iload_n 3, 1) := by decide +kernel
theorem dX5_dispatch_132 : decode cX5_dispatch 132 = .ok (.imul, 1) := by decide +kernel
theorem dX5_dispatch_133 : decode cX5_dispatch 133 = .ok (.iadd, 1) := by decide +kernel
theorem dX5_dispatch_134 : decode cX5_dispatch 134 = .ok (.iload_n 2, 1) := by decide +kernel
theorem dX5_dispatch_135 : decode cX5_dispatch 135 = .ok (.iastore, 1) := by decide +kernel
theorem dX5_dispatch_136 : decode cX5_dispatch 136 = .ok (.aload_n 0, 1) := by decide +kernel
theorem dX5_dispatch_137 : decode cX5_dispatch 137 = .ok (.getfield 13, 3) := by decide +kernel
theorem dX5_dispatch_140 : decode cX5_dispatch 140 = .ok (.bipush 70, 2) := by decide +kernel
theorem dX5_dispatch_142 : decode cX5_dispatch 142 = .ok (.iconst 2, 1) := by decide +kernel
theorem dX5_dispatch_143 : decode cX5_dispatch 143 = .ok (.iload_n 3, 1) := by decide +kernel
theorem dX5_dispatch_144 : decode cX5_dispatch 144 = .ok (.imul, 1) := by decide +kernel
theorem dX5_dispatch_145 : decode cX5_dispatch 145 = .ok (.iadd, 1) := by decide +kernel
theorem dX5_dispatch_146 : decode cX5_dispatch 146 = .ok (.iconst 1, 1) := by decide +kernel
theorem dX5_dispatch_147 : decode cX5_dispatch 147 = .ok (.iadd, 1) := by decide +kernel
theorem dX5_dispatch_148 : decode cX5_dispatch 148 = .ok (.iload_n 1, 1) := by decide +kernel
theorem dX5_dispatch_149 : decode cX5_dispatch 149 = .ok (.iastore, 1) := by decide +kernel
theorem dX5_dispatch_150 : decode cX5_dispatch 150 = .ok (.aload_n 0, 1) := by decide +kernel
theorem dX5_dispatch_151 : decode cX5_dispatch 151 = .ok (.getfield 16, 3) := by decide +kernel
theorem dX5_dispatch_154 : decode cX5_dispatch 154 = .ok (.sipush 300, 3) := by decide +kernel
theorem dX5_dispatch_157 : decode cX5_dispatch 157 = .ok (.iload_n 3, 1) := by decide +kernel
theorem dX5_dispatch_158 : decode cX5_dispatch 158 = .ok (.iadd, 1) := by decide +kernel
theorem dX5_dispatch_159 : decode cX5_dispatch 159 = .ok (.aload_n 0, 1) := by decide +kernel
theorem dX5_dispatch_160 : decode cX5_dispatch 160 = .ok (.getfield 16, 3) := by decide +kernel
theorem dX5_dispatch_163 : decode cX5_dispatch 163 = .ok (.iload_n 2, 1) := by decide +kernel
theorem dX5_dispatch_164 : decode cX5_dispatch 164 = .ok (.laload, 1) := by decide +kernel
theorem dX5_dispatch_165 : decode cX5_dispatch 165 = .ok (.lastore, 1) := by decide +kernel
theorem dX5_dispatch_166 : decode cX5_dispatch 166 = .ok (.aload_n 0, 1) := by decide +kernel
theorem dX5_dispatch_167 : decode cX5_dispatch 167 = .ok (.getfield 13, 3) := by decide +kernel
theorem dX5_dispatch_170 : decode cX5_dispatch 170 = .ok (.iconst 2, 1) := by decide +kernel
theorem dX5_dispatch_171 : decode cX5_dispatch 171 = .ok (.dup2, 1) := by decide +kernel
theorem dX5_dispatch_172 : decode cX5_dispatch 172 = .ok (.iaload, 1) := by decide +kernel
theorem dX5_dispatch_173 : decode cX5_dispatch 173 = .ok (.iconst 1, 1) := by decide +kernel
theorem dX5_dispatch_174 : decode cX5_dispatch 174 = .ok (.iadd, 1) := by decide +kernel
theorem dX5_dispatch_175 : decode cX5_dispatch 175 = .ok (.iastore, 1) := by decide +kernel
theorem dX5_dispatch_176 : decode cX5_dispatch 176 = .ok (.aload_n 0, 1) := by decide +kernel
theorem dX5_dispatch_177 : decode cX5_dispatch 177 = .ok (.iload_n 2, 1) := by decide +kernel
theorem dX5_dispatch_178 : decode cX5_dispatch 178 = .ok (.invokevirtual 118, 3) := by decide +kernel
theorem dX5_dispatch_181 : decode cX5_dispatch 181 = .ok (.aload_n 0, 1) := by decide +kernel
theorem dX5_dispatch_182 : decode cX5_dispatch 182 = .ok (.invokevirtual 141, 3) := by decide +kernel
theorem dX5_dispatch_185 : decode cX5_dispatch 185 = .ok (.iload_n 2, 1) := by decide +kernel
theorem dX5_dispatch_186 : decode cX5_dispatch 186 = .ok (.ireturn, 1) := by decide +kernel
set_option maxRecDepth 20000 in
theorem ggX5_take_X5_isDesk : GoodIn wsX5_take wsX5_isDesk := goodIn_r _ [6, 7, 8, 9, 5, 10] (by decide +kernel) (by decide +kernel)
set_option maxRecDepth 20000 in
theorem gX5_take_X5_isDesk : GoodIn wsX5_take (va_wsS RX5 125 yX5_isDesk wsX5_isDesk) := goodIn_app (goodIn_of _ (by decide +kernel)) ggX5_take_X5_isDesk
set_option maxRecDepth 20000 in
theorem ggX5_take_X5_refuse : GoodIn wsX5_take wsX5_refuse := goodIn_r _ [14, 15, 66, 67, 68, 69, 70, 71, 72, 73, 74, 75, 76, 77, 78, 79, 80, 81, 82, 83, 84, 85, 86, 87, 88, 89, 90, 91, 92] (by decide +kernel) (by decide +kernel)
set_option maxRecDepth 20000 in
theorem gX5_take_X5_refuse : GoodIn wsX5_take (wsV RX5 135 RX5 yX5_refuse wsX5_refuse) := goodIn_app (goodIn_of _ (by decide +kernel)) ggX5_take_X5_refuse
set_option maxRecDepth 20000 in
theorem ggX5_take_X5_dispatch : GoodIn wsX5_take wsX5_dispatch := goodIn_r _ [19, 2, 20, 21, 22, 23, 5, 24, 25, 26, 27, 28, 29, 30, 31, 32, 33, 34, 35, 36, 37, 38, 39, 40, 41, 42, 43, 44, 45, 46, 47, 48, 49, 50, 51, 52, 53, 54, 55, 56, 57, 58, 59, 60, 61, 62, 63, 64, 65, 66, 67, 68, 69, 70, 71, 72, 73, 74, 75, 76, 77, 78, 79, 80, 81, 82, 83, 84, 85, 86, 87, 88, 89, 90, 91, 92] (by decide +kernel) (by decide +kernel)
set_option maxRecDepth 20000 in
theorem gX5_take_X5_dispatch : GoodIn wsX5_take (wsV RX5 144 RX5 yX5_dispatch wsX5_dispatch) := goodIn_app (goodIn_of _ (by decide +kernel)) ggX5_take_X5_dispatch
theorem dX5_take_0 : decode cX5_take 0 = .ok (.aload_n 0, 1) := by decide +kernel
theorem dX5_take_1 : decode cX5_take 1 = .ok (.iconst 0, 1) := by decide +kernel
theorem dX5_take_2 : decode cX5_take 2 = .ok (.putfield 63, 3) := by decide +kernel
theorem dX5_take_5 : decode cX5_take 5 = .ok (.iload_n 1, 1) := by decide +kernel
theorem dX5_take_6 : decode cX5_take 6 = .ok (.invokestatic 125, 3) := by decide +kernel
theorem dX5_take_9 : decode cX5_take 9 = .ok (.ifCond .ne 9, 3) := by decide +kernel
theorem dX5_take_12 : decode cX5_take 12 = .ok (.aload_n 0, 1) := by decide +kernel
theorem dX5_take_13 : decode cX5_take 13 = .ok (.iconst (-1), 1) := by decide +kernel
theorem dX5_take_14 : decode cX5_take 14 = .ok (.invokevirtual 135, 3) := by decide +kernel
theorem dX5_take_17 : decode cX5_take 17 = .ok (.ireturn, 1) := by decide +kernel
theorem dX5_take_18 : decode cX5_take 18 = .ok (.aload_n 0, 1) := by decide +kernel
theorem dX5_take_19 : decode cX5_take 19 = .ok (.getfield 13, 3) := by decide +kernel
theorem dX5_take_22 : decode cX5_take 22 = .ok (.iconst 4, 1) := by decide +kernel
theorem dX5_take_23 : decode cX5_take 23 = .ok (.iload_n 1, 1) := by decide +kernel
theorem dX5_take_24 : decode cX5_take 24 = .ok (.iadd, 1) := by decide +kernel
theorem dX5_take_25 : decode cX5_take 25 = .ok (.iaload, 1) := by decide +kernel
theorem dX5_take_26 : decode cX5_take 26 = .ok (.iconst (-1), 1) := by decide +kernel
theorem dX5_take_27 : decode cX5_take 27 = .ok (.if_icmp .ne 12, 3) := by decide +kernel
theorem dX5_take_30 : decode cX5_take 30 = .ok (.aload_n 0, 1) := by decide +kernel
theorem dX5_take_31 : decode cX5_take 31 = .ok (.bipush (-3), 2) := by decide +kernel
theorem dX5_take_33 : decode cX5_take 33 = .ok (.invokevirtual 135, 3) := by decide +kernel
theorem dX5_take_36 : decode cX5_take 36 = .ok (.goto 8, 3) := by decide +kernel
theorem dX5_take_39 : decode cX5_take 39 = .ok (.aload_n 0, 1) := by decide +kernel
theorem dX5_take_40 : decode cX5_take 40 = .ok (.iload_n 1, 1) := by decide +kernel
theorem dX5_take_41 : decode cX5_take 41 = .ok (.invokevirtual 144, 3) := by decide +kernel
theorem dX5_take_44 : decode cX5_take 44 = .ok (.ireturn, 1) := by decide +kernel
set_option maxRecDepth 20000 in
theorem ggX5_turns_X5_dispatch : GoodIn wsX5_turns wsX5_dispatch := goodIn_r _ [6, 1, 7, 8, 9, 10, 5, 11, 12, 13, 14, 15, 16, 17, 18, 19, 20, 21, 22, 23, 24, 25, 26, 27, 28, 29, 30, 31, 32, 33, 34, 35, 36, 37, 38, 39, 40, 41, 42, 43, 44, 45, 46, 47, 48, 49, 50, 51, 52, 53, 54, 55, 56, 57, 58, 59, 60, 61, 62, 63, 64, 65, 66, 67, 68, 69, 70, 71, 72, 73, 74, 75, 76, 77, 78, 79] (by decide +kernel) (by decide +kernel)
set_option maxRecDepth 20000 in
theorem gX5_turns_X5_dispatch : GoodIn wsX5_turns (wsV RX5 144 RX5 yX5_dispatch wsX5_dispatch) := goodIn_app (goodIn_of _ (by decide +kernel)) ggX5_turns_X5_dispatch
theorem dX5_turns_0 : decode cX5_turns 0 = .ok (.aload_n 0, 1) := by decide +kernel
theorem dX5_turns_1 : decode cX5_turns 1 = .ok (.getfield 13, 3) := by decide +kernel
theorem dX5_turns_4 : decode cX5_turns 4 = .ok (.iconst 1, 1) := by decide +kernel
theorem dX5_turns_5 : decode cX5_turns 5 = .ok (.iaload, 1) := by decide +kernel
theorem dX5_turns_6 : decode cX5_turns 6 = .ok (.istore_n 1, 1) := by decide +kernel
theorem dX5_turns_7 : decode cX5_turns 7 = .ok (.aload_n 0, 1) := by decide +kernel
theorem dX5_turns_8 : decode cX5_turns 8 = .ok (.getfield 13, 3) := by decide +kernel
theorem dX5_turns_11 : decode cX5_turns 11 = .ok (.iconst 1, 1) := by decide +kernel
theorem dX5_turns_12 : decode cX5_turns 12 = .ok (.iload_n 1, 1) := by decide +kernel
theorem dX5_turns_13 : decode cX5_turns 13 = .ok (.iconst 1, 1) := by decide +kernel
theorem dX5_turns_14 : decode cX5_turns 14 = .ok (.iadd, 1) := by decide +kernel
theorem dX5_turns_15 : decode cX5_turns 15 = .ok (.bipush 6, 2) := by decide +kernel
theorem dX5_turns_17 : decode cX5_turns 17 = .ok (.irem, 1) := by decide +kernel
theorem dX5_turns_18 : decode cX5_turns 18 = .ok (.iastore, 1) := by decide +kernel
theorem dX5_turns_19 : decode cX5_turns 19 = .ok (.aload_n 0, 1) := by decide +kernel
theorem dX5_turns_20 : decode cX5_turns 20 = .ok (.getfield 13, 3) := by decide +kernel
theorem dX5_turns_23 : decode cX5_turns 23 = .ok (.iconst 4, 1) := by decide +kernel
theorem dX5_turns_24 : decode cX5_turns 24 = .ok (.iload_n 1, 1) := by decide +kernel
theorem dX5_turns_25 : decode cX5_turns 25 = .ok (.iadd, 1) := by decide +kernel
theorem dX5_turns_26 : decode cX5_turns 26 = .ok (.iaload, 1) := by decide +kernel
theorem dX5_turns_27 : decode cX5_turns 27 = .ok (.iconst (-1), 1) := by decide +kernel
theorem dX5_turns_28 : decode cX5_turns 28 = .ok (.if_icmp .ne 7, 3) := by decide +kernel
theorem dX5_turns_31 : decode cX5_turns 31 = .ok (.iconst (-1), 1) := by decide +kernel
theorem dX5_turns_32 : decode cX5_turns 32 = .ok (.goto 8, 3) := by decide +kernel
theorem dX5_turns_35 : decode cX5_turns 35 = .ok (.aload_n 0, 1) := by decide +kernel
theorem dX5_turns_36 : decode cX5_turns 36 = .ok (.iload_n 1, 1) := by decide +kernel
theorem dX5_turns_37 : decode cX5_turns 37 = .ok (.invokevirtual 144, 3) := by decide +kernel
theorem dX5_turns_40 : decode cX5_turns 40 = .ok (.ireturn, 1) := by decide +kernel
set_option maxRecDepth 20000 in
theorem ggX5_round_X5_in : GoodIn wsX5_round wsX5_in := goodIn_r _ [6] (by decide +kernel) (by decide +kernel)
set_option maxRecDepth 20000 in
theorem gX5_round_X5_in : GoodIn wsX5_round (va_wsS RX5 77 yX5_in wsX5_in) := goodIn_app (goodIn_of _ (by decide +kernel)) ggX5_round_X5_in
set_option maxRecDepth 20000 in
theorem ggX5_round_X5_refuse : GoodIn wsX5_round wsX5_refuse := goodIn_r _ [10, 11, 67, 68, 69, 70, 71, 72, 73, 74, 75, 76, 77, 78, 79, 80, 81, 82, 83, 84, 85, 86, 87, 88, 89, 90, 91, 92, 93] (by decide +kernel) (by decide +kernel)
set_option maxRecDepth 20000 in
theorem gX5_round_X5_refuse : GoodIn wsX5_round (wsV RX5 135 RX5 yX5_refuse wsX5_refuse) := goodIn_app (goodIn_of _ (by decide +kernel)) ggX5_round_X5_refuse
set_option maxRecDepth 20000 in
theorem ggX5_round_X5_turns : GoodIn wsX5_round wsX5_turns := goodIn_r _ [15, 16, 17, 18, 19, 5, 20, 21, 22, 23, 24, 25, 26, 27, 28, 29, 30, 31, 32, 33, 34, 35, 36, 37, 38, 39, 40, 41, 42, 43, 44, 45, 46, 47, 48, 49, 50, 51, 52, 53, 54, 55, 56, 57, 58, 59, 60, 61, 62, 63, 64, 65, 66, 67, 68, 69, 70, 71, 72, 73, 74, 75, 76, 77, 78, 79, 80, 81, 82, 83, 84, 85, 86, 87, 88, 89, 90, 91, 92, 93] (by decide +kernel) (by decide +kernel)
set_option maxRecDepth 20000 in
theorem gX5_round_X5_turns : GoodIn wsX5_round (wsV RX5 149 RX5 yX5_turns wsX5_turns) := goodIn_app (goodIn_of _ (by decide +kernel)) ggX5_round_X5_turns
theorem dX5_round_0 : decode cX5_round 0 = .ok (.aload_n 0, 1) := by decide +kernel
theorem dX5_round_1 : decode cX5_round 1 = .ok (.iconst 0, 1) := by decide +kernel
theorem dX5_round_2 : decode cX5_round 2 = .ok (.putfield 63, 3) := by decide +kernel
theorem dX5_round_5 : decode cX5_round 5 = .ok (.iload_n 1, 1) := by decide +kernel
theorem dX5_round_6 : decode cX5_round 6 = .ok (.i2l, 1) := by decide +kernel
theorem dX5_round_7 : decode cX5_round 7 = .ok (.lconst 1, 1) := by decide +kernel
theorem dX5_round_8 : decode cX5_round 8 = .ok (.ldc2_w 147, 3) := by decide +kernel
theorem dX5_round_11 : decode cX5_round 11 = .ok (.invokestatic 77, 3) := by decide +kernel
theorem dX5_round_14 : decode cX5_round 14 = .ok (.ifCond .ne 9, 3) := by decide +kernel
theorem dX5_round_17 : decode cX5_round 17 = .ok (.aload_n 0, 1) := by decide +kernel
theorem dX5_round_18 : decode cX5_round 18 = .ok (.iconst (-1), 1) := by decide +kernel
theorem dX5_round_19 : decode cX5_round 19 = .ok (.invokevirtual 135, 3) := by decide +kernel
theorem dX5_round_22 : decode cX5_round 22 = .ok (.ireturn, 1) := by decide +kernel
theorem dX5_round_23 : decode cX5_round 23 = .ok (.iconst 0, 1) := by decide +kernel
theorem dX5_round_24 : decode cX5_round 24 = .ok (.istore_n 2, 1) := by decide +kernel
theorem dX5_round_25 : decode cX5_round 25 = .ok (.iconst 0, 1) := by decide +kernel
theorem dX5_round_26 : decode cX5_round 26 = .ok (.istore_n 3, 1) := by decide +kernel
theorem dX5_round_27 : decode cX5_round 27 = .ok (.iload_n 3, 1) := by decide +kernel
theorem dX5_round_28 : decode cX5_round 28 = .ok (.iload_n 1, 1) := by decide +kernel
theorem dX5_round_29 : decode cX5_round 29 = .ok (.if_icmp .ge 25, 3) := by decide +kernel
theorem dX5_round_32 : decode cX5_round 32 = .ok (.iload_n 2, 1) := by decide +kernel
theorem dX5_round_33 : decode cX5_round 33 = .ok (.aload_n 0, 1) := by decide +kernel
theorem dX5_round_34 : decode cX5_round 34 = .ok (.invokevirtual 149, 3) := by decide +kernel
theorem dX5_round_37 : decode cX5_round 37 = .ok (.iconst (-1), 1) := by decide +kernel
theorem dX5_round_38 : decode cX5_round 38 = .ok (.if_icmp .ne 7, 3) := by decide +kernel
theorem dX5_round_41 : decode cX5_round 41 = .ok (.iconst 0, 1) := by decide +kernel
theorem dX5_round_42 : decode cX5_round 42 = .ok (.goto 4, 3) := by decide +kernel
theorem dX5_round_45 : decode cX5_round 45 = .ok (.iconst 1, 1) := by decide +kernel
theorem dX5_round_46 : decode cX5_round 46 = .ok (.iadd, 1) := by decide +kernel
theorem dX5_round_47 : decode cX5_round 47 = .ok (.istore_n 2, 1) := by decide +kernel
theorem dX5_round_48 : decode cX5_round 48 = .ok (.iinc 3 1, 3) := by decide +kernel
theorem dX5_round_51 : decode cX5_round 51 = .ok (.goto (-24), 3) := by decide +kernel
theorem dX5_round_54 : decode cX5_round 54 = .ok (.iload_n 2, 1) := by decide +kernel
theorem dX5_round_55 : decode cX5_round 55 = .ok (.ireturn, 1) := by decide +kernel
set_option maxRecDepth 20000 in
theorem ggX5_crosses_X5_isItem : GoodIn wsX5_crosses wsX5_isItem := goodIn_r _ [6, 1, 7, 8, 5, 9, 10, 11, 12, 65, 66, 67, 68, 69, 70, 71, 72, 73, 74, 75, 76, 77, 78, 79, 80, 81, 82, 83, 84, 85, 86, 87, 88, 89, 90, 91] (by decide +kernel) (by decide +kernel)
set_option maxRecDepth 20000 in
theorem gX5_crosses_X5_isItem : GoodIn wsX5_crosses (wsV RX5 153 RX5 yX5_isItem wsX5_isItem) := goodIn_app (goodIn_of _ (by decide +kernel)) ggX5_crosses_X5_isItem
set_option maxRecDepth 20000 in
theorem ggX5_crosses_X5_refuse : GoodIn wsX5_crosses wsX5_refuse := goodIn_r _ [16, 17, 65, 66, 67, 68, 69, 70, 71, 72, 73, 74, 75, 76, 77, 78, 79, 80, 81, 82, 83, 84, 85, 86, 87, 88, 89, 90, 91] (by decide +kernel) (by decide +kernel)
set_option maxRecDepth 20000 in
theorem gX5_crosses_X5_refuse : GoodIn wsX5_crosses (wsV RX5 135 RX5 yX5_refuse wsX5_refuse) := goodIn_app (goodIn_of _ (by decide +kernel)) ggX5_crosses_X5_refuse
set_option maxRecDepth 20000 in
theorem ggX5_crosses_X5_at : GoodIn wsX5_crosses wsX5_at := goodIn_r _ [12] (by decide +kernel) (by decide +kernel)
set_option maxRecDepth 20000 in
theorem gX5_crosses_X5_at : GoodIn wsX5_crosses (va_wsS RX5 83 yX5_at wsX5_at) := goodIn_app (goodIn_of _ (by decide +kernel)) ggX5_crosses_X5_at
set_option maxRecDepth 20000 in
theorem ggX5_crosses_X5_sweep : GoodIn wsX5_crosses wsX5_sweep := goodIn_r _ [21, 1, 10, 11, 5, 12, 22, 23, 24, 25, 26, 27, 28, 29, 30, 31, 32, 33, 34, 35, 36, 37, 38, 39, 40, 41, 42, 43, 44, 45, 46, 47, 48, 49, 50, 51, 52, 53, 54, 55, 56, 57, 58, 59, 60, 65, 66, 67, 68, 69, 70, 71, 72, 73, 74, 75, 76, 77, 78, 79, 80, 81, 82, 83, 84, 85, 86, 87, 88, 89, 90, 91] (by decide +kernel) (by decide +kernel)
set_option maxRecDepth 20000 in
theorem gX5_crosses_X5_sweep : GoodIn wsX5_crosses (wsV RX5 141 RX5 yX5_sweep wsX5_sweep) := goodIn_app (goodIn_of _ (by decide +kernel)) ggX5_crosses_X5_sweep
set_option maxRecDepth 20000 in
theorem ggX5_crosses_X5_many : GoodIn wsX5_crosses wsX5_many := goodIn_r _ [64, 1, 10, 11, 5, 12, 65, 66, 67, 68, 69, 70, 71, 72, 73, 74, 75, 76, 77, 78, 79, 80, 81, 82, 83, 84, 85, 86, 87, 88, 89, 90, 91] (by decide +kernel) (by decide +kernel)
set_option maxRecDepth 20000 in
theorem gX5_crosses_X5_many : GoodIn wsX5_crosses (wsV RX5 156 RX5 yX5_many wsX5_many) := goodIn_app (goodIn_of _ (by decide +kernel)) ggX5_crosses_X5_many
theorem dX5_crosses_0 : decode cX5_crosses 0 = .ok (.aload_n 0, 1) := by decide +kernel
theorem dX5_crosses_1 : decode cX5_crosses 1 = .ok (.iload_n 1, 1) := by decide +kernel
theorem dX5_crosses_2 : decode cX5_crosses 2 = .ok (.invokevirtual 153, 3) := by decide +kernel
theorem dX5_crosses_5 : decode cX5_crosses 5 = .ok (.ifCond .ne 10, 3) := by decide +kernel
theorem dX5_crosses_8 : decode cX5_crosses 8 = .ok (.aload_n 0, 1) := by decide +kernel
theorem dX5_crosses_9 : decode cX5_crosses 9 = .ok (.bipush (-2), 2) := by decide +kernel
theorem dX5_crosses_11 : decode cX5_crosses 11 = .ok (.invokevirtual 135, 3) := by decide +kernel
theorem dX5_crosses_14 : decode cX5_crosses 14 = .ok (.ireturn, 1) := by decide +kernel
theorem dX5_crosses_15 : decode cX5_crosses 15 = .ok (.aload_n 0, 1) := by decide +kernel
theorem dX5_crosses_16 : decode cX5_crosses 16 = .ok (.getfield 13, 3) := by decide +kernel
theorem dX5_crosses_19 : decode cX5_crosses 19 = .ok (.iload_n 1, 1) := by decide +kernel
theorem dX5_crosses_20 : decode cX5_crosses 20 = .ok (.invokestatic 83, 3) := by decide +kernel
theorem dX5_crosses_23 : decode cX5_crosses 23 = .ok (.iconst 2, 1) := by decide +kernel
theorem dX5_crosses_24 : decode cX5_crosses 24 = .ok (.iadd, 1) := by decide +kernel
theorem dX5_crosses_25 : decode cX5_crosses 25 = .ok (.iaload, 1) := by decide +kernel
theorem dX5_crosses_26 : decode cX5_crosses 26 = .ok (.iload_n 2, 1) := by decide +kernel
theorem dX5_crosses_27 : decode cX5_crosses 27 = .ok (.if_icmp .ne 10, 3) := by decide +kernel
theorem dX5_crosses_30 : decode cX5_crosses 30 = .ok (.aload_n 0, 1) := by decide +kernel
theorem dX5_crosses_31 : decode cX5_crosses 31 = .ok (.bipush (-4), 2) := by decide +kernel
theorem dX5_crosses_33 : decode cX5_crosses 33 = .ok (.invokevirtual 135, 3) := by decide +kernel
theorem dX5_crosses_36 : decode cX5_crosses 36 = .ok (.ireturn, 1) := by decide +kernel
theorem dX5_crosses_37 : decode cX5_crosses 37 = .ok (.aload_n 0, 1) := by decide +kernel
theorem dX5_crosses_38 : decode cX5_crosses 38 = .ok (.getfield 13, 3) := by decide +kernel
theorem dX5_crosses_41 : decode cX5_crosses 41 = .ok (.iload_n 1, 1) := by decide +kernel
theorem dX5_crosses_42 : decode cX5_crosses 42 = .ok (.invokestatic 83, 3) := by decide +kernel
theorem dX5_crosses_45 : decode cX5_crosses 45 = .ok (.iconst 1, 1) := by decide +kernel
theorem dX5_crosses_46 : decode cX5_crosses 46 = .ok (.iadd, 1) := by decide +kernel
theorem dX5_crosses_47 : decode cX5_crosses 47 = .ok (.iaload, 1) := by decide +kernel
theorem dX5_crosses_48 : decode cX5_crosses 48 = .ok (.istore_n 3, 1) := by decide +kernel
theorem dX5_crosses_49 : decode cX5_crosses 49 = .ok (.aload_n 0, 1) := by decide +kernel
theorem dX5_crosses_50 : decode cX5_crosses 50 = .ok (.getfield 13, 3) := by decide +kernel
theorem dX5_crosses_53 : decode cX5_crosses 53 = .ok (.iload_n 1, 1) := by decide +kernel
theorem dX5_crosses_54 : decode cX5_crosses 54 = .ok (.invokestatic 83, 3) := by decide +kernel
theorem dX5_crosses_57 : decode cX5_crosses 57 = .ok (.iconst 2, 1) := by decide +kernel
theorem dX5_crosses_58 : decode cX5_crosses 58 = .ok (.iadd, 1) := by decide +kernel
theorem dX5_crosses_59 : decode cX5_crosses 59 = .ok (.iload_n 2, 1) := by decide +kernel
theorem dX5_crosses_60 : decode cX5_crosses 60 = .ok (.iastore, 1) := by decide +kernel
theorem dX5_crosses_61 : decode cX5_crosses 61 = .ok (.aload_n 0, 1) := by decide +kernel
theorem dX5_crosses_62 : decode cX5_crosses 62 = .ok (.invokevirtual 141, 3) := by decide +kernel
theorem dX5_crosses_65 : decode cX5_crosses 65 = .ok (.aload_n 0, 1) := by decide +kernel
theorem dX5_crosses_66 : decode cX5_crosses 66 = .ok (.iload_n 3, 1) := by decide +kernel
theorem dX5_crosses_67 : decode cX5_crosses 67 = .ok (.iconst 0, 1) := by decide +kernel
theorem dX5_crosses_68 : decode cX5_crosses 68 = .ok (.invokevirtual 156, 3) := by decide +kernel
theorem dX5_crosses_71 : decode cX5_crosses 71 = .ok (.ireturn, 1) := by decide +kernel
set_option maxRecDepth 20000 in
theorem ggX5_cross_X5_crosses : GoodIn wsX5_cross wsX5_crosses := goodIn_r _ [6, 7, 8, 9, 10, 5, 11, 12, 13, 14, 15, 16, 17, 18, 19, 20, 21, 22, 23, 24, 25, 26, 27, 28, 29, 30, 31, 32, 33, 34, 35, 36, 37, 38, 39, 40, 41, 42, 43, 44, 45, 46, 47, 48, 49, 50, 51, 52, 53, 54, 55, 56, 57, 58, 59, 60, 61, 62, 63, 64, 65, 66, 67, 68, 69, 70, 71, 72, 73, 74, 75, 76, 77, 78, 79, 80, 81, 82, 83, 84, 85, 86, 87, 88, 89, 90, 91, 92, 93, 94, 95, 96] (by decide +kernel) (by decide +kernel)
set_option maxRecDepth 20000 in
theorem gX5_cross_X5_crosses : GoodIn wsX5_cross (wsV RX5 160 RX5 yX5_crosses wsX5_crosses) := goodIn_app (goodIn_of _ (by decide +kernel)) ggX5_cross_X5_crosses
theorem dX5_cross_0 : decode cX5_cross 0 = .ok (.aload_n 0, 1) := by decide +kernel
theorem dX5_cross_1 : decode cX5_cross 1 = .ok (.iconst 0, 1) := by decide +kernel
theorem dX5_cross_2 : decode cX5_cross 2 = .ok (.putfield 63, 3) := by decide +kernel
theorem dX5_cross_5 : decode cX5_cross 5 = .ok (.aload_n 0, 1) := by decide +kernel
theorem dX5_cross_6 : decode cX5_cross 6 = .ok (.iload_n 1, 1) := by decide +kernel
theorem dX5_cross_7 : decode cX5_cross 7 = .ok (.iconst 1, 1) := by decide +kernel
theorem dX5_cross_8 : decode cX5_cross 8 = .ok (.invokevirtual 160, 3) := by decide +kernel
theorem dX5_cross_11 : decode cX5_cross 11 = .ok (.ireturn, 1) := by decide +kernel
set_option maxRecDepth 20000 in
theorem ggX5_uncross_X5_crosses : GoodIn wsX5_uncross wsX5_crosses := goodIn_r _ [6, 7, 8, 9, 10, 5, 11, 12, 13, 14, 15, 16, 17, 18, 19, 20, 21, 22, 23, 24, 25, 26, 27, 28, 29, 30, 31, 32, 33, 34, 35, 36, 37, 38, 39, 40, 41, 42, 43, 44, 45, 46, 47, 48, 49, 50, 51, 52, 53, 54, 55, 56, 57, 58, 59, 60, 61, 62, 63, 64, 65, 66, 67, 68, 69, 70, 71, 72, 73, 74, 75, 76, 77, 78, 79, 80, 81, 82, 83, 84, 85, 86, 87, 88, 89, 90, 91, 92, 93, 94, 95, 96] (by decide +kernel) (by decide +kernel)
set_option maxRecDepth 20000 in
theorem gX5_uncross_X5_crosses : GoodIn wsX5_uncross (wsV RX5 160 RX5 yX5_crosses wsX5_crosses) := goodIn_app (goodIn_of _ (by decide +kernel)) ggX5_uncross_X5_crosses
theorem dX5_uncross_0 : decode cX5_uncross 0 = .ok (.aload_n 0, 1) := by decide +kernel
theorem dX5_uncross_1 : decode cX5_uncross 1 = .ok (.iconst 0, 1) := by decide +kernel
theorem dX5_uncross_2 : decode cX5_uncross 2 = .ok (.putfield 63, 3) := by decide +kernel
theorem dX5_uncross_5 : decode cX5_uncross 5 = .ok (.aload_n 0, 1) := by decide +kernel
theorem dX5_uncross_6 : decode cX5_uncross 6 = .ok (.iload_n 1, 1) := by decide +kernel
theorem dX5_uncross_7 : decode cX5_uncross 7 = .ok (.iconst 0, 1) := by decide +kernel
theorem dX5_uncross_8 : decode cX5_uncross 8 = .ok (.invokevirtual 160, 3) := by decide +kernel
theorem dX5_uncross_11 : decode cX5_uncross 11 = .ok (.ireturn, 1) := by decide +kernel
set_option maxRecDepth 20000 in
theorem ggX5_cut_X5_isItem : GoodIn wsX5_cut wsX5_isItem := goodIn_r _ [7, 2, 8, 9, 6, 10, 11, 12, 13, 70, 71, 72, 73, 74, 75, 76, 77, 78, 79, 80, 81, 82, 83, 84, 85, 86, 87, 88, 89, 90, 91, 92, 93, 94, 95, 96] (by decide +kernel) (by decide +kernel)
set_option maxRecDepth 20000 in
theorem gX5_cut_X5_isItem : GoodIn wsX5_cut (wsV RX5 153 RX5 yX5_isItem wsX5_isItem) := goodIn_app (goodIn_of _ (by decide +kernel)) ggX5_cut_X5_isItem
set_option maxRecDepth 20000 in
theorem ggX5_cut_X5_refuse : GoodIn wsX5_cut wsX5_refuse := goodIn_r _ [17, 18, 70, 71, 72, 73, 74, 75, 76, 77, 78, 79, 80, 81, 82, 83, 84, 85, 86, 87, 88, 89, 90, 91, 92, 93, 94, 95, 96] (by decide +kernel) (by decide +kernel)
set_option maxRecDepth 20000 in
theorem gX5_cut_X5_refuse : GoodIn wsX5_cut (wsV RX5 135 RX5 yX5_refuse wsX5_refuse) := goodIn_app (goodIn_of _ (by decide +kernel)) ggX5_cut_X5_refuse
set_option maxRecDepth 20000 in
theorem ggX5_cut_X5_at : GoodIn wsX5_cut wsX5_at := goodIn_r _ [13] (by decide +kernel) (by decide +kernel)
set_option maxRecDepth 20000 in
theorem gX5_cut_X5_at : GoodIn wsX5_cut (va_wsS RX5 83 yX5_at wsX5_at) := goodIn_app (goodIn_of _ (by decide +kernel)) ggX5_cut_X5_at
set_option maxRecDepth 20000 in
theorem ggX5_cut_X5_cutOut : GoodIn wsX5_cut wsX5_cutOut := goodIn_r _ [22, 2, 11, 12, 6, 13, 23, 24, 25, 26, 27, 28, 29, 30, 31, 32, 33, 34, 35, 36, 37, 38, 39, 40, 41, 42, 43, 44, 45, 46, 47, 48, 49, 50, 51, 52, 53, 70, 71, 72, 73, 74, 75, 76, 77, 78, 79, 80, 81, 82, 83, 84, 85, 86, 87, 88, 89, 90, 91, 92, 93, 94, 95, 96] (by decide +kernel) (by decide +kernel)
set_option maxRecDepth 20000 in
theorem gX5_cut_X5_cutOut : GoodIn wsX5_cut (wsV RX5 163 RX5 yX5_cutOut wsX5_cutOut) := goodIn_app (goodIn_of _ (by decide +kernel)) ggX5_cut_X5_cutOut
set_option maxRecDepth 20000 in
theorem ggX5_cut_X5_goes : GoodIn wsX5_cut wsX5_goes := goodIn_r _ [57, 2, 11, 12, 6, 13, 70, 71, 72, 73, 74, 75, 76, 77, 78, 79, 80, 81, 82, 83, 84, 85, 86, 87, 88, 89, 90, 91, 92, 93, 94, 95, 96] (by decide +kernel) (by decide +kernel)
set_option maxRecDepth 20000 in
theorem gX5_cut_X5_goes : GoodIn wsX5_cut (wsV RX5 118 RX5 yX5_goes wsX5_goes) := goodIn_app (goodIn_of _ (by decide +kernel)) ggX5_cut_X5_goes
set_option maxRecDepth 20000 in
theorem ggX5_cut_X5_sweep : GoodIn wsX5_cut wsX5_sweep := goodIn_r _ [61, 2, 11, 12, 6, 13, 62, 63, 64, 65, 23, 24, 25, 26, 27, 28, 29, 30, 31, 32, 33, 34, 35, 36, 37, 38, 39, 40, 41, 42, 43, 44, 45, 46, 47, 48, 49, 50, 51, 52, 53, 54, 55, 56, 57, 70, 71, 72, 73, 74, 75, 76, 77, 78, 79, 80, 81, 82, 83, 84, 85, 86, 87, 88, 89, 90, 91, 92, 93, 94, 95, 96] (by decide +kernel) (by decide +kernel)
set_option maxRecDepth 20000 in
theorem gX5_cut_X5_sweep : GoodIn wsX5_cut (wsV RX5 141 RX5 yX5_sweep wsX5_sweep) := goodIn_app (goodIn_of _ (by decide +kernel)) ggX5_cut_X5_sweep
set_option maxRecDepth 20000 in
theorem ggX5_cut_X5_many : GoodIn wsX5_cut wsX5_many := goodIn_r _ [69, 2, 11, 12, 6, 13, 70, 71, 72, 73, 74, 75, 76, 77, 78, 79, 80, 81, 82, 83, 84, 85, 86, 87, 88, 89, 90, 91, 92, 93, 94, 95, 96] (by decide +kernel) (by decide +kernel)
set_option maxRecDepth 20000 in
theorem gX5_cut_X5_many : GoodIn wsX5_cut (wsV RX5 156 RX5 yX5_many wsX5_many) := goodIn_app (goodIn_of _ (by decide +kernel)) ggX5_cut_X5_many
theorem dX5_cut_0 : decode cX5_cut 0 = .ok (.aload_n 0, 1) := by decide +kernel
theorem dX5_cut_1 : decode cX5_cut 1 = .ok (.iconst 0, 1) := by decide +kernel
theorem dX5_cut_2 : decode cX5_cut 2 = .ok (.putfield 63, 3) := by decide +kernel
theorem dX5_cut_5 : decode cX5_cut 5 = .ok (.aload_n 0, 1) := by decide +kernel
theorem dX5_cut_6 : decode cX5_cut 6 = .ok (.iload_n 1, 1) := by decide +kernel
theorem dX5_cut_7 : decode cX5_cut 7 = .ok (.invokevirtual 153, 3) := by decide +kernel
theorem dX5_cut_10 : decode cX5_cut 10 = .ok (.ifCond .ne 10, 3) := by decide +kernel
theorem dX5_cut_13 : decode cX5_cut 13 = .ok (.aload_n 0, 1) := by decide +kernel
theorem dX5_cut_14 : decode cX5_cut 14 = .ok (.bipush (-2), 2) := by decide +kernel
theorem dX5_cut_16 : decode cX5_cut 16 = .ok (.invokevirtual 135, 3) := by decide +kernel
theorem dX5_cut_19 : decode cX5_cut 19 = .ok (.ireturn, 1) := by decide +kernel
theorem dX5_cut_20 : decode cX5_cut 20 = .ok (.aload_n 0, 1) := by decide +kernel
theorem dX5_cut_21 : decode cX5_cut 21 = .ok (.getfield 13, 3) := by decide +kernel
theorem dX5_cut_24 : decode cX5_cut 24 = .ok (.iload_n 1, 1) := by decide +kernel
theorem dX5_cut_25 : decode cX5_cut 25 = .ok (.invokestatic 83, 3) := by decide +kernel
theorem dX5_cut_28 : decode cX5_cut 28 = .ok (.iconst 1, 1) := by decide +kernel
theorem dX5_cut_29 : decode cX5_cut 29 = .ok (.iadd, 1) := by decide +kernel
theorem dX5_cut_30 : decode cX5_cut 30 = .ok (.iaload, 1) := by decide +kernel
theorem dX5_cut_31 : decode cX5_cut 31 = .ok (.istore_n 2, 1) := by decide +kernel
theorem dX5_cut_32 : decode cX5_cut 32 = .ok (.aload_n 0, 1) := by decide +kernel
theorem dX5_cut_33 : decode cX5_cut 33 = .ok (.iload_n 1, 1) := by decide +kernel
theorem dX5_cut_34 : decode cX5_cut 34 = .ok (.invokevirtual 163, 3) := by decide +kernel
theorem dX5_cut_37 : decode cX5_cut 37 = .ok (.aload_n 0, 1) := by decide +kernel
theorem dX5_cut_38 : decode cX5_cut 38 = .ok (.iload_n 1, 1) := by decide +kernel
theorem dX5_cut_39 : decode cX5_cut 39 = .ok (.invokevirtual 118, 3) := by decide +kernel
theorem dX5_cut_42 : decode cX5_cut 42 = .ok (.aload_n 0, 1) := by decide +kernel
theorem dX5_cut_43 : decode cX5_cut 43 = .ok (.invokevirtual 141, 3) := by decide +kernel
theorem dX5_cut_46 : decode cX5_cut 46 = .ok (.aload_n 0, 1) := by decide +kernel
theorem dX5_cut_47 : decode cX5_cut 47 = .ok (.iload_n 2, 1) := by decide +kernel
theorem dX5_cut_48 : decode cX5_cut 48 = .ok (.iconst 1, 1) := by decide +kernel
theorem dX5_cut_49 : decode cX5_cut 49 = .ok (.invokevirtual 156, 3) := by decide +kernel
theorem dX5_cut_52 : decode cX5_cut 52 = .ok (.ireturn, 1) := by decide +kernel
set_option maxRecDepth 20000 in
theorem ggX5_rekey_X5_isKey : GoodIn wsX5_rekey wsX5_isKey := goodIn_r _ [7, 8, 9, 10, 11, 6, 12] (by decide +kernel) (by decide +kernel)
set_option maxRecDepth 20000 in
theorem gX5_rekey_X5_isKey : GoodIn wsX5_rekey (va_wsS RX5 129 yX5_isKey wsX5_isKey) := goodIn_app (goodIn_of _ (by decide +kernel)) ggX5_rekey_X5_isKey
set_option maxRecDepth 20000 in
theorem ggX5_rekey_X5_refuse : GoodIn wsX5_rekey wsX5_refuse := goodIn_r _ [16, 17, 79, 80, 81, 82, 83, 84, 85, 86, 87, 88, 89, 90, 91, 92, 93, 94, 95, 96, 97, 98, 99, 100, 101, 102, 103, 104, 105] (by decide +kernel) (by decide +kernel)
set_option maxRecDepth 20000 in
theorem gX5_rekey_X5_refuse : GoodIn wsX5_rekey (wsV RX5 135 RX5 yX5_refuse wsX5_refuse) := goodIn_app (goodIn_of _ (by decide +kernel)) ggX5_rekey_X5_refuse
set_option maxRecDepth 20000 in
theorem ggX5_rekey_X5_isItem : GoodIn wsX5_rekey wsX5_isItem := goodIn_r _ [21, 3, 10, 11, 6, 12, 22, 23, 24, 79, 80, 81, 82, 83, 84, 85, 86, 87, 88, 89, 90, 91, 92, 93, 94, 95, 96, 97, 98, 99, 100, 101, 102, 103, 104, 105] (by decide +kernel) (by decide +kernel)
set_option maxRecDepth 20000 in
theorem gX5_rekey_X5_isItem : GoodIn wsX5_rekey (wsV RX5 153 RX5 yX5_isItem wsX5_isItem) := goodIn_app (goodIn_of _ (by decide +kernel)) ggX5_rekey_X5_isItem
set_option maxRecDepth 20000 in
theorem ggX5_rekey_X5_at : GoodIn wsX5_rekey wsX5_at := goodIn_r _ [24] (by decide +kernel) (by decide +kernel)
set_option maxRecDepth 20000 in
theorem gX5_rekey_X5_at : GoodIn wsX5_rekey (va_wsS RX5 83 yX5_at wsX5_at) := goodIn_app (goodIn_of _ (by decide +kernel)) ggX5_rekey_X5_at
set_option maxRecDepth 20000 in
theorem ggX5_rekey_X5_cutOut : GoodIn wsX5_rekey wsX5_cutOut := goodIn_r _ [28, 3, 22, 23, 6, 24, 29, 30, 31, 32, 33, 34, 35, 36, 37, 38, 39, 40, 41, 42, 43, 44, 45, 46, 2, 47, 48, 49, 50, 51, 52, 53, 54, 55, 56, 57, 58, 79, 80, 81, 82, 83, 84, 85, 86, 87, 88, 89, 90, 91, 92, 93, 94, 95, 96, 97, 98, 99, 100, 101, 102, 103, 104, 105] (by decide +kernel) (by decide +kernel)
set_option maxRecDepth 20000 in
theorem gX5_rekey_X5_cutOut : GoodIn wsX5_rekey (wsV RX5 163 RX5 yX5_cutOut wsX5_cutOut) := goodIn_app (goodIn_of _ (by decide +kernel)) ggX5_rekey_X5_cutOut
set_option maxRecDepth 20000 in
theorem ggX5_rekey_X5_put : GoodIn wsX5_rekey wsX5_put := goodIn_r _ [62, 3, 63, 64, 65, 6, 66, 22, 23, 24, 37, 38, 39, 40, 41, 42, 43, 44, 45, 46, 2, 33, 34, 35, 36, 47, 48, 49, 50, 51, 52, 53, 54, 55, 56, 57, 58, 79, 80, 81, 82, 83, 84, 85, 86, 87, 88, 89, 90, 91, 92, 93, 94, 95, 96, 97, 98, 99, 100, 101, 102, 103, 104, 105] (by decide +kernel) (by decide +kernel)
set_option maxRecDepth 20000 in
theorem gX5_rekey_X5_put : GoodIn wsX5_rekey (wsV RX5 138 RX5 yX5_put wsX5_put) := goodIn_app (goodIn_of _ (by decide +kernel)) ggX5_rekey_X5_put
set_option maxRecDepth 20000 in
theorem ggX5_rekey_X5_sweep : GoodIn wsX5_rekey wsX5_sweep := goodIn_r _ [70, 3, 22, 23, 6, 24, 71, 72, 73, 74, 29, 30, 31, 32, 33, 34, 35, 36, 37, 38, 39, 40, 41, 42, 43, 44, 45, 46, 2, 47, 48, 49, 50, 51, 52, 53, 54, 55, 56, 57, 58, 75, 76, 77, 78, 79, 80, 81, 82, 83, 84, 85, 86, 87, 88, 89, 90, 91, 92, 93, 94, 95, 96, 97, 98, 99, 100, 101, 102, 103, 104, 105] (by decide +kernel) (by decide +kernel)
set_option maxRecDepth 20000 in
theorem gX5_rekey_X5_sweep : GoodIn wsX5_rekey (wsV RX5 141 RX5 yX5_sweep wsX5_sweep) := goodIn_app (goodIn_of _ (by decide +kernel)) ggX5_rekey_X5_sweep
set_option maxRecDepth 20000 in
theorem ggX5_rekey_X5_isLess : GoodIn wsX5_rekey wsX5_isLess := goodIn_r _ [46, 2, 79, 80, 81, 82, 83, 84, 85, 86, 87, 88, 89, 90, 91, 92, 93, 94, 95, 96, 97, 98, 99, 100, 101, 102, 103, 104, 105] (by decide +kernel) (by decide +kernel)
set_option maxRecDepth 20000 in
theorem gX5_rekey_X5_isLess : GoodIn wsX5_rekey (wsV RX5 90 RX5 yX5_isLess wsX5_isLess) := goodIn_app (goodIn_of _ (by decide +kernel)) ggX5_rekey_X5_isLess
theorem dX5_rekey_0 : decode cX5_rekey 0 = .ok (.aload_n 0, 1) := by decide +kernel
theorem dX5_rekey_1 : decode cX5_rekey 1 = .ok (.iconst 0, 1) := by decide +kernel
theorem dX5_rekey_2 : decode cX5_rekey 2 = .ok (.putfield 63, 3) := by decide +kernel
theorem dX5_rekey_5 : decode cX5_rekey 5 = .ok (.iload_n 2, 1) := by decide +kernel
theorem dX5_rekey_6 : decode cX5_rekey 6 = .ok (.i2l, 1) := by decide +kernel
theorem dX5_rekey_7 : decode cX5_rekey 7 = .ok (.invokestatic 129, 3) := by decide +kernel
theorem dX5_rekey_10 : decode cX5_rekey 10 = .ok (.ifCond .ne 9, 3) := by decide +kernel
theorem dX5_rekey_13 : decode cX5_rekey 13 = .ok (.aload_n 0, 1) := by decide +kernel
theorem dX5_rekey_14 : decode cX5_rekey 14 = .ok (.iconst (-1), 1) := by decide +kernel
theorem dX5_rekey_15 : decode cX5_rekey 15 = .ok (.invokevirtual 135, 3) := by decide +kernel
theorem dX5_rekey_18 : decode cX5_rekey 18 = .ok (.ireturn, 1) := by decide +kernel
theorem dX5_rekey_19 : decode cX5_rekey 19 = .ok (.aload_n 0, 1) := by decide +kernel
theorem dX5_rekey_20 : decode cX5_rekey 20 = .ok (.iload_n 1, 1) := by decide +kernel
theorem dX5_rekey_21 : decode cX5_rekey 21 = .ok (.invokevirtual 153, 3) := by decide +kernel
theorem dX5_rekey_24 : decode cX5_rekey 24 = .ok (.ifCond .ne 10, 3) := by decide +kernel
theorem dX5_rekey_27 : decode cX5_rekey 27 = .ok (.aload_n 0, 1) := by decide +kernel
theorem dX5_rekey_28 : decode cX5_rekey 28 = .ok (.bipush (-2), 2) := by decide +kernel
theorem dX5_rekey_30 : decode cX5_rekey 30 = .ok (.invokevirtual 135, 3) := by decide +kernel
theorem dX5_rekey_33 : decode cX5_rekey 33 = .ok (.ireturn, 1) := by decide +kernel
theorem dX5_rekey_34 : decode cX5_rekey 34 = .ok (.aload_n 0, 1) := by decide +kernel
theorem dX5_rekey_35 : decode cX5_rekey 35 = .ok (.getfield 16, 3) := by decide +kernel
theorem dX5_rekey_38 : decode cX5_rekey 38 = .ok (.iload_n 1, 1) := by decide +kernel
theorem dX5_rekey_39 : decode cX5_rekey 39 = .ok (.laload, 1) := by decide +kernel
theorem dX5_rekey_40 : decode cX5_rekey 40 = .ok (.iload_n 2, 1) := by decide +kernel
theorem dX5_rekey_41 : decode cX5_rekey 41 = .ok (.i2l, 1) := by decide +kernel
theorem dX5_rekey_42 : decode cX5_rekey 42 = .ok (.lcmp, 1) := by decide +kernel
theorem dX5_rekey_43 : decode cX5_rekey 43 = .ok (.ifCond .ne 10, 3) := by decide +kernel
theorem dX5_rekey_46 : decode cX5_rekey 46 = .ok (.aload_n 0, 1) := by decide +kernel
theorem dX5_rekey_47 : decode cX5_rekey 47 = .ok (.bipush (-4), 2) := by decide +kernel
theorem dX5_rekey_49 : decode cX5_rekey 49 = .ok (.invokevirtual 135, 3) := by decide +kernel
theorem dX5_rekey_52 : decode cX5_rekey 52 = .ok (.ireturn, 1) := by decide +kernel
theorem dX5_rekey_53 : decode cX5_rekey 53 = .ok (.aload_n 0, 1) := by decide +kernel
theorem dX5_rekey_54 : decode cX5_rekey 54 = .ok (.getfield 13, 3) := by decide +kernel
theorem dX5_rekey_57 : decode cX5_rekey 57 = .ok (.iload_n 1, 1) := by decide +kernel
theorem dX5_rekey_58 : decode cX5_rekey 58 = .ok (.invokestatic 83, 3) := by decide +kernel
theorem dX5_rekey_61 : decode cX5_rekey 61 = .ok (.iconst 1, 1) := by decide +kernel
theorem dX5_rekey_62 : decode cX5_rekey 62 = .ok (.iadd, 1) := by decide +kernel
theorem dX5_rekey_63 : decode cX5_rekey 63 = .ok (.iaload, 1) := by decide +kernel
theorem dX5_rekey_64 : decode cX5_rekey 64 = .ok (.istore_n 3, 1) := by decide +kernel
theorem dX5_rekey_65 : decode cX5_rekey 65 = .ok (.aload_n 0, 1) := by decide +kernel
theorem dX5_rekey_66 : decode cX5_rekey 66 = .ok (.iload_n 1, 1) := by decide +kernel
theorem dX5_rekey_67 : decode cX5_rekey 67 = .ok (.invokevirtual 163, 3) := by decide +kernel
theorem dX5_rekey_70 : decode cX5_rekey 70 = .ok (.aload_n 0, 1) := by decide +kernel
theorem dX5_rekey_71 : decode cX5_rekey 71 = .ok (.getfield 16, 3) := by decide +kernel
theorem dX5_rekey_74 : decode cX5_rekey 74 = .ok (.iload_n 1, 1) := by decide +kernel
theorem dX5_rekey_75 : decode cX5_rekey 75 = .ok (.iload_n 2, 1) := by decide +kernel
theorem dX5_rekey_76 : decode cX5_rekey 76 = .ok (.i2l, 1) := by decide +kernel
theorem dX5_rekey_77 : decode cX5_rekey 77 = .ok (.lastore, 1) := by decide +kernel
theorem dX5_rekey_78 : decode cX5_rekey 78 = .ok (.aload_n 0, 1) := by decide +kernel
theorem dX5_rekey_79 : decode cX5_rekey 79 = .ok (.iload_n 1, 1) := by decide +kernel
theorem dX5_rekey_80 : decode cX5_rekey 80 = .ok (.iload_n 3, 1) := by decide +kernel
theorem dX5_rekey_81 : decode cX5_rekey 81 = .ok (.invokevirtual 138, 3) := by decide +kernel
theorem dX5_rekey_84 : decode cX5_rekey 84 = .ok (.aload_n 0, 1) := by decide +kernel
theorem dX5_rekey_85 : decode cX5_rekey 85 = .ok (.invokevirtual 141, 3) := by decide +kernel
theorem dX5_rekey_88 : decode cX5_rekey 88 = .ok (.iconst 0, 1) := by decide +kernel
theorem dX5_rekey_89 : decode cX5_rekey 89 = .ok (.istore 4, 2) := by decide +kernel
theorem dX5_rekey_91 : decode cX5_rekey 91 = .ok (.iconst 0, 1) := by decide +kernel
theorem dX5_rekey_92 : decode cX5_rekey 92 = .ok (.istore 5, 2) := by decide +kernel
theorem dX5_rekey_94 : decode cX5_rekey 94 = .ok (.iload 5, 2) := by decide +kernel
theorem dX5_rekey_96 : decode cX5_rekey 96 = .ok (.aload_n 0, 1) := by decide +kernel
theorem dX5_rekey_97 : decode cX5_rekey 97 = .ok (.getfield 13, 3) := by decide +kernel
theorem dX5_rekey_100 : decode cX5_rekey 100 = .ok (.iconst 0, 1) := by decide +kernel
theorem dX5_rekey_101 : decode cX5_rekey 101 = .ok (.iaload, 1) := by decide +kernel
theorem dX5_rekey_102 : decode cX5_rekey 102 = .ok (.if_icmp .ge 60, 3) := by decide +kernel
theorem dX5_rekey_105 : decode cX5_rekey 105 = .ok (.iload 4, 2) := by decide +kernel
theorem dX5_rekey_107 : decode cX5_rekey 107 = .ok (.aload_n 0, 1) := by decide +kernel
theorem dX5_rekey_108 : decode cX5_rekey 108 = .ok (.getfield 13, 3) := by decide +kernel
theorem dX5_rekey_111 : decode cX5_rekey 111 = .ok (.iload 5, 2) := by decide +kernel
theorem dX5_rekey_113 : decode cX5_rekey 113 = .ok (.invokestatic 83, 3) := by decide +kernel
theorem dX5_rekey_116 : decode cX5_rekey 116 = .ok (.iconst 1, 1) := by decide +kernel
theorem dX5_rekey_117 : decode cX5_rekey 117 = .ok (.iadd, 1) := by decide +kernel
theorem dX5_rekey_118 : decode cX5_rekey 118 = .ok (.iaload, 1) := by decide +kernel
theorem dX5_rekey_119 : decode cX5_rekey 119 = .ok (.iload_n 3, 1) := by decide +kernel
theorem dX5_rekey_120 : decode cX5_rekey 120 = .ok (.if_icmp .ne 32, 3) := by decide +kernel
theorem dX5_rekey_123 : decode cX5_rekey 123 = .ok (.aload_n 0, 1) := by decide +kernel
theorem dX5_rekey_124 : decode cX5_rekey 124 = .ok (.getfield 13, 3) := by decide +kernel
theorem dX5_rekey_127 : decode cX5_rekey 127 = .ok (.iload 5, 2) := by decide +kernel
theorem dX5_rekey_129 : decode cX5_rekey 129 = .ok (.invokestatic 83, 3) := by decide +kernel
theorem dX5_rekey_132 : decode cX5_rekey 132 = .ok (.iconst 2, 1) := by decide +kernel
theorem dX5_rekey_133 : decode cX5_rekey 133 = .ok (.iadd, 1) := by decide +kernel
theorem dX5_rekey_134 : decode cX5_rekey 134 = .ok (.iaload, 1) := by decide +kernel
theorem dX5_rekey_135 : decode cX5_rekey 135 = .ok (.ifCond .ne 17, 3) := by decide +kernel
theorem dX5_rekey_138 : decode cX5_rekey 138 = .ok (.aload_n 0, 1) := by decide +kernel
theorem dX5_rekey_139 : decode cX5_rekey 139 = .ok (.iload 5, 2) := by decide +kernel
theorem dX5_rekey_141 : decode cX5_rekey 141 = .ok (.iload_n 1, 1) := by decide +kernel
theorem dX5_rekey_142 : decode cX5_rekey 142 = .ok (.invokevirtual 90, 3) := by decide +kernel
theorem dX5_rekey_145 : decode cX5_rekey 145 = .ok (.ifCond .eq 7, 3) := by decide +kernel
theorem dX5_rekey_148 : decode cX5_rekey 148 = .ok (.iconst 1, 1) := by decide +kernel
theorem dX5_rekey_149 : decode cX5_rekey 149 = .ok (.goto 4, 3) := by decide +kernel
theorem dX5_rekey_152 : decode cX5_rekey 152 = .ok (.iconst 0, 1) := by decide +kernel
theorem dX5_rekey_153 : decode cX5_rekey 153 = .ok (.iadd, 1) := by decide +kernel
theorem dX5_rekey_154 : decode cX5_rekey 154 = .ok (.istore 4, 2) := by decide +kernel
theorem dX5_rekey_156 : decode cX5_rekey 156 = .ok (.iinc 5 1, 3) := by decide +kernel
theorem dX5_rekey_159 : decode cX5_rekey 159 = .ok (.goto (-65), 3) := by decide +kernel
theorem dX5_rekey_162 : decode cX5_rekey 162 = .ok (.iload 4, 2) := by decide +kernel
theorem dX5_rekey_164 : decode cX5_rekey 164 = .ok (.ireturn, 1) := by decide +kernel
set_option maxRecDepth 20000 in
theorem ggX5_raise_X5_isDesk : GoodIn wsX5_raise wsX5_isDesk := goodIn_r _ [9, 10, 11, 12, 8, 13] (by decide +kernel) (by decide +kernel)
set_option maxRecDepth 20000 in
theorem gX5_raise_X5_isDesk : GoodIn wsX5_raise (va_wsS RX5 125 yX5_isDesk wsX5_isDesk) := goodIn_app (goodIn_of _ (by decide +kernel)) ggX5_raise_X5_isDesk
set_option maxRecDepth 20000 in
theorem ggX5_raise_X5_in : GoodIn wsX5_raise wsX5_in := goodIn_r _ [13] (by decide +kernel) (by decide +kernel)
set_option maxRecDepth 20000 in
theorem gX5_raise_X5_in : GoodIn wsX5_raise (va_wsS RX5 77 yX5_in wsX5_in) := goodIn_app (goodIn_of _ (by decide +kernel)) ggX5_raise_X5_in
set_option maxRecDepth 20000 in
theorem ggX5_raise_X5_refuse : GoodIn wsX5_raise wsX5_refuse := goodIn_r _ [17, 18, 26, 27, 28, 29, 30, 31, 32, 33, 34, 35, 36, 37, 38, 39, 40, 41, 42, 43, 44, 45, 46, 47, 48, 49, 50, 51, 52] (by decide +kernel) (by decide +kernel)
set_option maxRecDepth 20000 in
theorem gX5_raise_X5_refuse : GoodIn wsX5_raise (wsV RX5 135 RX5 yX5_refuse wsX5_refuse) := goodIn_app (goodIn_of _ (by decide +kernel)) ggX5_raise_X5_refuse
set_option maxRecDepth 20000 in
theorem ggX5_raise_X5_at : GoodIn wsX5_raise wsX5_at := goodIn_r _ [21] (by decide +kernel) (by decide +kernel)
set_option maxRecDepth 20000 in
theorem gX5_raise_X5_at : GoodIn wsX5_raise (va_wsS RX5 83 yX5_at wsX5_at) := goodIn_app (goodIn_of _ (by decide +kernel)) ggX5_raise_X5_at
set_option maxRecDepth 20000 in
theorem ggX5_raise_X5_many : GoodIn wsX5_raise wsX5_many := goodIn_r _ [25, 4, 19, 20, 8, 21, 26, 27, 28, 29, 30, 31, 32, 33, 34, 35, 36, 37, 38, 39, 40, 41, 42, 43, 44, 45, 46, 47, 48, 49, 50, 51, 52] (by decide +kernel) (by decide +kernel)
set_option maxRecDepth 20000 in
theorem gX5_raise_X5_many : GoodIn wsX5_raise (wsV RX5 156 RX5 yX5_many wsX5_many) := goodIn_app (goodIn_of _ (by decide +kernel)) ggX5_raise_X5_many
theorem dX5_raise_0 : decode cX5_raise 0 = .ok (.aload_n 0, 1) := by decide +kernel
theorem dX5_raise_1 : decode cX5_raise 1 = .ok (.iconst 0, 1) := by decide +kernel
theorem dX5_raise_2 : decode cX5_raise 2 = .ok (.putfield 63, 3) := by decide +kernel
theorem dX5_raise_5 : decode cX5_raise 5 = .ok (.iload_n 1, 1) := by decide +kernel
theorem dX5_raise_6 : decode cX5_raise 6 = .ok (.invokestatic 125, 3) := by decide +kernel
theorem dX5_raise_9 : decode cX5_raise 9 = .ok (.ifCond .eq 17, 3) := by decide +kernel
theorem dX5_raise_12 : decode cX5_raise 12 = .ok (.iload_n 2, 1) := by decide +kernel
theorem dX5_raise_13 : decode cX5_raise 13 = .ok (.i2l, 1) := by decide +kernel
theorem dX5_raise_14 : decode cX5_raise 14 = .ok (.ldc2_w 166, 3) := by decide +kernel
theorem dX5_raise_17 : decode cX5_raise 17 = .ok (.ldc2_w 168, 3) := by decide +kernel
theorem dX5_raise_20 : decode cX5_raise 20 = .ok (.invokestatic 77, 3) := by decide +kernel
theorem dX5_raise_23 : decode cX5_raise 23 = .ok (.ifCond .ne 9, 3) := by decide +kernel
theorem dX5_raise_26 : decode cX5_raise 26 = .ok (.aload_n 0, 1) := by decide +kernel
theorem dX5_raise_27 : decode cX5_raise 27 = .ok (.iconst (-1), 1) := by decide +kernel
theorem dX5_raise_28 : decode cX5_raise 28 = .ok (.invokevirtual 135, 3) := by decide +kernel
theorem dX5_raise_31 : decode cX5_raise 31 = .ok (.ireturn, 1) := by decide +kernel
theorem dX5_raise_32 : decode cX5_raise 32 = .ok (.aload_n 0, 1) := by decide +kernel
theorem dX5_raise_33 : decode cX5_raise 33 = .ok (.getfield 13, 3) := by decide +kernel
theorem dX5_raise_36 : decode cX5_raise 36 = .ok (.iconst 4, 1) := by decide +kernel
theorem dX5_raise_37 : decode cX5_raise 37 = .ok (.iload_n 1, 1) := by decide +kernel
theorem dX5_raise_38 : decode cX5_raise 38 = .ok (.iadd, 1) := by decide +kernel
theorem dX5_raise_39 : decode cX5_raise 39 = .ok (.iaload, 1) := by decide +kernel
theorem dX5_raise_40 : decode cX5_raise 40 = .ok (.iconst (-1), 1) := by decide +kernel
theorem dX5_raise_41 : decode cX5_raise 41 = .ok (.if_icmp .ne 10, 3) := by decide +kernel
theorem dX5_raise_44 : decode cX5_raise 44 = .ok (.aload_n 0, 1) := by decide +kernel
theorem dX5_raise_45 : decode cX5_raise 45 = .ok (.bipush (-3), 2) := by decide +kernel
theorem dX5_raise_47 : decode cX5_raise 47 = .ok (.invokevirtual 135, 3) := by decide +kernel
theorem dX5_raise_50 : decode cX5_raise 50 = .ok (.ireturn, 1) := by decide +kernel
theorem dX5_raise_51 : decode cX5_raise 51 = .ok (.iconst 0, 1) := by decide +kernel
theorem dX5_raise_52 : decode cX5_raise 52 = .ok (.istore_n 3, 1) := by decide +kernel
theorem dX5_raise_53 : decode cX5_raise 53 = .ok (.iload_n 3, 1) := by decide +kernel
theorem dX5_raise_54 : decode cX5_raise 54 = .ok (.aload_n 0, 1) := by decide +kernel
theorem dX5_raise_55 : decode cX5_raise 55 = .ok (.getfield 13, 3) := by decide +kernel
theorem dX5_raise_58 : decode cX5_raise 58 = .ok (.iconst 0, 1) := by decide +kernel
theorem dX5_raise_59 : decode cX5_raise 59 = .ok (.iaload, 1) := by decide +kernel
theorem dX5_raise_60 : decode cX5_raise 60 = .ok (.if_icmp .ge 39, 3) := by decide +kernel
theorem dX5_raise_63 : decode cX5_raise 63 = .ok (.aload_n 0, 1) := by decide +kernel
theorem dX5_raise_64 : decode cX5_raise 64 = .ok (.getfield 16, 3) := by decide +kernel
theorem dX5_raise_67 : decode cX5_raise 67 = .ok (.iload_n 3, 1) := by decide +kernel
theorem dX5_raise_68 : decode cX5_raise 68 = .ok (.dup2, 1) := by decide +kernel
theorem dX5_raise_69 : decode cX5_raise 69 = .ok (.laload, 1) := by decide +kernel
theorem dX5_raise_70 : decode cX5_raise 70 = .ok (.aload_n 0, 1) := by decide +kernel
theorem dX5_raise_71 : decode cX5_raise 71 = .ok (.getfield 13, 3) := by decide +kernel
theorem dX5_raise_74 : decode cX5_raise 74 = .ok (.iload_n 3, 1) := by decide +kernel
theorem dX5_raise_75 : decode cX5_raise 75 = .ok (.invokestatic 83, 3) := by decide +kernel
theorem dX5_raise_78 : decode cX5_raise 78 = .ok (.iconst 1, 1) := by decide +kernel
theorem dX5_raise_79 : decode cX5_raise 79 = .ok (.iadd, 1) := by decide +kernel
theorem dX5_raise_80 : decode cX5_raise 80 = .ok (.iaload, 1) := by decide +kernel
theorem dX5_raise_81 : decode cX5_raise 81 = .ok (.iload_n 1, 1) := by decide +kernel
theorem dX5_raise_82 : decode cX5_raise 82 = .ok (.if_icmp .ne 8, 3) := by decide +kernel
theorem dX5_raise_85 : decode cX5_raise 85 = .ok (.iload_n 2, 1) := by decide +kernel
theorem dX5_raise_86 : decode cX5_raise 86 = .ok (.i2l, 1) := by decide +kernel
theorem dX5_raise_87 : decode cX5_raise 87 = .ok (.goto 4, 3) := by decide +kernel
theorem dX5_raise_90 : decode cX5_raise 90 = .ok (.lconst 0, 1) := by decide +kernel
theorem dX5_raise_91 : decode cX5_raise 91 = .ok (.ladd, 1) := by decide +kernel
theorem dX5_raise_92 : decode cX5_raise 92 = .ok (.lastore, 1) := by decide +kernel
theorem dX5_raise_93 : decode cX5_raise 93 = .ok (.iinc 3 1, 3) := by decide +kernel
theorem dX5_raise_96 : decode cX5_raise 96 = .ok (.goto (-43), 3) := by decide +kernel
theorem dX5_raise_99 : decode cX5_raise 99 = .ok (.aload_n 0, 1) := by decide +kernel
theorem dX5_raise_100 : decode cX5_raise 100 = .ok (.iload_n 1, 1) := by decide +kernel
theorem dX5_raise_101 : decode cX5_raise 101 = .ok (.iconst 1, 1) := by decide +kernel
theorem dX5_raise_102 : decode cX5_raise 102 = .ok (.invokevirtual 156, 3) := by decide +kernel
theorem dX5_raise_105 : decode cX5_raise 105 = .ok (.ireturn, 1) := by decide +kernel
set_option maxRecDepth 20000 in
theorem ggX5_moveAll_X5_at : GoodIn wsX5_moveAll wsX5_at := goodIn_r _ [5] (by decide +kernel) (by decide +kernel)
set_option maxRecDepth 20000 in
theorem gX5_moveAll_X5_at : GoodIn wsX5_moveAll (va_wsS RX5 83 yX5_at wsX5_at) := goodIn_app (goodIn_of _ (by decide +kernel)) ggX5_moveAll_X5_at
theorem dX5_moveAll_0 : decode cX5_moveAll 0 = .ok (.iconst 0, 1) := by decide +kernel
theorem dX5_moveAll_1 : decode cX5_moveAll 1 = .ok (.istore_n 3, 1) := by decide +kernel
theorem dX5_moveAll_2 : decode cX5_moveAll 2 = .ok (.iload_n 3, 1) := by decide +kernel
theorem dX5_moveAll_3 : decode cX5_moveAll 3 = .ok (.aload_n 0, 1) := by decide +kernel
theorem dX5_moveAll_4 : decode cX5_moveAll 4 = .ok (.getfield 13, 3) := by decide +kernel
theorem dX5_moveAll_7 : decode cX5_moveAll 7 = .ok (.iconst 0, 1) := by decide +kernel
theorem dX5_moveAll_8 : decode cX5_moveAll 8 = .ok (.iaload, 1) := by decide +kernel
theorem dX5_moveAll_9 : decode cX5_moveAll 9 = .ok (.if_icmp .ge 50, 3) := by decide +kernel
theorem dX5_moveAll_12 : decode cX5_moveAll 12 = .ok (.aload_n 0, 1) := by decide +kernel
theorem dX5_moveAll_13 : decode cX5_moveAll 13 = .ok (.getfield 13, 3) := by decide +kernel
theorem dX5_moveAll_16 : decode cX5_moveAll 16 = .ok (.iload_n 3, 1) := by decide +kernel
theorem dX5_moveAll_17 : decode cX5_moveAll 17 = .ok (.invokestatic 83, 3) := by decide +kernel
theorem dX5_moveAll_20 : decode cX5_moveAll 20 = .ok (.iconst 1, 1) := by decide +kernel
theorem dX5_moveAll_21 : decode cX5_moveAll 21 = .ok (.iadd, 1) := by decide +kernel
theorem dX5_moveAll_22 : decode cX5_moveAll 22 = .ok (.aload_n 0, 1) := by decide +kernel
theorem dX5_moveAll_23 : decode cX5_moveAll 23 = .ok (.getfield 13, 3) := by decide +kernel
theorem dX5_moveAll_26 : decode cX5_moveAll 26 = .ok (.iload_n 3, 1) := by decide +kernel
theorem dX5_moveAll_27 : decode cX5_moveAll 27 = .ok (.invokestatic 83, 3) := by decide +kernel
theorem dX5_moveAll_30 : decode cX5_moveAll 30 = .ok (.iconst 1, 1) := by decide +kernel
theorem dX5_moveAll_31 : decode cX5_moveAll 31 = .ok (.iadd, 1) := by decide +kernel
theorem dX5_moveAll_32 : decode cX5_moveAll 32 = .ok (.iaload, 1) := by decide +kernel
theorem dX5_moveAll_33 : decode cX5_moveAll 33 = .ok (.iload_n 1, 1) := by decide +kernel
theorem dX5_moveAll_34 : decode cX5_moveAll 34 = .ok (.if_icmp .ne 7, 3) := by decide +kernel
theorem dX5_moveAll_37 : decode cX5_moveAll 37 = .ok (.iload_n 2, 1) := by decide +kernel
theorem dX5_moveAll_38 : decode cX5_moveAll 38 = .ok (.goto 14, 3) := by decide +kernel
theorem dX5_moveAll_41 : decode cX5_moveAll 41 = .ok (.aload_n 0, 1) := by decide +kernel
theorem dX5_moveAll_42 : decode cX5_moveAll 42 = .ok (.getfield 13, 3) := by decide +kernel
theorem dX5_moveAll_45 : decode cX5_moveAll 45 = .ok (.iload_n 3, 1) := by decide +kernel
theorem dX5_moveAll_46 : decode cX5_moveAll 46 = .ok (.invokestatic 83, 3) := by decide +kernel
theorem dX5_moveAll_49 : decode cX5_moveAll 49 = .ok (.iconst 1, 1) := by decide +kernel
theorem dX5_moveAll_50 : decode cX5_moveAll 50 = .ok (.iadd, 1) := by decide +kernel
theorem dX5_moveAll_51 : decode cX5_moveAll 51 = .ok (.iaload, 1) := by decide +kernel
theorem dX5_moveAll_52 : decode cX5_moveAll 52 = .ok (.iastore, 1) := by decide +kernel
theorem dX5_moveAll_53 : decode cX5_moveAll 53 = .ok (.iinc 3 1, 3) := by decide +kernel
theorem dX5_moveAll_56 : decode cX5_moveAll 56 = .ok (.goto (-54), 3) := by decide +kernel
theorem dX5_moveAll_59 : decode cX5_moveAll 59 = .ok (.return_, 1) := by decide +kernel
set_option maxRecDepth 20000 in
theorem ggX5_areTwo_X5_isDesk : GoodIn wsX5_areTwo wsX5_isDesk := goodIn_r _ [4, 5, 6, 7, 3, 8] (by decide +kernel) (by decide +kernel)
set_option maxRecDepth 20000 in
theorem gX5_areTwo_X5_isDesk : GoodIn wsX5_areTwo (va_wsS RX5 125 yX5_isDesk wsX5_isDesk) := goodIn_app (goodIn_of _ (by decide +kernel)) ggX5_areTwo_X5_isDesk
theorem dX5_areTwo_0 : decode cX5_areTwo 0 = .ok (.iload_n 0, 1) := by decide +kernel
theorem dX5_areTwo_1 : decode cX5_areTwo 1 = .ok (.invokestatic 125, 3) := by decide +kernel
theorem dX5_areTwo_4 : decode cX5_areTwo 4 = .ok (.ifCond .eq 19, 3) := by decide +kernel
theorem dX5_areTwo_7 : decode cX5_areTwo 7 = .ok (.iload_n 1, 1) := by decide +kernel
theorem dX5_areTwo_8 : decode cX5_areTwo 8 = .ok (.invokestatic 125, 3) := by decide +kernel
theorem dX5_areTwo_11 : decode cX5_areTwo 11 = .ok (.ifCond .eq 12, 3) := by decide +kernel
theorem dX5_areTwo_14 : decode cX5_areTwo 14 = .ok (.iload_n 0, 1) := by decide +kernel
theorem dX5_areTwo_15 : decode cX5_areTwo 15 = .ok (.iload_n 1, 1) := by decide +kernel
theorem dX5_areTwo_16 : decode cX5_areTwo 16 = .ok (.if_icmp .eq 7, 3) := by decide +kernel
theorem dX5_areTwo_19 : decode cX5_areTwo 19 = .ok (.iconst 1, 1) := by decide +kernel
theorem dX5_areTwo_20 : decode cX5_areTwo 20 = .ok (.goto 4, 3) := by decide +kernel
theorem dX5_areTwo_23 : decode cX5_areTwo 23 = .ok (.iconst 0, 1) := by decide +kernel
theorem dX5_areTwo_24 : decode cX5_areTwo 24 = .ok (.ireturn, 1) := by decide +kernel
set_option maxRecDepth 20000 in
theorem ggX5_meld_X5_areTwo : GoodIn wsX5_meld wsX5_areTwo := goodIn_r _ [7, 8, 9, 6, 10, 11, 12, 13, 14] (by decide +kernel) (by decide +kernel)
set_option maxRecDepth 20000 in
theorem gX5_meld_X5_areTwo : GoodIn wsX5_meld (va_wsS RX5 170 yX5_areTwo wsX5_areTwo) := goodIn_app (goodIn_of _ (by decide +kernel)) ggX5_meld_X5_areTwo
set_option maxRecDepth 20000 in
theorem ggX5_meld_X5_refuse : GoodIn wsX5_meld wsX5_refuse := goodIn_r _ [18, 19, 69, 70, 71, 72, 73, 74, 75, 76, 77, 78, 79, 80, 81, 82, 83, 84, 85, 86, 87, 88, 89, 90, 91, 92, 93, 94, 95] (by decide +kernel) (by decide +kernel)
set_option maxRecDepth 20000 in
theorem gX5_meld_X5_refuse : GoodIn wsX5_meld (wsV RX5 135 RX5 yX5_refuse wsX5_refuse) := goodIn_app (goodIn_of _ (by decide +kernel)) ggX5_meld_X5_refuse
set_option maxRecDepth 20000 in
theorem ggX5_meld_X5_meldTrees : GoodIn wsX5_meld wsX5_meldTrees := goodIn_r _ [23, 24, 3, 2, 25, 26, 27, 6, 28, 29, 30, 31, 32, 33, 34, 35, 36, 37, 38, 39, 40, 41, 42, 43, 44, 45, 46, 47, 48, 69, 70, 71, 72, 73, 74, 75, 76, 77, 78, 79, 80, 81, 82, 83, 84, 85, 86, 87, 88, 89, 90, 91, 92, 93, 94, 95] (by decide +kernel) (by decide +kernel)
set_option maxRecDepth 20000 in
theorem gX5_meld_X5_meldTrees : GoodIn wsX5_meld (wsV RX5 108 RX5 yX5_meldTrees wsX5_meldTrees) := goodIn_app (goodIn_of _ (by decide +kernel)) ggX5_meld_X5_meldTrees
set_option maxRecDepth 20000 in
theorem ggX5_meld_X5_moveAll : GoodIn wsX5_meld wsX5_moveAll := goodIn_r _ [52, 2, 34, 35, 6, 36, 69, 70, 71, 72, 73, 74, 75, 76, 77, 78, 79, 80, 81, 82, 83, 84, 85, 86, 87, 88, 89, 90, 91, 92, 93, 94, 95] (by decide +kernel) (by decide +kernel)
set_option maxRecDepth 20000 in
theorem gX5_meld_X5_moveAll : GoodIn wsX5_meld (wsV RX5 173 RX5 yX5_moveAll wsX5_moveAll) := goodIn_app (goodIn_of _ (by decide +kernel)) ggX5_meld_X5_moveAll
set_option maxRecDepth 20000 in
theorem ggX5_meld_X5_sweep : GoodIn wsX5_meld wsX5_sweep := goodIn_r _ [56, 2, 34, 35, 6, 36, 57, 58, 59, 60, 61, 62, 63, 64, 30, 31, 32, 33, 20, 21, 22, 23, 24, 3, 25, 26, 27, 28, 29, 37, 38, 39, 40, 41, 42, 43, 44, 45, 46, 47, 48, 65, 66, 67, 68, 69, 70, 71, 72, 73, 74, 75, 76, 77, 78, 79, 80, 81, 82, 83, 84, 85, 86, 87, 88, 89, 90, 91, 92, 93, 94, 95] (by decide +kernel) (by decide +kernel)
set_option maxRecDepth 20000 in
theorem gX5_meld_X5_sweep : GoodIn wsX5_meld (wsV RX5 141 RX5 yX5_sweep wsX5_sweep) := goodIn_app (goodIn_of _ (by decide +kernel)) ggX5_meld_X5_sweep
theorem dX5_meld_0 : decode cX5_meld 0 = .ok (.aload_n 0, 1) := by decide +kernel
theorem dX5_meld_1 : decode cX5_meld 1 = .ok (.iconst 0, 1) := by decide +kernel
theorem dX5_meld_2 : decode cX5_meld 2 = .ok (.putfield 63, 3) := by decide +kernel
theorem dX5_meld_5 : decode cX5_meld 5 = .ok (.iload_n 1, 1) := by decide +kernel
theorem dX5_meld_6 : decode cX5_meld 6 = .ok (.iload_n 2, 1) := by decide +kernel
theorem dX5_meld_7 : decode cX5_meld 7 = .ok (.invokestatic 170, 3) := by decide +kernel
theorem dX5_meld_10 : decode cX5_meld 10 = .ok (.ifCond .ne 9, 3) := by decide +kernel
theorem dX5_meld_13 : decode cX5_meld 13 = .ok (.aload_n 0, 1) := by decide +kernel
theorem dX5_meld_14 : decode cX5_meld 14 = .ok (.iconst (-1), 1) := by decide +kernel
theorem dX5_meld_15 : decode cX5_meld 15 = .ok (.invokevirtual 135, 3) := by decide +kernel
theorem dX5_meld_18 : decode cX5_meld 18 = .ok (.ireturn, 1) := by decide +kernel
theorem dX5_meld_19 : decode cX5_meld 19 = .ok (.aload_n 0, 1) := by decide +kernel
theorem dX5_meld_20 : decode cX5_meld 20 = .ok (.getfield 13, 3) := by decide +kernel
theorem dX5_meld_23 : decode cX5_meld 23 = .ok (.iconst 4, 1) := by decide +kernel
theorem dX5_meld_24 : decode cX5_meld 24 = .ok (.iload_n 2, 1) := by decide +kernel
theorem dX5_meld_25 : decode cX5_meld 25 = .ok (.iadd, 1) := by decide +kernel
theorem dX5_meld_26 : decode cX5_meld 26 = .ok (.iaload, 1) := by decide +kernel
theorem dX5_meld_27 : decode cX5_meld 27 = .ok (.iconst (-1), 1) := by decide +kernel
theorem dX5_meld_28 : decode cX5_meld 28 = .ok (.if_icmp .ne 10, 3) := by decide +kernel
theorem dX5_meld_31 : decode cX5_meld 31 = .ok (.aload_n 0, 1) := by decide +kernel
theorem dX5_meld_32 : decode cX5_meld 32 = .ok (.bipush (-3), 2) := by decide +kernel
theorem dX5_meld_34 : decode cX5_meld 34 = .ok (.invokevirtual 135, 3) := by decide +kernel
theorem dX5_meld_37 : decode cX5_meld 37 = .ok (.ireturn, 1) := by decide +kernel
theorem dX5_meld_38 : decode cX5_meld 38 = .ok (.aload_n 0, 1) := by decide +kernel
theorem dX5_meld_39 : decode cX5_meld 39 = .ok (.getfield 71, 3) := by decide +kernel
theorem dX5_meld_42 : decode cX5_meld 42 = .ok (.istore_n 3, 1) := by decide +kernel
theorem dX5_meld_43 : decode cX5_meld 43 = .ok (.aload_n 0, 1) := by decide +kernel
theorem dX5_meld_44 : decode cX5_meld 44 = .ok (.getfield 13, 3) := by decide +kernel
theorem dX5_meld_47 : decode cX5_meld 47 = .ok (.iconst 4, 1) := by decide +kernel
theorem dX5_meld_48 : decode cX5_meld 48 = .ok (.iload_n 1, 1) := by decide +kernel
theorem dX5_meld_49 : decode cX5_meld 49 = .ok (.iadd, 1) := by decide +kernel
theorem dX5_meld_50 : decode cX5_meld 50 = .ok (.aload_n 0, 1) := by decide +kernel
theorem dX5_meld_51 : decode cX5_meld 51 = .ok (.aload_n 0, 1) := by decide +kernel
theorem dX5_meld_52 : decode cX5_meld 52 = .ok (.getfield 13, 3) := by decide +kernel
theorem dX5_meld_55 : decode cX5_meld 55 = .ok (.iconst 4, 1) := by decide +kernel
theorem dX5_meld_56 : decode cX5_meld 56 = .ok (.iload_n 1, 1) := by decide +kernel
theorem dX5_meld_57 : decode cX5_meld 57 = .ok (.iadd, 1) := by decide +kernel
theorem dX5_meld_58 : decode cX5_meld 58 = .ok (.iaload, 1) := by decide +kernel
theorem dX5_meld_59 : decode cX5_meld 59 = .ok (.aload_n 0, 1) := by decide +kernel
theorem dX5_meld_60 : decode cX5_meld 60 = .ok (.getfield 13, 3) := by decide +kernel
theorem dX5_meld_63 : decode cX5_meld 63 = .ok (.iconst 4, 1) := by decide +kernel
theorem dX5_meld_64 : decode cX5_meld 64 = .ok (.iload_n 2, 1) := by decide +kernel
theorem dX5_meld_65 : decode cX5_meld 65 = .ok (.iadd, 1) := by decide +kernel
theorem dX5_meld_66 : decode cX5_meld 66 = .ok (.iaload, 1) := by decide +kernel
theorem dX5_meld_67 : decode cX5_meld 67 = .ok (.invokevirtual 108, 3) := by decide +kernel
theorem dX5_meld_70 : decode cX5_meld 70 = .ok (.iastore, 1) := by decide +kernel
theorem dX5_meld_71 : decode cX5_meld 71 = .ok (.aload_n 0, 1) := by decide +kernel
theorem dX5_meld_72 : decode cX5_meld 72 = .ok (.getfield 13, 3) := by decide +kernel
theorem dX5_meld_75 : decode cX5_meld 75 = .ok (.iconst 4, 1) := by decide +kernel
theorem dX5_meld_76 : decode cX5_meld 76 = .ok (.iload_n 2, 1) := by decide +kernel
theorem dX5_meld_77 : decode cX5_meld 77 = .ok (.iadd, 1) := by decide +kernel
theorem dX5_meld_78 : decode cX5_meld 78 = .ok (.iconst (-1), 1) := by decide +kernel
theorem dX5_meld_79 : decode cX5_meld 79 = .ok (.iastore, 1) := by decide +kernel
theorem dX5_meld_80 : decode cX5_meld 80 = .ok (.aload_n 0, 1) := by decide +kernel
theorem dX5_meld_81 : decode cX5_meld 81 = .ok (.iload_n 2, 1) := by decide +kernel
theorem dX5_meld_82 : decode cX5_meld 82 = .ok (.iload_n 1, 1) := by decide +kernel
theorem dX5_meld_83 : decode cX5_meld 83 = .ok (.invokevirtual 173, 3) := by decide +kernel
theorem dX5_meld_86 : decode cX5_meld 86 = .ok (.aload_n 0, 1) := by decide +kernel
theorem dX5_meld_87 : decode cX5_meld 87 = .ok (.getfield 71, 3) := by decide +kernel
theorem dX5_meld_90 : decode cX5_meld 90 = .ok (.iload_n 3, 1) := by decide +kernel
theorem dX5_meld_91 : decode cX5_meld 91 = .ok (.isub, 1) := by decide +kernel
theorem dX5_meld_92 : decode cX5_meld 92 = .ok (.istore 4, 2) := by decide +kernel
theorem dX5_meld_94 : decode cX5_meld 94 = .ok (.aload_n 0, 1) := by decide +kernel
theorem dX5_meld_95 : decode cX5_meld 95 = .ok (.invokevirtual 141, 3) := by decide +kernel
theorem dX5_meld_98 : decode cX5_meld 98 = .ok (.iload 4, 2) := by decide +kernel
theorem dX5_meld_100 : decode cX5_meld 100 = .ok (.ireturn, 1) := by decide +kernel
set_option maxRecDepth 20000 in
theorem ggX5_partOne_X5_takeRoot : GoodIn wsX5_partOne wsX5_takeRoot := goodIn_r _ [6, 1, 7, 8, 9, 5, 10, 11, 12, 13, 14, 15, 16, 17, 18, 19, 20, 21, 22, 23, 24, 25, 26, 27, 28, 29, 30, 31, 32, 33, 34, 35, 36, 37, 38, 39, 40, 57, 58, 59, 60, 61, 62, 63, 64, 65, 66, 67, 68, 69, 70, 71, 72, 73, 74, 75, 76, 77, 78, 79, 80, 81, 82, 83] (by decide +kernel) (by decide +kernel)
set_option maxRecDepth 20000 in
theorem gX5_partOne_X5_takeRoot : GoodIn wsX5_partOne (wsV RX5 115 RX5 yX5_takeRoot wsX5_takeRoot) := goodIn_app (goodIn_of _ (by decide +kernel)) ggX5_partOne_X5_takeRoot
set_option maxRecDepth 20000 in
theorem ggX5_partOne_X5_at : GoodIn wsX5_partOne wsX5_at := goodIn_r _ [13] (by decide +kernel) (by decide +kernel)
set_option maxRecDepth 20000 in
theorem gX5_partOne_X5_at : GoodIn wsX5_partOne (va_wsS RX5 83 yX5_at wsX5_at) := goodIn_app (goodIn_of _ (by decide +kernel)) ggX5_partOne_X5_at
set_option maxRecDepth 20000 in
theorem ggX5_partOne_X5_sweep : GoodIn wsX5_partOne wsX5_sweep := goodIn_r _ [44, 1, 11, 12, 5, 13, 2, 3, 4, 6, 7, 8, 9, 10, 14, 15, 16, 17, 18, 19, 20, 21, 22, 23, 24, 25, 26, 27, 28, 29, 30, 31, 32, 33, 34, 35, 36, 37, 38, 39, 40, 45, 46, 47, 48, 57, 58, 59, 60, 61, 62, 63, 64, 65, 66, 67, 68, 69, 70, 71, 72, 73, 74, 75, 76, 77, 78, 79, 80, 81, 82, 83] (by decide +kernel) (by decide +kernel)
set_option maxRecDepth 20000 in
theorem gX5_partOne_X5_sweep : GoodIn wsX5_partOne (wsV RX5 141 RX5 yX5_sweep wsX5_sweep) := goodIn_app (goodIn_of _ (by decide +kernel)) ggX5_partOne_X5_sweep
set_option maxRecDepth 20000 in
theorem ggX5_partOne_X5_put : GoodIn wsX5_partOne wsX5_put := goodIn_r _ [52, 1, 53, 54, 55, 5, 56, 11, 12, 13, 18, 19, 20, 21, 22, 23, 24, 25, 26, 27, 28, 14, 15, 16, 17, 29, 30, 31, 32, 33, 34, 35, 36, 37, 38, 39, 40, 57, 58, 59, 60, 61, 62, 63, 64, 65, 66, 67, 68, 69, 70, 71, 72, 73, 74, 75, 76, 77, 78, 79, 80, 81, 82, 83] (by decide +kernel) (by decide +kernel)
set_option maxRecDepth 20000 in
theorem gX5_partOne_X5_put : GoodIn wsX5_partOne (wsV RX5 138 RX5 yX5_put wsX5_put) := goodIn_app (goodIn_of _ (by decide +kernel)) ggX5_partOne_X5_put
theorem dX5_partOne_0 : decode cX5_partOne 0 = .ok (.aload_n 0, 1) := by decide +kernel
theorem dX5_partOne_1 : decode cX5_partOne 1 = .ok (.iload_n 1, 1) := by decide +kernel
theorem dX5_partOne_2 : decode cX5_partOne 2 = .ok (.invokevirtual 115, 3) := by decide +kernel
theorem dX5_partOne_5 : decode cX5_partOne 5 = .ok (.istore_n 3, 1) := by decide +kernel
theorem dX5_partOne_6 : decode cX5_partOne 6 = .ok (.aload_n 0, 1) := by decide +kernel
theorem dX5_partOne_7 : decode cX5_partOne 7 = .ok (.getfield 13, 3) := by decide +kernel
theorem dX5_partOne_10 : decode cX5_partOne 10 = .ok (.iload_n 3, 1) := by decide +kernel
theorem dX5_partOne_11 : decode cX5_partOne 11 = .ok (.invokestatic 83, 3) := by decide +kernel
theorem dX5_partOne_14 : decode cX5_partOne 14 = .ok (.iconst 1, 1) := by decide +kernel
theorem dX5_partOne_15 : decode cX5_partOne 15 = .ok (.iadd, 1) := by decide +kernel
theorem dX5_partOne_16 : decode cX5_partOne 16 = .ok (.iconst (-1), 1) := by decide +kernel
theorem dX5_partOne_17 : decode cX5_partOne 17 = .ok (.iastore, 1) := by decide +kernel
theorem dX5_partOne_18 : decode cX5_partOne 18 = .ok (.aload_n 0, 1) := by decide +kernel
theorem dX5_partOne_19 : decode cX5_partOne 19 = .ok (.invokevirtual 141, 3) := by decide +kernel
theorem dX5_partOne_22 : decode cX5_partOne 22 = .ok (.aload_n 0, 1) := by decide +kernel
theorem dX5_partOne_23 : decode cX5_partOne 23 = .ok (.iload_n 3, 1) := by decide +kernel
theorem dX5_partOne_24 : decode cX5_partOne 24 = .ok (.iload_n 2, 1) := by decide +kernel
theorem dX5_partOne_25 : decode cX5_partOne 25 = .ok (.invokevirtual 138, 3) := by decide +kernel
theorem dX5_partOne_28 : decode cX5_partOne 28 = .ok (.aload_n 0, 1) := by decide +kernel
theorem dX5_partOne_29 : decode cX5_partOne 29 = .ok (.invokevirtual 141, 3) := by decide +kernel
theorem dX5_partOne_32 : decode cX5_partOne 32 = .ok (.iload_n 3, 1) := by decide +kernel
theorem dX5_partOne_33 : decode cX5_partOne 33 = .ok (.ireturn, 1) := by decide +kernel
set_option maxRecDepth 20000 in
theorem ggX5_part_X5_areTwo : GoodIn wsX5_part wsX5_areTwo := goodIn_r _ [6, 7, 8, 5, 9, 10, 11, 12, 13] (by decide +kernel) (by decide +kernel)
set_option maxRecDepth 20000 in
theorem gX5_part_X5_areTwo : GoodIn wsX5_part (va_wsS RX5 170 yX5_areTwo wsX5_areTwo) := goodIn_app (goodIn_of _ (by decide +kernel)) ggX5_part_X5_areTwo
set_option maxRecDepth 20000 in
theorem ggX5_part_X5_in : GoodIn wsX5_part wsX5_in := goodIn_r _ [13] (by decide +kernel) (by decide +kernel)
set_option maxRecDepth 20000 in
theorem gX5_part_X5_in : GoodIn wsX5_part (va_wsS RX5 77 yX5_in wsX5_in) := goodIn_app (goodIn_of _ (by decide +kernel)) ggX5_part_X5_in
set_option maxRecDepth 20000 in
theorem ggX5_part_X5_refuse : GoodIn wsX5_part wsX5_refuse := goodIn_r _ [17, 18, 82, 83, 84, 85, 86, 87, 88, 89, 90, 91, 92, 93, 94, 95, 96, 97, 98, 99, 100, 101, 102, 103, 104, 105, 106, 107, 108] (by decide +kernel) (by decide +kernel)
set_option maxRecDepth 20000 in
theorem gX5_part_X5_refuse : GoodIn wsX5_part (wsV RX5 135 RX5 yX5_refuse wsX5_refuse) := goodIn_app (goodIn_of _ (by decide +kernel)) ggX5_part_X5_refuse
set_option maxRecDepth 20000 in
theorem ggX5_part_X5_many : GoodIn wsX5_part wsX5_many := goodIn_r _ [22, 23, 24, 25, 5, 26, 82, 83, 84, 85, 86, 87, 88, 89, 90, 91, 92, 93, 94, 95, 96, 97, 98, 99, 100, 101, 102, 103, 104, 105, 106, 107, 108] (by decide +kernel) (by decide +kernel)
set_option maxRecDepth 20000 in
theorem gX5_part_X5_many : GoodIn wsX5_part (wsV RX5 156 RX5 yX5_many wsX5_many) := goodIn_app (goodIn_of _ (by decide +kernel)) ggX5_part_X5_many
set_option maxRecDepth 20000 in
theorem ggX5_part_X5_partOne : GoodIn wsX5_part wsX5_partOne := goodIn_r _ [30, 23, 31, 32, 33, 5, 34, 35, 36, 37, 38, 24, 25, 26, 39, 40, 41, 42, 43, 44, 45, 46, 47, 48, 49, 50, 51, 52, 53, 54, 55, 56, 57, 58, 59, 60, 61, 62, 63, 64, 65, 66, 67, 68, 69, 70, 71, 72, 73, 74, 75, 76, 77, 78, 79, 80, 81, 82, 83, 84, 85, 86, 87, 88, 89, 90, 91, 92, 93, 94, 95, 96, 97, 98, 99, 100, 101, 102, 103, 104, 105, 106, 107, 108] (by decide +kernel) (by decide +kernel)
set_option maxRecDepth 20000 in
theorem gX5_part_X5_partOne : GoodIn wsX5_part (wsV RX5 178 RX5 yX5_partOne wsX5_partOne) := goodIn_app (goodIn_of _ (by decide +kernel)) ggX5_part_X5_partOne
theorem dX5_part_0 : decode cX5_part 0 = .ok (.aload_n 0, 1) := by decide +kernel
theorem dX5_part_1 : decode cX5_part 1 = .ok (.iconst 0, 1) := by decide +kernel
theorem dX5_part_2 : decode cX5_part 2 = .ok (.putfield 63, 3) := by decide +kernel
theorem dX5_part_5 : decode cX5_part 5 = .ok (.iload_n 1, 1) := by decide +kernel
theorem dX5_part_6 : decode cX5_part 6 = .ok (.iload_n 2, 1) := by decide +kernel
theorem dX5_part_7 : decode cX5_part 7 = .ok (.invokestatic 170, 3) := by decide +kernel
theorem dX5_part_10 : decode cX5_part 10 = .ok (.ifCond .eq 15, 3) := by decide +kernel
theorem dX5_part_13 : decode cX5_part 13 = .ok (.iload_n 3, 1) := by decide +kernel
theorem dX5_part_14 : decode cX5_part 14 = .ok (.i2l, 1) := by decide +kernel
theorem dX5_part_15 : decode cX5_part 15 = .ok (.lconst 1, 1) := by decide +kernel
theorem dX5_part_16 : decode cX5_part 16 = .ok (.ldc2_w 176, 3) := by decide +kernel
theorem dX5_part_19 : decode cX5_part 19 = .ok (.invokestatic 77, 3) := by decide +kernel
theorem dX5_part_22 : decode cX5_part 22 = .ok (.ifCond .ne 9, 3) := by decide +kernel
theorem dX5_part_25 : decode cX5_part 25 = .ok (.aload_n 0, 1) := by decide +kernel
theorem dX5_part_26 : decode cX5_part 26 = .ok (.iconst (-1), 1) := by decide +kernel
theorem dX5_part_27 : decode cX5_part 27 = .ok (.invokevirtual 135, 3) := by decide +kernel
theorem dX5_part_30 : decode cX5_part 30 = .ok (.ireturn, 1) := by decide +kernel
theorem dX5_part_31 : decode cX5_part 31 = .ok (.aload_n 0, 1) := by decide +kernel
theorem dX5_part_32 : decode cX5_part 32 = .ok (.iload_n 1, 1) := by decide +kernel
theorem dX5_part_33 : decode cX5_part 33 = .ok (.iconst 0, 1) := by decide +kernel
theorem dX5_part_34 : decode cX5_part 34 = .ok (.invokevirtual 156, 3) := by decide +kernel
theorem dX5_part_37 : decode cX5_part 37 = .ok (.iload_n 3, 1) := by decide +kernel
theorem dX5_part_38 : decode cX5_part 38 = .ok (.if_icmp .ge 10, 3) := by decide +kernel
theorem dX5_part_41 : decode cX5_part 41 = .ok (.aload_n 0, 1) := by decide +kernel
theorem dX5_part_42 : decode cX5_part 42 = .ok (.bipush (-3), 2) := by decide +kernel
theorem dX5_part_44 : decode cX5_part 44 = .ok (.invokevirtual 135, 3) := by decide +kernel
theorem dX5_part_47 : decode cX5_part 47 = .ok (.ireturn, 1) := by decide +kernel
theorem dX5_part_48 : decode cX5_part 48 = .ok (.iconst (-1), 1) := by decide +kernel
theorem dX5_part_49 : decode cX5_part 49 = .ok (.istore 4, 2) := by decide +kernel
theorem dX5_part_51 : decode cX5_part 51 = .ok (.iconst 0, 1) := by decide +kernel
theorem dX5_part_52 : decode cX5_part 52 = .ok (.istore 5, 2) := by decide +kernel
theorem dX5_part_54 : decode cX5_part 54 = .ok (.iload 5, 2) := by decide +kernel
theorem dX5_part_56 : decode cX5_part 56 = .ok (.iload_n 3, 1) := by decide +kernel
theorem dX5_part_57 : decode cX5_part 57 = .ok (.if_icmp .ge 17, 3) := by decide +kernel
theorem dX5_part_60 : decode cX5_part 60 = .ok (.aload_n 0, 1) := by decide +kernel
theorem dX5_part_61 : decode cX5_part 61 = .ok (.iload_n 1, 1) := by decide +kernel
theorem dX5_part_62 : decode cX5_part 62 = .ok (.iload_n 2, 1) := by decide +kernel
theorem dX5_part_63 : decode cX5_part 63 = .ok (.invokevirtual 178, 3) := by decide +kernel
theorem dX5_part_66 : decode cX5_part 66 = .ok (.istore 4, 2) := by decide +kernel
theorem dX5_part_68 : decode cX5_part 68 = .ok (.iinc 5 1, 3) := by decide +kernel
theorem dX5_part_71 : decode cX5_part 71 = .ok (.goto (-17), 3) := by decide +kernel
theorem dX5_part_74 : decode cX5_part 74 = .ok (.iload 4, 2) := by decide +kernel
theorem dX5_part_76 : decode cX5_part 76 = .ok (.ireturn, 1) := by decide +kernel
set_option maxRecDepth 20000 in
theorem ggX5_gatherTrees_X5_meldTrees : GoodIn wsX5_gatherTrees wsX5_meldTrees := goodIn_r _ [7, 8, 9, 10, 11, 12, 13, 6, 14, 15, 16, 17, 18, 19, 20, 21, 22, 23, 24, 25, 26, 27, 28, 29, 30, 31, 32, 33, 34, 35, 36, 37, 38, 39, 40, 41, 42, 43, 44, 45, 46, 47, 48, 49, 50, 51, 52, 53, 54, 55, 56, 57, 58, 59, 60, 61] (by decide +kernel) (by decide +kernel)
set_option maxRecDepth 20000 in
theorem gX5_gatherTrees_X5_meldTrees : GoodIn wsX5_gatherTrees (wsV RX5 108 RX5 yX5_meldTrees wsX5_meldTrees) := goodIn_app (goodIn_of _ (by decide +kernel)) ggX5_gatherTrees_X5_meldTrees
theorem dX5_gatherTrees_0 : decode cX5_gatherTrees 0 = .ok (.iconst 0, 1) := by decide +kernel
theorem dX5_gatherTrees_1 : decode cX5_gatherTrees 1 = .ok (.istore_n 1, 1) := by decide +kernel
theorem dX5_gatherTrees_2 : decode cX5_gatherTrees 2 = .ok (.aload_n 0, 1) := by decide +kernel
theorem dX5_gatherTrees_3 : decode cX5_gatherTrees 3 = .ok (.getfield 181, 3) := by decide +kernel
theorem dX5_gatherTrees_6 : decode cX5_gatherTrees 6 = .ok (.iload_n 1, 1) := by decide +kernel
theorem dX5_gatherTrees_7 : decode cX5_gatherTrees 7 = .ok (.isub, 1) := by decide +kernel
theorem dX5_gatherTrees_8 : decode cX5_gatherTrees 8 = .ok (.iconst 1, 1) := by decide +kernel
theorem dX5_gatherTrees_9 : decode cX5_gatherTrees 9 = .ok (.if_icmp .le 46, 3) := by decide +kernel
theorem dX5_gatherTrees_12 : decode cX5_gatherTrees 12 = .ok (.aload_n 0, 1) := by decide +kernel
theorem dX5_gatherTrees_13 : decode cX5_gatherTrees 13 = .ok (.getfield 39, 3) := by decide +kernel
theorem dX5_gatherTrees_16 : decode cX5_gatherTrees 16 = .ok (.aload_n 0, 1) := by decide +kernel
theorem dX5_gatherTrees_17 : decode cX5_gatherTrees 17 = .ok (.getfield 181, 3) := by decide +kernel
theorem dX5_gatherTrees_20 : decode cX5_gatherTrees 20 = .ok (.aload_n 0, 1) := by decide +kernel
theorem dX5_gatherTrees_21 : decode cX5_gatherTrees 21 = .ok (.aload_n 0, 1) := by decide +kernel
theorem dX5_gatherTrees_22 : decode cX5_gatherTrees 22 = .ok (.getfield 39, 3) := by decide +kernel
theorem dX5_gatherTrees_25 : decode cX5_gatherTrees 25 = .ok (.iload_n 1, 1) := by decide +kernel
theorem dX5_gatherTrees_26 : decode cX5_gatherTrees 26 = .ok (.iaload, 1) := by decide +kernel
theorem dX5_gatherTrees_27 : decode cX5_gatherTrees 27 = .ok (.aload_n 0, 1) := by decide +kernel
theorem dX5_gatherTrees_28 : decode cX5_gatherTrees 28 = .ok (.getfield 39, 3) := by decide +kernel
theorem dX5_gatherTrees_31 : decode cX5_gatherTrees 31 = .ok (.iload_n 1, 1) := by decide +kernel
theorem dX5_gatherTrees_32 : decode cX5_gatherTrees 32 = .ok (.iconst 1, 1) := by decide +kernel
theorem dX5_gatherTrees_33 : decode cX5_gatherTrees 33 = .ok (.iadd, 1) := by decide +kernel
theorem dX5_gatherTrees_34 : decode cX5_gatherTrees 34 = .ok (.iaload, 1) := by decide +kernel
theorem dX5_gatherTrees_35 : decode cX5_gatherTrees 35 = .ok (.invokevirtual 108, 3) := by decide +kernel
theorem dX5_gatherTrees_38 : decode cX5_gatherTrees 38 = .ok (.iastore, 1) := by decide +kernel
theorem dX5_gatherTrees_39 : decode cX5_gatherTrees 39 = .ok (.aload_n 0, 1) := by decide +kernel
theorem dX5_gatherTrees_40 : decode cX5_gatherTrees 40 = .ok (.dup, 1) := by decide +kernel
theorem dX5_gatherTrees_41 : decode cX5_gatherTrees 41 = .ok (.getfield 181, 3) := by decide +kernel
theorem dX5_gatherTrees_44 : decode cX5_gatherTrees 44 = .ok (.iconst 1, 1) := by decide +kernel
theorem dX5_gatherTrees_45 : decode cX5_gatherTrees 45 = .ok (.iadd, 1) := by decide +kernel
theorem dX5_gatherTrees_46 : decode cX5_gatherTrees 46 = .ok (.putfield 181, 3) := by decide +kernel
theorem dX5_gatherTrees_49 : decode cX5_gatherTrees 49 = .ok (.iinc 1 2, 3) := by decide +kernel
theorem dX5_gatherTrees_52 : decode cX5_gatherTrees 52 = .ok (.goto (-50), 3) := by decide +kernel
theorem dX5_gatherTrees_55 : decode cX5_gatherTrees 55 = .ok (.aload_n 0, 1) := by decide +kernel
theorem dX5_gatherTrees_56 : decode cX5_gatherTrees 56 = .ok (.getfield 181, 3) := by decide +kernel
theorem dX5_gatherTrees_59 : decode cX5_gatherTrees 59 = .ok (.iload_n 1, 1) := by decide +kernel
theorem dX5_gatherTrees_60 : decode cX5_gatherTrees 60 = .ok (.if_icmp .ne 7, 3) := by decide +kernel
theorem dX5_gatherTrees_63 : decode cX5_gatherTrees 63 = .ok (.iconst (-1), 1) := by decide +kernel
theorem dX5_gatherTrees_64 : decode cX5_gatherTrees 64 = .ok (.goto 9, 3) := by decide +kernel
theorem dX5_gatherTrees_67 : decode cX5_gatherTrees 67 = .ok (.aload_n 0, 1) := by decide +kernel
theorem dX5_gatherTrees_68 : decode cX5_gatherTrees 68 = .ok (.getfield 39, 3) := by decide +kernel
theorem dX5_gatherTrees_71 : decode cX5_gatherTrees 71 = .ok (.iload_n 1, 1) := by decide +kernel
theorem dX5_gatherTrees_72 : decode cX5_gatherTrees 72 = .ok (.iaload, 1) := by decide +kernel
theorem dX5_gatherTrees_73 : decode cX5_gatherTrees 73 = .ok (.ireturn, 1) := by decide +kernel
set_option maxRecDepth 20000 in
theorem ggX5_split_X5_areTwo : GoodIn wsX5_split wsX5_areTwo := goodIn_r _ [11, 12, 13, 10, 14, 15, 16, 17, 18] (by decide +kernel) (by decide +kernel)
set_option maxRecDepth 20000 in
theorem gX5_split_X5_areTwo : GoodIn wsX5_split (va_wsS RX5 170 yX5_areTwo wsX5_areTwo) := goodIn_app (goodIn_of _ (by decide +kernel)) ggX5_split_X5_areTwo
set_option maxRecDepth 20000 in
theorem ggX5_split_X5_refuse : GoodIn wsX5_split wsX5_refuse := goodIn_r _ [22, 23, 85, 86, 87, 88, 89, 90, 91, 92, 93, 94, 95, 96, 97, 98, 99, 100, 101, 102, 103, 104, 105, 106, 107, 108, 109, 110, 111] (by decide +kernel) (by decide +kernel)
set_option maxRecDepth 20000 in
theorem gX5_split_X5_refuse : GoodIn wsX5_split (wsV RX5 135 RX5 yX5_refuse wsX5_refuse) := goodIn_app (goodIn_of _ (by decide +kernel)) ggX5_split_X5_refuse
set_option maxRecDepth 20000 in
theorem ggX5_split_X5_setAbove : GoodIn wsX5_split wsX5_setAbove := goodIn_r _ [27, 2, 28, 29, 10, 30, 85, 86, 87, 88, 89, 90, 91, 92, 93, 94, 95, 96, 97, 98, 99, 100, 101, 102, 103, 104, 105, 106, 107, 108, 109, 110, 111] (by decide +kernel) (by decide +kernel)
set_option maxRecDepth 20000 in
theorem gX5_split_X5_setAbove : GoodIn wsX5_split (wsV RX5 97 RX5 yX5_setAbove wsX5_setAbove) := goodIn_app (goodIn_of _ (by decide +kernel)) ggX5_split_X5_setAbove
set_option maxRecDepth 20000 in
theorem ggX5_split_X5_right : GoodIn wsX5_split wsX5_right := goodIn_r _ [34, 2, 28, 29, 10, 30, 85, 86, 87, 88, 89, 90, 91, 92, 93, 94, 95, 96, 97, 98, 99, 100, 101, 102, 103, 104, 105, 106, 107, 108, 109, 110, 111] (by decide +kernel) (by decide +kernel)
set_option maxRecDepth 20000 in
theorem gX5_split_X5_right : GoodIn wsX5_split (wsV RX5 94 RX5 yX5_right wsX5_right) := goodIn_app (goodIn_of _ (by decide +kernel)) ggX5_split_X5_right
set_option maxRecDepth 20000 in
theorem ggX5_split_X5_left : GoodIn wsX5_split wsX5_left := goodIn_r _ [38, 2, 28, 29, 10, 30, 85, 86, 87, 88, 89, 90, 91, 92, 93, 94, 95, 96, 97, 98, 99, 100, 101, 102, 103, 104, 105, 106, 107, 108, 109, 110, 111] (by decide +kernel) (by decide +kernel)
set_option maxRecDepth 20000 in
theorem gX5_split_X5_left : GoodIn wsX5_split (wsV RX5 112 RX5 yX5_left wsX5_left) := goodIn_app (goodIn_of _ (by decide +kernel)) ggX5_split_X5_left
set_option maxRecDepth 20000 in
theorem ggX5_split_X5_gatherTrees : GoodIn wsX5_split wsX5_gatherTrees := goodIn_r _ [42, 4, 6, 43, 44, 45, 10, 46, 47, 48, 2, 49, 50, 51, 52, 3, 31, 32, 33, 34, 28, 29, 30, 24, 25, 26, 27, 53, 54, 55, 56, 57, 58, 59, 60, 85, 86, 87, 88, 89, 90, 91, 92, 93, 94, 95, 96, 97, 98, 99, 100, 101, 102, 103, 104, 105, 106, 107, 108, 109, 110, 111] (by decide +kernel) (by decide +kernel)
set_option maxRecDepth 20000 in
theorem gX5_split_X5_gatherTrees : GoodIn wsX5_split (wsV RX5 184 RX5 yX5_gatherTrees wsX5_gatherTrees) := goodIn_app (goodIn_of _ (by decide +kernel)) ggX5_split_X5_gatherTrees
set_option maxRecDepth 20000 in
theorem ggX5_split_X5_sortGoing : GoodIn wsX5_split wsX5_sortGoing := goodIn_r _ [64, 7, 49, 50, 51, 10, 52, 3, 85, 86, 87, 88, 89, 90, 91, 92, 93, 94, 95, 96, 97, 98, 99, 100, 101, 102, 103, 104, 105, 106, 107, 108, 109, 110, 111] (by decide +kernel) (by decide +kernel)
set_option maxRecDepth 20000 in
theorem gX5_split_X5_sortGoing : GoodIn wsX5_split (wsV RX5 187 RX5 yX5_sortGoing wsX5_sortGoing) := goodIn_app (goodIn_of _ (by decide +kernel)) ggX5_split_X5_sortGoing
set_option maxRecDepth 20000 in
theorem ggX5_split_X5_put : GoodIn wsX5_split wsX5_put := goodIn_r _ [68, 2, 69, 70, 71, 10, 72, 28, 29, 30, 43, 44, 45, 46, 47, 48, 49, 50, 51, 52, 3, 31, 32, 33, 34, 24, 25, 26, 27, 53, 54, 55, 56, 57, 58, 59, 60, 85, 86, 87, 88, 89, 90, 91, 92, 93, 94, 95, 96, 97, 98, 99, 100, 101, 102, 103, 104, 105, 106, 107, 108, 109, 110, 111] (by decide +kernel) (by decide +kernel)
set_option maxRecDepth 20000 in
theorem gX5_split_X5_put : GoodIn wsX5_split (wsV RX5 138 RX5 yX5_put wsX5_put) := goodIn_app (goodIn_of _ (by decide +kernel)) ggX5_split_X5_put
set_option maxRecDepth 20000 in
theorem ggX5_split_X5_sweep : GoodIn wsX5_split wsX5_sweep := goodIn_r _ [76, 2, 28, 29, 10, 30, 77, 78, 79, 80, 35, 36, 37, 38, 31, 32, 33, 34, 43, 44, 45, 46, 47, 48, 49, 50, 51, 52, 3, 24, 25, 26, 27, 53, 54, 55, 56, 57, 58, 59, 60, 81, 82, 83, 84, 85, 86, 87, 88, 89, 90, 91, 92, 93, 94, 95, 96, 97, 98, 99, 100, 101, 102, 103, 104, 105, 106, 107, 108, 109, 110, 111] (by decide +kernel) (by decide +kernel)
set_option maxRecDepth 20000 in
theorem gX5_split_X5_sweep : GoodIn wsX5_split (wsV RX5 141 RX5 yX5_sweep wsX5_sweep) := goodIn_app (goodIn_of _ (by decide +kernel)) ggX5_split_X5_sweep
theorem dX5_split_0 : decode cX5_split 0 = .ok (.aload_n 0, 1) := by decide +kernel
theorem dX5_split_1 : decode cX5_split 1 = .ok (.iconst 0, 1) := by decide +kernel
theorem dX5_split_2 : decode cX5_split 2 = .ok (.putfield 63, 3) := by decide +kernel
theorem dX5_split_5 : decode cX5_split 5 = .ok (.iload_n 1, 1) := by decide +kernel
theorem dX5_split_6 : decode cX5_split 6 = .ok (.iload_n 2, 1) := by decide +kernel
theorem dX5_split_7 : decode cX5_split 7 = .ok (.invokestatic 170, 3) := by decide +kernel
theorem dX5_split_10 : decode cX5_split 10 = .ok (.ifCond .ne 9, 3) := by decide +kernel
theorem dX5_split_13 : decode cX5_split 13 = .ok (.aload_n 0, 1) := by decide +kernel
theorem dX5_split_14 : decode cX5_split 14 = .ok (.iconst (-1), 1) := by decide +kernel
theorem dX5_split_15 : decode cX5_split 15 = .ok (.invokevirtual 135, 3) := by decide +kernel
theorem dX5_split_18 : decode cX5_split 18 = .ok (.ireturn, 1) := by decide +kernel
theorem dX5_split_19 : decode cX5_split 19 = .ok (.aload_n 0, 1) := by decide +kernel
theorem dX5_split_20 : decode cX5_split 20 = .ok (.getfield 13, 3) := by decide +kernel
theorem dX5_split_23 : decode cX5_split 23 = .ok (.iconst 4, 1) := by decide +kernel
theorem dX5_split_24 : decode cX5_split 24 = .ok (.iload_n 1, 1) := by decide +kernel
theorem dX5_split_25 : decode cX5_split 25 = .ok (.iadd, 1) := by decide +kernel
theorem dX5_split_26 : decode cX5_split 26 = .ok (.iaload, 1) := by decide +kernel
theorem dX5_split_27 : decode cX5_split 27 = .ok (.istore 4, 2) := by decide +kernel
theorem dX5_split_29 : decode cX5_split 29 = .ok (.iload 4, 2) := by decide +kernel
theorem dX5_split_31 : decode cX5_split 31 = .ok (.iconst (-1), 1) := by decide +kernel
theorem dX5_split_32 : decode cX5_split 32 = .ok (.if_icmp .eq 16, 3) := by decide +kernel
theorem dX5_split_35 : decode cX5_split 35 = .ok (.aload_n 0, 1) := by decide +kernel
theorem dX5_split_36 : decode cX5_split 36 = .ok (.getfield 16, 3) := by decide +kernel
theorem dX5_split_39 : decode cX5_split 39 = .ok (.iload 4, 2) := by decide +kernel
theorem dX5_split_41 : decode cX5_split 41 = .ok (.laload, 1) := by decide +kernel
theorem dX5_split_42 : decode cX5_split 42 = .ok (.iload_n 3, 1) := by decide +kernel
theorem dX5_split_43 : decode cX5_split 43 = .ok (.i2l, 1) := by decide +kernel
theorem dX5_split_44 : decode cX5_split 44 = .ok (.lcmp, 1) := by decide +kernel
theorem dX5_split_45 : decode cX5_split 45 = .ok (.ifCond .le 10, 3) := by decide +kernel
theorem dX5_split_48 : decode cX5_split 48 = .ok (.aload_n 0, 1) := by decide +kernel
theorem dX5_split_49 : decode cX5_split 49 = .ok (.bipush (-3), 2) := by decide +kernel
theorem dX5_split_51 : decode cX5_split 51 = .ok (.invokevirtual 135, 3) := by decide +kernel
theorem dX5_split_54 : decode cX5_split 54 = .ok (.ireturn, 1) := by decide +kernel
theorem dX5_split_55 : decode cX5_split 55 = .ok (.aload_n 0, 1) := by decide +kernel
theorem dX5_split_56 : decode cX5_split 56 = .ok (.iconst 0, 1) := by decide +kernel
theorem dX5_split_57 : decode cX5_split 57 = .ok (.putfield 181, 3) := by decide +kernel
theorem dX5_split_60 : decode cX5_split 60 = .ok (.iconst 0, 1) := by decide +kernel
theorem dX5_split_61 : decode cX5_split 61 = .ok (.istore 5, 2) := by decide +kernel
theorem dX5_split_63 : decode cX5_split 63 = .ok (.iconst 1, 1) := by decide +kernel
theorem dX5_split_64 : decode cX5_split 64 = .ok (.istore 6, 2) := by decide +kernel
theorem dX5_split_66 : decode cX5_split 66 = .ok (.aload_n 0, 1) := by decide +kernel
theorem dX5_split_67 : decode cX5_split 67 = .ok (.getfield 42, 3) := by decide +kernel
theorem dX5_split_70 : decode cX5_split 70 = .ok (.iconst 0, 1) := by decide +kernel
theorem dX5_split_71 : decode cX5_split 71 = .ok (.iload 4, 2) := by decide +kernel
theorem dX5_split_73 : decode cX5_split 73 = .ok (.iastore, 1) := by decide +kernel
theorem dX5_split_74 : decode cX5_split 74 = .ok (.iload 6, 2) := by decide +kernel
theorem dX5_split_76 : decode cX5_split 76 = .ok (.ifCond .le 126, 3) := by decide +kernel
theorem dX5_split_79 : decode cX5_split 79 = .ok (.iinc 6 (-1), 3) := by decide +kernel
theorem dX5_split_82 : decode cX5_split 82 = .ok (.aload_n 0, 1) := by decide +kernel
theorem dX5_split_83 : decode cX5_split 83 = .ok (.getfield 42, 3) := by decide +kernel
theorem dX5_split_86 : decode cX5_split 86 = .ok (.iload 6, 2) := by decide +kernel
theorem dX5_split_88 : decode cX5_split 88 = .ok (.iaload, 1) := by decide +kernel
theorem dX5_split_89 : decode cX5_split 89 = .ok (.istore 7, 2) := by decide +kernel
theorem dX5_split_91 : decode cX5_split 91 = .ok (.aload_n 0, 1) := by decide +kernel
theorem dX5_split_92 : decode cX5_split 92 = .ok (.getfield 16, 3) := by decide +kernel
theorem dX5_split_95 : decode cX5_split 95 = .ok (.iload 7, 2) := by decide +kernel
theorem dX5_split_97 : decode cX5_split 97 = .ok (.laload, 1) := by decide +kernel
theorem dX5_split_98 : decode cX5_split 98 = .ok (.iload_n 3, 1) := by decide +kernel
theorem dX5_split_99 : decode cX5_split 99 = .ok (.i2l, 1) := by decide +kernel
theorem dX5_split_100 : decode cX5_split 100 = .ok (.lcmp, 1) := by decide +kernel
theorem dX5_split_101 : decode cX5_split 101 = .ok (.ifCond .le 34, 3) := by decide +kernel
theorem dX5_split_104 : decode cX5_split 104 = .ok (.aload_n 0, 1) := by decide +kernel
theorem dX5_split_105 : decode cX5_split 105 = .ok (.getfield 39, 3) := by decide +kernel
theorem dX5_split_108 : decode cX5_split 108 = .ok (.aload_n 0, 1) := by decide +kernel
theorem dX5_split_109 : decode cX5_split 109 = .ok (.getfield 181, 3) := by decide +kernel
theorem dX5_split_112 : decode cX5_split 112 = .ok (.iload 7, 2) := by decide +kernel
theorem dX5_split_114 : decode cX5_split 114 = .ok (.iastore, 1) := by decide +kernel
theorem dX5_split_115 : decode cX5_split 115 = .ok (.aload_n 0, 1) := by decide +kernel
theorem dX5_split_116 : decode cX5_split 116 = .ok (.dup, 1) := by decide +kernel
theorem dX5_split_117 : decode cX5_split 117 = .ok (.getfield 181, 3) := by decide +kernel
theorem dX5_split_120 : decode cX5_split 120 = .ok (.iconst 1, 1) := by decide +kernel
theorem dX5_split_121 : decode cX5_split 121 = .ok (.iadd, 1) := by decide +kernel
theorem dX5_split_122 : decode cX5_split 122 = .ok (.putfield 181, 3) := by decide +kernel
theorem dX5_split_125 : decode cX5_split 125 = .ok (.aload_n 0, 1) := by decide +kernel
theorem dX5_split_126 : decode cX5_split 126 = .ok (.iload 7, 2) := by decide +kernel
theorem dX5_split_128 : decode cX5_split 128 = .ok (.iconst (-1), 1) := by decide +kernel
theorem dX5_split_129 : decode cX5_split 129 = .ok (.invokevirtual 97, 3) := by decide +kernel
theorem dX5_split_132 : decode cX5_split 132 = .ok (.goto 67, 3) := by decide +kernel
theorem dX5_split_135 : decode cX5_split 135 = .ok (.aload_n 0, 1) := by decide +kernel
theorem dX5_split_136 : decode cX5_split 136 = .ok (.getfield 45, 3) := by decide +kernel
theorem dX5_split_139 : decode cX5_split 139 = .ok (.iload 5, 2) := by decide +kernel
theorem dX5_split_141 : decode cX5_split 141 = .ok (.iload 7, 2) := by decide +kernel
theorem dX5_split_143 : decode cX5_split 143 = .ok (.iastore, 1) := by decide +kernel
theorem dX5_split_144 : decode cX5_split 144 = .ok (.iinc 5 1, 3) := by decide +kernel
theorem dX5_split_147 : decode cX5_split 147 = .ok (.aload_n 0, 1) := by decide +kernel
theorem dX5_split_148 : decode cX5_split 148 = .ok (.iload 7, 2) := by decide +kernel
theorem dX5_split_150 : decode cX5_split 150 = .ok (.invokevirtual 94, 3) := by decide +kernel
theorem dX5_split_153 : decode cX5_split 153 = .ok (.iconst (-1), 1) := by decide +kernel
theorem dX5_split_154 : decode cX5_split 154 = .ok (.if_icmp .eq 19, 3) := by decide +kernel
theorem dX5_split_157 : decode cX5_split 157 = .ok (.aload_n 0, 1) := by decide +kernel
theorem dX5_split_158 : decode cX5_split 158 = .ok (.getfield 42, 3) := by decide +kernel
theorem dX5_split_161 : decode cX5_split 161 = .ok (.iload 6, 2) := by decide +kernel
theorem dX5_split_163 : decode cX5_split 163 = .ok (.aload_n 0, 1) := by decide +kernel
theorem dX5_split_164 : decode cX5_split 164 = .ok (.iload 7, 2) := by decide +kernel
theorem dX5_split_166 : decode cX5_split 166 = .ok (.invokevirtual 94, 3) := by decide +kernel
theorem dX5_split_169 : decode cX5_split 169 = .ok (.iastore, 1) := by decide +kernel
theorem dX5_split_170 : decode cX5_split 170 = .ok (.iinc 6 1, 3) := by decide +kernel
theorem dX5_split_173 : decode cX5_split 173 = .ok (.aload_n 0, 1) := by decide +kernel
theorem dX5_split_174 : decode cX5_split 174 = .ok (.iload 7, 2) := by decide +kernel
theorem dX5_split_176 : decode cX5_split 176 = .ok (.invokevirtual 112, 3) := by decide +kernel
theorem dX5_split_179 : decode cX5_split 179 = .ok (.iconst (-1), 1) := by decide +kernel
theorem dX5_split_180 : decode cX5_split 180 = .ok (.if_icmp .eq 19, 3) := by decide +kernel
theorem dX5_split_183 : decode cX5_split 183 = .ok (.aload_n 0, 1) := by decide +kernel
theorem dX5_split_184 : decode cX5_split 184 = .ok (.getfield 42, 3) := by decide +kernel
theorem dX5_split_187 : decode cX5_split 187 = .ok (.iload 6, 2) := by decide +kernel
theorem dX5_split_189 : decode cX5_split 189 = .ok (.aload_n 0, 1) := by decide +kernel
theorem dX5_split_190 : decode cX5_split 190 = .ok (.iload 7, 2) := by decide +kernel
theorem dX5_split_192 : decode cX5_split 192 = .ok (.invokevirtual 112, 3) := by decide +kernel
theorem dX5_split_195 : decode cX5_split 195 = .ok (.iastore, 1) := by decide +kernel
theorem dX5_split_196 : decode cX5_split 196 = .ok (.iinc 6 1, 3) := by decide +kernel
theorem dX5_split_199 : decode cX5_split 199 = .ok (.goto (-125), 3) := by decide +kernel
theorem dX5_split_202 : decode cX5_split 202 = .ok (.aload_n 0, 1) := by decide +kernel
theorem dX5_split_203 : decode cX5_split 203 = .ok (.getfield 13, 3) := by decide +kernel
theorem dX5_split_206 : decode cX5_split 206 = .ok (.iconst 4, 1) := by decide +kernel
theorem dX5_split_207 : decode cX5_split 207 = .ok (.iload_n 1, 1) := by decide +kernel
theorem dX5_split_208 : decode cX5_split 208 = .ok (.iadd, 1) := by decide +kernel
theorem dX5_split_209 : decode cX5_split 209 = .ok (.aload_n 0, 1) := by decide +kernel
theorem dX5_split_210 : decode cX5_split 210 = .ok (.invokevirtual 184, 3) := by decide +kernel
theorem dX5_split_213 : decode cX5_split 213 = .ok (.iastore, 1) := by decide +kernel
theorem dX5_split_214 : decode cX5_split 214 = .ok (.aload_n 0, 1) := by decide +kernel
theorem dX5_split_215 : decode cX5_split 215 = .ok (.iload 5, 2) := by decide +kernel
theorem dX5_split_217 : decode cX5_split 217 = .ok (.invokevirtual 187, 3) := by decide +kernel
theorem dX5_split_220 : decode cX5_split 220 = .ok (.iconst 0, 1) := by decide +kernel
theorem dX5_split_221 : decode cX5_split 221 = .ok (.istore 7, 2) := by decide +kernel
theorem dX5_split_223 : decode cX5_split 223 = .ok (.iload 7, 2) := by decide +kernel
theorem dX5_split_225 : decode cX5_split 225 = .ok (.iload 5, 2) := by decide +kernel
theorem dX5_split_227 : decode cX5_split 227 = .ok (.if_icmp .ge 21, 3) := by decide +kernel
theorem dX5_split_230 : decode cX5_split 230 = .ok (.aload_n 0, 1) := by decide +kernel
theorem dX5_split_231 : decode cX5_split 231 = .ok (.aload_n 0, 1) := by decide +kernel
theorem dX5_split_232 : decode cX5_split 232 = .ok (.getfield 45, 3) := by decide +kernel
theorem dX5_split_235 : decode cX5_split 235 = .ok (.iload 7, 2) := by decide +kernel
theorem dX5_split_237 : decode cX5_split 237 = .ok (.iaload, 1) := by decide +kernel
theorem dX5_split_238 : decode cX5_split 238 = .ok (.iload_n 2, 1) := by decide +kernel
theorem dX5_split_239 : decode cX5_split 239 = .ok (.invokevirtual 138, 3) := by decide +kernel
theorem dX5_split_242 : decode cX5_split 242 = .ok (.iinc 7 1, 3) := by decide +kernel
theorem dX5_split_245 : decode cX5_split 245 = .ok (.goto (-22), 3) := by decide +kernel
theorem dX5_split_248 : decode cX5_split 248 = .ok (.aload_n 0, 1) := by decide +kernel
theorem dX5_split_249 : decode cX5_split 249 = .ok (.invokevirtual 141, 3) := by decide +kernel
theorem dX5_split_252 : decode cX5_split 252 = .ok (.iload 5, 2) := by decide +kernel
theorem dX5_split_254 : decode cX5_split 254 = .ok (.ireturn, 1) := by decide +kernel
set_option maxRecDepth 20000 in
theorem ggX5_sortGoing_X5_isLess : GoodIn wsX5_sortGoing wsX5_isLess := goodIn_r _ [6, 7, 8, 9, 10, 11, 12, 13, 14, 15, 16, 17, 18, 19, 20, 21, 22, 23, 24, 25, 26, 27, 28, 29, 30, 31, 32, 33, 34] (by decide +kernel) (by decide +kernel)
set_option maxRecDepth 20000 in
theorem gX5_sortGoing_X5_isLess : GoodIn wsX5_sortGoing (wsV RX5 90 RX5 yX5_isLess wsX5_isLess) := goodIn_app (goodIn_of _ (by decide +kernel)) ggX5_sortGoing_X5_isLess
theorem dX5_sortGoing_0 : decode cX5_sortGoing 0 = .ok (.iconst 1, 1) := by decide +kernel
theorem dX5_sortGoing_1 : decode cX5_sortGoing 1 = .ok (.istore_n 2, 1) := by decide +kernel
theorem dX5_sortGoing_2 : decode cX5_sortGoing 2 = .ok (.iload_n 2, 1) := by decide +kernel
theorem dX5_sortGoing_3 : decode cX5_sortGoing 3 = .ok (.iload_n 1, 1) := by decide +kernel
theorem dX5_sortGoing_4 : decode cX5_sortGoing 4 = .ok (.if_icmp .ge 71, 3) := by decide +kernel
theorem dX5_sortGoing_7 : decode cX5_sortGoing 7 = .ok (.aload_n 0, 1) := by decide +kernel
theorem dX5_sortGoing_8 : decode cX5_sortGoing 8 = .ok (.getfield 45, 3) := by decide +kernel
theorem dX5_sortGoing_11 : decode cX5_sortGoing 11 = .ok (.iload_n 2, 1) := by decide +kernel
theorem dX5_sortGoing_12 : decode cX5_sortGoing 12 = .ok (.iaload, 1) := by decide +kernel
theorem dX5_sortGoing_13 : decode cX5_sortGoing 13 = .ok (.istore_n 3, 1) := by decide +kernel
theorem dX5_sortGoing_14 : decode cX5_sortGoing 14 = .ok (.iload_n 2, 1) := by decide +kernel
theorem dX5_sortGoing_15 : decode cX5_sortGoing 15 = .ok (.istore 4, 2) := by decide +kernel
theorem dX5_sortGoing_17 : decode cX5_sortGoing 17 = .ok (.iload 4, 2) := by decide +kernel
theorem dX5_sortGoing_19 : decode cX5_sortGoing 19 = .ok (.ifCond .le 42, 3) := by decide +kernel
theorem dX5_sortGoing_22 : decode cX5_sortGoing 22 = .ok (.aload_n 0, 1) := by decide +kernel
theorem dX5_sortGoing_23 : decode cX5_sortGoing 23 = .ok (.iload_n 3, 1) := by decide +kernel
theorem dX5_sortGoing_24 : decode cX5_sortGoing 24 = .ok (.aload_n 0, 1) := by decide +kernel
theorem dX5_sortGoing_25 : decode cX5_sortGoing 25 = .ok (.getfield 45, 3) := by decide +kernel
theorem dX5_sortGoing_28 : decode cX5_sortGoing 28 = .ok (.iload 4, 2) := by decide +kernel
theorem dX5_sortGoing_30 : decode cX5_sortGoing 30 = .ok (.iconst 1, 1) := by decide +kernel
theorem dX5_sortGoing_31 : decode cX5_sortGoing 31 = .ok (.isub, 1) := by decide +kernel
theorem dX5_sortGoing_32 : decode cX5_sortGoing 32 = .ok (.iaload, 1) := by decide +kernel
theorem dX5_sortGoing_33 : decode cX5_sortGoing 33 = .ok (.invokevirtual 90, 3) := by decide +kernel
theorem dX5_sortGoing_36 : decode cX5_sortGoing 36 = .ok (.ifCond .eq 25, 3) := by decide +kernel
theorem dX5_sortGoing_39 : decode cX5_sortGoing 39 = .ok (.aload_n 0, 1) := by decide +kernel
theorem dX5_sortGoing_40 : decode cX5_sortGoing 40 = .ok (.getfield 45, 3) := by decide +kernel
theorem dX5_sortGoing_43 : decode cX5_sortGoing 43 = .ok (.iload 4, 2) := by decide +kernel
theorem dX5_sortGoing_45 : decode cX5_sortGoing 45 = .ok (.aload_n 0, 1) := by decide +kernel
theorem dX5_sortGoing_46 : decode cX5_sortGoing 46 = .ok (.getfield 45, 3) := by decide +kernel
theorem dX5_sortGoing_49 : decode cX5_sortGoing 49 = .ok (.iload 4, 2) := by decide +kernel
theorem dX5_sortGoing_51 : decode cX5_sortGoing 51 = .ok (.iconst 1, 1) := by decide +kernel
theorem dX5_sortGoing_52 : decode cX5_sortGoing 52 = .ok (.isub, 1) := by decide +kernel
theorem dX5_sortGoing_53 : decode cX5_sortGoing 53 = .ok (.iaload, 1) := by decide +kernel
theorem dX5_sortGoing_54 : decode cX5_sortGoing 54 = .ok (.iastore, 1) := by decide +kernel
theorem dX5_sortGoing_55 : decode cX5_sortGoing 55 = .ok (.iinc 4 (-1), 3) := by decide +kernel
theorem dX5_sortGoing_58 : decode cX5_sortGoing 58 = .ok (.goto (-41), 3) := by decide +kernel
theorem dX5_sortGoing_61 : decode cX5_sortGoing 61 = .ok (.aload_n 0, 1) := by decide +kernel
theorem dX5_sortGoing_62 : decode cX5_sortGoing 62 = .ok (.getfield 45, 3) := by decide +kernel
theorem dX5_sortGoing_65 : decode cX5_sortGoing 65 = .ok (.iload 4, 2) := by decide +kernel
theorem dX5_sortGoing_67 : decode cX5_sortGoing 67 = .ok (.iload_n 3, 1) := by decide +kernel
theorem dX5_sortGoing_68 : decode cX5_sortGoing 68 = .ok (.iastore, 1) := by decide +kernel
theorem dX5_sortGoing_69 : decode cX5_sortGoing 69 = .ok (.iinc 2 1, 3) := by decide +kernel
theorem dX5_sortGoing_72 : decode cX5_sortGoing 72 = .ok (.goto (-70), 3) := by decide +kernel
theorem dX5_sortGoing_75 : decode cX5_sortGoing 75 = .ok (.return_, 1) := by decide +kernel
set_option maxRecDepth 20000 in
theorem ggX5_gather_X5_isDesk : GoodIn wsX5_gather wsX5_isDesk := goodIn_r _ [9, 10, 11, 12, 8, 13] (by decide +kernel) (by decide +kernel)
set_option maxRecDepth 20000 in
theorem gX5_gather_X5_isDesk : GoodIn wsX5_gather (va_wsS RX5 125 yX5_isDesk wsX5_isDesk) := goodIn_app (goodIn_of _ (by decide +kernel)) ggX5_gather_X5_isDesk
set_option maxRecDepth 20000 in
theorem ggX5_gather_X5_refuse : GoodIn wsX5_gather wsX5_refuse := goodIn_r _ [17, 18, 72, 73, 74, 75, 76, 77, 78, 79, 80, 81, 82, 83, 84, 85, 86, 87, 88, 89, 90, 91, 92, 93, 94, 95, 96, 97, 98] (by decide +kernel) (by decide +kernel)
set_option maxRecDepth 20000 in
theorem gX5_gather_X5_refuse : GoodIn wsX5_gather (wsV RX5 135 RX5 yX5_refuse wsX5_refuse) := goodIn_app (goodIn_of _ (by decide +kernel)) ggX5_gather_X5_refuse
set_option maxRecDepth 20000 in
theorem ggX5_gather_X5_gatherTrees : GoodIn wsX5_gather wsX5_gatherTrees := goodIn_r _ [22, 2, 4, 23, 24, 25, 8, 26, 27, 5, 3, 28, 29, 30, 31, 32, 33, 34, 35, 36, 37, 38, 39, 40, 41, 42, 43, 44, 45, 46, 47, 48, 49, 50, 51, 72, 73, 74, 75, 76, 77, 78, 79, 80, 81, 82, 83, 84, 85, 86, 87, 88, 89, 90, 91, 92, 93, 94, 95, 96, 97, 98] (by decide +kernel) (by decide +kernel)
set_option maxRecDepth 20000 in
theorem gX5_gather_X5_gatherTrees : GoodIn wsX5_gather (wsV RX5 184 RX5 yX5_gatherTrees wsX5_gatherTrees) := goodIn_app (goodIn_of _ (by decide +kernel)) ggX5_gather_X5_gatherTrees
set_option maxRecDepth 20000 in
theorem ggX5_gather_X5_moveAll : GoodIn wsX5_gather wsX5_moveAll := goodIn_r _ [55, 3, 37, 38, 8, 39, 72, 73, 74, 75, 76, 77, 78, 79, 80, 81, 82, 83, 84, 85, 86, 87, 88, 89, 90, 91, 92, 93, 94, 95, 96, 97, 98] (by decide +kernel) (by decide +kernel)
set_option maxRecDepth 20000 in
theorem gX5_gather_X5_moveAll : GoodIn wsX5_gather (wsV RX5 173 RX5 yX5_moveAll wsX5_moveAll) := goodIn_app (goodIn_of _ (by decide +kernel)) ggX5_gather_X5_moveAll
set_option maxRecDepth 20000 in
theorem ggX5_gather_X5_sweep : GoodIn wsX5_gather wsX5_sweep := goodIn_r _ [59, 3, 37, 38, 8, 39, 60, 61, 62, 63, 64, 65, 66, 67, 33, 34, 35, 36, 23, 24, 25, 26, 27, 5, 28, 29, 30, 31, 32, 40, 41, 42, 43, 44, 45, 46, 47, 48, 49, 50, 51, 68, 69, 70, 71, 72, 73, 74, 75, 76, 77, 78, 79, 80, 81, 82, 83, 84, 85, 86, 87, 88, 89, 90, 91, 92, 93, 94, 95, 96, 97, 98] (by decide +kernel) (by decide +kernel)
set_option maxRecDepth 20000 in
theorem gX5_gather_X5_sweep : GoodIn wsX5_gather (wsV RX5 141 RX5 yX5_sweep wsX5_sweep) := goodIn_app (goodIn_of _ (by decide +kernel)) ggX5_gather_X5_sweep
theorem dX5_gather_0 : decode cX5_gather 0 = .ok (.aload_n 0, 1) := by decide +kernel
theorem dX5_gather_1 : decode cX5_gather 1 = .ok (.iconst 0, 1) := by decide +kernel
theorem dX5_gather_2 : decode cX5_gather 2 = .ok (.putfield 63, 3) := by decide +kernel
theorem dX5_gather_5 : decode cX5_gather 5 = .ok (.iload_n 1, 1) := by decide +kernel
theorem dX5_gather_6 : decode cX5_gather 6 = .ok (.invokestatic 125, 3) := by decide +kernel
theorem dX5_gather_9 : decode cX5_gather 9 = .ok (.ifCond .ne 9, 3) := by decide +kernel
theorem dX5_gather_12 : decode cX5_gather 12 = .ok (.aload_n 0, 1) := by decide +kernel
theorem dX5_gather_13 : decode cX5_gather 13 = .ok (.iconst (-1), 1) := by decide +kernel
theorem dX5_gather_14 : decode cX5_gather 14 = .ok (.invokevirtual 135, 3) := by decide +kernel
theorem dX5_gather_17 : decode cX5_gather 17 = .ok (.ireturn, 1) := by decide +kernel
theorem dX5_gather_18 : decode cX5_gather 18 = .ok (.aload_n 0, 1) := by decide +kernel
theorem dX5_gather_19 : decode cX5_gather 19 = .ok (.iconst 0, 1) := by decide +kernel
theorem dX5_gather_20 : decode cX5_gather 20 = .ok (.putfield 181, 3) := by decide +kernel
theorem dX5_gather_23 : decode cX5_gather 23 = .ok (.iconst 0, 1) := by decide +kernel
theorem dX5_gather_24 : decode cX5_gather 24 = .ok (.istore_n 2, 1) := by decide +kernel
theorem dX5_gather_25 : decode cX5_gather 25 = .ok (.iload_n 2, 1) := by decide +kernel
theorem dX5_gather_26 : decode cX5_gather 26 = .ok (.bipush 6, 2) := by decide +kernel
theorem dX5_gather_28 : decode cX5_gather 28 = .ok (.if_icmp .ge 48, 3) := by decide +kernel
theorem dX5_gather_31 : decode cX5_gather 31 = .ok (.aload_n 0, 1) := by decide +kernel
theorem dX5_gather_32 : decode cX5_gather 32 = .ok (.getfield 13, 3) := by decide +kernel
theorem dX5_gather_35 : decode cX5_gather 35 = .ok (.iconst 4, 1) := by decide +kernel
theorem dX5_gather_36 : decode cX5_gather 36 = .ok (.iload_n 2, 1) := by decide +kernel
theorem dX5_gather_37 : decode cX5_gather 37 = .ok (.iadd, 1) := by decide +kernel
theorem dX5_gather_38 : decode cX5_gather 38 = .ok (.iaload, 1) := by decide +kernel
theorem dX5_gather_39 : decode cX5_gather 39 = .ok (.iconst (-1), 1) := by decide +kernel
theorem dX5_gather_40 : decode cX5_gather 40 = .ok (.if_icmp .eq 30, 3) := by decide +kernel
theorem dX5_gather_43 : decode cX5_gather 43 = .ok (.aload_n 0, 1) := by decide +kernel
theorem dX5_gather_44 : decode cX5_gather 44 = .ok (.getfield 39, 3) := by decide +kernel
theorem dX5_gather_47 : decode cX5_gather 47 = .ok (.aload_n 0, 1) := by decide +kernel
theorem dX5_gather_48 : decode cX5_gather 48 = .ok (.getfield 181, 3) := by decide +kernel
theorem dX5_gather_51 : decode cX5_gather 51 = .ok (.aload_n 0, 1) := by decide +kernel
theorem dX5_gather_52 : decode cX5_gather 52 = .ok (.getfield 13, 3) := by decide +kernel
theorem dX5_gather_55 : decode cX5_gather 55 = .ok (.iconst 4, 1) := by decide +kernel
theorem dX5_gather_56 : decode cX5_gather 56 = .ok (.iload_n 2, 1) := by decide +kernel
theorem dX5_gather_57 : decode cX5_gather 57 = .ok (.iadd, 1) := by decide +kernel
theorem dX5_gather_58 : decode cX5_gather 58 = .ok (.iaload, 1) := by decide +kernel
theorem dX5_gather_59 : decode cX5_gather 59 = .ok (.iastore, 1) := by decide +kernel
theorem dX5_gather_60 : decode cX5_gather 60 = .ok (.aload_n 0, 1) := by decide +kernel
theorem dX5_gather_61 : decode cX5_gather 61 = .ok (.dup, 1) := by decide +kernel
theorem dX5_gather_62 : decode cX5_gather 62 = .ok (.getfield 181, 3) := by decide +kernel
theorem dX5_gather_65 : decode cX5_gather 65 = .ok (.iconst 1, 1) := by decide +kernel
theorem dX5_gather_66 : decode cX5_gather 66 = .ok (.iadd, 1) := by decide +kernel
theorem dX5_gather_67 : decode cX5_gather 67 = .ok (.putfield 181, 3) := by decide +kernel
theorem dX5_gather_70 : decode cX5_gather 70 = .ok (.iinc 2 1, 3) := by decide +kernel
theorem dX5_gather_73 : decode cX5_gather 73 = .ok (.goto (-48), 3) := by decide +kernel
theorem dX5_gather_76 : decode cX5_gather 76 = .ok (.aload_n 0, 1) := by decide +kernel
theorem dX5_gather_77 : decode cX5_gather 77 = .ok (.getfield 181, 3) := by decide +kernel
theorem dX5_gather_80 : decode cX5_gather 80 = .ok (.ifCond .ne 10, 3) := by decide +kernel
theorem dX5_gather_83 : decode cX5_gather 83 = .ok (.aload_n 0, 1) := by decide +kernel
theorem dX5_gather_84 : decode cX5_gather 84 = .ok (.bipush (-3), 2) := by decide +kernel
theorem dX5_gather_86 : decode cX5_gather 86 = .ok (.invokevirtual 135, 3) := by decide +kernel
theorem dX5_gather_89 : decode cX5_gather 89 = .ok (.ireturn, 1) := by decide +kernel
theorem dX5_gather_90 : decode cX5_gather 90 = .ok (.aload_n 0, 1) := by decide +kernel
theorem dX5_gather_91 : decode cX5_gather 91 = .ok (.getfield 71, 3) := by decide +kernel
theorem dX5_gather_94 : decode cX5_gather 94 = .ok (.istore_n 2, 1) := by decide +kernel
theorem dX5_gather_95 : decode cX5_gather 95 = .ok (.aload_n 0, 1) := by decide +kernel
theorem dX5_gather_96 : decode cX5_gather 96 = .ok (.invokevirtual 184, 3) := by decide +kernel
theorem dX5_gather_99 : decode cX5_gather 99 = .ok (.istore_n 3, 1) := by decide +kernel
theorem dX5_gather_100 : decode cX5_gather 100 = .ok (.iconst 0, 1) := by decide +kernel
theorem dX5_gather_101 : decode cX5_gather 101 = .ok (.istore 4, 2) := by decide +kernel
theorem dX5_gather_103 : decode cX5_gather 103 = .ok (.iload 4, 2) := by decide +kernel
theorem dX5_gather_105 : decode cX5_gather 105 = .ok (.bipush 6, 2) := by decide +kernel
theorem dX5_gather_107 : decode cX5_gather 107 = .ok (.if_icmp .ge 26, 3) := by decide +kernel
theorem dX5_gather_110 : decode cX5_gather 110 = .ok (.aload_n 0, 1) := by decide +kernel
theorem dX5_gather_111 : decode cX5_gather 111 = .ok (.getfield 13, 3) := by decide +kernel
theorem dX5_gather_114 : decode cX5_gather 114 = .ok (.iconst 4, 1) := by decide +kernel
theorem dX5_gather_115 : decode cX5_gather 115 = .ok (.iload 4, 2) := by decide +kernel
theorem dX5_gather_117 : decode cX5_gather 117 = .ok (.iadd, 1) := by decide +kernel
theorem dX5_gather_118 : decode cX5_gather 118 = .ok (.iconst (-1), 1) := by decide +kernel
theorem dX5_gather_119 : decode cX5_gather 119 = .ok (.iastore, 1) := by decide +kernel
theorem dX5_gather_120 : decode cX5_gather 120 = .ok (.aload_n 0, 1) := by decide +kernel
theorem dX5_gather_121 : decode cX5_gather 121 = .ok (.iload 4, 2) := by decide +kernel
theorem dX5_gather_123 : decode cX5_gather 123 = .ok (.iload_n 1, 1) := by decide +kernel
theorem dX5_gather_124 : decode cX5_gather 124 = .ok (.invokevirtual 173, 3) := by decide +kernel
theorem dX5_gather_127 : decode cX5_gather 127 = .ok (.iinc 4 1, 3) := by decide +kernel
theorem dX5_gather_130 : decode cX5_gather 130 = .ok (.goto (-27), 3) := by decide +kernel
theorem dX5_gather_133 : decode cX5_gather 133 = .ok (.aload_n 0, 1) := by decide +kernel
theorem dX5_gather_134 : decode cX5_gather 134 = .ok (.getfield 13, 3) := by decide +kernel
theorem dX5_gather_137 : decode cX5_gather 137 = .ok (.iconst 4, 1) := by decide +kernel
theorem dX5_gather_138 : decode cX5_gather 138 = .ok (.iload_n 1, 1) := by decide +kernel
theorem dX5_gather_139 : decode cX5_gather 139 = .ok (.iadd, 1) := by decide +kernel
theorem dX5_gather_140 : decode cX5_gather 140 = .ok (.iload_n 3, 1) := by decide +kernel
theorem dX5_gather_141 : decode cX5_gather 141 = .ok (.iastore, 1) := by decide +kernel
theorem dX5_gather_142 : decode cX5_gather 142 = .ok (.aload_n 0, 1) := by decide +kernel
theorem dX5_gather_143 : decode cX5_gather 143 = .ok (.getfield 71, 3) := by decide +kernel
theorem dX5_gather_146 : decode cX5_gather 146 = .ok (.iload_n 2, 1) := by decide +kernel
theorem dX5_gather_147 : decode cX5_gather 147 = .ok (.isub, 1) := by decide +kernel
theorem dX5_gather_148 : decode cX5_gather 148 = .ok (.istore 4, 2) := by decide +kernel
theorem dX5_gather_150 : decode cX5_gather 150 = .ok (.aload_n 0, 1) := by decide +kernel
theorem dX5_gather_151 : decode cX5_gather 151 = .ok (.invokevirtual 141, 3) := by decide +kernel
theorem dX5_gather_154 : decode cX5_gather 154 = .ok (.iload 4, 2) := by decide +kernel
theorem dX5_gather_156 : decode cX5_gather 156 = .ok (.ireturn, 1) := by decide +kernel
set_option maxRecDepth 20000 in
theorem ggX5_even_X5_many : GoodIn wsX5_even wsX5_many := goodIn_r _ [6, 7, 8, 9, 5, 10, 66, 67, 68, 69, 70, 71, 72, 73, 74, 75, 76, 77, 78, 79, 80, 81, 82, 83, 84, 85, 86, 87, 88, 89, 90, 91, 92] (by decide +kernel) (by decide +kernel)
set_option maxRecDepth 20000 in
theorem gX5_even_X5_many : GoodIn wsX5_even (wsV RX5 156 RX5 yX5_many wsX5_many) := goodIn_app (goodIn_of _ (by decide +kernel)) ggX5_even_X5_many
set_option maxRecDepth 20000 in
theorem ggX5_even_X5_partOne : GoodIn wsX5_even wsX5_partOne := goodIn_r _ [14, 7, 15, 16, 17, 5, 18, 19, 20, 21, 22, 8, 9, 10, 23, 24, 25, 26, 27, 28, 29, 30, 31, 32, 33, 34, 35, 36, 37, 38, 39, 40, 41, 42, 43, 44, 45, 46, 47, 48, 49, 50, 51, 52, 53, 54, 55, 56, 57, 58, 59, 60, 61, 62, 63, 64, 65, 66, 67, 68, 69, 70, 71, 72, 73, 74, 75, 76, 77, 78, 79, 80, 81, 82, 83, 84, 85, 86, 87, 88, 89, 90, 91, 92] (by decide +kernel) (by decide +kernel)
set_option maxRecDepth 20000 in
theorem gX5_even_X5_partOne : GoodIn wsX5_even (wsV RX5 178 RX5 yX5_partOne wsX5_partOne) := goodIn_app (goodIn_of _ (by decide +kernel)) ggX5_even_X5_partOne
theorem dX5_even_0 : decode cX5_even 0 = .ok (.aload_n 0, 1) := by decide +kernel
theorem dX5_even_1 : decode cX5_even 1 = .ok (.iconst 0, 1) := by decide +kernel
theorem dX5_even_2 : decode cX5_even 2 = .ok (.putfield 63, 3) := by decide +kernel
theorem dX5_even_5 : decode cX5_even 5 = .ok (.iconst 0, 1) := by decide +kernel
theorem dX5_even_6 : decode cX5_even 6 = .ok (.istore_n 1, 1) := by decide +kernel
theorem dX5_even_7 : decode cX5_even 7 = .ok (.iconst 0, 1) := by decide +kernel
theorem dX5_even_8 : decode cX5_even 8 = .ok (.istore_n 2, 1) := by decide +kernel
theorem dX5_even_9 : decode cX5_even 9 = .ok (.iconst 0, 1) := by decide +kernel
theorem dX5_even_10 : decode cX5_even 10 = .ok (.istore_n 3, 1) := by decide +kernel
theorem dX5_even_11 : decode cX5_even 11 = .ok (.iconst 1, 1) := by decide +kernel
theorem dX5_even_12 : decode cX5_even 12 = .ok (.istore 4, 2) := by decide +kernel
theorem dX5_even_14 : decode cX5_even 14 = .ok (.iload 4, 2) := by decide +kernel
theorem dX5_even_16 : decode cX5_even 16 = .ok (.bipush 6, 2) := by decide +kernel
theorem dX5_even_18 : decode cX5_even 18 = .ok (.if_icmp .ge 55, 3) := by decide +kernel
theorem dX5_even_21 : decode cX5_even 21 = .ok (.aload_n 0, 1) := by decide +kernel
theorem dX5_even_22 : decode cX5_even 22 = .ok (.iload 4, 2) := by decide +kernel
theorem dX5_even_24 : decode cX5_even 24 = .ok (.iconst 0, 1) := by decide +kernel
theorem dX5_even_25 : decode cX5_even 25 = .ok (.invokevirtual 156, 3) := by decide +kernel
theorem dX5_even_28 : decode cX5_even 28 = .ok (.aload_n 0, 1) := by decide +kernel
theorem dX5_even_29 : decode cX5_even 29 = .ok (.iload_n 2, 1) := by decide +kernel
theorem dX5_even_30 : decode cX5_even 30 = .ok (.iconst 0, 1) := by decide +kernel
theorem dX5_even_31 : decode cX5_even 31 = .ok (.invokevirtual 156, 3) := by decide +kernel
theorem dX5_even_34 : decode cX5_even 34 = .ok (.if_icmp .le 8, 3) := by decide +kernel
theorem dX5_even_37 : decode cX5_even 37 = .ok (.iload 4, 2) := by decide +kernel
theorem dX5_even_39 : decode cX5_even 39 = .ok (.goto 4, 3) := by decide +kernel
theorem dX5_even_42 : decode cX5_even 42 = .ok (.iload_n 2, 1) := by decide +kernel
theorem dX5_even_43 : decode cX5_even 43 = .ok (.istore_n 2, 1) := by decide +kernel
theorem dX5_even_44 : decode cX5_even 44 = .ok (.aload_n 0, 1) := by decide +kernel
theorem dX5_even_45 : decode cX5_even 45 = .ok (.iload 4, 2) := by decide +kernel
theorem dX5_even_47 : decode cX5_even 47 = .ok (.iconst 0, 1) := by decide +kernel
theorem dX5_even_48 : decode cX5_even 48 = .ok (.invokevirtual 156, 3) := by decide +kernel
theorem dX5_even_51 : decode cX5_even 51 = .ok (.aload_n 0, 1) := by decide +kernel
theorem dX5_even_52 : decode cX5_even 52 = .ok (.iload_n 3, 1) := by decide +kernel
theorem dX5_even_53 : decode cX5_even 53 = .ok (.iconst 0, 1) := by decide +kernel
theorem dX5_even_54 : decode cX5_even 54 = .ok (.invokevirtual 156, 3) := by decide +kernel
theorem dX5_even_57 : decode cX5_even 57 = .ok (.if_icmp .ge 8, 3) := by decide +kernel
theorem dX5_even_60 : decode cX5_even 60 = .ok (.iload 4, 2) := by decide +kernel
theorem dX5_even_62 : decode cX5_even 62 = .ok (.goto 4, 3) := by decide +kernel
theorem dX5_even_65 : decode cX5_even 65 = .ok (.iload_n 3, 1) := by decide +kernel
theorem dX5_even_66 : decode cX5_even 66 = .ok (.istore_n 3, 1) := by decide +kernel
theorem dX5_even_67 : decode cX5_even 67 = .ok (.iinc 4 1, 3) := by decide +kernel
theorem dX5_even_70 : decode cX5_even 70 = .ok (.goto (-56), 3) := by decide +kernel
theorem dX5_even_73 : decode cX5_even 73 = .ok (.aload_n 0, 1) := by decide +kernel
theorem dX5_even_74 : decode cX5_even 74 = .ok (.iload_n 2, 1) := by decide +kernel
theorem dX5_even_75 : decode cX5_even 75 = .ok (.iconst 0, 1) := by decide +kernel
theorem dX5_even_76 : decode cX5_even 76 = .ok (.invokevirtual 156, 3) := by decide +kernel
theorem dX5_even_79 : decode cX5_even 79 = .ok (.aload_n 0, 1) := by decide +kernel
theorem dX5_even_80 : decode cX5_even 80 = .ok (.iload_n 3, 1) := by decide +kernel
theorem dX5_even_81 : decode cX5_even 81 = .ok (.iconst 0, 1) := by decide +kernel
theorem dX5_even_82 : decode cX5_even 82 = .ok (.invokevirtual 156, 3) := by decide +kernel
theorem dX5_even_85 : decode cX5_even 85 = .ok (.isub, 1) := by decide +kernel
theorem dX5_even_86 : decode cX5_even 86 = .ok (.iconst 2, 1) := by decide +kernel
theorem dX5_even_87 : decode cX5_even 87 = .ok (.if_icmp .ge 5, 3) := by decide +kernel
theorem dX5_even_90 : decode cX5_even 90 = .ok (.iload_n 1, 1) := by decide +kernel
theorem dX5_even_91 : decode cX5_even 91 = .ok (.ireturn, 1) := by decide +kernel
theorem dX5_even_92 : decode cX5_even 92 = .ok (.aload_n 0, 1) := by decide +kernel
theorem dX5_even_93 : decode cX5_even 93 = .ok (.iload_n 2, 1) := by decide +kernel
theorem dX5_even_94 : decode cX5_even 94 = .ok (.iload_n 3, 1) := by decide +kernel
theorem dX5_even_95 : decode cX5_even 95 = .ok (.invokevirtual 178, 3) := by decide +kernel
theorem dX5_even_98 : decode cX5_even 98 = .ok (.pop, 1) := by decide +kernel
theorem dX5_even_99 : decode cX5_even 99 = .ok (.iinc 1 1, 3) := by decide +kernel
theorem dX5_even_102 : decode cX5_even 102 = .ok (.goto (-95), 3) := by decide +kernel
set_option maxRecDepth 20000 in
theorem ggX5_isArc_X5_in : GoodIn wsX5_isArc wsX5_in := goodIn_r _ [6] (by decide +kernel) (by decide +kernel)
set_option maxRecDepth 20000 in
theorem gX5_isArc_X5_in : GoodIn wsX5_isArc (va_wsS RX5 77 yX5_in wsX5_in) := goodIn_app (goodIn_of _ (by decide +kernel)) ggX5_isArc_X5_in
theorem dX5_isArc_0 : decode cX5_isArc 0 = .ok (.iload_n 1, 1) := by decide +kernel
theorem dX5_isArc_1 : decode cX5_isArc 1 = .ok (.i2l, 1) := by decide +kernel
theorem dX5_isArc_2 : decode cX5_isArc 2 = .ok (.lconst 0, 1) := by decide +kernel
theorem dX5_isArc_3 : decode cX5_isArc 3 = .ok (.ldc2_w 190, 3) := by decide +kernel
theorem dX5_isArc_6 : decode cX5_isArc 6 = .ok (.invokestatic 77, 3) := by decide +kernel
theorem dX5_isArc_9 : decode cX5_isArc 9 = .ok (.ifCond .eq 22, 3) := by decide +kernel
theorem dX5_isArc_12 : decode cX5_isArc 12 = .ok (.aload_n 0, 1) := by decide +kernel
theorem dX5_isArc_13 : decode cX5_isArc 13 = .ok (.getfield 13, 3) := by decide +kernel
theorem dX5_isArc_16 : decode cX5_isArc 16 = .ok (.bipush 10, 2) := by decide +kernel
theorem dX5_isArc_18 : decode cX5_isArc 18 = .ok (.iconst 3, 1) := by decide +kernel
theorem dX5_isArc_19 : decode cX5_isArc 19 = .ok (.iload_n 1, 1) := by decide +kernel
theorem dX5_isArc_20 : decode cX5_isArc 20 = .ok (.imul, 1) := by decide +kernel
theorem dX5_isArc_21 : decode cX5_isArc 21 = .ok (.iadd, 1) := by decide +kernel
theorem dX5_isArc_22 : decode cX5_isArc 22 = .ok (.iaload, 1) := by decide +kernel
theorem dX5_isArc_23 : decode cX5_isArc 23 = .ok (.iconst (-1), 1) := by decide +kernel
theorem dX5_isArc_24 : decode cX5_isArc 24 = .ok (.if_icmp .eq 7, 3) := by decide +kernel
theorem dX5_isArc_27 : decode cX5_isArc 27 = .ok (.iconst 1, 1) := by decide +kernel
theorem dX5_isArc_28 : decode cX5_isArc 28 = .ok (.goto 4, 3) := by decide +kernel
theorem dX5_isArc_31 : decode cX5_isArc 31 = .ok (.iconst 0, 1) := by decide +kernel
theorem dX5_isArc_32 : decode cX5_isArc 32 = .ok (.ireturn, 1) := by decide +kernel
set_option maxRecDepth 20000 in
theorem ggX5_isPlace_X5_in : GoodIn wsX5_isPlace wsX5_in := goodIn_r _ [5] (by decide +kernel) (by decide +kernel)
set_option maxRecDepth 20000 in
theorem gX5_isPlace_X5_in : GoodIn wsX5_isPlace (va_wsS RX5 77 yX5_in wsX5_in) := goodIn_app (goodIn_of _ (by decide +kernel)) ggX5_isPlace_X5_in
theorem dX5_isPlace_0 : decode cX5_isPlace 0 = .ok (.iload_n 0, 1) := by decide +kernel
theorem dX5_isPlace_1 : decode cX5_isPlace 1 = .ok (.i2l, 1) := by decide +kernel
theorem dX5_isPlace_2 : decode cX5_isPlace 2 = .ok (.lconst 0, 1) := by decide +kernel
theorem dX5_isPlace_3 : decode cX5_isPlace 3 = .ok (.ldc2_w 192, 3) := by decide +kernel
theorem dX5_isPlace_6 : decode cX5_isPlace 6 = .ok (.invokestatic 77, 3) := by decide +kernel
theorem dX5_isPlace_9 : decode cX5_isPlace 9 = .ok (.ireturn, 1) := by decide +kernel
set_option maxRecDepth 20000 in
theorem ggX5_arc_X5_isPlace : GoodIn wsX5_arc wsX5_isPlace := goodIn_r _ [7, 8, 9, 10, 6, 11] (by decide +kernel) (by decide +kernel)
set_option maxRecDepth 20000 in
theorem gX5_arc_X5_isPlace : GoodIn wsX5_arc (va_wsS RX5 194 yX5_isPlace wsX5_isPlace) := goodIn_app (goodIn_of _ (by decide +kernel)) ggX5_arc_X5_isPlace
set_option maxRecDepth 20000 in
theorem ggX5_arc_X5_in : GoodIn wsX5_arc wsX5_in := goodIn_r _ [11] (by decide +kernel) (by decide +kernel)
set_option maxRecDepth 20000 in
theorem gX5_arc_X5_in : GoodIn wsX5_arc (va_wsS RX5 77 yX5_in wsX5_in) := goodIn_app (goodIn_of _ (by decide +kernel)) ggX5_arc_X5_in
set_option maxRecDepth 20000 in
theorem ggX5_arc_X5_refuse : GoodIn wsX5_arc wsX5_refuse := goodIn_r _ [15, 16, 22, 23, 24, 25, 26, 27, 28, 29, 30, 31, 32, 33, 34, 35, 36, 37, 38, 39, 40, 41, 42, 43, 44, 45, 46, 47, 48] (by decide +kernel) (by decide +kernel)
set_option maxRecDepth 20000 in
theorem gX5_arc_X5_refuse : GoodIn wsX5_arc (wsV RX5 135 RX5 yX5_refuse wsX5_refuse) := goodIn_app (goodIn_of _ (by decide +kernel)) ggX5_arc_X5_refuse
set_option maxRecDepth 20000 in
theorem ggX5_arc_X5_isArc : GoodIn wsX5_arc wsX5_isArc := goodIn_r _ [20, 21, 3, 9, 10, 6, 11, 22, 23, 24, 25, 26, 27, 28, 29, 30, 31, 32, 33, 34, 35, 36, 37, 38, 39, 40, 41, 42, 43, 44, 45, 46, 47, 48] (by decide +kernel) (by decide +kernel)
set_option maxRecDepth 20000 in
theorem gX5_arc_X5_isArc : GoodIn wsX5_arc (wsV RX5 197 RX5 yX5_isArc wsX5_isArc) := goodIn_app (goodIn_of _ (by decide +kernel)) ggX5_arc_X5_isArc
theorem dX5_arc_0 : decode cX5_arc 0 = .ok (.aload_n 0, 1) := by decide +kernel
theorem dX5_arc_1 : decode cX5_arc 1 = .ok (.iconst 0, 1) := by decide +kernel
theorem dX5_arc_2 : decode cX5_arc 2 = .ok (.putfield 63, 3) := by decide +kernel
theorem dX5_arc_5 : decode cX5_arc 5 = .ok (.iload_n 1, 1) := by decide +kernel
theorem dX5_arc_6 : decode cX5_arc 6 = .ok (.invokestatic 194, 3) := by decide +kernel
theorem dX5_arc_9 : decode cX5_arc 9 = .ok (.ifCond .eq 27, 3) := by decide +kernel
theorem dX5_arc_12 : decode cX5_arc 12 = .ok (.iload_n 2, 1) := by decide +kernel
theorem dX5_arc_13 : decode cX5_arc 13 = .ok (.invokestatic 194, 3) := by decide +kernel
theorem dX5_arc_16 : decode cX5_arc 16 = .ok (.ifCond .eq 20, 3) := by decide +kernel
theorem dX5_arc_19 : decode cX5_arc 19 = .ok (.iload_n 1, 1) := by decide +kernel
theorem dX5_arc_20 : decode cX5_arc 20 = .ok (.iload_n 2, 1) := by decide +kernel
theorem dX5_arc_21 : decode cX5_arc 21 = .ok (.if_icmp .eq 15, 3) := by decide +kernel
theorem dX5_arc_24 : decode cX5_arc 24 = .ok (.iload_n 3, 1) := by decide +kernel
theorem dX5_arc_25 : decode cX5_arc 25 = .ok (.i2l, 1) := by decide +kernel
theorem dX5_arc_26 : decode cX5_arc 26 = .ok (.lconst 0, 1) := by decide +kernel
theorem dX5_arc_27 : decode cX5_arc 27 = .ok (.ldc2_w 168, 3) := by decide +kernel
theorem dX5_arc_30 : decode cX5_arc 30 = .ok (.invokestatic 77, 3) := by decide +kernel
theorem dX5_arc_33 : decode cX5_arc 33 = .ok (.ifCond .ne 9, 3) := by decide +kernel
theorem dX5_arc_36 : decode cX5_arc 36 = .ok (.aload_n 0, 1) := by decide +kernel
theorem dX5_arc_37 : decode cX5_arc 37 = .ok (.iconst (-1), 1) := by decide +kernel
theorem dX5_arc_38 : decode cX5_arc 38 = .ok (.invokevirtual 135, 3) := by decide +kernel
theorem dX5_arc_41 : decode cX5_arc 41 = .ok (.ireturn, 1) := by decide +kernel
theorem dX5_arc_42 : decode cX5_arc 42 = .ok (.iconst 0, 1) := by decide +kernel
theorem dX5_arc_43 : decode cX5_arc 43 = .ok (.istore 4, 2) := by decide +kernel
theorem dX5_arc_45 : decode cX5_arc 45 = .ok (.iload 4, 2) := by decide +kernel
theorem dX5_arc_47 : decode cX5_arc 47 = .ok (.bipush 20, 2) := by decide +kernel
theorem dX5_arc_49 : decode cX5_arc 49 = .ok (.if_icmp .ge 64, 3) := by decide +kernel
theorem dX5_arc_52 : decode cX5_arc 52 = .ok (.aload_n 0, 1) := by decide +kernel
theorem dX5_arc_53 : decode cX5_arc 53 = .ok (.iload 4, 2) := by decide +kernel
theorem dX5_arc_55 : decode cX5_arc 55 = .ok (.invokevirtual 197, 3) := by decide +kernel
theorem dX5_arc_58 : decode cX5_arc 58 = .ok (.ifCond .ne 49, 3) := by decide +kernel
theorem dX5_arc_61 : decode cX5_arc 61 = .ok (.aload_n 0, 1) := by decide +kernel
theorem dX5_arc_62 : decode cX5_arc 62 = .ok (.getfield 13, 3) := by decide +kernel
theorem dX5_arc_65 : decode cX5_arc 65 = .ok (.bipush 10, 2) := by decide +kernel
theorem dX5_arc_67 : decode cX5_arc 67 = .ok (.iconst 3, 1) := by decide +kernel
theorem dX5_arc_68 : decode cX5_arc 68 = .ok (.iload 4, 2) := by decide +kernel
theorem dX5_arc_70 : decode cX5_arc 70 = .ok (.imul, 1) := by decide +kernel
theorem dX5_arc_71 : decode cX5_arc 71 = .ok (.iadd, 1) := by decide +kernel
theorem dX5_arc_72 : decode cX5_arc 72 = .ok (.iload_n 1, 1) := by decide +kernel
theorem dX5_arc_73 : decode cX5_arc 73 = .ok (.iastore, 1) := by decide +kernel
theorem dX5_arc_74 : decode cX5_arc 74 = .ok (.aload_n 0, 1) := by decide +kernel
theorem dX5_arc_75 : decode cX5_arc 75 = .ok (.getfield 13, 3) := by decide +kernel
theorem dX5_arc_78 : decode cX5_arc 78 = .ok (.bipush 10, 2) := by decide +kernel
theorem dX5_arc_80 : decode cX5_arc 80 = .ok (.iconst 3, 1) := by decide +kernel
