theorem dX5_areTwo_4 : decode cX5_areTwo 4 = .ok (.ifCond .eq 19, 3) := by decide +kernel
theorem dX5_areTwo_7 : decode cX5_areTwo 7 = .ok (.iload_n 1, 1) := by decide +kernel
theorem dX5_areTwo_8 : decode cX5_areTwo 8 = .ok (.invokestatic 125, 3) := by decide +kernel
theorem dX5_areTwo_11 : decode cX5_areTwo 11 = .ok (.ifCond .eq 12, 3) := by decide +kernel
theorem dX5_areTwo_14 : decode cX5_areTwo 14 = .ok (.iload_n 0, 1) := by decide +kernel
theorem dX5_areTwo_15 : decode cX5_areTwo 15 = .ok (.iload_n 1, 1) := by decide +kernel
theorem dX5_areTwo_16 : decode cX5_areTwo 16 = .ok (.if_icmp .eq 7, 3) := by decide +kernel
theorem dX5_areTwo_19 : decode cX5_areTwo 19 = .ok (.iconst 1, 1) := by decide +kernel
theorem dX5_areTwo_20 : decode cX5_areTwo 20 = .ok (.goto 4, 3) := by decide +kernel
theorem dX5_areTwo_23 : decode cX5_areTwo 23 = .ok (.iconst 0, 1) := by decide +kernel
theorem dX5_areTwo_24 : decode cX5_areTwo 24 = .ok (.ireturn, 1) := by decide +kernel
set_option maxRecDepth 20000 in
theorem ggX5_meld_X5_areTwo : GoodIn wsX5_meld wsX5_areTwo := goodIn_r _ [7, 8, 9, 6, 10, 11, 12, 13, 14] (by decide +kernel) (by decide +kernel)
set_option maxRecDepth 20000 in
theorem gX5_meld_X5_areTwo : GoodIn wsX5_meld (va_wsS RX5 170 yX5_areTwo wsX5_areTwo) := goodIn_app (goodIn_of _ (by decide +kernel)) ggX5_meld_X5_areTwo
set_option maxRecDepth 20000 in
theorem ggX5_meld_X5_refuse : GoodIn wsX5_meld wsX5_refuse := goodIn_r _ [18, 19, 69, 70, 71, 72, 73, 74, 75, 76, 77, 78, 79, 80, 81, 82, 83, 84, 85, 86, 87, 88, 89, 90, 91, 92, 93, 94, 95] (by decide +kernel) (by decide +kernel)
set_option maxRecDepth 20000 in
theorem gX5_meld_X5_refuse : GoodIn wsX5_meld (wsV RX5 135 RX5 yX5_refuse wsX5_refuse) := goodIn_app (goodIn_of _ (by decide +kernel)) ggX5_meld_X5_refuse
set_option maxRecDepth 20000 in
theorem ggX5_meld_X5_meldTrees : GoodIn wsX5_meld wsX5_meldTrees := goodIn_r _ [23, 24, 3, 2, 25, 26, 27, 6, 28, 29, 30, 31, 32, 33, 34, 35, 36, 37, 38, 39, 40, 41, 42, 43, 44, 45, 46, 47, 48, 69, 70, 71, 72, 73, 74, 75, 76, 77, 78, 79, 80, 81, 82, 83, 84, 85, 86, 87, 88, 89, 90, 91, 92, 93, 94, 95] (by decide +kernel) (by decide +kernel)
set_option maxRecDepth 20000 in
theorem gX5_meld_X5_meldTrees : GoodIn wsX5_meld (wsV RX5 108 RX5 yX5_meldTrees wsX5_meldTrees) := goodIn_app (goodIn_of _ (by decide +kernel)) ggX5_meld_X5_meldTrees
set_option maxRecDepth 20000 in
theorem ggX5_meld_X5_moveAll : GoodIn wsX5_meld wsX5_moveAll := goodIn_r _ [52, 2, 34, 35, 6, 36, 69, 70, 71, 72, 73, 74, 75, 76, 77, 78, 79, 80, 81, 82, 83, 84, 85, 86, 87, 88, 89, 90, 91, 92, 93, 94, 95] (by decide +kernel) (by decide +kernel)
set_option maxRecDepth 20000 in
theorem gX5_meld_X5_moveAll : GoodIn wsX5_meld (wsV RX5 173 RX5 yX5_moveAll wsX5_moveAll) := goodIn_app (goodIn_of _ (by decide +kernel)) ggX5_meld_X5_moveAll
set_option maxRecDepth 20000 in
theorem ggX5_meld_X5_sweep : GoodIn wsX5_meld wsX5_sweep := goodIn_r _ [56, 2, 34, 35, 6, 36, 57, 58, 59, 60, 61, 62, 63, 64, 30, 31, 32, 33, 20, 21, 22, 23, 24, 3, 25, 26, 27, 28, 29, 37, 38, 39, 40, 41, 42, 43, 44, 45, 46, 47, 48, 65, 66, 67, 68, 69, 70, 71, 72, 73, 74, 75, 76, 77, 78, 79, 80, 81, 82, 83, 84, 85, 86, 87, 88, 89, 90, 91, 92, 93, 94, 95] (by decide +kernel) (by decide +kernel)
set_option maxRecDepth 20000 in
theorem gX5_meld_X5_sweep : GoodIn wsX5_meld (wsV RX5 141 RX5 yX5_sweep wsX5_sweep) := goodIn_app (goodIn_of _ (by decide +kernel)) ggX5_meld_X5_sweep
theorem dX5_meld_0 : decode cX5_meld 0 = .ok (.aload_n 0, 1) := by decide +kernel
theorem dX5_meld_1 : decode cX5_meld 1 = .ok (.iconst 0, 1) := by decide +kernel
theorem dX5_meld_2 : decode cX5_meld 2 = .ok (.putfield 63, 3) := by decide +kernel
theorem dX5_meld_5 : decode cX5_meld 5 = .ok (.iload_n 1, 1) := by decide +kernel
theorem dX5_meld_6 : decode cX5_meld 6 = .ok (.iload_n 2, 1) := by decide +kernel
theorem dX5_meld_7 : decode cX5_meld 7 = .ok (.invokestatic 170, 3) := by decide +kernel
theorem dX5_meld_10 : decode cX5_meld 10 = .ok (.ifCond .ne 9, 3) := by decide +kernel
theorem dX5_meld_13 : decode cX5_meld 13 = .ok (.aload_n 0, 1) := by decide +kernel
theorem dX5_meld_14 : decode cX5_meld 14 = .ok (.iconst (-1), 1) := by decide +kernel
theorem dX5_meld_15 : decode cX5_meld 15 = .ok (.invokevirtual 135, 3) := by decide +kernel
theorem dX5_meld_18 : decode cX5_meld 18 = .ok (.ireturn, 1) := by decide +kernel
theorem dX5_meld_19 : decode cX5_meld 19 = .ok (.aload_n 0, 1) := by decide +kernel
theorem dX5_meld_20 : decode cX5_meld 20 = .ok (.getfield 13, 3) := by decide +kernel
theorem dX5_meld_23 : decode cX5_meld 23 = .ok (.iconst 4, 1) := by decide +kernel
theorem dX5_meld_24 : decode cX5_meld 24 = .ok (.iload_n 2, 1) := by decide +kernel
theorem dX5_meld_25 : decode cX5_meld 25 = .ok (.iadd, 1) := by decide +kernel
theorem dX5_meld_26 : decode cX5_meld 26 = .ok (.iaload, 1) := by decide +kernel
theorem dX5_meld_27 : decode cX5_meld 27 = .ok (.iconst (-1), 1) := by decide +kernel
theorem dX5_meld_28 : decode cX5_meld 28 = .ok (.if_icmp .ne 10, 3) := by decide +kernel
theorem dX5_meld_31 : decode cX5_meld 31 = .ok (.aload_n 0, 1) := by decide +kernel
theorem dX5_meld_32 : decode cX5_meld 32 = .ok (.bipush (-3), 2) := by decide +kernel
theorem dX5_meld_34 : decode cX5_meld 34 = .ok (.invokevirtual 135, 3) := by decide +kernel
theorem dX5_meld_37 : decode cX5_meld 37 = .ok (.ireturn, 1) := by decide +kernel
theorem dX5_meld_38 : decode cX5_meld 38 = .ok (.aload_n 0, 1) := by decide +kernel
theorem dX5_meld_39 : decode cX5_meld 39 = .ok (.getfield 71, 3) := by decide +kernel
theorem dX5_meld_42 : decode cX5_meld 42 = .ok (.istore_n 3, 1) := by decide +kernel
theorem dX5_meld_43 : decode cX5_meld 43 = .ok (.aload_n 0, 1) := by decide +kernel
theorem dX5_meld_44 : decode cX5_meld 44 = .ok (.getfield 13, 3) := by decide +kernel
theorem dX5_meld_47 : decode cX5_meld 47 = .ok (.iconst 4, 1) := by decide +kernel
theorem dX5_meld_48 : decode cX5_meld 48 = .ok (.iload_n 1, 1) := by decide +kernel
theorem dX5_meld_49 : decode cX5_meld 49 = .ok (.iadd, 1) := by decide +kernel
theorem dX5_meld_50 : decode cX5_meld 50 = .ok (.aload_n 0, 1) := by decide +kernel
theorem dX5_meld_51 : decode cX5_meld 51 = .ok (.aload_n 0, 1) := by decide +kernel
theorem dX5_meld_52 : decode cX5_meld 52 = .ok (.getfield 13, 3) := by decide +kernel
theorem dX5_meld_55 : decode cX5_meld 55 = .ok (.iconst 4, 1) := by decide +kernel
theorem dX5_meld_56 : decode cX5_meld 56 = .ok (.iload_n 1, 1) := by decide +kernel
theorem dX5_meld_57 : decode cX5_meld 57 = .ok (.iadd, 1) := by decide +kernel
theorem dX5_meld_58 : decode cX5_meld 58 = .ok (.iaload, 1) := by decide +kernel
theorem dX5_meld_59 : decode cX5_meld 59 = .ok (.aload_n 0, 1) := by decide +kernel
theorem dX5_meld_60 : decode cX5_meld 60 = .ok (.getfield 13, 3) := by decide +kernel
theorem dX5_meld_63 : decode cX5_meld 63 = .ok (.iconst 4, 1) := by decide +kernel
theorem dX5_meld_64 : decode cX5_meld 64 = .ok (.iload_n 2, 1) := by decide +kernel
theorem dX5_meld_65 : decode cX5_meld 65 = .ok (.iadd, 1) := by decide +kernel
theorem dX5_meld_66 : decode cX5_meld 66 = .ok (.iaload, 1) := by decide +kernel
theorem dX5_meld_67 : decode cX5_meld 67 = .ok (.invokevirtual 108, 3) := by decide +kernel
theorem dX5_meld_70 : decode cX5_meld 70 = .ok (.iastore, 1) := by decide +kernel
theorem dX5_meld_71 : decode cX5_meld 71 = .ok (.aload_n 0, 1) := by decide +kernel
theorem dX5_meld_72 : decode cX5_meld 72 = .ok (.getfield 13, 3) := by decide +kernel
theorem dX5_meld_75 : decode cX5_meld 75 = .ok (.iconst 4, 1) := by decide +kernel
theorem dX5_meld_76 : decode cX5_meld 76 = .ok (.iload_n 2, 1) := by decide +kernel
theorem dX5_meld_77 : decode cX5_meld 77 = .ok (.iadd, 1) := by decide +kernel
theorem dX5_meld_78 : decode cX5_meld 78 = .ok (.iconst (-1), 1) := by decide +kernel
theorem dX5_meld_79 : decode cX5_meld 79 = .ok (.iastore, 1) := by decide +kernel
theorem dX5_meld_80 : decode cX5_meld 80 = .ok (.aload_n 0, 1) := by decide +kernel
theorem dX5_meld_81 : decode cX5_meld 81 = .ok (.iload_n 2, 1) := by decide +kernel
theorem dX5_meld_82 : decode cX5_meld 82 = .ok (.iload_n 1, 1) := by decide +kernel
theorem dX5_meld_83 : decode cX5_meld 83 = .ok (.invokevirtual 173, 3) := by decide +kernel
theorem dX5_meld_86 : decode cX5_meld 86 = .ok (.aload_n 0, 1) := by decide +kernel
theorem dX5_meld_87 : decode cX5_meld 87 = .ok (.getfield 71, 3) := by decide +kernel
theorem dX5_meld_90 : decode cX5_meld 90 = .ok (.iload_n 3, 1) := by decide +kernel
theorem dX5_meld_91 : decode cX5_meld 91 = .ok (.isub, 1) := by decide +kernel
theorem dX5_meld_92 : decode cX5_meld 92 = .ok (.istore 4, 2) := by decide +kernel
theorem dX5_meld_94 : decode cX5_meld 94 = .ok (.aload_n 0, 1) := by decide +kernel
theorem dX5_meld_95 : decode cX5_meld 95 = .ok (.invokevirtual 141, 3) := by decide +kernel
theorem dX5_meld_98 : decode cX5_meld 98 = .ok (.iload 4, 2) := by decide +kernel
theorem dX5_meld_100 : decode cX5_meld 100 = .ok (.ireturn, 1) := by decide +kernel
set_option maxRecDepth 20000 in
theorem ggX5_partOne_X5_takeRoot : GoodIn wsX5_partOne wsX5_takeRoot := goodIn_r _ [6, 1, 7, 8, 9, 5, 10, 11, 12, 13, 14, 15, 16, 17, 18, 19, 20, 21, 22, 23, 24, 25, 26, 27, 28, 29, 30, 31, 32, 33, 34, 35, 36, 37, 38, 39, 40, 57, 58, 59, 60, 61, 62, 63, 64, 65, 66, 67, 68, 69, 70, 71, 72, 73, 74, 75, 76, 77, 78, 79, 80, 81, 82, 83] (by decide +kernel) (by decide +kernel)
set_option maxRecDepth 20000 in
theorem gX5_partOne_X5_takeRoot : GoodIn wsX5_partOne (wsV RX5 115 RX5 yX5_takeRoot wsX5_takeRoot) := goodIn_app (goodIn_of _ (by decide +kernel)) ggX5_partOne_X5_takeRoot
set_option maxRecDepth 20000 in
theorem ggX5_partOne_X5_at : GoodIn wsX5_partOne wsX5_at := goodIn_r _ [13] (by decide +kernel) (by decide +kernel)
set_option maxRecDepth 20000 in
theorem gX5_partOne_X5_at : GoodIn wsX5_partOne (va_wsS RX5 83 yX5_at wsX5_at) := goodIn_app (goodIn_of _ (by decide +kernel)) ggX5_partOne_X5_at
set_option maxRecDepth 20000 in
theorem ggX5_partOne_X5_sweep : GoodIn wsX5_partOne wsX5_sweep := goodIn_r _ [44, 1, 11, 12, 5, 13, 2, 3, 4, 6, 7, 8, 9, 10, 14, 15, 16, 17, 18, 19, 20, 21, 22, 23, 24, 25, 26, 27, 28, 29, 30, 31, 32, 33, 34, 35, 36, 37, 38, 39, 40, 45, 46, 47, 48, 57, 58, 59, 60, 61, 62, 63, 64, 65, 66, 67, 68, 69, 70, 71, 72, 73, 74, 75, 76, 77, 78, 79, 80, 81, 82, 83] (by decide +kernel) (by decide +kernel)
set_option maxRecDepth 20000 in
theorem gX5_partOne_X5_sweep : GoodIn wsX5_partOne (wsV RX5 141 RX5 yX5_sweep wsX5_sweep) := goodIn_app (goodIn_of _ (by decide +kernel)) ggX5_partOne_X5_sweep
set_option maxRecDepth 20000 in
theorem ggX5_partOne_X5_put : GoodIn wsX5_partOne wsX5_put := goodIn_r _ [52, 1, 53, 54, 55, 5, 56, 11, 12, 13, 18, 19, 20, 21, 22, 23, 24, 25, 26, 27, 28, 14, 15, 16, 17, 29, 30, 31, 32, 33, 34, 35, 36, 37, 38, 39, 40, 57, 58, 59, 60, 61, 62, 63, 64, 65, 66, 67, 68, 69, 70, 71, 72, 73, 74, 75, 76, 77, 78, 79, 80, 81, 82, 83] (by decide +kernel) (by decide +kernel)
set_option maxRecDepth 20000 in
theorem gX5_partOne_X5_put : GoodIn wsX5_partOne (wsV RX5 138 RX5 yX5_put wsX5_put) := goodIn_app (goodIn_of _ (by decide +kernel)) ggX5_partOne_X5_put
theorem dX5_partOne_0 : decode cX5_partOne 0 = .ok (.aload_n 0, 1) := by decide +kernel
theorem dX5_partOne_1 : decode cX5_partOne 1 = .ok (.iload_n 1, 1) := by decide +kernel
theorem dX5_partOne_2 : decode cX5_partOne 2 = .ok (.invokevirtual 115, 3) := by decide +kernel
theorem dX5_partOne_5 : decode cX5_partOne 5 = .ok (.istore_n 3, 1) := by decide +kernel
theorem dX5_partOne_6 : decode cX5_partOne 6 = .ok (.aload_n 0, 1) := by decide +kernel
theorem dX5_partOne_7 : decode cX5_partOne 7 = .ok (.getfield 13, 3) := by decide +kernel
theorem dX5_partOne_10 : decode cX5_partOne 10 = .ok (.iload_n 3, 1) := by decide +kernel
theorem dX5_partOne_11 : decode cX5_partOne 11 = .ok (.invokestatic 83, 3) := by decide +kernel
theorem dX5_partOne_14 : decode cX5_partOne 14 = .ok (.iconst 1, 1) := by decide +kernel
theorem dX5_partOne_15 : decode cX5_partOne 15 = .ok (.iadd, 1) := by decide +kernel
theorem dX5_partOne_16 : decode cX5_partOne 16 = .ok (.iconst (-1), 1) := by decide +kernel
theorem dX5_partOne_17 : decode cX5_partOne 17 = .ok (.iastore, 1) := by decide +kernel
theorem dX5_partOne_18 : decode cX5_partOne 18 = .ok (.aload_n 0, 1) := by decide +kernel
theorem dX5_partOne_19 : decode cX5_partOne 19 = .ok (.invokevirtual 141, 3) := by decide +kernel
theorem dX5_partOne_22 : decode cX5_partOne 22 = .ok (.aload_n 0, 1) := by decide +kernel
theorem dX5_partOne_23 : decode cX5_partOne 23 = .ok (.iload_n 3, 1) := by decide +kernel
theorem dX5_partOne_24 : decode cX5_partOne 24 = .ok (.iload_n 2, 1) := by decide +kernel
theorem dX5_partOne_25 : decode cX5_partOne 25 = .ok (.invokevirtual 138, 3) := by decide +kernel
theorem dX5_partOne_28 : decode cX5_partOne 28 = .ok (.aload_n 0, 1) := by decide +kernel
theorem dX5_partOne_29 : decode cX5_partOne 29 = .ok (.invokevirtual 141, 3) := by decide +kernel
theorem dX5_partOne_32 : decode cX5_partOne 32 = .ok (.iload_n 3, 1) := by decide +kernel
theorem dX5_partOne_33 : decode cX5_partOne 33 = .ok (.ireturn, 1) := by decide +kernel
set_option maxRecDepth 20000 in
theorem ggX5_part_X5_areTwo : GoodIn wsX5_part wsX5_areTwo := goodIn_r _ [6, 7, 8, 5, 9, 10, 11, 12, 13] (by decide +kernel) (by decide +kernel)
set_option maxRecDepth 20000 in
theorem gX5_part_X5_areTwo : GoodIn wsX5_part (va_wsS RX5 170 yX5_areTwo wsX5_areTwo) := goodIn_app (goodIn_of _ (by decide +kernel)) ggX5_part_X5_areTwo
set_option maxRecDepth 20000 in
theorem ggX5_part_X5_in : GoodIn wsX5_part wsX5_in := goodIn_r _ [13] (by decide +kernel) (by decide +kernel)
set_option maxRecDepth 20000 in
theorem gX5_part_X5_in : GoodIn wsX5_part (va_wsS RX5 77 yX5_in wsX5_in) := goodIn_app (goodIn_of _ (by decide +kernel)) ggX5_part_X5_in
set_option maxRecDepth 20000 in
theorem ggX5_part_X5_refuse : GoodIn wsX5_part wsX5_refuse := goodIn_r _ [17, 18, 82, 83, 84, 85, 86, 87, 88, 89, 90, 91, 92, 93, 94, 95, 96, 97, 98, 99, 100, 101, 102, 103, 104, 105, 106, 107, 108] (by decide +kernel) (by decide +kernel)
set_option maxRecDepth 20000 in
theorem gX5_part_X5_refuse : GoodIn wsX5_part (wsV RX5 135 RX5 yX5_refuse wsX5_refuse) := goodIn_app (goodIn_of _ (by decide +kernel)) ggX5_part_X5_refuse
set_option maxRecDepth 20000 in
theorem ggX5_part_X5_many : GoodIn wsX5_part wsX5_many := goodIn_r _ [22, 23, 24, 25, 5, 26, 82, 83, 84, 85, 86, 87, 88, 89, 90, 91, 92, 93, 94, 95, 96, 97, 98, 99, 100, 101, 102, 103, 104, 105, 106, 107, 108] (by decide +kernel) (by decide +kernel)
set_option maxRecDepth 20000 in
theorem gX5_part_X5_many : GoodIn wsX5_part (wsV RX5 156 RX5 yX5_many wsX5_many) := goodIn_app (goodIn_of _ (by decide +kernel)) ggX5_part_X5_many
set_option maxRecDepth 20000 in
theorem ggX5_part_X5_partOne : GoodIn wsX5_part wsX5_partOne := goodIn_r _ [30, 23, 31, 32, 33, 5, 34, 35, 36, 37, 38, 24, 25, 26, 39, 40, 41, 42, 43, 44, 45, 46, 47, 48, 49, 50, 51, 52, 53, 54, 55, 56, 57, 58, 59, 60, 61, 62, 63, 64, 65, 66, 67, 68, 69, 70, 71, 72, 73, 74, 75, 76, 77, 78, 79, 80, 81, 82, 83, 84, 85, 86, 87, 88, 89, 90, 91, 92, 93, 94, 95, 96, 97, 98, 99, 100, 101, 102, 103, 104, 105, 106, 107, 108] (by decide +kernel) (by decide +kernel)
set_option maxRecDepth 20000 in
theorem gX5_part_X5_partOne : GoodIn wsX5_part (wsV RX5 178 RX5 yX5_partOne wsX5_partOne) := goodIn_app (goodIn_of _ (by decide +kernel)) ggX5_part_X5_partOne
theorem dX5_part_0 : decode cX5_part 0 = .ok (.aload_n 0, 1) := by decide +kernel
theorem dX5_part_1 : decode cX5_part 1 = .ok (.iconst 0, 1) := by decide +kernel
theorem dX5_part_2 : decode cX5_part 2 = .ok (.putfield 63, 3) := by decide +kernel
theorem dX5_part_5 : decode cX5_part 5 = .ok (.iload_n 1, 1) := by decide +kernel
theorem dX5_part_6 : decode cX5_part 6 = .ok (.iload_n 2, 1) := by decide +kernel
theorem dX5_part_7 : decode cX5_part 7 = .ok (.invokestatic 170, 3) := by decide +kernel
theorem dX5_part_10 : decode cX5_part 10 = .ok (.ifCond .eq 15, 3) := by decide +kernel
theorem dX5_part_13 : decode cX5_part 13 = .ok (.iload_n 3, 1) := by decide +kernel
theorem dX5_part_14 : decode cX5_part 14 = .ok (.i2l, 1) := by decide +kernel
theorem dX5_part_15 : decode cX5_part 15 = .ok (.lconst 1, 1) := by decide +kernel
theorem dX5_part_16 : decode cX5_part 16 = .ok (.ldc2_w 176, 3) := by decide +kernel
theorem dX5_part_19 : decode cX5_part 19 = .ok (.invokestatic 77, 3) := by decide +kernel
theorem dX5_part_22 : decode cX5_part 22 = .ok (.ifCond .ne 9, 3) := by decide +kernel
theorem dX5_part_25 : decode cX5_part 25 = .ok (.aload_n 0, 1) := by decide +kernel
theorem dX5_part_26 : decode cX5_part 26 = .ok (.iconst (-1), 1) := by decide +kernel
theorem dX5_part_27 : decode cX5_part 27 = .ok (.invokevirtual 135, 3) := by decide +kernel
theorem dX5_part_30 : decode cX5_part 30 = .ok (.ireturn, 1) := by decide +kernel
theorem dX5_part_31 : decode cX5_part 31 = .ok (.aload_n 0, 1) := by decide +kernel
theorem dX5_part_32 : decode cX5_part 32 = .ok (.iload_n 1, 1) := by decide +kernel
theorem dX5_part_33 : decode cX5_part 33 = .ok (.iconst 0, 1) := by decide +kernel
theorem dX5_part_34 : decode cX5_part 34 = .ok (.invokevirtual 156, 3) := by decide +kernel
theorem dX5_part_37 : decode cX5_part 37 = .ok (.iload_n 3, 1) := by decide +kernel
theorem dX5_part_38 : decode cX5_part 38 = .ok (.if_icmp .ge 10, 3) := by decide +kernel
theorem dX5_part_41 : decode cX5_part 41 = .ok (.aload_n 0, 1) := by decide +kernel
theorem dX5_part_42 : decode cX5_part 42 = .ok (.bipush (-3), 2) := by decide +kernel
theorem dX5_part_44 : decode cX5_part 44 = .ok (.invokevirtual 135, 3) := by decide +kernel
theorem dX5_part_47 : decode cX5_part 47 = .ok (.ireturn, 1) := by decide +kernel
theorem dX5_part_48 : decode cX5_part 48 = .ok (.iconst (-1), 1) := by decide +kernel
theorem dX5_part_49 : decode cX5_part 49 = .ok (.istore 4, 2) := by decide +kernel
theorem dX5_part_51 : decode cX5_part 51 = .ok (.iconst 0, 1) := by decide +kernel
theorem dX5_part_52 : decode cX5_part 52 = .ok (.istore 5, 2) := by decide +kernel
theorem dX5_part_54 : decode cX5_part 54 = .ok (.iload 5, 2) := by decide +kernel
theorem dX5_part_56 : decode cX5_part 56 = .ok (.iload_n 3, 1) := by decide +kernel
theorem dX5_part_57 : decode cX5_part 57 = .ok (.if_icmp .ge 17, 3) := by decide +kernel
theorem dX5_part_60 : decode cX5_part 60 = .ok (.aload_n 0, 1) := by decide +kernel
theorem dX5_part_61 : decode cX5_part 61 = .ok (.iload_n 1, 1) := by decide +kernel
theorem dX5_part_62 : decode cX5_part 62 = .ok (.iload_n 2, 1) := by decide +kernel
theorem dX5_part_63 : decode cX5_part 63 = .ok (.invokevirtual 178, 3) := by decide +kernel
theorem dX5_part_66 : decode cX5_part 66 = .ok (.istore 4, 2) := by decide +kernel
theorem dX5_part_68 : decode cX5_part 68 = .ok (.iinc 5 1, 3) := by decide +kernel
theorem dX5_part_71 : decode cX5_part 71 = .ok (.goto (-17), 3) := by decide +kernel
theorem dX5_part_74 : decode cX5_part 74 = .ok (.iload 4, 2) := by decide +kernel
theorem dX5_part_76 : decode cX5_part 76 = .ok (.ireturn, 1) := by decide +kernel
set_option maxRecDepth 20000 in
theorem ggX5_gatherTrees_X5_meldTrees : GoodIn wsX5_gatherTrees wsX5_meldTrees := goodIn_r _ [7, 8, 9, 10, 11, 12, 13, 6, 14, 15, 16, 17, 18, 19, 20, 21, 22, 23, 24, 25, 26, 27, 28, 29, 30, 31, 32, 33, 34, 35, 36, 37, 38, 39, 40, 41, 42, 43, 44, 45, 46, 47, 48, 49, 50, 51, 52, 53, 54, 55, 56, 57, 58, 59, 60, 61] (by decide +kernel) (by decide +kernel)
set_option maxRecDepth 20000 in
theorem gX5_gatherTrees_X5_meldTrees : GoodIn wsX5_gatherTrees (wsV RX5 108 RX5 yX5_meldTrees wsX5_meldTrees) := goodIn_app (goodIn_of _ (by decide +kernel)) ggX5_gatherTrees_X5_meldTrees
theorem dX5_gatherTrees_0 : decode cX5_gatherTrees 0 = .ok (.iconst 0, 1) := by decide +kernel
theorem dX5_gatherTrees_1 : decode cX5_gatherTrees 1 = .ok (.istore_n 1, 1) := by decide +kernel
theorem dX5_gatherTrees_2 : decode cX5_gatherTrees 2 = .ok (.aload_n 0, 1) := by decide +kernel
theorem dX5_gatherTrees_3 : decode cX5_gatherTrees 3 = .ok (.getfield 181, 3) := by decide +kernel
theorem dX5_gatherTrees_6 : decode cX5_gatherTrees 6 = .ok (.iload_n 1, 1) := by decide +kernel
theorem dX5_gatherTrees_7 : decode cX5_gatherTrees 7 = .ok (.isub, 1) := by decide +kernel
theorem dX5_gatherTrees_8 : decode cX5_gatherTrees 8 = .ok (.iconst 1, 1) := by decide +kernel
theorem dX5_gatherTrees_9 : decode cX5_gatherTrees 9 = .ok (.if_icmp .le 46, 3) := by decide +kernel
theorem dX5_gatherTrees_12 : decode cX5_gatherTrees 12 = .ok (.aload_n 0, 1) := by decide +kernel
theorem dX5_gatherTrees_13 : decode cX5_gatherTrees 13 = .ok (.getfield 39, 3) := by decide +kernel
theorem dX5_gatherTrees_16 : decode cX5_gatherTrees 16 = .ok (.aload_n 0, 1) := by decide +kernel
theorem dX5_gatherTrees_17 : decode cX5_gatherTrees 17 = .ok (.getfield 181, 3) := by decide +kernel
theorem dX5_gatherTrees_20 : decode cX5_gatherTrees 20 = .ok (.aload_n 0, 1) := by decide +kernel
theorem dX5_gatherTrees_21 : decode cX5_gatherTrees 21 = .ok (.aload_n 0, 1) := by decide +kernel
theorem dX5_gatherTrees_22 : decode cX5_gatherTrees 22 = .ok (.getfield 39, 3) := by decide +kernel
theorem dX5_gatherTrees_25 : decode cX5_gatherTrees 25 = .ok (.iload_n 1, 1) := by decide +kernel
theorem dX5_gatherTrees_26 : decode cX5_gatherTrees 26 = .ok (.iaload, 1) := by decide +kernel
theorem dX5_gatherTrees_27 : decode cX5_gatherTrees 27 = .ok (.aload_n 0, 1) := by decide +kernel
theorem dX5_gatherTrees_28 : decode cX5_gatherTrees 28 = .ok (.getfield 39, 3) := by decide +kernel
theorem dX5_gatherTrees_31 : decode cX5_gatherTrees 31 = .ok (.iload_n 1, 1) := by decide +kernel
theorem dX5_gatherTrees_32 : decode cX5_gatherTrees 32 = .ok (.iconst 1, 1) := by decide +kernel
theorem dX5_gatherTrees_33 : decode cX5_gatherTrees 33 = .ok (.iadd, 1) := by decide +kernel
theorem dX5_gatherTrees_34 : decode cX5_gatherTrees 34 = .ok (.iaload, 1) := by decide +kernel
theorem dX5_gatherTrees_35 : decode cX5_gatherTrees 35 = .ok (.invokevirtual 108, 3) := by decide +kernel
theorem dX5_gatherTrees_38 : decode cX5_gatherTrees 38 = .ok (.iastore, 1) := by decide +kernel
theorem dX5_gatherTrees_39 : decode cX5_gatherTrees 39 = .ok (.aload_n 0, 1) := by decide +kernel
theorem dX5_gatherTrees_40 : decode cX5_gatherTrees 40 = .ok (.dup, 1) := by decide +kernel
theorem dX5_gatherTrees_41 : decode cX5_gatherTrees 41 = .ok (.getfield 181, 3) := by decide +kernel
theorem dX5_gatherTrees_44 : decode cX5_gatherTrees 44 = .ok (.iconst 1, 1) := by decide +kernel
theorem dX5_gatherTrees_45 : decode cX5_gatherTrees 45 = .ok (.iadd, 1) := by decide +kernel
theorem dX5_gatherTrees_46 : decode cX5_gatherTrees 46 = .ok (.putfield 181, 3) := by decide +kernel
theorem dX5_gatherTrees_49 : decode cX5_gatherTrees 49 = .ok (.iinc 1 2, 3) := by decide +kernel
theorem dX5_gatherTrees_52 : decode cX5_gatherTrees 52 = .ok (.goto (-50), 3) := by decide +kernel
theorem dX5_gatherTrees_55 : decode cX5_gatherTrees 55 = .ok (.aload_n 0, 1) := by decide +kernel
theorem dX5_gatherTrees_56 : decode cX5_gatherTrees 56 = .ok (.getfield 181, 3) := by decide +kernel
theorem dX5_gatherTrees_59 : decode cX5_gatherTrees 59 = .ok (.iload_n 1, 1) := by decide +kernel
theorem dX5_gatherTrees_60 : decode cX5_gatherTrees 60 = .ok (.if_icmp .ne 7, 3) := by decide +kernel
theorem dX5_gatherTrees_63 : decode cX5_gatherTrees 63 = .ok (.iconst (-1), 1) := by decide +kernel
theorem dX5_gatherTrees_64 : decode cX5_gatherTrees 64 = .ok (.goto 9, 3) := by decide +kernel
theorem dX5_gatherTrees_67 : decode cX5_gatherTrees 67 = .ok (.aload_n 0, 1) := by decide +kernel
theorem dX5_gatherTrees_68 : decode cX5_gatherTrees 68 = .ok (.getfield 39, 3) := by decide +kernel
theorem dX5_gatherTrees_71 : decode cX5_gatherTrees 71 = .ok (.iload_n 1, 1) := by decide +kernel
theorem dX5_gatherTrees_72 : decode cX5_gatherTrees 72 = .ok (.iaload, 1) := by decide +kernel
theorem dX5_gatherTrees_73 : decode cX5_gatherTrees 73 = .ok (.ireturn, 1) := by decide +kernel
set_option maxRecDepth 20000 in
theorem ggX5_split_X5_areTwo : GoodIn wsX5_split wsX5_areTwo := goodIn_r _ [11, 12, 13, 10, 14, 15, 16, 17, 18] (by decide +kernel) (by decide +kernel)
set_option maxRecDepth 20000 in
theorem gX5_split_X5_areTwo : GoodIn wsX5_split (va_wsS RX5 170 yX5_areTwo wsX5_areTwo) := goodIn_app (goodIn_of _ (by decide +kernel)) ggX5_split_X5_areTwo
set_option maxRecDepth 20000 in
theorem ggX5_split_X5_refuse : GoodIn wsX5_split wsX5_refuse := goodIn_r _ [22, 23, 85, 86, 87, 88, 89, 90, 91, 92, 93, 94, 95, 96, 97, 98, 99, 100, 101, 102, 103, 104, 105, 106, 107, 108, 109, 110, 111] (by decide +kernel) (by decide +kernel)
set_option maxRecDepth 20000 in
theorem gX5_split_X5_refuse : GoodIn wsX5_split (wsV RX5 135 RX5 yX5_refuse wsX5_refuse) := goodIn_app (goodIn_of _ (by decide +kernel)) ggX5_split_X5_refuse
set_option maxRecDepth 20000 in
theorem ggX5_split_X5_setAbove : GoodIn wsX5_split wsX5_setAbove := goodIn_r _ [27, 2, 28, 29, 10, 30, 85, 86, 87, 88, 89, 90, 91, 92, 93, 94, 95, 96, 97, 98, 99, 100, 101, 102, 103, 104, 105, 106, 107, 108, 109, 110, 111] (by decide +kernel) (by decide +kernel)
set_option maxRecDepth 20000 in
theorem gX5_split_X5_setAbove : GoodIn wsX5_split (wsV RX5 97 RX5 yX5_setAbove wsX5_setAbove) := goodIn_app (goodIn_of _ (by decide +kernel)) ggX5_split_X5_setAbove
set_option maxRecDepth 20000 in
theorem ggX5_split_X5_right : GoodIn wsX5_split wsX5_right := goodIn_r _ [34, 2, 28, 29, 10, 30, 85, 86, 87, 88, 89, 90, 91, 92, 93, 94, 95, 96, 97, 98, 99, 100, 101, 102, 103, 104, 105, 106, 107, 108, 109, 110, 111] (by decide +kernel) (by decide +kernel)
set_option maxRecDepth 20000 in
theorem gX5_split_X5_right : GoodIn wsX5_split (wsV RX5 94 RX5 yX5_right wsX5_right) := goodIn_app (goodIn_of _ (by decide +kernel)) ggX5_split_X5_right
set_option maxRecDepth 20000 in
theorem ggX5_split_X5_left : GoodIn wsX5_split wsX5_left := goodIn_r _ [38, 2, 28, 29, 10, 30, 85, 86, 87, 88, 89, 90, 91, 92, 93, 94, 95, 96, 97, 98, 99, 100, 101, 102, 103, 104, 105, 106, 107, 108, 109, 110, 111] (by decide +kernel) (by decide +kernel)
set_option maxRecDepth 20000 in
theorem gX5_split_X5_left : GoodIn wsX5_split (wsV RX5 112 RX5 yX5_left wsX5_left) := goodIn_app (goodIn_of _ (by decide +kernel)) ggX5_split_X5_left
set_option maxRecDepth 20000 in
theorem ggX5_split_X5_gatherTrees : GoodIn wsX5_split wsX5_gatherTrees := goodIn_r _ [42, 4, 6, 43, 44, 45, 10, 46, 47, 48, 2, 49, 50, 51, 52, 3, 31, 32, 33, 34, 28, 29, 30, 24, 25, 26, 27, 53, 54, 55, 56, 57, 58, 59, 60, 85, 86, 87, 88, 89, 90, 91, 92, 93, 94, 95, 96, 97, 98, 99, 100, 101, 102, 103, 104, 105, 106, 107, 108, 109, 110, 111] (by decide +kernel) (by decide +kernel)
set_option maxRecDepth 20000 in
theorem gX5_split_X5_gatherTrees : GoodIn wsX5_split (wsV RX5 184 RX5 yX5_gatherTrees wsX5_gatherTrees) := goodIn_app (goodIn_of _ (by decide +kernel)) ggX5_split_X5_gatherTrees
set_option maxRecDepth 20000 in
theorem ggX5_split_X5_sortGoing : GoodIn wsX5_split wsX5_sortGoing := goodIn_r _ [64, 7, 49, 50, 51, 10, 52, 3, 85, 86, 87, 88, 89, 90, 91, 92, 93, 94, 95, 96, 97, 98, 99, 100, 101, 102, 103, 104, 105, 106, 107, 108, 109, 110, 111] (by decide +kernel) (by decide +kernel)
set_option maxRecDepth 20000 in
theorem gX5_split_X5_sortGoing : GoodIn wsX5_split (wsV RX5 187 RX5 yX5_sortGoing wsX5_sortGoing) := goodIn_app (goodIn_of _ (by decide +kernel)) ggX5_split_X5_sortGoing
set_option maxRecDepth 20000 in
theorem ggX5_split_X5_put : GoodIn wsX5_split wsX5_put := goodIn_r _ [68, 2, 69, 70, 71, 10, 72, 28, 29, 30, 43, 44, 45, 46, 47, 48, 49, 50, 51, 52, 3, 31, 32, 33, 34, 24, 25, 26, 27, 53, 54, 55, 56, 57, 58, 59, 60, 85, 86, 87, 88, 89, 90, 91, 92, 93, 94, 95, 96, 97, 98, 99, 100, 101, 102, 103, 104, 105, 106, 107, 108, 109, 110, 111] (by decide +kernel) (by decide +kernel)
set_option maxRecDepth 20000 in
theorem gX5_split_X5_put : GoodIn wsX5_split (wsV RX5 138 RX5 yX5_put wsX5_put) := goodIn_app (goodIn_of _ (by decide +kernel)) ggX5_split_X5_put
set_option maxRecDepth 20000 in
theorem ggX5_split_X5_sweep : GoodIn wsX5_split wsX5_sweep := goodIn_r _ [76, 2, 28, 29, 10, 30, 77, 78, 79, 80, 35, 36, 37, 38, 31, 32, 33, 34, 43, 44, 45, 46, 47, 48, 49, 50, 51, 52, 3, 24, 25, 26, 27, 53, 54, 55, 56, 57, 58, 59, 60, 81, 82, 83, 84, 85, 86, 87, 88, 89, 90, 91, 92, 93, 94, 95, 96, 97, 98, 99, 100, 101, 102, 103, 104, 105, 106, 107, 108, 109, 110, 111] (by decide +kernel) (by decide +kernel)
set_option maxRecDepth 20000 in
theorem gX5_split_X5_sweep : GoodIn wsX5_split (wsV RX5 141 RX5 yX5_sweep wsX5_sweep) := goodIn_app (goodIn_of _ (by decide +kernel)) ggX5_split_X5_sweep
theorem dX5_split_0 : decode cX5_split 0 = .ok (.aload_n 0, 1) := by decide +kernel
theorem dX5_split_1 : decode cX5_split 1 = .ok (.iconst 0, 1) := by decide +kernel
theorem dX5_split_2 : decode cX5_split 2 = .ok (.putfield 63, 3) := by decide +kernel
theorem dX5_split_5 : decode cX5_split 5 = .ok (.iload_n 1, 1) := by decide +kernel
theorem dX5_split_6 : decode cX5_split 6 = .ok (.iload_n 2, 1) := by decide +kernel
theorem dX5_split_7 : decode cX5_split 7 = .ok (.invokestatic 170, 3) := by decide +kernel
theorem dX5_split_10 : decode cX5_split 10 = .ok (.ifCond .ne 9, 3) := by decide +kernel
theorem dX5_split_13 : decode cX5_split 13 = .ok (.aload_n 0, 1) := by decide +kernel
theorem dX5_split_14 : decode cX5_split 14 = .ok (.iconst (-1), 1) := by decide +kernel
theorem dX5_split_15 : decode cX5_split 15 = .ok (.invokevirtual 135, 3) := by decide +kernel
theorem dX5_split_18 : decode cX5_split 18 = .ok (.ireturn, 1) := by decide +kernel
theorem dX5_split_19 : decode cX5_split 19 = .ok (.aload_n 0, 1) := by decide +kernel
theorem dX5_split_20 : decode cX5_split 20 = .ok (.getfield 13, 3) := by decide +kernel
theorem dX5_split_23 : decode cX5_split 23 = .ok (.iconst 4, 1) := by decide +kernel
theorem dX5_split_24 : decode cX5_split 24 = .ok (.iload_n 1, 1) := by decide +kernel
theorem dX5_split_25 : decode cX5_split 25 = .ok (.iadd, 1) := by decide +kernel
theorem dX5_split_26 : decode cX5_split 26 = .ok (.iaload, 1) := by decide +kernel
theorem dX5_split_27 : decode cX5_split 27 = .ok (.istore 4, 2) := by decide +kernel
theorem dX5_split_29 : decode cX5_split 29 = .ok (.iload 4, 2) := by decide +kernel
theorem dX5_split_31 : decode cX5_split 31 = .ok (.iconst (-1), 1) := by decide +kernel
theorem dX5_split_32 : decode cX5_split 32 = .ok (.if_icmp .eq 16, 3) := by decide +kernel
theorem dX5_split_35 : decode cX5_split 35 = .ok (.aload_n 0, 1) := by decide +kernel
theorem dX5_split_36 : decode cX5_split 36 = .ok (.getfield 16, 3) := by decide +kernel
theorem dX5_split_39 : decode cX5_split 39 = .ok (.iload 4, 2) := by decide +kernel
theorem dX5_split_41 : decode cX5_split 41 = .ok (.laload, 1) := by decide +kernel
theorem dX5_split_42 : decode cX5_split 42 = .ok (.iload_n 3, 1) := by decide +kernel
theorem dX5_split_43 : decode cX5_split 43 = .ok (.i2l, 1) := by decide +kernel
theorem dX5_split_44 : decode cX5_split 44 = .ok (.lcmp, 1) := by decide +kernel
theorem dX5_split_45 : decode cX5_split 45 = .ok (.ifCond .le 10, 3) := by decide +kernel
theorem dX5_split_48 : decode cX5_split 48 = .ok (.aload_n 0, 1) := by decide +kernel
theorem dX5_split_49 : decode cX5_split 49 = .ok (.bipush (-3), 2) := by decide +kernel
theorem dX5_split_51 : decode cX5_split 51 = .ok (.invokevirtual 135, 3) := by decide +kernel
theorem dX5_split_54 : decode cX5_split 54 = .ok (.ireturn, 1) := by decide +kernel
theorem dX5_split_55 : decode cX5_split 55 = .ok (.aload_n 0, 1) := by decide +kernel
theorem dX5_split_56 : decode cX5_split 56 = .ok (.iconst 0, 1) := by decide +kernel
theorem dX5_split_57 : decode cX5_split 57 = .ok (.putfield 181, 3) := by decide +kernel
theorem dX5_split_60 : decode cX5_split 60 = .ok (.iconst 0, 1) := by decide +kernel
theorem dX5_split_61 : decode cX5_split 61 = .ok (.istore 5, 2) := by decide +kernel
theorem dX5_split_63 : decode cX5_split 63 = .ok (.iconst 1, 1) := by decide +kernel
theorem dX5_split_64 : decode cX5_split 64 = .ok (.istore 6, 2) := by decide +kernel
theorem dX5_split_66 : decode cX5_split 66 = .ok (.aload_n 0, 1) := by decide +kernel
theorem dX5_split_67 : decode cX5_split 67 = .ok (.getfield 42, 3) := by decide +kernel
theorem dX5_split_70 : decode cX5_split 70 = .ok (.iconst 0, 1) := by decide +kernel
theorem dX5_split_71 : decode cX5_split 71 = .ok (.iload 4, 2) := by decide +kernel
theorem dX5_split_73 : decode cX5_split 73 = .ok (.iastore, 1) := by decide +kernel
theorem dX5_split_74 : decode cX5_split 74 = .ok (.iload 6, 2) := by decide +kernel
theorem dX5_split_76 : decode cX5_split 76 = .ok (.ifCond .le 126, 3) := by decide +kernel
theorem dX5_split_79 : decode cX5_split 79 = .ok (.iinc 6 (-1), 3) := by decide +kernel
theorem dX5_split_82 : decode cX5_split 82 = .ok (.aload_n 0, 1) := by decide +kernel
theorem dX5_split_83 : decode cX5_split 83 = .ok (.getfield 42, 3) := by decide +kernel
theorem dX5_split_86 : decode cX5_split 86 = .ok (.iload 6, 2) := by decide +kernel
theorem dX5_split_88 : decode cX5_split 88 = .ok (.iaload, 1) := by decide +kernel
theorem dX5_split_89 : decode cX5_split 89 = .ok (.istore 7, 2) := by decide +kernel
theorem dX5_split_91 : decode cX5_split 91 = .ok (.aload_n 0, 1) := by decide +kernel
theorem dX5_split_92 : decode cX5_split 92 = .ok (.getfield 16, 3) := by decide +kernel
theorem dX5_split_95 : decode cX5_split 95 = .ok (.iload 7, 2) := by decide +kernel
theorem dX5_split_97 : decode cX5_split 97 = .ok (.laload, 1) := by decide +kernel
theorem dX5_split_98 : decode cX5_split 98 = .ok (.iload_n 3, 1) := by decide +kernel
theorem dX5_split_99 : decode cX5_split 99 = .ok (.i2l, 1) := by decide +kernel
theorem dX5_split_100 : decode cX5_split 100 = .ok (.lcmp, 1) := by decide +kernel
theorem dX5_split_101 : decode cX5_split 101 = .ok (.ifCond .le 34, 3) := by decide +kernel
theorem dX5_split_104 : decode cX5_split 104 = .ok (.aload_n 0, 1) := by decide +kernel
theorem dX5_split_105 : decode cX5_split 105 = .ok (.getfield 39, 3) := by decide +kernel
theorem dX5_split_108 : decode cX5_split 108 = .ok (.aload_n 0, 1) := by decide +kernel
theorem dX5_split_109 : decode cX5_split 109 = .ok (.getfield 181, 3) := by decide +kernel
theorem dX5_split_112 : decode cX5_split 112 = .ok (.iload 7, 2) := by decide +kernel
theorem dX5_split_114 : decode cX5_split 114 = .ok (.iastore, 1) := by decide +kernel
theorem dX5_split_115 : decode cX5_split 115 = .ok (.aload_n 0, 1) := by decide +kernel
theorem dX5_split_116 : decode cX5_split 116 = .ok (.dup, 1) := by decide +kernel
theorem dX5_split_117 : decode cX5_split 117 = .ok (.getfield 181, 3) := by decide +kernel
theorem dX5_split_120 : decode cX5_split 120 = .ok (.iconst 1, 1) := by decide +kernel
theorem dX5_split_121 : decode cX5_split 121 = .ok (.iadd, 1) := by decide +kernel
theorem dX5_split_122 : decode cX5_split 122 = .ok (.putfield 181, 3) := by decide +kernel
theorem dX5_split_125 : decode cX5_split 125 = .ok (.aload_n 0, 1) := by decide +kernel
theorem dX5_split_126 : decode cX5_split 126 = .ok (.iload 7, 2) := by decide +kernel
theorem dX5_split_128 : decode cX5_split 128 = .ok (.iconst (-1), 1) := by decide +kernel
theorem dX5_split_129 : decode cX5_split 129 = .ok (.invokevirtual 97, 3) := by decide +kernel
theorem dX5_split_132 : decode cX5_split 132 = .ok (.goto 67, 3) := by decide +kernel
theorem dX5_split_135 : decode cX5_split 135 = .ok (.aload_n 0, 1) := by decide +kernel
theorem dX5_split_136 : decode cX5_split 136 = .ok (.getfield 45, 3) := by decide +kernel
theorem dX5_split_139 : decode cX5_split 139 = .ok (.iload 5, 2) := by decide +kernel
theorem dX5_split_141 : decode cX5_split 141 = .ok (.iload 7, 2) := by decide +kernel
theorem dX5_split_143 : decode cX5_split 143 = .ok (.iastore, 1) := by decide +kernel
theorem dX5_split_144 : decode cX5_split 144 = .ok (.iinc 5 1, 3) := by decide +kernel
theorem dX5_split_147 : decode cX5_split 147 = .ok (.aload_n 0, 1) := by decide +kernel
theorem dX5_split_148 : decode cX5_split 148 = .ok (.iload 7, 2) := by decide +kernel
theorem dX5_split_150 : decode cX5_split 150 = .ok (.invokevirtual 94, 3) := by decide +kernel
theorem dX5_split_153 : decode cX5_split 153 = .ok (.iconst (-1), 1) := by decide +kernel
theorem dX5_split_154 : decode cX5_split 154 = .ok (.if_icmp .eq 19, 3) := by decide +kernel
theorem dX5_split_157 : decode cX5_split 157 = .ok (.aload_n 0, 1) := by decide +kernel
theorem dX5_split_158 : decode cX5_split 158 = .ok (.getfield 42, 3) := by decide +kernel
theorem dX5_split_161 : decode cX5_split 161 = .ok (.iload 6, 2) := by decide +kernel
theorem dX5_split_163 : decode cX5_split 163 = .ok (.aload_n 0, 1) := by decide +kernel
theorem dX5_split_164 : decode cX5_split 164 = .ok (.iload 7, 2) := by decide +kernel
theorem dX5_split_166 : decode cX5_split 166 = .ok (.invokevirtual 94, 3) := by decide +kernel
theorem dX5_split_169 : decode cX5_split 169 = .ok (.iastore, 1) := by decide +kernel
theorem dX5_split_170 : decode cX5_split 170 = .ok (.iinc 6 1, 3) := by decide +kernel
theorem dX5_split_173 : decode cX5_split 173 = .ok (.aload_n 0, 1) := by decide +kernel
theorem dX5_split_174 : decode cX5_split 174 = .ok (.iload 7, 2) := by decide +kernel
theorem dX5_split_176 : decode cX5_split 176 = .ok (.invokevirtual 112, 3) := by decide +kernel
theorem dX5_split_179 : decode cX5_split 179 = .ok (.iconst (-1), 1) := by decide +kernel
theorem dX5_split_180 : decode cX5_split 180 = .ok (.if_icmp .eq 19, 3) := by decide +kernel
theorem dX5_split_183 : decode cX5_split 183 = .ok (.aload_n 0, 1) := by decide +kernel
theorem dX5_split_184 : decode cX5_split 184 = .ok (.getfield 42, 3) := by decide +kernel
theorem dX5_split_187 : decode cX5_split 187 = .ok (.iload 6, 2) := by decide +kernel
theorem dX5_split_189 : decode cX5_split 189 = .ok (.aload_n 0, 1) := by decide +kernel
theorem dX5_split_190 : decode cX5_split 190 = .ok (.iload 7, 2) := by decide +kernel
theorem dX5_split_192 : decode cX5_split 192 = .ok (.invokevirtual 112, 3) := by decide +kernel
theorem dX5_split_195 : decode cX5_split 195 = .ok (.iastore, 1) := by decide +kernel
theorem dX5_split_196 : decode cX5_split 196 = .ok (.iinc 6 1, 3) := by decide +kernel
theorem dX5_split_199 : decode cX5_split 199 = .ok (.goto (-125), 3) := by decide +kernel
theorem dX5_split_202 : decode cX5_split 202 = .ok (.aload_n 0, 1) := by decide +kernel
theorem dX5_split_203 : decode cX5_split 203 = .ok (.getfield 13, 3) := by decide +kernel
theorem dX5_split_206 : decode cX5_split 206 = .ok (.iconst 4, 1) := by decide +kernel
theorem dX5_split_207 : decode cX5_split 207 = .ok (.iload_n 1, 1) := by decide +kernel
theorem dX5_split_208 : decode cX5_split 208 = .ok (.iadd, 1) := by decide +kernel
theorem dX5_split_209 : decode cX5_split 209 = .ok (.aload_n 0, 1) := by decide +kernel
theorem dX5_split_210 : decode cX5_split 210 = .ok (.invokevirtual 184, 3) := by decide +kernel
theorem dX5_split_213 : decode cX5_split 213 = .ok (.iastore, 1) := by decide +kernel
theorem dX5_split_214 : decode cX5_split 214 = .ok (.aload_n 0, 1) := by decide +kernel
theorem dX5_split_215 : decode cX5_split 215 = .ok (.iload 5, 2) := by decide +kernel
theorem dX5_split_217 : decode cX5_split 217 = .ok (.invokevirtual 187, 3) := by decide +kernel
theorem dX5_split_220 : decode cX5_split 220 = .ok (.iconst 0, 1) := by decide +kernel
theorem dX5_split_221 : decode cX5_split 221 = .ok (.istore 7, 2) := by decide +kernel
theorem dX5_split_223 : decode cX5_split 223 = .ok (.iload 7, 2) := by decide +kernel
theorem dX5_split_225 : decode cX5_split 225 = .ok (.iload 5, 2) := by decide +kernel
theorem dX5_split_227 : decode cX5_split 227 = .ok (.if_icmp .ge 21, 3) := by decide +kernel
theorem dX5_split_230 : decode cX5_split 230 = .ok (.aload_n 0, 1) := by decide +kernel
theorem dX5_split_231 : decode cX5_split 231 = .ok (.aload_n 0, 1) := by decide +kernel
theorem dX5_split_232 : decode cX5_split 232 = .ok (.getfield 45, 3) := by decide +kernel
theorem dX5_split_235 : decode cX5_split 235 = .ok (.iload 7, 2) := by decide +kernel
theorem dX5_split_237 : decode cX5_split 237 = .ok (.iaload, 1) := by decide +kernel
theorem dX5_split_238 : decode cX5_split 238 = .ok (.iload_n 2, 1) := by decide +kernel
theorem dX5_split_239 : decode cX5_split 239 = .ok (.invokevirtual 138, 3) := by decide +kernel
theorem dX5_split_242 : decode cX5_split 242 = .ok (.iinc 7 1, 3) := by decide +kernel
theorem dX5_split_245 : decode cX5_split 245 = .ok (.goto (-22), 3) := by decide +kernel
theorem dX5_split_248 : decode cX5_split 248 = .ok (.aload_n 0, 1) := by decide +kernel
theorem dX5_split_249 : decode cX5_split 249 = .ok (.invokevirtual 141, 3) := by decide +kernel
theorem dX5_split_252 : decode cX5_split 252 = .ok (.iload 5, 2) := by decide +kernel
theorem dX5_split_254 : decode cX5_split 254 = .ok (.ireturn, 1) := by decide +kernel
set_option maxRecDepth 20000 in
theorem ggX5_sortGoing_X5_isLess : GoodIn wsX5_sortGoing wsX5_isLess := goodIn_r _ [6, 7, 8, 9, 10, 11, 12, 13, 14, 15, 16, 17, 18, 19, 20, 21, 22, 23, 24, 25, 26, 27, 28, 29, 30, 31, 32, 33, 34] (by decide +kernel) (by decide +kernel)
set_option maxRecDepth 20000 in
theorem gX5_sortGoing_X5_isLess : GoodIn wsX5_sortGoing (wsV RX5 90 RX5 yX5_isLess wsX5_isLess) := goodIn_app (goodIn_of _ (by decide +kernel)) ggX5_sortGoing_X5_isLess
theorem dX5_sortGoing_0 : decode cX5_sortGoing 0 = .ok (.iconst 1, 1) := by decide +kernel
theorem dX5_sortGoing_1 : decode cX5_sortGoing 1 = .ok (.istore_n 2, 1) := by decide +kernel
theorem dX5_sortGoing_2 : decode cX5_sortGoing 2 = .ok (.iload_n 2, 1) := by decide +kernel
theorem dX5_sortGoing_3 : decode cX5_sortGoing 3 = .ok (.iload_n 1, 1) := by decide +kernel
theorem dX5_sortGoing_4 : decode cX5_sortGoing 4 = .ok (.if_icmp .ge 71, 3) := by decide +kernel
theorem dX5_sortGoing_7 : decode cX5_sortGoing 7 = .ok (.aload_n 0, 1) := by decide +kernel
theorem dX5_sortGoing_8 : decode cX5_sortGoing 8 = .ok (.getfield 45, 3) := by decide +kernel
theorem dX5_sortGoing_11 : decode cX5_sortGoing 11 = .ok (.iload_n 2, 1) := by decide +kernel
theorem dX5_sortGoing_12 : decode cX5_sortGoing 12 = .ok (.iaload, 1) := by decide +kernel
theorem dX5_sortGoing_13 : decode cX5_sortGoing 13 = .ok (.istore_n 3, 1) := by decide +kernel
theorem dX5_sortGoing_14 : decode cX5_sortGoing 14 = .ok (.iload_n 2, 1) := by decide +kernel
theorem dX5_sortGoing_15 : decode cX5_sortGoing 15 = .ok (.istore 4, 2) := by decide +kernel
theorem dX5_sortGoing_17 : decode cX5_sortGoing 17 = .ok (.iload 4, 2) := by decide +kernel
theorem dX5_sortGoing_19 : decode cX5_sortGoing 19 = .ok (.ifCond .le 42, 3) := by decide +kernel
theorem dX5_sortGoing_22 : decode cX5_sortGoing 22 = .ok (.aload_n 0, 1) := by decide +kernel
theorem dX5_sortGoing_23 : decode cX5_sortGoing 23 = .ok (.iload_n 3, 1) := by decide +kernel
theorem dX5_sortGoing_24 : decode cX5_sortGoing 24 = .ok (.aload_n 0, 1) := by decide +kernel
theorem dX5_sortGoing_25 : decode cX5_sortGoing 25 = .ok (.getfield 45, 3) := by decide +kernel
theorem dX5_sortGoing_28 : decode cX5_sortGoing 28 = .ok (.iload 4, 2) := by decide +kernel
theorem dX5_sortGoing_30 : decode cX5_sortGoing 30 = .ok (.iconst 1, 1) := by decide +kernel
theorem dX5_sortGoing_31 : decode cX5_sortGoing 31 = .ok (.isub, 1) := by decide +kernel
theorem dX5_sortGoing_32 : decode cX5_sortGoing 32 = .ok (.iaload, 1) := by decide +kernel
theorem dX5_sortGoing_33 : decode cX5_sortGoing 33 = .ok (.invokevirtual 90, 3) := by decide +kernel
theorem dX5_sortGoing_36 : decode cX5_sortGoing 36 = .ok (.ifCond .eq 25, 3) := by decide +kernel
theorem dX5_sortGoing_39 : decode cX5_sortGoing 39 = .ok (.aload_n 0, 1) := by decide +kernel
theorem dX5_sortGoing_40 : decode cX5_sortGoing 40 = .ok (.getfield 45, 3) := by decide +kernel
theorem dX5_sortGoing_43 : decode cX5_sortGoing 43 = .ok (.iload 4, 2) := by decide +kernel
theorem dX5_sortGoing_45 : decode cX5_sortGoing 45 = .ok (.aload_n 0, 1) := by decide +kernel
theorem dX5_sortGoing_46 : decode cX5_sortGoing 46 = .ok (.getfield 45, 3) := by decide +kernel
theorem dX5_sortGoing_49 : decode cX5_sortGoing 49 = .ok (.iload 4, 2) := by decide +kernel
theorem dX5_sortGoing_51 : decode cX5_sortGoing 51 = .ok (.iconst 1, 1) := by decide +kernel
theorem dX5_sortGoing_52 : decode cX5_sortGoing 52 = .ok (.isub, 1) := by decide +kernel
theorem dX5_sortGoing_53 : decode cX5_sortGoing 53 = .ok (.iaload, 1) := by decide +kernel
theorem dX5_sortGoing_54 : decode cX5_sortGoing 54 = .ok (.iastore, 1) := by decide +kernel
theorem dX5_sortGoing_55 : decode cX5_sortGoing 55 = .ok (.iinc 4 (-1), 3) := by decide +kernel
theorem dX5_sortGoing_58 : decode cX5_sortGoing 58 = .ok (.goto (-41), 3) := by decide +kernel
theorem dX5_sortGoing_61 : decode cX5_sortGoing 61 = .ok (.aload_n 0, 1) := by decide +kernel
theorem dX5_sortGoing_62 : decode cX5_sortGoing 62 = .ok (.getfield 45, 3) := by decide +kernel
theorem dX5_sortGoing_65 : decode cX5_sortGoing 65 = .ok (.iload 4, 2) := by decide +kernel
theorem dX5_sortGoing_67 : decode cX5_sortGoing 67 = .ok (.iload_n 3, 1) := by decide +kernel
theorem dX5_sortGoing_68 : decode cX5_sortGoing 68 = .ok (.iastore, 1) := by decide +kernel
theorem dX5_sortGoing_69 : decode cX5_sortGoing 69 = .ok (.iinc 2 1, 3) := by decide +kernel
theorem dX5_sortGoing_72 : decode cX5_sortGoing 72 = .ok (.goto (-70), 3) := by decide +kernel
theorem dX5_sortGoing_75 : decode cX5_sortGoing 75 = .ok (.return_, 1) := by decide +kernel
set_option maxRecDepth 20000 in
theorem ggX5_gather_X5_isDesk : GoodIn wsX5_gather wsX5_isDesk := goodIn_r _ [9, 10, 11, 12, 8, 13] (by decide +kernel) (by decide +kernel)
set_option maxRecDepth 20000 in
theorem gX5_gather_X5_isDesk : GoodIn wsX5_gather (va_wsS RX5 125 yX5_isDesk wsX5_isDesk) := goodIn_app (goodIn_of _ (by decide +kernel)) ggX5_gather_X5_isDesk
set_option maxRecDepth 20000 in
theorem ggX5_gather_X5_refuse : GoodIn wsX5_gather wsX5_refuse := goodIn_r _ [17, 18, 72, 73, 74, 75, 76, 77, 78, 79, 80, 81, 82, 83, 84, 85, 86, 87, 88, 89, 90, 91, 92, 93, 94, 95, 96, 97, 98] (by decide +kernel) (by decide +kernel)
set_option maxRecDepth 20000 in
theorem gX5_gather_X5_refuse : GoodIn wsX5_gather (wsV RX5 135 RX5 yX5_refuse wsX5_refuse) := goodIn_app (goodIn_of _ (by decide +kernel)) ggX5_gather_X5_refuse
set_option maxRecDepth 20000 in
theorem ggX5_gather_X5_gatherTrees : GoodIn wsX5_gather wsX5_gatherTrees := goodIn_r _ [22, 2, 4, 23, 24, 25, 8, 26, 27, 5, 3, 28, 29, 30, 31, 32, 33, 34, 35, 36, 37, 38, 39, 40, 41, 42, 43, 44, 45, 46, 47, 48, 49, 50, 51, 72, 73, 74, 75, 76, 77, 78, 79, 80, 81, 82, 83, 84, 85, 86, 87, 88, 89, 90, 91, 92, 93, 94, 95, 96, 97, 98] (by decide +kernel) (by decide +kernel)
set_option maxRecDepth 20000 in
theorem gX5_gather_X5_gatherTrees : GoodIn wsX5_gather (wsV RX5 184 RX5 yX5_gatherTrees wsX5_gatherTrees) := goodIn_app (goodIn_of _ (by decide +kernel)) ggX5_gather_X5_gatherTrees
set_option maxRecDepth 20000 in
theorem ggX5_gather_X5_moveAll : GoodIn wsX5_gather wsX5_moveAll := goodIn_r _ [55, 3, 37, 38, 8, 39, 72, 73, 74, 75, 76, 77, 78, 79, 80, 81, 82, 83, 84, 85, 86, 87, 88, 89, 90, 91, 92, 93, 94, 95, 96, 97, 98] (by decide +kernel) (by decide +kernel)
set_option maxRecDepth 20000 in
theorem gX5_gather_X5_moveAll : GoodIn wsX5_gather (wsV RX5 173 RX5 yX5_moveAll wsX5_moveAll) := goodIn_app (goodIn_of _ (by decide +kernel)) ggX5_gather_X5_moveAll
set_option maxRecDepth 20000 in
theorem ggX5_gather_X5_sweep : GoodIn wsX5_gather wsX5_sweep := goodIn_r _ [59, 3, 37, 38, 8, 39, 60, 61, 62, 63, 64, 65, 66, 67, 33, 34, 35, 36, 23, 24, 25, 26, 27, 5, 28, 29, 30, 31, 32, 40, 41, 42, 43, 44, 45, 46, 47, 48, 49, 50, 51, 68, 69, 70, 71, 72, 73, 74, 75, 76, 77, 78, 79, 80, 81, 82, 83, 84, 85, 86, 87, 88, 89, 90, 91, 92, 93, 94, 95, 96, 97, 98] (by decide +kernel) (by decide +kernel)
set_option maxRecDepth 20000 in
theorem gX5_gather_X5_sweep : GoodIn wsX5_gather (wsV RX5 141 RX5 yX5_sweep wsX5_sweep) := goodIn_app (goodIn_of _ (by decide +kernel)) ggX5_gather_X5_sweep
theorem dX5_gather_0 : decode cX5_gather 0 = .ok (.aload_n 0, 1) := by decide +kernel
theorem dX5_gather_1 : decode cX5_gather 1 = .ok (.iconst 0, 1) := by decide +kernel
theorem dX5_gather_2 : decode cX5_gather 2 = .ok (.putfield 63, 3) := by decide +kernel
theorem dX5_gather_5 : decode cX5_gather 5 = .ok (.iload_n 1, 1) := by decide +kernel
theorem dX5_gather_6 : decode cX5_gather 6 = .ok (.invokestatic 125, 3) := by decide +kernel
theorem dX5_gather_9 : decode cX5_gather 9 = .ok (.ifCond .ne 9, 3) := by decide +kernel
theorem dX5_gather_12 : decode cX5_gather 12 = .ok (.aload_n 0, 1) := by decide +kernel
theorem dX5_gather_13 : decode cX5_gather 13 = .ok (.iconst (-1), 1) := by decide +kernel
theorem dX5_gather_14 : decode cX5_gather 14 = .ok (.invokevirtual 135, 3) := by decide +kernel
theorem dX5_gather_17 : decode cX5_gather 17 = .ok (.ireturn, 1) := by decide +kernel
theorem dX5_gather_18 : decode cX5_gather 18 = .ok (.aload_n 0, 1) := by decide +kernel
theorem dX5_gather_19 : decode cX5_gather 19 = .ok (.iconst 0, 1) := by decide +kernel
theorem dX5_gather_20 : decode cX5_gather 20 = .ok (.putfield 181, 3) := by decide +kernel
theorem dX5_gather_23 : decode cX5_gather 23 = .ok (.iconst 0, 1) := by decide +kernel
theorem dX5_gather_24 : decode cX5_gather 24 = .ok (.istore_n 2, 1) := by decide +kernel
theorem dX5_gather_25 : decode cX5_gather 25 = .ok (.iload_n 2, 1) := by decide +kernel
theorem dX5_gather_26 : decode cX5_gather 26 = .ok (.bipush 6, 2) := by decide +kernel
theorem dX5_gather_28 : decode cX5_gather 28 = .ok (.if_icmp .ge 48, 3) := by decide +kernel
theorem dX5_gather_31 : decode cX5_gather 31 = .ok (.aload_n 0, 1) := by decide +kernel
theorem dX5_gather_32 : decode cX5_gather 32 = .ok (.getfield 13, 3) := by decide +kernel
theorem dX5_gather_35 : decode cX5_gather 35 = .ok (.iconst 4, 1) := by decide +kernel
theorem dX5_gather_36 : decode cX5_gather 36 = .ok (.iload_n 2, 1) := by decide +kernel
theorem dX5_gather_37 : decode cX5_gather 37 = .ok (.iadd, 1) := by decide +kernel
theorem dX5_gather_38 : decode cX5_gather 38 = .ok (.iaload, 1) := by decide +kernel
theorem dX5_gather_39 : decode cX5_gather 39 = .ok (.iconst (-1), 1) := by decide +kernel
theorem dX5_gather_40 : decode cX5_gather 40 = .ok (.if_icmp .eq 30, 3) := by decide +kernel
theorem dX5_gather_43 : decode cX5_gather 43 = .ok (.aload_n 0, 1) := by decide +kernel
theorem dX5_gather_44 : decode cX5_gather 44 = .ok (.getfield 39, 3) := by decide +kernel
theorem dX5_gather_47 : decode cX5_gather 47 = .ok (.aload_n 0, 1) := by decide +kernel
theorem dX5_gather_48 : decode cX5_gather 48 = .ok (.getfield 181, 3) := by decide +kernel
theorem dX5_gather_51 : decode cX5_gather 51 = .ok (.aload_n 0, 1) := by decide +kernel
theorem dX5_gather_52 : decode cX5_gather 52 = .ok (.getfield 13, 3) := by decide +kernel
theorem dX5_gather_55 : decode cX5_gather 55 = .ok (.iconst 4, 1) := by decide +kernel
theorem dX5_gather_56 : decode cX5_gather 56 = .ok (.iload_n 2, 1) := by decide +kernel
theorem dX5_gather_57 : decode cX5_gather 57 = .ok (.iadd, 1) := by decide +kernel
theorem dX5_gather_58 : decode cX5_gather 58 = .ok (.iaload, 1) := by decide +kernel
theorem dX5_gather_59 : decode cX5_gather 59 = .ok (.iastore, 1) := by decide +kernel
theorem dX5_gather_60 : decode cX5_gather 60 = .ok (.aload_n 0, 1) := by decide +kernel
theorem dX5_gather_61 : decode cX5_gather 61 = .ok (.dup, 1) := by decide +kernel
theorem dX5_gather_62 : decode cX5_gather 62 = .ok (.getfield 181, 3) := by decide +kernel
theorem dX5_gather_65 : decode cX5_gather 65 = .ok (.iconst 1, 1) := by decide +kernel
theorem dX5_gather_66 : decode cX5_gather 66 = .ok (.iadd, 1) := by decide +kernel
theorem dX5_gather_67 : decode cX5_gather 67 = .ok (.putfield 181, 3) := by decide +kernel
theorem dX5_gather_70 : decode cX5_gather 70 = .ok (.iinc 2 1, 3) := by decide +kernel
theorem dX5_gather_73 : decode cX5_gather 73 = .ok (.goto (-48), 3) := by decide +kernel
theorem dX5_gather_76 : decode cX5_gather 76 = .ok (.aload_n 0, 1) := by decide +kernel
theorem dX5_gather_77 : decode cX5_gather 77 = .ok (.getfield 181, 3) := by decide +kernel
theorem dX5_gather_80 : decode cX5_gather 80 = .ok (.ifCond .ne 10, 3) := by decide +kernel
theorem dX5_gather_83 : decode cX5_gather 83 = .ok (.aload_n 0, 1) := by decide +kernel
theorem dX5_gather_84 : decode cX5_gather 84 = .ok (.bipush (-3), 2) := by decide +kernel
theorem dX5_gather_86 : decode cX5_gather 86 = .ok (.invokevirtual 135, 3) := by decide +kernel
theorem dX5_gather_89 : decode cX5_gather 89 = .ok (.ireturn, 1) := by decide +kernel
theorem dX5_gather_90 : decode cX5_gather 90 = .ok (.aload_n 0, 1) := by decide +kernel
theorem dX5_gather_91 : decode cX5_gather 91 = .ok (.getfield 71, 3) := by decide +kernel
theorem dX5_gather_94 : decode cX5_gather 94 = .ok (.istore_n 2, 1) := by decide +kernel
theorem dX5_gather_95 : decode cX5_gather 95 = .ok (.aload_n 0, 1) := by decide +kernel
theorem dX5_gather_96 : decode cX5_gather 96 = .ok (.invokevirtual 184, 3) := by decide +kernel
theorem dX5_gather_99 : decode cX5_gather 99 = .ok (.istore_n 3, 1) := by decide +kernel
theorem dX5_gather_100 : decode cX5_gather 100 = .ok (.iconst 0, 1) := by decide +kernel
theorem dX5_gather_101 : decode cX5_gather 101 = .ok (.istore 4, 2) := by decide +kernel
theorem dX5_gather_103 : decode cX5_gather 103 = .ok (.iload 4, 2) := by decide +kernel
theorem dX5_gather_105 : decode cX5_gather 105 = .ok (.bipush 6, 2) := by decide +kernel
theorem dX5_gather_107 : decode cX5_gather 107 = .ok (.if_icmp .ge 26, 3) := by decide +kernel
theorem dX5_gather_110 : decode cX5_gather 110 = .ok (.aload_n 0, 1) := by decide +kernel
theorem dX5_gather_111 : decode cX5_gather 111 = .ok (.getfield 13, 3) := by decide +kernel
theorem dX5_gather_114 : decode cX5_gather 114 = .ok (.iconst 4, 1) := by decide +kernel
theorem dX5_gather_115 : decode cX5_gather 115 = .ok (.iload 4, 2) := by decide +kernel
theorem dX5_gather_117 : decode cX5_gather 117 = .ok (.iadd, 1) := by decide +kernel
theorem dX5_gather_118 : decode cX5_gather 118 = .ok (.iconst (-1), 1) := by decide +kernel
theorem dX5_gather_119 : decode cX5_gather 119 = .ok (.iastore, 1) := by decide +kernel
theorem dX5_gather_120 : decode cX5_gather 120 = .ok (.aload_n 0, 1) := by decide +kernel
theorem dX5_gather_121 : decode cX5_gather 121 = .ok (.iload 4, 2) := by decide +kernel
theorem dX5_gather_123 : decode cX5_gather 123 = .ok (.iload_n 1, 1) := by decide +kernel
theorem dX5_gather_124 : decode cX5_gather 124 = .ok (.invokevirtual 173, 3) := by decide +kernel
theorem dX5_gather_127 : decode cX5_gather 127 = .ok (.iinc 4 1, 3) := by decide +kernel
theorem dX5_gather_130 : decode cX5_gather 130 = .ok (.goto (-27), 3) := by decide +kernel
theorem dX5_gather_133 : decode cX5_gather 133 = .ok (.aload_n 0, 1) := by decide +kernel
theorem dX5_gather_134 : decode cX5_gather 134 = .ok (.getfield 13, 3) := by decide +kernel
theorem dX5_gather_137 : decode cX5_gather 137 = .ok (.iconst 4, 1) := by decide +kernel
theorem dX5_gather_138 : decode cX5_gather 138 = .ok (.iload_n 1, 1) := by decide +kernel
theorem dX5_gather_139 : decode cX5_gather 139 = .ok (.iadd, 1) := by decide +kernel
theorem dX5_gather_140 : decode cX5_gather 140 = .ok (.iload_n 3, 1) := by decide +kernel
theorem dX5_gather_141 : decode cX5_gather 141 = .ok (.iastore, 1) := by decide +kernel
theorem dX5_gather_142 : decode cX5_gather 142 = .ok (.aload_n 0, 1) := by decide +kernel
theorem dX5_gather_143 : decode cX5_gather 143 = .ok (.getfield 71, 3) := by decide +kernel
theorem dX5_gather_146 : decode cX5_gather 146 = .ok (.iload_n 2, 1) := by decide +kernel
theorem dX5_gather_147 : decode cX5_gather 147 = .ok (.isub, 1) := by decide +kernel
theorem dX5_gather_148 : decode cX5_gather 148 = .ok (.istore 4, 2) := by decide +kernel
theorem dX5_gather_150 : decode cX5_gather 150 = .ok (.aload_n 0, 1) := by decide +kernel
theorem dX5_gather_151 : decode cX5_gather 151 = .ok (.invokevirtual 141, 3) := by decide +kernel
theorem dX5_gather_154 : decode cX5_gather 154 = .ok (.iload 4, 2) := by decide +kernel
theorem dX5_gather_156 : decode cX5_gather 156 = .ok (.ireturn, 1) := by decide +kernel
set_option maxRecDepth 20000 in
theorem ggX5_even_X5_many : GoodIn wsX5_even wsX5_many := goodIn_r _ [6, 7, 8, 9, 5, 10, 66, 67, 68, 69, 70, 71, 72, 73, 74, 75, 76, 77, 78, 79, 80, 81, 82, 83, 84, 85, 86, 87, 88, 89, 90, 91, 92] (by decide +kernel) (by decide +kernel)
set_option maxRecDepth 20000 in
theorem gX5_even_X5_many : GoodIn wsX5_even (wsV RX5 156 RX5 yX5_many wsX5_many) := goodIn_app (goodIn_of _ (by decide +kernel)) ggX5_even_X5_many
set_option maxRecDepth 20000 in
theorem ggX5_even_X5_partOne : GoodIn wsX5_even wsX5_partOne := goodIn_r _ [14, 7, 15, 16, 17, 5, 18, 19, 20, 21, 22, 8, 9, 10, 23, 24, 25, 26, 27, 28, 29, 30, 31, 32, 33, 34, 35, 36, 37, 38, 39, 40, 41, 42, 43, 44, 45, 46, 47, 48, 49, 50, 51, 52, 53, 54, 55, 56, 57, 58, 59, 60, 61, 62, 63, 64, 65, 66, 67, 68, 69, 70, 71, 72, 73, 74, 75, 76, 77, 78, 79, 80, 81, 82, 83, 84, 85, 86, 87, 88, 89, 90, 91, 92] (by decide +kernel) (by decide +kernel)
set_option maxRecDepth 20000 in
theorem gX5_even_X5_partOne : GoodIn wsX5_even (wsV RX5 178 RX5 yX5_partOne wsX5_partOne) := goodIn_app (goodIn_of _ (by decide +kernel)) ggX5_even_X5_partOne
theorem dX5_even_0 : decode cX5_even 0 = .ok (.aload_n 0, 1) := by decide +kernel
theorem dX5_even_1 : decode cX5_even 1 = .ok (.iconst 0, 1) := by decide +kernel
theorem dX5_even_2 : decode cX5_even 2 = .ok (.putfield 63, 3) := by decide +kernel
theorem dX5_even_5 : decode cX5_even 5 = .ok (.iconst 0, 1) := by decide +kernel
theorem dX5_even_6 : decode cX5_even 6 = .ok (.istore_n 1, 1) := by decide +kernel
theorem dX5_even_7 : decode cX5_even 7 = .ok (.iconst 0, 1) := by decide +kernel
theorem dX5_even_8 : decode cX5_even 8 = .ok (.istore_n 2, 1) := by decide +kernel
theorem dX5_even_9 : decode cX5_even 9 = .ok (.iconst 0, 1) := by decide +kernel
theorem dX5_even_10 : decode cX5_even 10 = .ok (.istore_n 3, 1) := by decide +kernel
theorem dX5_even_11 : decode cX5_even 11 = .ok (.iconst 1, 1) := by decide +kernel
theorem dX5_even_12 : decode cX5_even 12 = .ok (.istore 4, 2) := by decide +kernel
theorem dX5_even_14 : decode cX5_even 14 = .ok (.iload 4, 2) := by decide +kernel
theorem dX5_even_16 : decode cX5_even 16 = .ok (.bipush 6, 2) := by decide +kernel
theorem dX5_even_18 : decode cX5_even 18 = .ok (.if_icmp .ge 55, 3) := by decide +kernel
theorem dX5_even_21 : decode cX5_even 21 = .ok (.aload_n 0, 1) := by decide +kernel
theorem dX5_even_22 : decode cX5_even 22 = .ok (.iload 4, 2) := by decide +kernel
theorem dX5_even_24 : decode cX5_even 24 = .ok (.iconst 0, 1) := by decide +kernel
theorem dX5_even_25 : decode cX5_even 25 = .ok (.invokevirtual 156, 3) := by decide +kernel
theorem dX5_even_28 : decode cX5_even 28 = .ok (.aload_n 0, 1) := by decide +kernel
theorem dX5_even_29 : decode cX5_even 29 = .ok (.iload_n 2, 1) := by decide +kernel
theorem dX5_even_30 : decode cX5_even 30 = .ok (.iconst 0, 1) := by decide +kernel
theorem dX5_even_31 : decode cX5_even 31 = .ok (.invokevirtual 156, 3) := by decide +kernel
theorem dX5_even_34 : decode cX5_even 34 = .ok (.if_icmp .le 8, 3) := by decide +kernel
theorem dX5_even_37 : decode cX5_even 37 = .ok (.iload 4, 2) := by decide +kernel
theorem dX5_even_39 : decode cX5_even 39 = .ok (.goto 4, 3) := by decide +kernel
theorem dX5_even_42 : decode cX5_even 42 = .ok (.iload_n 2, 1) := by decide +kernel
theorem dX5_even_43 : decode cX5_even 43 = .ok (.istore_n 2, 1) := by decide +kernel
theorem dX5_even_44 : decode cX5_even 44 = .ok (.aload_n 0, 1) := by decide +kernel
theorem dX5_even_45 : decode cX5_even 45 = .ok (.iload 4, 2) := by decide +kernel
theorem dX5_even_47 : decode cX5_even 47 = .ok (.iconst 0, 1) := by decide +kernel
theorem dX5_even_48 : decode cX5_even 48 = .ok (.invokevirtual 156, 3) := by decide +kernel
theorem dX5_even_51 : decode cX5_even 51 = .ok (.aload_n 0, 1) := by decide +kernel
theorem dX5_even_52 : decode cX5_even 52 = .ok (.iload_n 3, 1) := by decide +kernel
theorem dX5_even_53 : decode cX5_even 53 = .ok (.iconst 0, 1) := by decide +kernel
theorem dX5_even_54 : decode cX5_even 54 = .ok (.invokevirtual 156, 3) := by decide +kernel
theorem dX5_even_57 : decode cX5_even 57 = .ok (.if_icmp .ge 8, 3) := by decide +kernel
theorem dX5_even_60 : decode cX5_even 60 = .ok (.iload 4, 2) := by decide +kernel
theorem dX5_even_62 : decode cX5_even 62 = .ok (.goto 4, 3) := by decide +kernel
theorem dX5_even_65 : decode cX5_even 65 = .ok (.iload_n 3, 1) := by decide +kernel
theorem dX5_even_66 : decode cX5_even 66 = .ok (.istore_n 3, 1) := by decide +kernel
theorem dX5_even_67 : decode cX5_even 67 = .ok (.iinc 4 1, 3) := by decide +kernel
theorem dX5_even_70 : decode cX5_even 70 = .ok (.goto (-56), 3) := by decide +kernel
theorem dX5_even_73 : decode cX5_even 73 = .ok (.aload_n 0, 1) := by decide +kernel
theorem dX5_even_74 : decode cX5_even 74 = .ok (.iload_n 2, 1) := by decide +kernel
theorem dX5_even_75 : decode cX5_even 75 = .ok (.iconst 0, 1) := by decide +kernel
theorem dX5_even_76 : decode cX5_even 76 = .ok (.invokevirtual 156, 3) := by decide +kernel
theorem dX5_even_79 : decode cX5_even 79 = .ok (.aload_n 0, 1) := by decide +kernel
theorem dX5_even_80 : decode cX5_even 80 = .ok (.iload_n 3, 1) := by decide +kernel
theorem dX5_even_81 : decode cX5_even 81 = .ok (.iconst 0, 1) := by decide +kernel
theorem dX5_even_82 : decode cX5_even 82 = .ok (.invokevirtual 156, 3) := by decide +kernel
theorem dX5_even_85 : decode cX5_even 85 = .ok (.isub, 1) := by decide +kernel
theorem dX5_even_86 : decode cX5_even 86 = .ok (.iconst 2, 1) := by decide +kernel
theorem dX5_even_87 : decode cX5_even 87 = .ok (.if_icmp .ge 5, 3) := by decide +kernel
theorem dX5_even_90 : decode cX5_even 90 = .ok (.iload_n 1, 1) := by decide +kernel
theorem dX5_even_91 : decode cX5_even 91 = .ok (.ireturn, 1) := by decide +kernel
theorem dX5_even_92 : decode cX5_even 92 = .ok (.aload_n 0, 1) := by decide +kernel
theorem dX5_even_93 : decode cX5_even 93 = .ok (.iload_n 2, 1) := by decide +kernel
theorem dX5_even_94 : decode cX5_even 94 = .ok (.iload_n 3, 1) := by decide +kernel
theorem dX5_even_95 : decode cX5_even 95 = .ok (.invokevirtual 178, 3) := by decide +kernel
theorem dX5_even_98 : decode cX5_even 98 = .ok (.pop, 1) := by decide +kernel
theorem dX5_even_99 : decode cX5_even 99 = .ok (.iinc 1 1, 3) := by decide +kernel
theorem dX5_even_102 : decode cX5_even 102 = .ok (.goto (-95), 3) := by decide +kernel
set_option maxRecDepth 20000 in
theorem ggX5_isArc_X5_in : GoodIn wsX5_isArc wsX5_in := goodIn_r _ [6] (by decide +kernel) (by decide +kernel)
set_option maxRecDepth 20000 in
theorem gX5_isArc_X5_in : GoodIn wsX5_isArc (va_wsS RX5 77 yX5_in wsX5_in) := goodIn_app (goodIn_of _ (by decide +kernel)) ggX5_isArc_X5_in
theorem dX5_isArc_0 : decode cX5_isArc 0 = .ok (.iload_n 1, 1) := by decide +kernel
theorem dX5_isArc_1 : decode cX5_isArc 1 = .ok (.i2l, 1) := by decide +kernel
theorem dX5_isArc_2 : decode cX5_isArc 2 = .ok (.lconst 0, 1) := by decide +kernel
theorem dX5_isArc_3 : decode cX5_isArc 3 = .ok (.ldc2_w 190, 3) := by decide +kernel
theorem dX5_isArc_6 : decode cX5_isArc 6 = .ok (.invokestatic 77, 3) := by decide +kernel
theorem dX5_isArc_9 : decode cX5_isArc 9 = .ok (.ifCond .eq 22, 3) := by decide +kernel
theorem dX5_isArc_12 : decode cX5_isArc 12 = .ok (.aload_n 0, 1) := by decide +kernel
theorem dX5_isArc_13 : decode cX5_isArc 13 = .ok (.getfield 13, 3) := by decide +kernel
theorem dX5_isArc_16 : decode cX5_isArc 16 = .ok (.bipush 10, 2) := by decide +kernel
theorem dX5_isArc_18 : decode cX5_isArc 18 = .ok (.iconst 3, 1) := by decide +kernel
theorem dX5_isArc_19 : decode cX5_isArc 19 = .ok (.iload_n 1, 1) := by decide +kernel
theorem dX5_isArc_20 : decode cX5_isArc 20 = .ok (.imul, 1) := by decide +kernel
theorem dX5_isArc_21 : decode cX5_isArc 21 = .ok (.iadd, 1) := by decide +kernel
theorem dX5_isArc_22 : decode cX5_isArc 22 = .ok (.iaload, 1) := by decide +kernel
theorem dX5_isArc_23 : decode cX5_isArc 23 = .ok (.iconst (-1), 1) := by decide +kernel
theorem dX5_isArc_24 : decode cX5_isArc 24 = .ok (.if_icmp .eq 7, 3) := by decide +kernel
theorem dX5_isArc_27 : decode cX5_isArc 27 = .ok (.iconst 1, 1) := by decide +kernel
theorem dX5_isArc_28 : decode cX5_isArc 28 = .ok (.goto 4, 3) := by decide +kernel
theorem dX5_isArc_31 : decode cX5_isArc 31 = .ok (.iconst 0, 1) := by decide +kernel
theorem dX5_isArc_32 : decode cX5_isArc 32 = .ok (.ireturn, 1) := by decide +kernel
set_option maxRecDepth 20000 in
theorem ggX5_isPlace_X5_in : GoodIn wsX5_isPlace wsX5_in := goodIn_r _ [5] (by decide +kernel) (by decide +kernel)
set_option maxRecDepth 20000 in
theorem gX5_isPlace_X5_in : GoodIn wsX5_isPlace (va_wsS RX5 77 yX5_in wsX5_in) := goodIn_app (goodIn_of _ (by decide +kernel)) ggX5_isPlace_X5_in
theorem dX5_isPlace_0 : decode cX5_isPlace 0 = .ok (.iload_n 0, 1) := by decide +kernel
theorem dX5_isPlace_1 : decode cX5_isPlace 1 = .ok (.i2l, 1) := by decide +kernel
theorem dX5_isPlace_2 : decode cX5_isPlace 2 = .ok (.lconst 0, 1) := by decide +kernel
theorem dX5_isPlace_3 : decode cX5_isPlace 3 = .ok (.ldc2_w 192, 3) := by decide +kernel
theorem dX5_isPlace_6 : decode cX5_isPlace 6 = .ok (.invokestatic 77, 3) := by decide +kernel
theorem dX5_isPlace_9 : decode cX5_isPlace 9 = .ok (.ireturn, 1) := by decide +kernel
set_option maxRecDepth 20000 in
theorem ggX5_arc_X5_isPlace : GoodIn wsX5_arc wsX5_isPlace := goodIn_r _ [7, 8, 9, 10, 6, 11] (by decide +kernel) (by decide +kernel)
set_option maxRecDepth 20000 in
theorem gX5_arc_X5_isPlace : GoodIn wsX5_arc (va_wsS RX5 194 yX5_isPlace wsX5_isPlace) := goodIn_app (goodIn_of _ (by decide +kernel)) ggX5_arc_X5_isPlace
set_option maxRecDepth 20000 in
theorem ggX5_arc_X5_in : GoodIn wsX5_arc wsX5_in := goodIn_r _ [11] (by decide +kernel) (by decide +kernel)
set_option maxRecDepth 20000 in
theorem gX5_arc_X5_in : GoodIn wsX5_arc (va_wsS RX5 77 yX5_in wsX5_in) := goodIn_app (goodIn_of _ (by decide +kernel)) ggX5_arc_X5_in
set_option maxRecDepth 20000 in
theorem ggX5_arc_X5_refuse : GoodIn wsX5_arc wsX5_refuse := goodIn_r _ [15, 16, 22, 23, 24, 25, 26, 27, 28, 29, 30, 31, 32, 33, 34, 35, 36, 37, 38, 39, 40, 41, 42, 43, 44, 45, 46, 47, 48] (by decide +kernel) (by decide +kernel)
set_option maxRecDepth 20000 in
theorem gX5_arc_X5_refuse : GoodIn wsX5_arc (wsV RX5 135 RX5 yX5_refuse wsX5_refuse) := goodIn_app (goodIn_of _ (by decide +kernel)) ggX5_arc_X5_refuse
set_option maxRecDepth 20000 in
theorem ggX5_arc_X5_isArc : GoodIn wsX5_arc wsX5_isArc := goodIn_r _ [20, 21, 3, 9, 10, 6, 11, 22, 23, 24, 25, 26, 27, 28, 29, 30, 31, 32, 33, 34, 35, 36, 37, 38, 39, 40, 41, 42, 43, 44, 45, 46, 47, 48] (by decide +kernel) (by decide +kernel)
set_option maxRecDepth 20000 in
theorem gX5_arc_X5_isArc : GoodIn wsX5_arc (wsV RX5 197 RX5 yX5_isArc wsX5_isArc) := goodIn_app (goodIn_of _ (by decide +kernel)) ggX5_arc_X5_isArc
theorem dX5_arc_0 : decode cX5_arc 0 = .ok (.aload_n 0, 1) := by decide +kernel
theorem dX5_arc_1 : decode cX5_arc 1 = .ok (.iconst 0, 1) := by decide +kernel
theorem dX5_arc_2 : decode cX5_arc 2 = .ok (.putfield 63, 3) := by decide +kernel
theorem dX5_arc_5 : decode cX5_arc 5 = .ok (.iload_n 1, 1) := by decide +kernel
theorem dX5_arc_6 : decode cX5_arc 6 = .ok (.invokestatic 194, 3) := by decide +kernel
theorem dX5_arc_9 : decode cX5_arc 9 = .ok (.ifCond .eq 27, 3) := by decide +kernel
theorem dX5_arc_12 : decode cX5_arc 12 = .ok (.iload_n 2, 1) := by decide +kernel
theorem dX5_arc_13 : decode cX5_arc 13 = .ok (.invokestatic 194, 3) := by decide +kernel
theorem dX5_arc_16 : decode cX5_arc 16 = .ok (.ifCond .eq 20, 3) := by decide +kernel
theorem dX5_arc_19 : decode cX5_arc 19 = .ok (.iload_n 1, 1) := by decide +kernel
theorem dX5_arc_20 : decode cX5_arc 20 = .ok (.iload_n 2, 1) := by decide +kernel
theorem dX5_arc_21 : decode cX5_arc 21 = .ok (.if_icmp .eq 15, 3) := by decide +kernel
theorem dX5_arc_24 : decode cX5_arc 24 = .ok (.iload_n 3, 1) := by decide +kernel
theorem dX5_arc_25 : decode cX5_arc 25 = .ok (.i2l, 1) := by decide +kernel
theorem dX5_arc_26 : decode cX5_arc 26 = .ok (.lconst 0, 1) := by decide +kernel
theorem dX5_arc_27 : decode cX5_arc 27 = .ok (.ldc2_w 168, 3) := by decide +kernel
theorem dX5_arc_30 : decode cX5_arc 30 = .ok (.invokestatic 77, 3) := by decide +kernel
theorem dX5_arc_33 : decode cX5_arc 33 = .ok (.ifCond .ne 9, 3) := by decide +kernel
theorem dX5_arc_36 : decode cX5_arc 36 = .ok (.aload_n 0, 1) := by decide +kernel
theorem dX5_arc_37 : decode cX5_arc 37 = .ok (.iconst (-1), 1) := by decide +kernel
theorem dX5_arc_38 : decode cX5_arc 38 = .ok (.invokevirtual 135, 3) := by decide +kernel
theorem dX5_arc_41 : decode cX5_arc 41 = .ok (.ireturn, 1) := by decide +kernel
theorem dX5_arc_42 : decode cX5_arc 42 = .ok (.iconst 0, 1) := by decide +kernel
theorem dX5_arc_43 : decode cX5_arc 43 = .ok (.istore 4, 2) := by decide +kernel
theorem dX5_arc_45 : decode cX5_arc 45 = .ok (.iload 4, 2) := by decide +kernel
theorem dX5_arc_47 : decode cX5_arc 47 = .ok (.bipush 20, 2) := by decide +kernel
theorem dX5_arc_49 : decode cX5_arc 49 = .ok (.if_icmp .ge 64, 3) := by decide +kernel
theorem dX5_arc_52 : decode cX5_arc 52 = .ok (.aload_n 0, 1) := by decide +kernel
theorem dX5_arc_53 : decode cX5_arc 53 = .ok (.iload 4, 2) := by decide +kernel
theorem dX5_arc_55 : decode cX5_arc 55 = .ok (.invokevirtual 197, 3) := by decide +kernel
theorem dX5_arc_58 : decode cX5_arc 58 = .ok (.ifCond .ne 49, 3) := by decide +kernel
theorem dX5_arc_61 : decode cX5_arc 61 = .ok (.aload_n 0, 1) := by decide +kernel
theorem dX5_arc_62 : decode cX5_arc 62 = .ok (.getfield 13, 3) := by decide +kernel
theorem dX5_arc_65 : decode cX5_arc 65 = .ok (.bipush 10, 2) := by decide +kernel
theorem dX5_arc_67 : decode cX5_arc 67 = .ok (.iconst 3, 1) := by decide +kernel
theorem dX5_arc_68 : decode cX5_arc 68 = .ok (.iload 4, 2) := by decide +kernel
theorem dX5_arc_70 : decode cX5_arc 70 = .ok (.imul, 1) := by decide +kernel
theorem dX5_arc_71 : decode cX5_arc 71 = .ok (.iadd, 1) := by decide +kernel
theorem dX5_arc_72 : decode cX5_arc 72 = .ok (.iload_n 1, 1) := by decide +kernel
theorem dX5_arc_73 : decode cX5_arc 73 = .ok (.iastore, 1) := by decide +kernel
theorem dX5_arc_74 : decode cX5_arc 74 = .ok (.aload_n 0, 1) := by decide +kernel
theorem dX5_arc_75 : decode cX5_arc 75 = .ok (.getfield 13, 3) := by decide +kernel
theorem dX5_arc_78 : decode cX5_arc 78 = .ok (.bipush 10, 2) := by decide +kernel
theorem dX5_arc_80 : decode cX5_arc 80 = .ok (.iconst 3, 1) := by decide +kernel
theorem dX5_arc_81 : decode cX5_arc 81 = .ok (.iload 4, 2) := by decide +kernel
theorem dX5_arc_83 : decode cX5_arc 83 = .ok (.imul, 1) := by decide +kernel
theorem dX5_arc_84 : decode cX5_arc 84 = .ok (.iadd, 1) := by decide +kernel
theorem dX5_arc_85 : decode cX5_arc 85 = .ok (.iconst 1, 1) := by decide +kernel
theorem dX5_arc_86 : decode cX5_arc 86 = .ok (.iadd, 1) := by decide +kernel
theorem dX5_arc_87 : decode cX5_arc 87 = .ok (.iload_n 2, 1) := by decide +kernel
theorem dX5_arc_88 : decode cX5_arc 88 = .ok (.iastore, 1) := by decide +kernel
theorem dX5_arc_89 : decode cX5_arc 89 = .ok (.aload_n 0, 1) := by decide +kernel
theorem dX5_arc_90 : decode cX5_arc 90 = .ok (.getfield 13, 3) := by decide +kernel
theorem dX5_arc_93 : decode cX5_arc 93 = .ok (.bipush 10, 2) := by decide +kernel
theorem dX5_arc_95 : decode cX5_arc 95 = .ok (.iconst 3, 1) := by decide +kernel
theorem dX5_arc_96 : decode cX5_arc 96 = .ok (.iload 4, 2) := by decide +kernel
theorem dX5_arc_98 : decode cX5_arc 98 = .ok (.imul, 1) := by decide +kernel
theorem dX5_arc_99 : decode cX5_arc 99 = .ok (.iadd, 1) := by decide +kernel
theorem dX5_arc_100 : decode cX5_arc 100 = .ok (.iconst 2, 1) := by decide +kernel
theorem dX5_arc_101 : decode cX5_arc 101 = .ok (.iadd, 1) := by decide +kernel
theorem dX5_arc_102 : decode cX5_arc 102 = .ok (.iload_n 3, 1) := by decide +kernel
theorem dX5_arc_103 : decode cX5_arc 103 = .ok (.iastore, 1) := by decide +kernel
theorem dX5_arc_104 : decode cX5_arc 104 = .ok (.iload 4, 2) := by decide +kernel
theorem dX5_arc_106 : decode cX5_arc 106 = .ok (.ireturn, 1) := by decide +kernel
theorem dX5_arc_107 : decode cX5_arc 107 = .ok (.iinc 4 1, 3) := by decide +kernel
theorem dX5_arc_110 : decode cX5_arc 110 = .ok (.goto (-65), 3) := by decide +kernel
theorem dX5_arc_113 : decode cX5_arc 113 = .ok (.aload_n 0, 1) := by decide +kernel
theorem dX5_arc_114 : decode cX5_arc 114 = .ok (.bipush (-5), 2) := by decide +kernel
theorem dX5_arc_116 : decode cX5_arc 116 = .ok (.invokevirtual 135, 3) := by decide +kernel
theorem dX5_arc_119 : decode cX5_arc 119 = .ok (.ireturn, 1) := by decide +kernel
set_option maxRecDepth 20000 in
theorem ggX5_arcMany_X5_isArc : GoodIn wsX5_arcMany wsX5_isArc := goodIn_r _ [5, 6, 7, 8, 9, 4, 10, 11, 12, 13, 14, 15, 16, 17, 18, 19, 20, 21, 22, 23, 24, 25, 26, 27, 28, 29, 30, 31, 32, 33, 34, 35, 36, 37] (by decide +kernel) (by decide +kernel)
set_option maxRecDepth 20000 in
theorem gX5_arcMany_X5_isArc : GoodIn wsX5_arcMany (wsV RX5 197 RX5 yX5_isArc wsX5_isArc) := goodIn_app (goodIn_of _ (by decide +kernel)) ggX5_arcMany_X5_isArc
theorem dX5_arcMany_0 : decode cX5_arcMany 0 = .ok (.iconst 0, 1) := by decide +kernel
theorem dX5_arcMany_1 : decode cX5_arcMany 1 = .ok (.istore_n 1, 1) := by decide +kernel
theorem dX5_arcMany_2 : decode cX5_arcMany 2 = .ok (.iconst 0, 1) := by decide +kernel
theorem dX5_arcMany_3 : decode cX5_arcMany 3 = .ok (.istore_n 2, 1) := by decide +kernel
theorem dX5_arcMany_4 : decode cX5_arcMany 4 = .ok (.iload_n 2, 1) := by decide +kernel
theorem dX5_arcMany_5 : decode cX5_arcMany 5 = .ok (.bipush 20, 2) := by decide +kernel
theorem dX5_arcMany_7 : decode cX5_arcMany 7 = .ok (.if_icmp .ge 25, 3) := by decide +kernel
theorem dX5_arcMany_10 : decode cX5_arcMany 10 = .ok (.iload_n 1, 1) := by decide +kernel
theorem dX5_arcMany_11 : decode cX5_arcMany 11 = .ok (.aload_n 0, 1) := by decide +kernel
theorem dX5_arcMany_12 : decode cX5_arcMany 12 = .ok (.iload_n 2, 1) := by decide +kernel
theorem dX5_arcMany_13 : decode cX5_arcMany 13 = .ok (.invokevirtual 197, 3) := by decide +kernel
theorem dX5_arcMany_16 : decode cX5_arcMany 16 = .ok (.ifCond .eq 7, 3) := by decide +kernel
theorem dX5_arcMany_19 : decode cX5_arcMany 19 = .ok (.iconst 1, 1) := by decide +kernel
theorem dX5_arcMany_20 : decode cX5_arcMany 20 = .ok (.goto 4, 3) := by decide +kernel
theorem dX5_arcMany_23 : decode cX5_arcMany 23 = .ok (.iconst 0, 1) := by decide +kernel
theorem dX5_arcMany_24 : decode cX5_arcMany 24 = .ok (.iadd, 1) := by decide +kernel
theorem dX5_arcMany_25 : decode cX5_arcMany 25 = .ok (.istore_n 1, 1) := by decide +kernel
theorem dX5_arcMany_26 : decode cX5_arcMany 26 = .ok (.iinc 2 1, 3) := by decide +kernel
theorem dX5_arcMany_29 : decode cX5_arcMany 29 = .ok (.goto (-25), 3) := by decide +kernel
theorem dX5_arcMany_32 : decode cX5_arcMany 32 = .ok (.iload_n 1, 1) := by decide +kernel
theorem dX5_arcMany_33 : decode cX5_arcMany 33 = .ok (.ireturn, 1) := by decide +kernel
set_option maxRecDepth 20000 in
theorem ggX5_unarc_X5_isArc : GoodIn wsX5_unarc wsX5_isArc := goodIn_r _ [7, 8, 2, 9, 10, 6, 11, 21, 22, 23, 24, 25, 26, 27, 28, 29, 30, 31, 32, 33, 34, 35, 36, 37, 38, 39, 40, 41, 42, 43, 44, 45, 46, 47] (by decide +kernel) (by decide +kernel)
set_option maxRecDepth 20000 in
theorem gX5_unarc_X5_isArc : GoodIn wsX5_unarc (wsV RX5 197 RX5 yX5_isArc wsX5_isArc) := goodIn_app (goodIn_of _ (by decide +kernel)) ggX5_unarc_X5_isArc
set_option maxRecDepth 20000 in
theorem ggX5_unarc_X5_refuse : GoodIn wsX5_unarc wsX5_refuse := goodIn_r _ [15, 16, 21, 22, 23, 24, 25, 26, 27, 28, 29, 30, 31, 32, 33, 34, 35, 36, 37, 38, 39, 40, 41, 42, 43, 44, 45, 46, 47] (by decide +kernel) (by decide +kernel)
set_option maxRecDepth 20000 in
theorem gX5_unarc_X5_refuse : GoodIn wsX5_unarc (wsV RX5 135 RX5 yX5_refuse wsX5_refuse) := goodIn_app (goodIn_of _ (by decide +kernel)) ggX5_unarc_X5_refuse
set_option maxRecDepth 20000 in
theorem ggX5_unarc_X5_arcMany : GoodIn wsX5_unarc wsX5_arcMany := goodIn_r _ [20, 3, 4, 5, 6, 7, 8, 2, 9, 10, 11, 21, 22, 23, 24, 25, 26, 27, 28, 29, 30, 31, 32, 33, 34, 35, 36, 37, 38, 39, 40, 41, 42, 43, 44, 45, 46, 47] (by decide +kernel) (by decide +kernel)
set_option maxRecDepth 20000 in
theorem gX5_unarc_X5_arcMany : GoodIn wsX5_unarc (wsV RX5 200 RX5 yX5_arcMany wsX5_arcMany) := goodIn_app (goodIn_of _ (by decide +kernel)) ggX5_unarc_X5_arcMany
theorem dX5_unarc_0 : decode cX5_unarc 0 = .ok (.aload_n 0, 1) := by decide +kernel
theorem dX5_unarc_1 : decode cX5_unarc 1 = .ok (.iconst 0, 1) := by decide +kernel
theorem dX5_unarc_2 : decode cX5_unarc 2 = .ok (.putfield 63, 3) := by decide +kernel
theorem dX5_unarc_5 : decode cX5_unarc 5 = .ok (.aload_n 0, 1) := by decide +kernel
theorem dX5_unarc_6 : decode cX5_unarc 6 = .ok (.iload_n 1, 1) := by decide +kernel
theorem dX5_unarc_7 : decode cX5_unarc 7 = .ok (.invokevirtual 197, 3) := by decide +kernel
theorem dX5_unarc_10 : decode cX5_unarc 10 = .ok (.ifCond .ne 10, 3) := by decide +kernel
theorem dX5_unarc_13 : decode cX5_unarc 13 = .ok (.aload_n 0, 1) := by decide +kernel
theorem dX5_unarc_14 : decode cX5_unarc 14 = .ok (.bipush (-2), 2) := by decide +kernel
theorem dX5_unarc_16 : decode cX5_unarc 16 = .ok (.invokevirtual 135, 3) := by decide +kernel
theorem dX5_unarc_19 : decode cX5_unarc 19 = .ok (.ireturn, 1) := by decide +kernel
theorem dX5_unarc_20 : decode cX5_unarc 20 = .ok (.aload_n 0, 1) := by decide +kernel
theorem dX5_unarc_21 : decode cX5_unarc 21 = .ok (.getfield 13, 3) := by decide +kernel
theorem dX5_unarc_24 : decode cX5_unarc 24 = .ok (.bipush 10, 2) := by decide +kernel
theorem dX5_unarc_26 : decode cX5_unarc 26 = .ok (.iconst 3, 1) := by decide +kernel
theorem dX5_unarc_27 : decode cX5_unarc 27 = .ok (.iload_n 1, 1) := by decide +kernel
theorem dX5_unarc_28 : decode cX5_unarc 28 = .ok (.imul, 1) := by decide +kernel
theorem dX5_unarc_29 : decode cX5_unarc 29 = .ok (.iadd, 1) := by decide +kernel
theorem dX5_unarc_30 : decode cX5_unarc 30 = .ok (.iconst (-1), 1) := by decide +kernel
theorem dX5_unarc_31 : decode cX5_unarc 31 = .ok (.iastore, 1) := by decide +kernel
theorem dX5_unarc_32 : decode cX5_unarc 32 = .ok (.aload_n 0, 1) := by decide +kernel
theorem dX5_unarc_33 : decode cX5_unarc 33 = .ok (.invokevirtual 200, 3) := by decide +kernel
theorem dX5_unarc_36 : decode cX5_unarc 36 = .ok (.ireturn, 1) := by decide +kernel
set_option maxRecDepth 20000 in
theorem ggX5_price_X5_in : GoodIn wsX5_price wsX5_in := goodIn_r _ [7] (by decide +kernel) (by decide +kernel)
set_option maxRecDepth 20000 in
theorem gX5_price_X5_in : GoodIn wsX5_price (va_wsS RX5 77 yX5_in wsX5_in) := goodIn_app (goodIn_of _ (by decide +kernel)) ggX5_price_X5_in
set_option maxRecDepth 20000 in
theorem ggX5_price_X5_refuse : GoodIn wsX5_price wsX5_refuse := goodIn_r _ [11, 12, 18, 19, 20, 21, 22, 23, 24, 25, 26, 27, 28, 29, 30, 31, 32, 33, 34, 35, 36, 37, 38, 39, 40, 41, 42, 43, 44] (by decide +kernel) (by decide +kernel)
set_option maxRecDepth 20000 in
theorem gX5_price_X5_refuse : GoodIn wsX5_price (wsV RX5 135 RX5 yX5_refuse wsX5_refuse) := goodIn_app (goodIn_of _ (by decide +kernel)) ggX5_price_X5_refuse
set_option maxRecDepth 20000 in
theorem ggX5_price_X5_isArc : GoodIn wsX5_price wsX5_isArc := goodIn_r _ [16, 17, 3, 4, 5, 6, 7, 18, 19, 20, 21, 22, 23, 24, 25, 26, 27, 28, 29, 30, 31, 32, 33, 34, 35, 36, 37, 38, 39, 40, 41, 42, 43, 44] (by decide +kernel) (by decide +kernel)
set_option maxRecDepth 20000 in
theorem gX5_price_X5_isArc : GoodIn wsX5_price (wsV RX5 197 RX5 yX5_isArc wsX5_isArc) := goodIn_app (goodIn_of _ (by decide +kernel)) ggX5_price_X5_isArc
theorem dX5_price_0 : decode cX5_price 0 = .ok (.aload_n 0, 1) := by decide +kernel
theorem dX5_price_1 : decode cX5_price 1 = .ok (.iconst 0, 1) := by decide +kernel
theorem dX5_price_2 : decode cX5_price 2 = .ok (.putfield 63, 3) := by decide +kernel
theorem dX5_price_5 : decode cX5_price 5 = .ok (.iload_n 2, 1) := by decide +kernel
theorem dX5_price_6 : decode cX5_price 6 = .ok (.i2l, 1) := by decide +kernel
theorem dX5_price_7 : decode cX5_price 7 = .ok (.lconst 0, 1) := by decide +kernel
theorem dX5_price_8 : decode cX5_price 8 = .ok (.ldc2_w 168, 3) := by decide +kernel
theorem dX5_price_11 : decode cX5_price 11 = .ok (.invokestatic 77, 3) := by decide +kernel
theorem dX5_price_14 : decode cX5_price 14 = .ok (.ifCond .ne 9, 3) := by decide +kernel
theorem dX5_price_17 : decode cX5_price 17 = .ok (.aload_n 0, 1) := by decide +kernel
theorem dX5_price_18 : decode cX5_price 18 = .ok (.iconst (-1), 1) := by decide +kernel
theorem dX5_price_19 : decode cX5_price 19 = .ok (.invokevirtual 135, 3) := by decide +kernel
theorem dX5_price_22 : decode cX5_price 22 = .ok (.ireturn, 1) := by decide +kernel
theorem dX5_price_23 : decode cX5_price 23 = .ok (.aload_n 0, 1) := by decide +kernel
theorem dX5_price_24 : decode cX5_price 24 = .ok (.iload_n 1, 1) := by decide +kernel
theorem dX5_price_25 : decode cX5_price 25 = .ok (.invokevirtual 197, 3) := by decide +kernel
theorem dX5_price_28 : decode cX5_price 28 = .ok (.ifCond .ne 10, 3) := by decide +kernel
theorem dX5_price_31 : decode cX5_price 31 = .ok (.aload_n 0, 1) := by decide +kernel
theorem dX5_price_32 : decode cX5_price 32 = .ok (.bipush (-2), 2) := by decide +kernel
theorem dX5_price_34 : decode cX5_price 34 = .ok (.invokevirtual 135, 3) := by decide +kernel
theorem dX5_price_37 : decode cX5_price 37 = .ok (.ireturn, 1) := by decide +kernel
theorem dX5_price_38 : decode cX5_price 38 = .ok (.aload_n 0, 1) := by decide +kernel
theorem dX5_price_39 : decode cX5_price 39 = .ok (.getfield 13, 3) := by decide +kernel
theorem dX5_price_42 : decode cX5_price 42 = .ok (.bipush 10, 2) := by decide +kernel
theorem dX5_price_44 : decode cX5_price 44 = .ok (.iconst 3, 1) := by decide +kernel
theorem dX5_price_45 : decode cX5_price 45 = .ok (.iload_n 1, 1) := by decide +kernel
theorem dX5_price_46 : decode cX5_price 46 = .ok (.imul, 1) := by decide +kernel
theorem dX5_price_47 : decode cX5_price 47 = .ok (.iadd, 1) := by decide +kernel
theorem dX5_price_48 : decode cX5_price 48 = .ok (.iconst 2, 1) := by decide +kernel
theorem dX5_price_49 : decode cX5_price 49 = .ok (.iadd, 1) := by decide +kernel
theorem dX5_price_50 : decode cX5_price 50 = .ok (.iaload, 1) := by decide +kernel
theorem dX5_price_51 : decode cX5_price 51 = .ok (.istore_n 3, 1) := by decide +kernel
theorem dX5_price_52 : decode cX5_price 52 = .ok (.iload_n 3, 1) := by decide +kernel
theorem dX5_price_53 : decode cX5_price 53 = .ok (.iload_n 2, 1) := by decide +kernel
theorem dX5_price_54 : decode cX5_price 54 = .ok (.if_icmp .ne 10, 3) := by decide +kernel
theorem dX5_price_57 : decode cX5_price 57 = .ok (.aload_n 0, 1) := by decide +kernel
theorem dX5_price_58 : decode cX5_price 58 = .ok (.bipush (-4), 2) := by decide +kernel
theorem dX5_price_60 : decode cX5_price 60 = .ok (.invokevirtual 135, 3) := by decide +kernel
theorem dX5_price_63 : decode cX5_price 63 = .ok (.ireturn, 1) := by decide +kernel
theorem dX5_price_64 : decode cX5_price 64 = .ok (.aload_n 0, 1) := by decide +kernel
theorem dX5_price_65 : decode cX5_price 65 = .ok (.getfield 13, 3) := by decide +kernel
theorem dX5_price_68 : decode cX5_price 68 = .ok (.bipush 10, 2) := by decide +kernel
theorem dX5_price_70 : decode cX5_price 70 = .ok (.iconst 3, 1) := by decide +kernel
theorem dX5_price_71 : decode cX5_price 71 = .ok (.iload_n 1, 1) := by decide +kernel
theorem dX5_price_72 : decode cX5_price 72 = .ok (.imul, 1) := by decide +kernel
theorem dX5_price_73 : decode cX5_price 73 = .ok (.iadd, 1) := by decide +kernel
theorem dX5_price_74 : decode cX5_price 74 = .ok (.iconst 2, 1) := by decide +kernel
theorem dX5_price_75 : decode cX5_price 75 = .ok (.iadd, 1) := by decide +kernel
theorem dX5_price_76 : decode cX5_price 76 = .ok (.iload_n 2, 1) := by decide +kernel
theorem dX5_price_77 : decode cX5_price 77 = .ok (.iastore, 1) := by decide +kernel
theorem dX5_price_78 : decode cX5_price 78 = .ok (.iload_n 3, 1) := by decide +kernel
theorem dX5_price_79 : decode cX5_price 79 = .ok (.ireturn, 1) := by decide +kernel
set_option maxRecDepth 20000 in
theorem ggX5_isThere_X5_isItem : GoodIn wsX5_isThere wsX5_isItem := goodIn_r _ [6, 7, 8, 9, 5, 10, 11, 12, 13, 14, 15, 16, 17, 18, 19, 20, 21, 22, 23, 24, 25, 26, 27, 28, 29, 30, 31, 32, 33, 34, 35, 36, 37, 38, 39, 40] (by decide +kernel) (by decide +kernel)
set_option maxRecDepth 20000 in
theorem gX5_isThere_X5_isItem : GoodIn wsX5_isThere (wsV RX5 153 RX5 yX5_isItem wsX5_isItem) := goodIn_app (goodIn_of _ (by decide +kernel)) ggX5_isThere_X5_isItem
theorem dX5_isThere_0 : decode cX5_isThere 0 = .ok (.aload_n 0, 1) := by decide +kernel
theorem dX5_isThere_1 : decode cX5_isThere 1 = .ok (.aload_n 0, 1) := by decide +kernel
theorem dX5_isThere_2 : decode cX5_isThere 2 = .ok (.iload_n 1, 1) := by decide +kernel
theorem dX5_isThere_3 : decode cX5_isThere 3 = .ok (.invokevirtual 153, 3) := by decide +kernel
theorem dX5_isThere_6 : decode cX5_isThere 6 = .ok (.ifCond .eq 7, 3) := by decide +kernel
theorem dX5_isThere_9 : decode cX5_isThere 9 = .ok (.iconst 0, 1) := by decide +kernel
theorem dX5_isThere_10 : decode cX5_isThere 10 = .ok (.goto 4, 3) := by decide +kernel
theorem dX5_isThere_13 : decode cX5_isThere 13 = .ok (.iconst 1, 1) := by decide +kernel
theorem dX5_isThere_14 : decode cX5_isThere 14 = .ok (.putfield 63, 3) := by decide +kernel
theorem dX5_isThere_17 : decode cX5_isThere 17 = .ok (.aload_n 0, 1) := by decide +kernel
theorem dX5_isThere_18 : decode cX5_isThere 18 = .ok (.getfield 63, 3) := by decide +kernel
theorem dX5_isThere_21 : decode cX5_isThere 21 = .ok (.ifCond .ne 7, 3) := by decide +kernel
theorem dX5_isThere_24 : decode cX5_isThere 24 = .ok (.iconst 1, 1) := by decide +kernel
theorem dX5_isThere_25 : decode cX5_isThere 25 = .ok (.goto 4, 3) := by decide +kernel
theorem dX5_isThere_28 : decode cX5_isThere 28 = .ok (.iconst 0, 1) := by decide +kernel
theorem dX5_isThere_29 : decode cX5_isThere 29 = .ok (.ireturn, 1) := by decide +kernel
set_option maxRecDepth 20000 in
theorem ggX5_key_X5_isThere : GoodIn wsX5_key wsX5_isThere := goodIn_r _ [6, 7, 8, 9, 10, 5, 11, 12, 13, 14, 15, 16, 17, 18, 19, 20, 21, 22, 23, 24, 25, 26, 27, 28, 29, 30, 31, 32, 33, 34, 35, 36, 37, 38, 39, 40, 41, 42, 43, 44, 45] (by decide +kernel) (by decide +kernel)
set_option maxRecDepth 20000 in
theorem gX5_key_X5_isThere : GoodIn wsX5_key (wsV RX5 203 RX5 yX5_isThere wsX5_isThere) := goodIn_app (goodIn_of _ (by decide +kernel)) ggX5_key_X5_isThere
theorem dX5_key_0 : decode cX5_key 0 = .ok (.aload_n 0, 1) := by decide +kernel
theorem dX5_key_1 : decode cX5_key 1 = .ok (.iload_n 1, 1) := by decide +kernel
theorem dX5_key_2 : decode cX5_key 2 = .ok (.invokevirtual 203, 3) := by decide +kernel
theorem dX5_key_5 : decode cX5_key 5 = .ok (.ifCond .eq 12, 3) := by decide +kernel
theorem dX5_key_8 : decode cX5_key 8 = .ok (.aload_n 0, 1) := by decide +kernel
theorem dX5_key_9 : decode cX5_key 9 = .ok (.getfield 16, 3) := by decide +kernel
theorem dX5_key_12 : decode cX5_key 12 = .ok (.iload_n 1, 1) := by decide +kernel
theorem dX5_key_13 : decode cX5_key 13 = .ok (.laload, 1) := by decide +kernel
theorem dX5_key_14 : decode cX5_key 14 = .ok (.goto 4, 3) := by decide +kernel
theorem dX5_key_17 : decode cX5_key 17 = .ok (.lconst 0, 1) := by decide +kernel
theorem dX5_key_18 : decode cX5_key 18 = .ok (.lreturn, 1) := by decide +kernel
set_option maxRecDepth 20000 in
theorem ggX5_deep_X5_at : GoodIn wsX5_deep wsX5_at := goodIn_r _ [5] (by decide +kernel) (by decide +kernel)
set_option maxRecDepth 20000 in
theorem gX5_deep_X5_at : GoodIn wsX5_deep (va_wsS RX5 83 yX5_at wsX5_at) := goodIn_app (goodIn_of _ (by decide +kernel)) ggX5_deep_X5_at
theorem dX5_deep_0 : decode cX5_deep 0 = .ok (.iconst 0, 1) := by decide +kernel
theorem dX5_deep_1 : decode cX5_deep 1 = .ok (.istore_n 2, 1) := by decide +kernel
theorem dX5_deep_2 : decode cX5_deep 2 = .ok (.aload_n 0, 1) := by decide +kernel
theorem dX5_deep_3 : decode cX5_deep 3 = .ok (.getfield 13, 3) := by decide +kernel
theorem dX5_deep_6 : decode cX5_deep 6 = .ok (.iload_n 1, 1) := by decide +kernel
theorem dX5_deep_7 : decode cX5_deep 7 = .ok (.invokestatic 83, 3) := by decide +kernel
theorem dX5_deep_10 : decode cX5_deep 10 = .ok (.iconst 5, 1) := by decide +kernel
theorem dX5_deep_11 : decode cX5_deep 11 = .ok (.iadd, 1) := by decide +kernel
theorem dX5_deep_12 : decode cX5_deep 12 = .ok (.iaload, 1) := by decide +kernel
theorem dX5_deep_13 : decode cX5_deep 13 = .ok (.istore_n 3, 1) := by decide +kernel
theorem dX5_deep_14 : decode cX5_deep 14 = .ok (.iload_n 3, 1) := by decide +kernel
theorem dX5_deep_15 : decode cX5_deep 15 = .ok (.iconst (-1), 1) := by decide +kernel
theorem dX5_deep_16 : decode cX5_deep 16 = .ok (.if_icmp .eq 21, 3) := by decide +kernel
theorem dX5_deep_19 : decode cX5_deep 19 = .ok (.iinc 2 1, 3) := by decide +kernel
theorem dX5_deep_22 : decode cX5_deep 22 = .ok (.aload_n 0, 1) := by decide +kernel
theorem dX5_deep_23 : decode cX5_deep 23 = .ok (.getfield 13, 3) := by decide +kernel
theorem dX5_deep_26 : decode cX5_deep 26 = .ok (.iload_n 3, 1) := by decide +kernel
theorem dX5_deep_27 : decode cX5_deep 27 = .ok (.invokestatic 83, 3) := by decide +kernel
theorem dX5_deep_30 : decode cX5_deep 30 = .ok (.iconst 5, 1) := by decide +kernel
theorem dX5_deep_31 : decode cX5_deep 31 = .ok (.iadd, 1) := by decide +kernel
theorem dX5_deep_32 : decode cX5_deep 32 = .ok (.iaload, 1) := by decide +kernel
theorem dX5_deep_33 : decode cX5_deep 33 = .ok (.istore_n 3, 1) := by decide +kernel
theorem dX5_deep_34 : decode cX5_deep 34 = .ok (.goto (-20), 3) := by decide +kernel
theorem dX5_deep_37 : decode cX5_deep 37 = .ok (.iload_n 2, 1) := by decide +kernel
theorem dX5_deep_38 : decode cX5_deep 38 = .ok (.ireturn, 1) := by decide +kernel
set_option maxRecDepth 20000 in
theorem ggX5_laySizes_X5_isItem : GoodIn wsX5_laySizes wsX5_isItem := goodIn_r _ [7, 1, 8, 9, 6, 10, 11, 12, 13, 14, 15, 16, 17, 18, 19, 20, 21, 22, 23, 24, 25, 26, 27, 28, 29, 30, 31, 32, 33, 34, 35, 36, 37, 38, 39, 40] (by decide +kernel) (by decide +kernel)
set_option maxRecDepth 20000 in
theorem gX5_laySizes_X5_isItem : GoodIn wsX5_laySizes (wsV RX5 153 RX5 yX5_isItem wsX5_isItem) := goodIn_app (goodIn_of _ (by decide +kernel)) ggX5_laySizes_X5_isItem
set_option maxRecDepth 20000 in
theorem ggX5_laySizes_X5_at : GoodIn wsX5_laySizes wsX5_at := goodIn_r _ [13] (by decide +kernel) (by decide +kernel)
set_option maxRecDepth 20000 in
theorem gX5_laySizes_X5_at : GoodIn wsX5_laySizes (va_wsS RX5 83 yX5_at wsX5_at) := goodIn_app (goodIn_of _ (by decide +kernel)) ggX5_laySizes_X5_at
theorem dX5_laySizes_0 : decode cX5_laySizes 0 = .ok (.iconst 0, 1) := by decide +kernel
theorem dX5_laySizes_1 : decode cX5_laySizes 1 = .ok (.istore_n 1, 1) := by decide +kernel
theorem dX5_laySizes_2 : decode cX5_laySizes 2 = .ok (.iload_n 1, 1) := by decide +kernel
theorem dX5_laySizes_3 : decode cX5_laySizes 3 = .ok (.aload_n 0, 1) := by decide +kernel
theorem dX5_laySizes_4 : decode cX5_laySizes 4 = .ok (.getfield 13, 3) := by decide +kernel
theorem dX5_laySizes_7 : decode cX5_laySizes 7 = .ok (.iconst 0, 1) := by decide +kernel
theorem dX5_laySizes_8 : decode cX5_laySizes 8 = .ok (.iaload, 1) := by decide +kernel
theorem dX5_laySizes_9 : decode cX5_laySizes 9 = .ok (.if_icmp .ge 16, 3) := by decide +kernel
theorem dX5_laySizes_12 : decode cX5_laySizes 12 = .ok (.aload_n 0, 1) := by decide +kernel
theorem dX5_laySizes_13 : decode cX5_laySizes 13 = .ok (.getfield 48, 3) := by decide +kernel
theorem dX5_laySizes_16 : decode cX5_laySizes 16 = .ok (.iload_n 1, 1) := by decide +kernel
theorem dX5_laySizes_17 : decode cX5_laySizes 17 = .ok (.iconst 0, 1) := by decide +kernel
theorem dX5_laySizes_18 : decode cX5_laySizes 18 = .ok (.iastore, 1) := by decide +kernel
theorem dX5_laySizes_19 : decode cX5_laySizes 19 = .ok (.iinc 1 1, 3) := by decide +kernel
theorem dX5_laySizes_22 : decode cX5_laySizes 22 = .ok (.goto (-20), 3) := by decide +kernel
theorem dX5_laySizes_25 : decode cX5_laySizes 25 = .ok (.iconst 0, 1) := by decide +kernel
theorem dX5_laySizes_26 : decode cX5_laySizes 26 = .ok (.istore_n 1, 1) := by decide +kernel
theorem dX5_laySizes_27 : decode cX5_laySizes 27 = .ok (.iload_n 1, 1) := by decide +kernel
theorem dX5_laySizes_28 : decode cX5_laySizes 28 = .ok (.aload_n 0, 1) := by decide +kernel
theorem dX5_laySizes_29 : decode cX5_laySizes 29 = .ok (.getfield 13, 3) := by decide +kernel
theorem dX5_laySizes_32 : decode cX5_laySizes 32 = .ok (.iconst 0, 1) := by decide +kernel
theorem dX5_laySizes_33 : decode cX5_laySizes 33 = .ok (.iaload, 1) := by decide +kernel
theorem dX5_laySizes_34 : decode cX5_laySizes 34 = .ok (.if_icmp .ge 53, 3) := by decide +kernel
theorem dX5_laySizes_37 : decode cX5_laySizes 37 = .ok (.aload_n 0, 1) := by decide +kernel
theorem dX5_laySizes_38 : decode cX5_laySizes 38 = .ok (.iload_n 1, 1) := by decide +kernel
theorem dX5_laySizes_39 : decode cX5_laySizes 39 = .ok (.invokevirtual 153, 3) := by decide +kernel
theorem dX5_laySizes_42 : decode cX5_laySizes 42 = .ok (.ifCond .eq 7, 3) := by decide +kernel
theorem dX5_laySizes_45 : decode cX5_laySizes 45 = .ok (.iload_n 1, 1) := by decide +kernel
theorem dX5_laySizes_46 : decode cX5_laySizes 46 = .ok (.goto 4, 3) := by decide +kernel
theorem dX5_laySizes_49 : decode cX5_laySizes 49 = .ok (.iconst (-1), 1) := by decide +kernel
theorem dX5_laySizes_50 : decode cX5_laySizes 50 = .ok (.istore_n 2, 1) := by decide +kernel
theorem dX5_laySizes_51 : decode cX5_laySizes 51 = .ok (.iload_n 2, 1) := by decide +kernel
theorem dX5_laySizes_52 : decode cX5_laySizes 52 = .ok (.iconst (-1), 1) := by decide +kernel
theorem dX5_laySizes_53 : decode cX5_laySizes 53 = .ok (.if_icmp .eq 28, 3) := by decide +kernel
theorem dX5_laySizes_56 : decode cX5_laySizes 56 = .ok (.aload_n 0, 1) := by decide +kernel
theorem dX5_laySizes_57 : decode cX5_laySizes 57 = .ok (.getfield 48, 3) := by decide +kernel
theorem dX5_laySizes_60 : decode cX5_laySizes 60 = .ok (.iload_n 2, 1) := by decide +kernel
theorem dX5_laySizes_61 : decode cX5_laySizes 61 = .ok (.dup2, 1) := by decide +kernel
theorem dX5_laySizes_62 : decode cX5_laySizes 62 = .ok (.iaload, 1) := by decide +kernel
theorem dX5_laySizes_63 : decode cX5_laySizes 63 = .ok (.iconst 1, 1) := by decide +kernel
theorem dX5_laySizes_64 : decode cX5_laySizes 64 = .ok (.iadd, 1) := by decide +kernel
theorem dX5_laySizes_65 : decode cX5_laySizes 65 = .ok (.iastore, 1) := by decide +kernel
theorem dX5_laySizes_66 : decode cX5_laySizes 66 = .ok (.aload_n 0, 1) := by decide +kernel
theorem dX5_laySizes_67 : decode cX5_laySizes 67 = .ok (.getfield 13, 3) := by decide +kernel
theorem dX5_laySizes_70 : decode cX5_laySizes 70 = .ok (.iload_n 2, 1) := by decide +kernel
theorem dX5_laySizes_71 : decode cX5_laySizes 71 = .ok (.invokestatic 83, 3) := by decide +kernel
theorem dX5_laySizes_74 : decode cX5_laySizes 74 = .ok (.iconst 5, 1) := by decide +kernel
theorem dX5_laySizes_75 : decode cX5_laySizes 75 = .ok (.iadd, 1) := by decide +kernel
theorem dX5_laySizes_76 : decode cX5_laySizes 76 = .ok (.iaload, 1) := by decide +kernel
theorem dX5_laySizes_77 : decode cX5_laySizes 77 = .ok (.istore_n 2, 1) := by decide +kernel
theorem dX5_laySizes_78 : decode cX5_laySizes 78 = .ok (.goto (-27), 3) := by decide +kernel
theorem dX5_laySizes_81 : decode cX5_laySizes 81 = .ok (.iinc 1 1, 3) := by decide +kernel
theorem dX5_laySizes_84 : decode cX5_laySizes 84 = .ok (.goto (-57), 3) := by decide +kernel
theorem dX5_laySizes_87 : decode cX5_laySizes 87 = .ok (.return_, 1) := by decide +kernel
theorem dX5_sizeOf_0 : decode cX5_sizeOf 0 = .ok (.iload_n 1, 1) := by decide +kernel
theorem dX5_sizeOf_1 : decode cX5_sizeOf 1 = .ok (.iconst (-1), 1) := by decide +kernel
theorem dX5_sizeOf_2 : decode cX5_sizeOf 2 = .ok (.if_icmp .ne 7, 3) := by decide +kernel
theorem dX5_sizeOf_5 : decode cX5_sizeOf 5 = .ok (.iconst 0, 1) := by decide +kernel
theorem dX5_sizeOf_6 : decode cX5_sizeOf 6 = .ok (.goto 9, 3) := by decide +kernel
theorem dX5_sizeOf_9 : decode cX5_sizeOf 9 = .ok (.aload_n 0, 1) := by decide +kernel
theorem dX5_sizeOf_10 : decode cX5_sizeOf 10 = .ok (.getfield 48, 3) := by decide +kernel
theorem dX5_sizeOf_13 : decode cX5_sizeOf 13 = .ok (.iload_n 1, 1) := by decide +kernel
theorem dX5_sizeOf_14 : decode cX5_sizeOf 14 = .ok (.iaload, 1) := by decide +kernel
theorem dX5_sizeOf_15 : decode cX5_sizeOf 15 = .ok (.ireturn, 1) := by decide +kernel
set_option maxRecDepth 20000 in
theorem ggX5_item_X5_isThere : GoodIn wsX5_item wsX5_isThere := goodIn_r _ [7, 8, 9, 10, 11, 6, 12, 1, 13, 14, 15, 16, 17, 18, 27, 28, 29, 30, 31, 32, 33, 34, 35, 36, 37, 38, 39, 40, 41, 42, 43, 44, 45, 46, 47, 48, 49, 50, 51, 52, 53] (by decide +kernel) (by decide +kernel)
set_option maxRecDepth 20000 in
theorem gX5_item_X5_isThere : GoodIn wsX5_item (wsV RX5 203 RX5 yX5_isThere wsX5_isThere) := goodIn_app (goodIn_of _ (by decide +kernel)) ggX5_item_X5_isThere
set_option maxRecDepth 20000 in
theorem ggX5_item_X5_at : GoodIn wsX5_item wsX5_at := goodIn_r _ [18] (by decide +kernel) (by decide +kernel)
set_option maxRecDepth 20000 in
theorem gX5_item_X5_at : GoodIn wsX5_item (va_wsS RX5 83 yX5_at wsX5_at) := goodIn_app (goodIn_of _ (by decide +kernel)) ggX5_item_X5_at
set_option maxRecDepth 20000 in
theorem ggX5_item_X5_deep : GoodIn wsX5_item wsX5_deep := goodIn_r _ [22, 1, 16, 17, 6, 18, 27, 28, 29, 30, 31, 32, 33, 34, 35, 36, 37, 38, 39, 40, 41, 42, 43, 44, 45, 46, 47, 48, 49, 50, 51, 52, 53] (by decide +kernel) (by decide +kernel)
set_option maxRecDepth 20000 in
theorem gX5_item_X5_deep : GoodIn wsX5_item (wsV RX5 206 RX5 yX5_deep wsX5_deep) := goodIn_app (goodIn_of _ (by decide +kernel)) ggX5_item_X5_deep
set_option maxRecDepth 20000 in
theorem ggX5_item_X5_laySizes : GoodIn wsX5_item wsX5_laySizes := goodIn_r _ [26, 1, 2, 9, 10, 11, 6, 12, 13, 14, 15, 16, 17, 18, 27, 28, 29, 30, 31, 32, 33, 34, 35, 36, 37, 38, 39, 40, 41, 42, 43, 44, 45, 46, 47, 48, 49, 50, 51, 52, 53] (by decide +kernel) (by decide +kernel)
set_option maxRecDepth 20000 in
theorem gX5_item_X5_laySizes : GoodIn wsX5_item (wsV RX5 209 RX5 yX5_laySizes wsX5_laySizes) := goodIn_app (goodIn_of _ (by decide +kernel)) ggX5_item_X5_laySizes
theorem dX5_item_0 : decode cX5_item 0 = .ok (.aload_n 0, 1) := by decide +kernel
theorem dX5_item_1 : decode cX5_item 1 = .ok (.iload_n 1, 1) := by decide +kernel
theorem dX5_item_2 : decode cX5_item 2 = .ok (.invokevirtual 203, 3) := by decide +kernel
theorem dX5_item_5 : decode cX5_item 5 = .ok (.ifCond .ne 5, 3) := by decide +kernel
theorem dX5_item_8 : decode cX5_item 8 = .ok (.iconst 0, 1) := by decide +kernel
theorem dX5_item_9 : decode cX5_item 9 = .ok (.ireturn, 1) := by decide +kernel
theorem dX5_item_10 : decode cX5_item 10 = .ok (.iload_n 1, 1) := by decide +kernel
theorem dX5_item_11 : decode cX5_item 11 = .ok (.invokestatic 83, 3) := by decide +kernel
theorem dX5_item_14 : decode cX5_item 14 = .ok (.istore_n 3, 1) := by decide +kernel
theorem dX5_item_15 : decode cX5_item 15 = .ok (.iload_n 2, 1) := by decide +kernel
theorem dX5_item_16 : decode cX5_item 16 = .ok (.tableswitch 133 0 8 #[52, 61, 70, 79, 89, 98, 107, 116, 122], 52) := by decide +kernel
theorem dX5_item_68 : decode cX5_item 68 = .ok (.aload_n 0, 1) := by decide +kernel
theorem dX5_item_69 : decode cX5_item 69 = .ok (.getfield 13, 3) := by decide +kernel
theorem dX5_item_72 : decode cX5_item 72 = .ok (.iload_n 3, 1) := by decide +kernel
theorem dX5_item_73 : decode cX5_item 73 = .ok (.iconst 0, 1) := by decide +kernel
theorem dX5_item_74 : decode cX5_item 74 = .ok (.iadd, 1) := by decide +kernel
theorem dX5_item_75 : decode cX5_item 75 = .ok (.iaload, 1) := by decide +kernel
theorem dX5_item_76 : decode cX5_item 76 = .ok (.ireturn, 1) := by decide +kernel
theorem dX5_item_77 : decode cX5_item 77 = .ok (.aload_n 0, 1) := by decide +kernel
theorem dX5_item_78 : decode cX5_item 78 = .ok (.getfield 13, 3) := by decide +kernel
theorem dX5_item_81 : decode cX5_item 81 = .ok (.iload_n 3, 1) := by decide +kernel
theorem dX5_item_82 : decode cX5_item 82 = .ok (.iconst 1, 1) := by decide +kernel
theorem dX5_item_83 : decode cX5_item 83 = .ok (.iadd, 1) := by decide +kernel
theorem dX5_item_84 : decode cX5_item 84 = .ok (.iaload, 1) := by decide +kernel
theorem dX5_item_85 : decode cX5_item 85 = .ok (.ireturn, 1) := by decide +kernel
theorem dX5_item_86 : decode cX5_item 86 = .ok (.aload_n 0, 1) := by decide +kernel
theorem dX5_item_87 : decode cX5_item 87 = .ok (.getfield 13, 3) := by decide +kernel
theorem dX5_item_90 : decode cX5_item 90 = .ok (.iload_n 3, 1) := by decide +kernel
theorem dX5_item_91 : decode cX5_item 91 = .ok (.iconst 2, 1) := by decide +kernel
theorem dX5_item_92 : decode cX5_item 92 = .ok (.iadd, 1) := by decide +kernel
theorem dX5_item_93 : decode cX5_item 93 = .ok (.iaload, 1) := by decide +kernel
theorem dX5_item_94 : decode cX5_item 94 = .ok (.ireturn, 1) := by decide +kernel
theorem dX5_item_95 : decode cX5_item 95 = .ok (.aload_n 0, 1) := by decide +kernel
theorem dX5_item_96 : decode cX5_item 96 = .ok (.getfield 13, 3) := by decide +kernel
theorem dX5_item_99 : decode cX5_item 99 = .ok (.iload_n 3, 1) := by decide +kernel
theorem dX5_item_100 : decode cX5_item 100 = .ok (.bipush 6, 2) := by decide +kernel
theorem dX5_item_102 : decode cX5_item 102 = .ok (.iadd, 1) := by decide +kernel
theorem dX5_item_103 : decode cX5_item 103 = .ok (.iaload, 1) := by decide +kernel
theorem dX5_item_104 : decode cX5_item 104 = .ok (.ireturn, 1) := by decide +kernel
theorem dX5_item_105 : decode cX5_item 105 = .ok (.aload_n 0, 1) := by decide +kernel
theorem dX5_item_106 : decode cX5_item 106 = .ok (.getfield 13, 3) := by decide +kernel
theorem dX5_item_109 : decode cX5_item 109 = .ok (.iload_n 3, 1) := by decide +kernel
theorem dX5_item_110 : decode cX5_item 110 = .ok (.iconst 3, 1) := by decide +kernel
theorem dX5_item_111 : decode cX5_item 111 = .ok (.iadd, 1) := by decide +kernel
theorem dX5_item_112 : decode cX5_item 112 = .ok (.iaload, 1) := by decide +kernel
theorem dX5_item_113 : decode cX5_item 113 = .ok (.ireturn, 1) := by decide +kernel
theorem dX5_item_114 : decode cX5_item 114 = .ok (.aload_n 0, 1) := by decide +kernel
theorem dX5_item_115 : decode cX5_item 115 = .ok (.getfield 13, 3) := by decide +kernel
theorem dX5_item_118 : decode cX5_item 118 = .ok (.iload_n 3, 1) := by decide +kernel
theorem dX5_item_119 : decode cX5_item 119 = .ok (.iconst 4, 1) := by decide +kernel
theorem dX5_item_120 : decode cX5_item 120 = .ok (.iadd, 1) := by decide +kernel
theorem dX5_item_121 : decode cX5_item 121 = .ok (.iaload, 1) := by decide +kernel
theorem dX5_item_122 : decode cX5_item 122 = .ok (.ireturn, 1) := by decide +kernel
theorem dX5_item_123 : decode cX5_item 123 = .ok (.aload_n 0, 1) := by decide +kernel
theorem dX5_item_124 : decode cX5_item 124 = .ok (.getfield 13, 3) := by decide +kernel
theorem dX5_item_127 : decode cX5_item 127 = .ok (.iload_n 3, 1) := by decide +kernel
theorem dX5_item_128 : decode cX5_item 128 = .ok (.iconst 5, 1) := by decide +kernel
theorem dX5_item_129 : decode cX5_item 129 = .ok (.iadd, 1) := by decide +kernel
theorem dX5_item_130 : decode cX5_item 130 = .ok (.iaload, 1) := by decide +kernel
theorem dX5_item_131 : decode cX5_item 131 = .ok (.ireturn, 1) := by decide +kernel
theorem dX5_item_132 : decode cX5_item 132 = .ok (.aload_n 0, 1) := by decide +kernel
theorem dX5_item_133 : decode cX5_item 133 = .ok (.iload_n 1, 1) := by decide +kernel
theorem dX5_item_134 : decode cX5_item 134 = .ok (.invokevirtual 206, 3) := by decide +kernel
theorem dX5_item_137 : decode cX5_item 137 = .ok (.ireturn, 1) := by decide +kernel
theorem dX5_item_138 : decode cX5_item 138 = .ok (.aload_n 0, 1) := by decide +kernel
theorem dX5_item_139 : decode cX5_item 139 = .ok (.invokevirtual 209, 3) := by decide +kernel
theorem dX5_item_142 : decode cX5_item 142 = .ok (.aload_n 0, 1) := by decide +kernel
theorem dX5_item_143 : decode cX5_item 143 = .ok (.getfield 48, 3) := by decide +kernel
theorem dX5_item_146 : decode cX5_item 146 = .ok (.iload_n 1, 1) := by decide +kernel
theorem dX5_item_147 : decode cX5_item 147 = .ok (.iaload, 1) := by decide +kernel
theorem dX5_item_148 : decode cX5_item 148 = .ok (.ireturn, 1) := by decide +kernel
theorem dX5_item_149 : decode cX5_item 149 = .ok (.iconst (-1), 1) := by decide +kernel
theorem dX5_item_150 : decode cX5_item 150 = .ok (.ireturn, 1) := by decide +kernel
set_option maxRecDepth 20000 in
theorem ggX5_isOf_X5_left : GoodIn wsX5_isOf wsX5_left := goodIn_r _ [6, 1, 7, 8, 5, 9, 23, 24, 25, 26, 27, 28, 29, 30, 31, 32, 33, 34, 35, 36, 37, 38, 39, 40, 41, 42, 43, 44, 45, 46, 47, 48, 49] (by decide +kernel) (by decide +kernel)
set_option maxRecDepth 20000 in
theorem gX5_isOf_X5_left : GoodIn wsX5_isOf (wsV RX5 112 RX5 yX5_left wsX5_left) := goodIn_app (goodIn_of _ (by decide +kernel)) ggX5_isOf_X5_left
set_option maxRecDepth 20000 in
theorem ggX5_isOf_X5_right : GoodIn wsX5_isOf wsX5_right := goodIn_r _ [13, 1, 7, 8, 5, 9, 23, 24, 25, 26, 27, 28, 29, 30, 31, 32, 33, 34, 35, 36, 37, 38, 39, 40, 41, 42, 43, 44, 45, 46, 47, 48, 49] (by decide +kernel) (by decide +kernel)
set_option maxRecDepth 20000 in
theorem gX5_isOf_X5_right : GoodIn wsX5_isOf (wsV RX5 94 RX5 yX5_right wsX5_right) := goodIn_app (goodIn_of _ (by decide +kernel)) ggX5_isOf_X5_right
set_option maxRecDepth 20000 in
theorem ggX5_isOf_X5_at : GoodIn wsX5_isOf wsX5_at := goodIn_r _ [9] (by decide +kernel) (by decide +kernel)
set_option maxRecDepth 20000 in
theorem gX5_isOf_X5_at : GoodIn wsX5_isOf (va_wsS RX5 83 yX5_at wsX5_at) := goodIn_app (goodIn_of _ (by decide +kernel)) ggX5_isOf_X5_at
set_option maxRecDepth 20000 in
theorem ggX5_isOf_X5_rank : GoodIn wsX5_isOf wsX5_rank := goodIn_r _ [17, 1, 7, 8, 5, 9, 23, 24, 25, 26, 27, 28, 29, 30, 31, 32, 33, 34, 35, 36, 37, 38, 39, 40, 41, 42, 43, 44, 45, 46, 47, 48, 49] (by decide +kernel) (by decide +kernel)
set_option maxRecDepth 20000 in
theorem gX5_isOf_X5_rank : GoodIn wsX5_isOf (wsV RX5 87 RX5 yX5_rank wsX5_rank) := goodIn_app (goodIn_of _ (by decide +kernel)) ggX5_isOf_X5_rank
set_option maxRecDepth 20000 in
theorem ggX5_isOf_X5_sizeOf : GoodIn wsX5_isOf wsX5_sizeOf := goodIn_r _ [21, 22, 23, 24, 25, 26, 27, 28, 29, 30, 31, 32, 33, 34, 35, 36, 37, 38, 39, 40, 41, 42, 43, 44, 45, 46, 47, 48, 49] (by decide +kernel) (by decide +kernel)
set_option maxRecDepth 20000 in
theorem gX5_isOf_X5_sizeOf : GoodIn wsX5_isOf (wsV RX5 212 RX5 yX5_sizeOf wsX5_sizeOf) := goodIn_app (goodIn_of _ (by decide +kernel)) ggX5_isOf_X5_sizeOf
theorem dX5_isOf_0 : decode cX5_isOf 0 = .ok (.aload_n 0, 1) := by decide +kernel
theorem dX5_isOf_1 : decode cX5_isOf 1 = .ok (.iload_n 1, 1) := by decide +kernel
theorem dX5_isOf_2 : decode cX5_isOf 2 = .ok (.invokevirtual 112, 3) := by decide +kernel
theorem dX5_isOf_5 : decode cX5_isOf 5 = .ok (.istore 4, 2) := by decide +kernel
theorem dX5_isOf_7 : decode cX5_isOf 7 = .ok (.aload_n 0, 1) := by decide +kernel
theorem dX5_isOf_8 : decode cX5_isOf 8 = .ok (.iload_n 1, 1) := by decide +kernel
theorem dX5_isOf_9 : decode cX5_isOf 9 = .ok (.invokevirtual 94, 3) := by decide +kernel
theorem dX5_isOf_12 : decode cX5_isOf 12 = .ok (.istore 5, 2) := by decide +kernel
theorem dX5_isOf_14 : decode cX5_isOf 14 = .ok (.aload_n 0, 1) := by decide +kernel
theorem dX5_isOf_15 : decode cX5_isOf 15 = .ok (.getfield 13, 3) := by decide +kernel
theorem dX5_isOf_18 : decode cX5_isOf 18 = .ok (.iload_n 1, 1) := by decide +kernel
theorem dX5_isOf_19 : decode cX5_isOf 19 = .ok (.invokestatic 83, 3) := by decide +kernel
theorem dX5_isOf_22 : decode cX5_isOf 22 = .ok (.iconst 1, 1) := by decide +kernel
theorem dX5_isOf_23 : decode cX5_isOf 23 = .ok (.iadd, 1) := by decide +kernel
theorem dX5_isOf_24 : decode cX5_isOf 24 = .ok (.iaload, 1) := by decide +kernel
theorem dX5_isOf_25 : decode cX5_isOf 25 = .ok (.iload_n 2, 1) := by decide +kernel
theorem dX5_isOf_26 : decode cX5_isOf 26 = .ok (.if_icmp .ne 67, 3) := by decide +kernel
theorem dX5_isOf_29 : decode cX5_isOf 29 = .ok (.iload_n 3, 1) := by decide +kernel
theorem dX5_isOf_30 : decode cX5_isOf 30 = .ok (.bipush 6, 2) := by decide +kernel
theorem dX5_isOf_32 : decode cX5_isOf 32 = .ok (.if_icmp .ne 21, 3) := by decide +kernel
theorem dX5_isOf_35 : decode cX5_isOf 35 = .ok (.aload_n 0, 1) := by decide +kernel
theorem dX5_isOf_36 : decode cX5_isOf 36 = .ok (.iload 4, 2) := by decide +kernel
theorem dX5_isOf_38 : decode cX5_isOf 38 = .ok (.invokevirtual 87, 3) := by decide +kernel
theorem dX5_isOf_41 : decode cX5_isOf 41 = .ok (.aload_n 0, 1) := by decide +kernel
theorem dX5_isOf_42 : decode cX5_isOf 42 = .ok (.iload 5, 2) := by decide +kernel
theorem dX5_isOf_44 : decode cX5_isOf 44 = .ok (.invokevirtual 87, 3) := by decide +kernel
theorem dX5_isOf_47 : decode cX5_isOf 47 = .ok (.if_icmp .ne 46, 3) := by decide +kernel
theorem dX5_isOf_50 : decode cX5_isOf 50 = .ok (.goto 39, 3) := by decide +kernel
theorem dX5_isOf_53 : decode cX5_isOf 53 = .ok (.iload_n 3, 1) := by decide +kernel
theorem dX5_isOf_54 : decode cX5_isOf 54 = .ok (.bipush 7, 2) := by decide +kernel
theorem dX5_isOf_56 : decode cX5_isOf 56 = .ok (.if_icmp .ne 18, 3) := by decide +kernel
theorem dX5_isOf_59 : decode cX5_isOf 59 = .ok (.iload 4, 2) := by decide +kernel
theorem dX5_isOf_61 : decode cX5_isOf 61 = .ok (.iconst (-1), 1) := by decide +kernel
theorem dX5_isOf_62 : decode cX5_isOf 62 = .ok (.if_icmp .ne 31, 3) := by decide +kernel
theorem dX5_isOf_65 : decode cX5_isOf 65 = .ok (.iload 5, 2) := by decide +kernel
theorem dX5_isOf_67 : decode cX5_isOf 67 = .ok (.iconst (-1), 1) := by decide +kernel
theorem dX5_isOf_68 : decode cX5_isOf 68 = .ok (.if_icmp .ne 25, 3) := by decide +kernel
theorem dX5_isOf_71 : decode cX5_isOf 71 = .ok (.goto 18, 3) := by decide +kernel
theorem dX5_isOf_74 : decode cX5_isOf 74 = .ok (.aload_n 0, 1) := by decide +kernel
theorem dX5_isOf_75 : decode cX5_isOf 75 = .ok (.iload 5, 2) := by decide +kernel
theorem dX5_isOf_77 : decode cX5_isOf 77 = .ok (.invokevirtual 212, 3) := by decide +kernel
theorem dX5_isOf_80 : decode cX5_isOf 80 = .ok (.aload_n 0, 1) := by decide +kernel
theorem dX5_isOf_81 : decode cX5_isOf 81 = .ok (.iload 4, 2) := by decide +kernel
theorem dX5_isOf_83 : decode cX5_isOf 83 = .ok (.invokevirtual 212, 3) := by decide +kernel
theorem dX5_isOf_86 : decode cX5_isOf 86 = .ok (.if_icmp .le 7, 3) := by decide +kernel
theorem dX5_isOf_89 : decode cX5_isOf 89 = .ok (.iconst 1, 1) := by decide +kernel
theorem dX5_isOf_90 : decode cX5_isOf 90 = .ok (.goto 4, 3) := by decide +kernel
theorem dX5_isOf_93 : decode cX5_isOf 93 = .ok (.iconst 0, 1) := by decide +kernel
theorem dX5_isOf_94 : decode cX5_isOf 94 = .ok (.ireturn, 1) := by decide +kernel
set_option maxRecDepth 20000 in
theorem ggX5_ofItems_X5_laySizes : GoodIn wsX5_ofItems wsX5_laySizes := goodIn_r _ [6, 1, 7, 8, 9, 10, 5, 11, 12, 13, 14, 15, 16, 17, 38, 39, 40, 41, 42, 43, 44, 45, 46, 47, 48, 49, 50, 51, 52, 53, 54, 55, 56, 57, 58, 59, 60, 61, 62, 63, 64] (by decide +kernel) (by decide +kernel)
set_option maxRecDepth 20000 in
theorem gX5_ofItems_X5_laySizes : GoodIn wsX5_ofItems (wsV RX5 209 RX5 yX5_laySizes wsX5_laySizes) := goodIn_app (goodIn_of _ (by decide +kernel)) ggX5_ofItems_X5_laySizes
set_option maxRecDepth 20000 in
theorem ggX5_ofItems_X5_isItem : GoodIn wsX5_ofItems wsX5_isItem := goodIn_r _ [11, 1, 12, 13, 5, 14, 15, 16, 17, 38, 39, 40, 41, 42, 43, 44, 45, 46, 47, 48, 49, 50, 51, 52, 53, 54, 55, 56, 57, 58, 59, 60, 61, 62, 63, 64] (by decide +kernel) (by decide +kernel)
set_option maxRecDepth 20000 in
theorem gX5_ofItems_X5_isItem : GoodIn wsX5_ofItems (wsV RX5 153 RX5 yX5_isItem wsX5_isItem) := goodIn_app (goodIn_of _ (by decide +kernel)) ggX5_ofItems_X5_isItem
set_option maxRecDepth 20000 in
theorem ggX5_ofItems_X5_isOf : GoodIn wsX5_ofItems wsX5_isOf := goodIn_r _ [21, 1, 22, 23, 24, 5, 25, 15, 16, 17, 26, 27, 28, 29, 30, 31, 32, 33, 34, 35, 36, 37, 7, 38, 39, 40, 41, 42, 43, 44, 45, 46, 47, 48, 49, 50, 51, 52, 53, 54, 55, 56, 57, 58, 59, 60, 61, 62, 63, 64] (by decide +kernel) (by decide +kernel)
set_option maxRecDepth 20000 in
theorem gX5_ofItems_X5_isOf : GoodIn wsX5_ofItems (wsV RX5 215 RX5 yX5_isOf wsX5_isOf) := goodIn_app (goodIn_of _ (by decide +kernel)) ggX5_ofItems_X5_isOf
theorem dX5_ofItems_0 : decode cX5_ofItems 0 = .ok (.aload_n 0, 1) := by decide +kernel
theorem dX5_ofItems_1 : decode cX5_ofItems 1 = .ok (.invokevirtual 209, 3) := by decide +kernel
theorem dX5_ofItems_4 : decode cX5_ofItems 4 = .ok (.iconst 0, 1) := by decide +kernel
theorem dX5_ofItems_5 : decode cX5_ofItems 5 = .ok (.istore_n 3, 1) := by decide +kernel
theorem dX5_ofItems_6 : decode cX5_ofItems 6 = .ok (.iconst 0, 1) := by decide +kernel
theorem dX5_ofItems_7 : decode cX5_ofItems 7 = .ok (.istore 4, 2) := by decide +kernel
theorem dX5_ofItems_9 : decode cX5_ofItems 9 = .ok (.iload 4, 2) := by decide +kernel
theorem dX5_ofItems_11 : decode cX5_ofItems 11 = .ok (.aload_n 0, 1) := by decide +kernel
theorem dX5_ofItems_12 : decode cX5_ofItems 12 = .ok (.getfield 13, 3) := by decide +kernel
theorem dX5_ofItems_15 : decode cX5_ofItems 15 = .ok (.iconst 0, 1) := by decide +kernel
theorem dX5_ofItems_16 : decode cX5_ofItems 16 = .ok (.iaload, 1) := by decide +kernel
theorem dX5_ofItems_17 : decode cX5_ofItems 17 = .ok (.if_icmp .ge 37, 3) := by decide +kernel
theorem dX5_ofItems_20 : decode cX5_ofItems 20 = .ok (.iload_n 3, 1) := by decide +kernel
theorem dX5_ofItems_21 : decode cX5_ofItems 21 = .ok (.aload_n 0, 1) := by decide +kernel
theorem dX5_ofItems_22 : decode cX5_ofItems 22 = .ok (.iload 4, 2) := by decide +kernel
theorem dX5_ofItems_24 : decode cX5_ofItems 24 = .ok (.invokevirtual 153, 3) := by decide +kernel
theorem dX5_ofItems_27 : decode cX5_ofItems 27 = .ok (.ifCond .eq 18, 3) := by decide +kernel
theorem dX5_ofItems_30 : decode cX5_ofItems 30 = .ok (.aload_n 0, 1) := by decide +kernel
theorem dX5_ofItems_31 : decode cX5_ofItems 31 = .ok (.iload 4, 2) := by decide +kernel
theorem dX5_ofItems_33 : decode cX5_ofItems 33 = .ok (.iload_n 1, 1) := by decide +kernel
theorem dX5_ofItems_34 : decode cX5_ofItems 34 = .ok (.iload_n 2, 1) := by decide +kernel
theorem dX5_ofItems_35 : decode cX5_ofItems 35 = .ok (.invokevirtual 215, 3) := by decide +kernel
theorem dX5_ofItems_38 : decode cX5_ofItems 38 = .ok (.ifCond .eq 7, 3) := by decide +kernel
theorem dX5_ofItems_41 : decode cX5_ofItems 41 = .ok (.iconst 1, 1) := by decide +kernel
theorem dX5_ofItems_42 : decode cX5_ofItems 42 = .ok (.goto 4, 3) := by decide +kernel
theorem dX5_ofItems_45 : decode cX5_ofItems 45 = .ok (.iconst 0, 1) := by decide +kernel
theorem dX5_ofItems_46 : decode cX5_ofItems 46 = .ok (.iadd, 1) := by decide +kernel
theorem dX5_ofItems_47 : decode cX5_ofItems 47 = .ok (.istore_n 3, 1) := by decide +kernel
theorem dX5_ofItems_48 : decode cX5_ofItems 48 = .ok (.iinc 4 1, 3) := by decide +kernel
theorem dX5_ofItems_51 : decode cX5_ofItems 51 = .ok (.goto (-42), 3) := by decide +kernel
theorem dX5_ofItems_54 : decode cX5_ofItems 54 = .ok (.iload_n 3, 1) := by decide +kernel
theorem dX5_ofItems_55 : decode cX5_ofItems 55 = .ok (.ireturn, 1) := by decide +kernel
set_option maxRecDepth 20000 in
theorem ggX5_highest_X5_at : GoodIn wsX5_highest wsX5_at := goodIn_r _ [5] (by decide +kernel) (by decide +kernel)
set_option maxRecDepth 20000 in
theorem gX5_highest_X5_at : GoodIn wsX5_highest (va_wsS RX5 83 yX5_at wsX5_at) := goodIn_app (goodIn_of _ (by decide +kernel)) ggX5_highest_X5_at
set_option maxRecDepth 20000 in
theorem ggX5_highest_X5_deep : GoodIn wsX5_highest wsX5_deep := goodIn_r _ [9, 1, 2, 3, 4, 5, 10, 11, 12, 13, 14, 15, 16, 17, 18, 19, 20, 21, 22, 23, 24, 25, 26, 27, 28, 29, 30, 31, 32, 33, 34, 35, 36] (by decide +kernel) (by decide +kernel)
set_option maxRecDepth 20000 in
theorem gX5_highest_X5_deep : GoodIn wsX5_highest (wsV RX5 206 RX5 yX5_deep wsX5_deep) := goodIn_app (goodIn_of _ (by decide +kernel)) ggX5_highest_X5_deep
theorem dX5_highest_0 : decode cX5_highest 0 = .ok (.iconst 0, 1) := by decide +kernel
theorem dX5_highest_1 : decode cX5_highest 1 = .ok (.istore_n 2, 1) := by decide +kernel
theorem dX5_highest_2 : decode cX5_highest 2 = .ok (.iconst 0, 1) := by decide +kernel
theorem dX5_highest_3 : decode cX5_highest 3 = .ok (.istore_n 3, 1) := by decide +kernel
theorem dX5_highest_4 : decode cX5_highest 4 = .ok (.iload_n 3, 1) := by decide +kernel
theorem dX5_highest_5 : decode cX5_highest 5 = .ok (.aload_n 0, 1) := by decide +kernel
theorem dX5_highest_6 : decode cX5_highest 6 = .ok (.getfield 13, 3) := by decide +kernel
theorem dX5_highest_9 : decode cX5_highest 9 = .ok (.iconst 0, 1) := by decide +kernel
theorem dX5_highest_10 : decode cX5_highest 10 = .ok (.iaload, 1) := by decide +kernel
theorem dX5_highest_11 : decode cX5_highest 11 = .ok (.if_icmp .ge 50, 3) := by decide +kernel
theorem dX5_highest_14 : decode cX5_highest 14 = .ok (.aload_n 0, 1) := by decide +kernel
theorem dX5_highest_15 : decode cX5_highest 15 = .ok (.getfield 13, 3) := by decide +kernel
theorem dX5_highest_18 : decode cX5_highest 18 = .ok (.iload_n 3, 1) := by decide +kernel
theorem dX5_highest_19 : decode cX5_highest 19 = .ok (.invokestatic 83, 3) := by decide +kernel
theorem dX5_highest_22 : decode cX5_highest 22 = .ok (.iconst 1, 1) := by decide +kernel
theorem dX5_highest_23 : decode cX5_highest 23 = .ok (.iadd, 1) := by decide +kernel
theorem dX5_highest_24 : decode cX5_highest 24 = .ok (.iaload, 1) := by decide +kernel
theorem dX5_highest_25 : decode cX5_highest 25 = .ok (.iload_n 1, 1) := by decide +kernel
theorem dX5_highest_26 : decode cX5_highest 26 = .ok (.if_icmp .ne 13, 3) := by decide +kernel
theorem dX5_highest_29 : decode cX5_highest 29 = .ok (.aload_n 0, 1) := by decide +kernel
theorem dX5_highest_30 : decode cX5_highest 30 = .ok (.iload_n 3, 1) := by decide +kernel
theorem dX5_highest_31 : decode cX5_highest 31 = .ok (.invokevirtual 206, 3) := by decide +kernel
theorem dX5_highest_34 : decode cX5_highest 34 = .ok (.iconst 1, 1) := by decide +kernel
theorem dX5_highest_35 : decode cX5_highest 35 = .ok (.iadd, 1) := by decide +kernel
theorem dX5_highest_36 : decode cX5_highest 36 = .ok (.goto 4, 3) := by decide +kernel
theorem dX5_highest_39 : decode cX5_highest 39 = .ok (.iconst 0, 1) := by decide +kernel
theorem dX5_highest_40 : decode cX5_highest 40 = .ok (.istore 4, 2) := by decide +kernel
theorem dX5_highest_42 : decode cX5_highest 42 = .ok (.iload 4, 2) := by decide +kernel
theorem dX5_highest_44 : decode cX5_highest 44 = .ok (.iload_n 2, 1) := by decide +kernel
theorem dX5_highest_45 : decode cX5_highest 45 = .ok (.if_icmp .le 8, 3) := by decide +kernel
theorem dX5_highest_48 : decode cX5_highest 48 = .ok (.iload 4, 2) := by decide +kernel
theorem dX5_highest_50 : decode cX5_highest 50 = .ok (.goto 4, 3) := by decide +kernel
theorem dX5_highest_53 : decode cX5_highest 53 = .ok (.iload_n 2, 1) := by decide +kernel
theorem dX5_highest_54 : decode cX5_highest 54 = .ok (.istore_n 2, 1) := by decide +kernel
theorem dX5_highest_55 : decode cX5_highest 55 = .ok (.iinc 3 1, 3) := by decide +kernel
theorem dX5_highest_58 : decode cX5_highest 58 = .ok (.goto (-54), 3) := by decide +kernel
theorem dX5_highest_61 : decode cX5_highest 61 = .ok (.iload_n 2, 1) := by decide +kernel
theorem dX5_highest_62 : decode cX5_highest 62 = .ok (.ireturn, 1) := by decide +kernel
set_option maxRecDepth 20000 in
theorem ggX5_desk_X5_isDesk : GoodIn wsX5_desk wsX5_isDesk := goodIn_r _ [7, 8, 9, 10, 6, 11] (by decide +kernel) (by decide +kernel)
set_option maxRecDepth 20000 in
theorem gX5_desk_X5_isDesk : GoodIn wsX5_desk (va_wsS RX5 125 yX5_isDesk wsX5_isDesk) := goodIn_app (goodIn_of _ (by decide +kernel)) ggX5_desk_X5_isDesk
set_option maxRecDepth 20000 in
theorem ggX5_desk_X5_in : GoodIn wsX5_desk wsX5_in := goodIn_r _ [11] (by decide +kernel) (by decide +kernel)
set_option maxRecDepth 20000 in
theorem gX5_desk_X5_in : GoodIn wsX5_desk (va_wsS RX5 77 yX5_in wsX5_in) := goodIn_app (goodIn_of _ (by decide +kernel)) ggX5_desk_X5_in
set_option maxRecDepth 20000 in
theorem ggX5_desk_X5_many : GoodIn wsX5_desk wsX5_many := goodIn_r _ [15, 3, 16, 17, 6, 18, 60, 61, 62, 63, 64, 65, 66, 67, 68, 69, 70, 71, 72, 73, 74, 75, 76, 77, 78, 79, 80, 81, 82, 83, 84, 85, 86] (by decide +kernel) (by decide +kernel)
set_option maxRecDepth 20000 in
theorem gX5_desk_X5_many : GoodIn wsX5_desk (wsV RX5 156 RX5 yX5_many wsX5_many) := goodIn_app (goodIn_of _ (by decide +kernel)) ggX5_desk_X5_many
set_option maxRecDepth 20000 in
theorem ggX5_desk_X5_rank : GoodIn wsX5_desk wsX5_rank := goodIn_r _ [22, 3, 16, 17, 6, 18, 60, 61, 62, 63, 64, 65, 66, 67, 68, 69, 70, 71, 72, 73, 74, 75, 76, 77, 78, 79, 80, 81, 82, 83, 84, 85, 86] (by decide +kernel) (by decide +kernel)
set_option maxRecDepth 20000 in
theorem gX5_desk_X5_rank : GoodIn wsX5_desk (wsV RX5 87 RX5 yX5_rank wsX5_rank) := goodIn_app (goodIn_of _ (by decide +kernel)) ggX5_desk_X5_rank
set_option maxRecDepth 20000 in
theorem ggX5_desk_X5_highest : GoodIn wsX5_desk wsX5_highest := goodIn_r _ [26, 3, 16, 17, 6, 18, 27, 28, 29, 30, 60, 61, 62, 63, 64, 65, 66, 67, 68, 69, 70, 71, 72, 73, 74, 75, 76, 77, 78, 79, 80, 81, 82, 83, 84, 85, 86] (by decide +kernel) (by decide +kernel)
set_option maxRecDepth 20000 in
theorem gX5_desk_X5_highest : GoodIn wsX5_desk (wsV RX5 221 RX5 yX5_highest wsX5_highest) := goodIn_app (goodIn_of _ (by decide +kernel)) ggX5_desk_X5_highest
set_option maxRecDepth 20000 in
theorem ggX5_desk_X5_right : GoodIn wsX5_desk wsX5_right := goodIn_r _ [34, 3, 16, 17, 6, 18, 60, 61, 62, 63, 64, 65, 66, 67, 68, 69, 70, 71, 72, 73, 74, 75, 76, 77, 78, 79, 80, 81, 82, 83, 84, 85, 86] (by decide +kernel) (by decide +kernel)
set_option maxRecDepth 20000 in
theorem gX5_desk_X5_right : GoodIn wsX5_desk (wsV RX5 94 RX5 yX5_right wsX5_right) := goodIn_app (goodIn_of _ (by decide +kernel)) ggX5_desk_X5_right
set_option maxRecDepth 20000 in
theorem ggX5_desk_X5_ofItems : GoodIn wsX5_desk wsX5_ofItems := goodIn_r _ [38, 3, 39, 40, 41, 6, 42, 43, 44, 45, 46, 47, 9, 10, 11, 16, 17, 18, 48, 49, 50, 51, 52, 53, 54, 55, 31, 32, 33, 34, 19, 20, 21, 22, 56, 57, 58, 59, 60, 61, 62, 63, 64, 65, 66, 67, 68, 69, 70, 71, 72, 73, 74, 75, 76, 77, 78, 79, 80, 81, 82, 83, 84, 85, 86] (by decide +kernel) (by decide +kernel)
set_option maxRecDepth 20000 in
theorem gX5_desk_X5_ofItems : GoodIn wsX5_desk (wsV RX5 224 RX5 yX5_ofItems wsX5_ofItems) := goodIn_app (goodIn_of _ (by decide +kernel)) ggX5_desk_X5_ofItems
theorem dX5_desk_0 : decode cX5_desk 0 = .ok (.aload_n 0, 1) := by decide +kernel
theorem dX5_desk_1 : decode cX5_desk 1 = .ok (.iconst 0, 1) := by decide +kernel
theorem dX5_desk_2 : decode cX5_desk 2 = .ok (.putfield 63, 3) := by decide +kernel
theorem dX5_desk_5 : decode cX5_desk 5 = .ok (.iload_n 1, 1) := by decide +kernel
theorem dX5_desk_6 : decode cX5_desk 6 = .ok (.invokestatic 125, 3) := by decide +kernel
theorem dX5_desk_9 : decode cX5_desk 9 = .ok (.ifCond .eq 15, 3) := by decide +kernel
theorem dX5_desk_12 : decode cX5_desk 12 = .ok (.iload_n 2, 1) := by decide +kernel
theorem dX5_desk_13 : decode cX5_desk 13 = .ok (.i2l, 1) := by decide +kernel
theorem dX5_desk_14 : decode cX5_desk 14 = .ok (.lconst 0, 1) := by decide +kernel
theorem dX5_desk_15 : decode cX5_desk 15 = .ok (.ldc2_w 219, 3) := by decide +kernel
theorem dX5_desk_18 : decode cX5_desk 18 = .ok (.invokestatic 77, 3) := by decide +kernel
theorem dX5_desk_21 : decode cX5_desk 21 = .ok (.ifCond .ne 5, 3) := by decide +kernel
theorem dX5_desk_24 : decode cX5_desk 24 = .ok (.iconst (-1), 1) := by decide +kernel
theorem dX5_desk_25 : decode cX5_desk 25 = .ok (.ireturn, 1) := by decide +kernel
theorem dX5_desk_26 : decode cX5_desk 26 = .ok (.aload_n 0, 1) := by decide +kernel
theorem dX5_desk_27 : decode cX5_desk 27 = .ok (.getfield 13, 3) := by decide +kernel
theorem dX5_desk_30 : decode cX5_desk 30 = .ok (.iconst 4, 1) := by decide +kernel
theorem dX5_desk_31 : decode cX5_desk 31 = .ok (.iload_n 1, 1) := by decide +kernel
theorem dX5_desk_32 : decode cX5_desk 32 = .ok (.iadd, 1) := by decide +kernel
theorem dX5_desk_33 : decode cX5_desk 33 = .ok (.iaload, 1) := by decide +kernel
theorem dX5_desk_34 : decode cX5_desk 34 = .ok (.istore_n 3, 1) := by decide +kernel
theorem dX5_desk_35 : decode cX5_desk 35 = .ok (.iload_n 2, 1) := by decide +kernel
theorem dX5_desk_36 : decode cX5_desk 36 = .ok (.tableswitch 104 0 5 #[40, 42, 49, 63, 69, 75], 40) := by decide +kernel
theorem dX5_desk_76 : decode cX5_desk 76 = .ok (.iload_n 3, 1) := by decide +kernel
theorem dX5_desk_77 : decode cX5_desk 77 = .ok (.ireturn, 1) := by decide +kernel
theorem dX5_desk_78 : decode cX5_desk 78 = .ok (.aload_n 0, 1) := by decide +kernel
theorem dX5_desk_79 : decode cX5_desk 79 = .ok (.iload_n 1, 1) := by decide +kernel
theorem dX5_desk_80 : decode cX5_desk 80 = .ok (.iconst 0, 1) := by decide +kernel
theorem dX5_desk_81 : decode cX5_desk 81 = .ok (.invokevirtual 156, 3) := by decide +kernel
theorem dX5_desk_84 : decode cX5_desk 84 = .ok (.ireturn, 1) := by decide +kernel
theorem dX5_desk_85 : decode cX5_desk 85 = .ok (.aload_n 0, 1) := by decide +kernel
theorem dX5_desk_86 : decode cX5_desk 86 = .ok (.iload_n 1, 1) := by decide +kernel
theorem dX5_desk_87 : decode cX5_desk 87 = .ok (.iconst 1, 1) := by decide +kernel
theorem dX5_desk_88 : decode cX5_desk 88 = .ok (.invokevirtual 156, 3) := by decide +kernel
theorem dX5_desk_91 : decode cX5_desk 91 = .ok (.aload_n 0, 1) := by decide +kernel
theorem dX5_desk_92 : decode cX5_desk 92 = .ok (.iload_n 1, 1) := by decide +kernel
theorem dX5_desk_93 : decode cX5_desk 93 = .ok (.iconst 0, 1) := by decide +kernel
theorem dX5_desk_94 : decode cX5_desk 94 = .ok (.invokevirtual 156, 3) := by decide +kernel
theorem dX5_desk_97 : decode cX5_desk 97 = .ok (.isub, 1) := by decide +kernel
theorem dX5_desk_98 : decode cX5_desk 98 = .ok (.ireturn, 1) := by decide +kernel
theorem dX5_desk_99 : decode cX5_desk 99 = .ok (.aload_n 0, 1) := by decide +kernel
theorem dX5_desk_100 : decode cX5_desk 100 = .ok (.iload_n 3, 1) := by decide +kernel
theorem dX5_desk_101 : decode cX5_desk 101 = .ok (.invokevirtual 87, 3) := by decide +kernel
theorem dX5_desk_104 : decode cX5_desk 104 = .ok (.ireturn, 1) := by decide +kernel
theorem dX5_desk_105 : decode cX5_desk 105 = .ok (.aload_n 0, 1) := by decide +kernel
theorem dX5_desk_106 : decode cX5_desk 106 = .ok (.iload_n 1, 1) := by decide +kernel
theorem dX5_desk_107 : decode cX5_desk 107 = .ok (.invokevirtual 221, 3) := by decide +kernel
theorem dX5_desk_110 : decode cX5_desk 110 = .ok (.ireturn, 1) := by decide +kernel
theorem dX5_desk_111 : decode cX5_desk 111 = .ok (.iconst 0, 1) := by decide +kernel
theorem dX5_desk_112 : decode cX5_desk 112 = .ok (.istore 4, 2) := by decide +kernel
theorem dX5_desk_114 : decode cX5_desk 114 = .ok (.iload_n 3, 1) := by decide +kernel
theorem dX5_desk_115 : decode cX5_desk 115 = .ok (.istore 5, 2) := by decide +kernel
theorem dX5_desk_117 : decode cX5_desk 117 = .ok (.iload 5, 2) := by decide +kernel
theorem dX5_desk_119 : decode cX5_desk 119 = .ok (.iconst (-1), 1) := by decide +kernel
theorem dX5_desk_120 : decode cX5_desk 120 = .ok (.if_icmp .eq 17, 3) := by decide +kernel
theorem dX5_desk_123 : decode cX5_desk 123 = .ok (.iinc 4 1, 3) := by decide +kernel
theorem dX5_desk_126 : decode cX5_desk 126 = .ok (.aload_n 0, 1) := by decide +kernel
theorem dX5_desk_127 : decode cX5_desk 127 = .ok (.iload 5, 2) := by decide +kernel
theorem dX5_desk_129 : decode cX5_desk 129 = .ok (.invokevirtual 94, 3) := by decide +kernel
theorem dX5_desk_132 : decode cX5_desk 132 = .ok (.istore 5, 2) := by decide +kernel
theorem dX5_desk_134 : decode cX5_desk 134 = .ok (.goto (-17), 3) := by decide +kernel
theorem dX5_desk_137 : decode cX5_desk 137 = .ok (.iload 4, 2) := by decide +kernel
theorem dX5_desk_139 : decode cX5_desk 139 = .ok (.ireturn, 1) := by decide +kernel
theorem dX5_desk_140 : decode cX5_desk 140 = .ok (.aload_n 0, 1) := by decide +kernel
theorem dX5_desk_141 : decode cX5_desk 141 = .ok (.iload_n 1, 1) := by decide +kernel
theorem dX5_desk_142 : decode cX5_desk 142 = .ok (.iload_n 2, 1) := by decide +kernel
theorem dX5_desk_143 : decode cX5_desk 143 = .ok (.invokevirtual 224, 3) := by decide +kernel
theorem dX5_desk_146 : decode cX5_desk 146 = .ok (.ireturn, 1) := by decide +kernel
set_option maxRecDepth 20000 in
theorem ggX5_along_X5_isDesk : GoodIn wsX5_along wsX5_isDesk := goodIn_r _ [6, 7, 8, 9, 5, 10] (by decide +kernel) (by decide +kernel)
set_option maxRecDepth 20000 in
theorem gX5_along_X5_isDesk : GoodIn wsX5_along (va_wsS RX5 125 yX5_isDesk wsX5_isDesk) := goodIn_app (goodIn_of _ (by decide +kernel)) ggX5_along_X5_isDesk
set_option maxRecDepth 20000 in
theorem ggX5_along_X5_in : GoodIn wsX5_along wsX5_in := goodIn_r _ [10] (by decide +kernel) (by decide +kernel)
set_option maxRecDepth 20000 in
theorem gX5_along_X5_in : GoodIn wsX5_along (va_wsS RX5 77 yX5_in wsX5_in) := goodIn_app (goodIn_of _ (by decide +kernel)) ggX5_along_X5_in
set_option maxRecDepth 20000 in
theorem ggX5_along_X5_right : GoodIn wsX5_along wsX5_right := goodIn_r _ [14, 2, 15, 16, 5, 17, 22, 23, 24, 25, 26, 27, 28, 29, 30, 31, 32, 33, 34, 35, 36, 37, 38, 39, 40, 41, 42, 43, 44, 45, 46, 47, 48] (by decide +kernel) (by decide +kernel)
set_option maxRecDepth 20000 in
theorem gX5_along_X5_right : GoodIn wsX5_along (wsV RX5 94 RX5 yX5_right wsX5_right) := goodIn_app (goodIn_of _ (by decide +kernel)) ggX5_along_X5_right
set_option maxRecDepth 20000 in
theorem ggX5_along_X5_left : GoodIn wsX5_along wsX5_left := goodIn_r _ [21, 2, 15, 16, 5, 17, 22, 23, 24, 25, 26, 27, 28, 29, 30, 31, 32, 33, 34, 35, 36, 37, 38, 39, 40, 41, 42, 43, 44, 45, 46, 47, 48] (by decide +kernel) (by decide +kernel)
set_option maxRecDepth 20000 in
theorem gX5_along_X5_left : GoodIn wsX5_along (wsV RX5 112 RX5 yX5_left wsX5_left) := goodIn_app (goodIn_of _ (by decide +kernel)) ggX5_along_X5_left
theorem dX5_along_0 : decode cX5_along 0 = .ok (.aload_n 0, 1) := by decide +kernel
theorem dX5_along_1 : decode cX5_along 1 = .ok (.iconst 0, 1) := by decide +kernel
theorem dX5_along_2 : decode cX5_along 2 = .ok (.putfield 63, 3) := by decide +kernel
theorem dX5_along_5 : decode cX5_along 5 = .ok (.iload_n 1, 1) := by decide +kernel
theorem dX5_along_6 : decode cX5_along 6 = .ok (.invokestatic 125, 3) := by decide +kernel
theorem dX5_along_9 : decode cX5_along 9 = .ok (.ifCond .eq 17, 3) := by decide +kernel
theorem dX5_along_12 : decode cX5_along 12 = .ok (.iload_n 2, 1) := by decide +kernel
theorem dX5_along_13 : decode cX5_along 13 = .ok (.ifCond .lt 13, 3) := by decide +kernel
theorem dX5_along_16 : decode cX5_along 16 = .ok (.iload_n 3, 1) := by decide +kernel
theorem dX5_along_17 : decode cX5_along 17 = .ok (.i2l, 1) := by decide +kernel
theorem dX5_along_18 : decode cX5_along 18 = .ok (.lconst 0, 1) := by decide +kernel
theorem dX5_along_19 : decode cX5_along 19 = .ok (.lconst 1, 1) := by decide +kernel
theorem dX5_along_20 : decode cX5_along 20 = .ok (.invokestatic 77, 3) := by decide +kernel
theorem dX5_along_23 : decode cX5_along 23 = .ok (.ifCond .ne 5, 3) := by decide +kernel
theorem dX5_along_26 : decode cX5_along 26 = .ok (.iconst (-1), 1) := by decide +kernel
theorem dX5_along_27 : decode cX5_along 27 = .ok (.ireturn, 1) := by decide +kernel
theorem dX5_along_28 : decode cX5_along 28 = .ok (.aload_n 0, 1) := by decide +kernel
theorem dX5_along_29 : decode cX5_along 29 = .ok (.getfield 13, 3) := by decide +kernel
theorem dX5_along_32 : decode cX5_along 32 = .ok (.iconst 4, 1) := by decide +kernel
theorem dX5_along_33 : decode cX5_along 33 = .ok (.iload_n 1, 1) := by decide +kernel
theorem dX5_along_34 : decode cX5_along 34 = .ok (.iadd, 1) := by decide +kernel
theorem dX5_along_35 : decode cX5_along 35 = .ok (.iaload, 1) := by decide +kernel
theorem dX5_along_36 : decode cX5_along 36 = .ok (.istore 4, 2) := by decide +kernel
theorem dX5_along_38 : decode cX5_along 38 = .ok (.iconst 0, 1) := by decide +kernel
theorem dX5_along_39 : decode cX5_along 39 = .ok (.istore 5, 2) := by decide +kernel
theorem dX5_along_41 : decode cX5_along 41 = .ok (.iload 5, 2) := by decide +kernel
theorem dX5_along_43 : decode cX5_along 43 = .ok (.iload_n 2, 1) := by decide +kernel
theorem dX5_along_44 : decode cX5_along 44 = .ok (.if_icmp .ge 36, 3) := by decide +kernel
theorem dX5_along_47 : decode cX5_along 47 = .ok (.iload 4, 2) := by decide +kernel
theorem dX5_along_49 : decode cX5_along 49 = .ok (.iconst (-1), 1) := by decide +kernel
theorem dX5_along_50 : decode cX5_along 50 = .ok (.if_icmp .eq 30, 3) := by decide +kernel
theorem dX5_along_53 : decode cX5_along 53 = .ok (.iload_n 3, 1) := by decide +kernel
theorem dX5_along_54 : decode cX5_along 54 = .ok (.ifCond .ne 12, 3) := by decide +kernel
theorem dX5_along_57 : decode cX5_along 57 = .ok (.aload_n 0, 1) := by decide +kernel
theorem dX5_along_58 : decode cX5_along 58 = .ok (.iload 4, 2) := by decide +kernel
theorem dX5_along_60 : decode cX5_along 60 = .ok (.invokevirtual 94, 3) := by decide +kernel
theorem dX5_along_63 : decode cX5_along 63 = .ok (.goto 9, 3) := by decide +kernel
theorem dX5_along_66 : decode cX5_along 66 = .ok (.aload_n 0, 1) := by decide +kernel
theorem dX5_along_67 : decode cX5_along 67 = .ok (.iload 4, 2) := by decide +kernel
theorem dX5_along_69 : decode cX5_along 69 = .ok (.invokevirtual 112, 3) := by decide +kernel
theorem dX5_along_72 : decode cX5_along 72 = .ok (.istore 4, 2) := by decide +kernel
theorem dX5_along_74 : decode cX5_along 74 = .ok (.iinc 5 1, 3) := by decide +kernel
theorem dX5_along_77 : decode cX5_along 77 = .ok (.goto (-36), 3) := by decide +kernel
theorem dX5_along_80 : decode cX5_along 80 = .ok (.iload 4, 2) := by decide +kernel
theorem dX5_along_82 : decode cX5_along 82 = .ok (.ireturn, 1) := by decide +kernel
set_option maxRecDepth 20000 in
theorem ggX5_ranked_X5_isDesk : GoodIn wsX5_ranked wsX5_isDesk := goodIn_r _ [6, 7, 8, 9, 5, 10] (by decide +kernel) (by decide +kernel)
set_option maxRecDepth 20000 in
theorem gX5_ranked_X5_isDesk : GoodIn wsX5_ranked (va_wsS RX5 125 yX5_isDesk wsX5_isDesk) := goodIn_app (goodIn_of _ (by decide +kernel)) ggX5_ranked_X5_isDesk
set_option maxRecDepth 20000 in
theorem ggX5_ranked_X5_at : GoodIn wsX5_ranked wsX5_at := goodIn_r _ [13] (by decide +kernel) (by decide +kernel)
set_option maxRecDepth 20000 in
theorem gX5_ranked_X5_at : GoodIn wsX5_ranked (va_wsS RX5 83 yX5_at wsX5_at) := goodIn_app (goodIn_of _ (by decide +kernel)) ggX5_ranked_X5_at
set_option maxRecDepth 20000 in
theorem ggX5_ranked_X5_rank : GoodIn wsX5_ranked wsX5_rank := goodIn_r _ [17, 2, 11, 12, 5, 13, 18, 19, 20, 21, 22, 23, 24, 25, 26, 27, 28, 29, 30, 31, 32, 33, 34, 35, 36, 37, 38, 39, 40, 41, 42, 43, 44] (by decide +kernel) (by decide +kernel)
set_option maxRecDepth 20000 in
theorem gX5_ranked_X5_rank : GoodIn wsX5_ranked (wsV RX5 87 RX5 yX5_rank wsX5_rank) := goodIn_app (goodIn_of _ (by decide +kernel)) ggX5_ranked_X5_rank
theorem dX5_ranked_0 : decode cX5_ranked 0 = .ok (.aload_n 0, 1) := by decide +kernel
theorem dX5_ranked_1 : decode cX5_ranked 1 = .ok (.iconst 0, 1) := by decide +kernel
theorem dX5_ranked_2 : decode cX5_ranked 2 = .ok (.putfield 63, 3) := by decide +kernel
theorem dX5_ranked_5 : decode cX5_ranked 5 = .ok (.iload_n 1, 1) := by decide +kernel
theorem dX5_ranked_6 : decode cX5_ranked 6 = .ok (.invokestatic 125, 3) := by decide +kernel
theorem dX5_ranked_9 : decode cX5_ranked 9 = .ok (.ifCond .eq 8, 3) := by decide +kernel
theorem dX5_ranked_12 : decode cX5_ranked 12 = .ok (.iload_n 2, 1) := by decide +kernel
theorem dX5_ranked_13 : decode cX5_ranked 13 = .ok (.iconst 1, 1) := by decide +kernel
theorem dX5_ranked_14 : decode cX5_ranked 14 = .ok (.if_icmp .ge 5, 3) := by decide +kernel
theorem dX5_ranked_17 : decode cX5_ranked 17 = .ok (.iconst (-1), 1) := by decide +kernel
theorem dX5_ranked_18 : decode cX5_ranked 18 = .ok (.ireturn, 1) := by decide +kernel
theorem dX5_ranked_19 : decode cX5_ranked 19 = .ok (.iconst 0, 1) := by decide +kernel
theorem dX5_ranked_20 : decode cX5_ranked 20 = .ok (.istore_n 3, 1) := by decide +kernel
theorem dX5_ranked_21 : decode cX5_ranked 21 = .ok (.iconst 0, 1) := by decide +kernel
theorem dX5_ranked_22 : decode cX5_ranked 22 = .ok (.istore 4, 2) := by decide +kernel
theorem dX5_ranked_24 : decode cX5_ranked 24 = .ok (.iload 4, 2) := by decide +kernel
theorem dX5_ranked_26 : decode cX5_ranked 26 = .ok (.aload_n 0, 1) := by decide +kernel
theorem dX5_ranked_27 : decode cX5_ranked 27 = .ok (.getfield 13, 3) := by decide +kernel
theorem dX5_ranked_30 : decode cX5_ranked 30 = .ok (.iconst 0, 1) := by decide +kernel
theorem dX5_ranked_31 : decode cX5_ranked 31 = .ok (.iaload, 1) := by decide +kernel
theorem dX5_ranked_32 : decode cX5_ranked 32 = .ok (.if_icmp .ge 43, 3) := by decide +kernel
theorem dX5_ranked_35 : decode cX5_ranked 35 = .ok (.iload_n 3, 1) := by decide +kernel
theorem dX5_ranked_36 : decode cX5_ranked 36 = .ok (.aload_n 0, 1) := by decide +kernel
theorem dX5_ranked_37 : decode cX5_ranked 37 = .ok (.getfield 13, 3) := by decide +kernel
theorem dX5_ranked_40 : decode cX5_ranked 40 = .ok (.iload 4, 2) := by decide +kernel
theorem dX5_ranked_42 : decode cX5_ranked 42 = .ok (.invokestatic 83, 3) := by decide +kernel
theorem dX5_ranked_45 : decode cX5_ranked 45 = .ok (.iconst 1, 1) := by decide +kernel
theorem dX5_ranked_46 : decode cX5_ranked 46 = .ok (.iadd, 1) := by decide +kernel
theorem dX5_ranked_47 : decode cX5_ranked 47 = .ok (.iaload, 1) := by decide +kernel
theorem dX5_ranked_48 : decode cX5_ranked 48 = .ok (.iload_n 1, 1) := by decide +kernel
theorem dX5_ranked_49 : decode cX5_ranked 49 = .ok (.if_icmp .ne 17, 3) := by decide +kernel
theorem dX5_ranked_52 : decode cX5_ranked 52 = .ok (.aload_n 0, 1) := by decide +kernel
theorem dX5_ranked_53 : decode cX5_ranked 53 = .ok (.iload 4, 2) := by decide +kernel
theorem dX5_ranked_55 : decode cX5_ranked 55 = .ok (.invokevirtual 87, 3) := by decide +kernel
theorem dX5_ranked_58 : decode cX5_ranked 58 = .ok (.iload_n 2, 1) := by decide +kernel
theorem dX5_ranked_59 : decode cX5_ranked 59 = .ok (.if_icmp .ne 7, 3) := by decide +kernel
theorem dX5_ranked_62 : decode cX5_ranked 62 = .ok (.iconst 1, 1) := by decide +kernel
theorem dX5_ranked_63 : decode cX5_ranked 63 = .ok (.goto 4, 3) := by decide +kernel
theorem dX5_ranked_66 : decode cX5_ranked 66 = .ok (.iconst 0, 1) := by decide +kernel
theorem dX5_ranked_67 : decode cX5_ranked 67 = .ok (.iadd, 1) := by decide +kernel
theorem dX5_ranked_68 : decode cX5_ranked 68 = .ok (.istore_n 3, 1) := by decide +kernel
theorem dX5_ranked_69 : decode cX5_ranked 69 = .ok (.iinc 4 1, 3) := by decide +kernel
theorem dX5_ranked_72 : decode cX5_ranked 72 = .ok (.goto (-48), 3) := by decide +kernel
theorem dX5_ranked_75 : decode cX5_ranked 75 = .ok (.iload_n 3, 1) := by decide +kernel
theorem dX5_ranked_76 : decode cX5_ranked 76 = .ok (.ireturn, 1) := by decide +kernel
set_option maxRecDepth 20000 in
theorem ggX5_layRising_X5_at : GoodIn wsX5_layRising wsX5_at := goodIn_r _ [7] (by decide +kernel) (by decide +kernel)
set_option maxRecDepth 20000 in
theorem gX5_layRising_X5_at : GoodIn wsX5_layRising (va_wsS RX5 83 yX5_at wsX5_at) := goodIn_app (goodIn_of _ (by decide +kernel)) ggX5_layRising_X5_at
set_option maxRecDepth 20000 in
theorem ggX5_layRising_X5_isLess : GoodIn wsX5_layRising wsX5_isLess := goodIn_r _ [11, 12, 13, 14, 15, 16, 17, 18, 19, 20, 21, 22, 23, 24, 25, 26, 27, 28, 29, 30, 31, 32, 33, 34, 35, 36, 37, 38, 39] (by decide +kernel) (by decide +kernel)
set_option maxRecDepth 20000 in
theorem gX5_layRising_X5_isLess : GoodIn wsX5_layRising (wsV RX5 90 RX5 yX5_isLess wsX5_isLess) := goodIn_app (goodIn_of _ (by decide +kernel)) ggX5_layRising_X5_isLess
theorem dX5_layRising_0 : decode cX5_layRising 0 = .ok (.iconst 0, 1) := by decide +kernel
theorem dX5_layRising_1 : decode cX5_layRising 1 = .ok (.istore_n 3, 1) := by decide +kernel
theorem dX5_layRising_2 : decode cX5_layRising 2 = .ok (.iconst 0, 1) := by decide +kernel
theorem dX5_layRising_3 : decode cX5_layRising 3 = .ok (.istore 4, 2) := by decide +kernel
theorem dX5_layRising_5 : decode cX5_layRising 5 = .ok (.iload 4, 2) := by decide +kernel
theorem dX5_layRising_7 : decode cX5_layRising 7 = .ok (.aload_n 0, 1) := by decide +kernel
theorem dX5_layRising_8 : decode cX5_layRising 8 = .ok (.getfield 13, 3) := by decide +kernel
theorem dX5_layRising_11 : decode cX5_layRising 11 = .ok (.iconst 0, 1) := by decide +kernel
theorem dX5_layRising_12 : decode cX5_layRising 12 = .ok (.iaload, 1) := by decide +kernel
theorem dX5_layRising_13 : decode cX5_layRising 13 = .ok (.if_icmp .ge 124, 3) := by decide +kernel
theorem dX5_layRising_16 : decode cX5_layRising 16 = .ok (.aload_n 0, 1) := by decide +kernel
theorem dX5_layRising_17 : decode cX5_layRising 17 = .ok (.getfield 13, 3) := by decide +kernel
theorem dX5_layRising_20 : decode cX5_layRising 20 = .ok (.iload 4, 2) := by decide +kernel
theorem dX5_layRising_22 : decode cX5_layRising 22 = .ok (.invokestatic 83, 3) := by decide +kernel
theorem dX5_layRising_25 : decode cX5_layRising 25 = .ok (.iconst 1, 1) := by decide +kernel
theorem dX5_layRising_26 : decode cX5_layRising 26 = .ok (.iadd, 1) := by decide +kernel
theorem dX5_layRising_27 : decode cX5_layRising 27 = .ok (.iaload, 1) := by decide +kernel
theorem dX5_layRising_28 : decode cX5_layRising 28 = .ok (.iload_n 1, 1) := by decide +kernel
theorem dX5_layRising_29 : decode cX5_layRising 29 = .ok (.if_icmp .ne 102, 3) := by decide +kernel
theorem dX5_layRising_32 : decode cX5_layRising 32 = .ok (.aload_n 0, 1) := by decide +kernel
theorem dX5_layRising_33 : decode cX5_layRising 33 = .ok (.getfield 13, 3) := by decide +kernel
theorem dX5_layRising_36 : decode cX5_layRising 36 = .ok (.iload 4, 2) := by decide +kernel
theorem dX5_layRising_38 : decode cX5_layRising 38 = .ok (.invokestatic 83, 3) := by decide +kernel
theorem dX5_layRising_41 : decode cX5_layRising 41 = .ok (.iconst 2, 1) := by decide +kernel
theorem dX5_layRising_42 : decode cX5_layRising 42 = .ok (.iadd, 1) := by decide +kernel
theorem dX5_layRising_43 : decode cX5_layRising 43 = .ok (.iaload, 1) := by decide +kernel
theorem dX5_layRising_44 : decode cX5_layRising 44 = .ok (.ifCond .ne 87, 3) := by decide +kernel
theorem dX5_layRising_47 : decode cX5_layRising 47 = .ok (.iload_n 3, 1) := by decide +kernel
theorem dX5_layRising_48 : decode cX5_layRising 48 = .ok (.istore 5, 2) := by decide +kernel
theorem dX5_layRising_50 : decode cX5_layRising 50 = .ok (.iload 5, 2) := by decide +kernel
theorem dX5_layRising_52 : decode cX5_layRising 52 = .ok (.ifCond .le 61, 3) := by decide +kernel
theorem dX5_layRising_55 : decode cX5_layRising 55 = .ok (.aload_n 0, 1) := by decide +kernel
theorem dX5_layRising_56 : decode cX5_layRising 56 = .ok (.iload 4, 2) := by decide +kernel
theorem dX5_layRising_58 : decode cX5_layRising 58 = .ok (.aload_n 0, 1) := by decide +kernel
theorem dX5_layRising_59 : decode cX5_layRising 59 = .ok (.getfield 51, 3) := by decide +kernel
theorem dX5_layRising_62 : decode cX5_layRising 62 = .ok (.sipush 300, 3) := by decide +kernel
theorem dX5_layRising_65 : decode cX5_layRising 65 = .ok (.iload_n 2, 1) := by decide +kernel
theorem dX5_layRising_66 : decode cX5_layRising 66 = .ok (.imul, 1) := by decide +kernel
theorem dX5_layRising_67 : decode cX5_layRising 67 = .ok (.iload 5, 2) := by decide +kernel
theorem dX5_layRising_69 : decode cX5_layRising 69 = .ok (.iadd, 1) := by decide +kernel
theorem dX5_layRising_70 : decode cX5_layRising 70 = .ok (.iconst 1, 1) := by decide +kernel
theorem dX5_layRising_71 : decode cX5_layRising 71 = .ok (.isub, 1) := by decide +kernel
theorem dX5_layRising_72 : decode cX5_layRising 72 = .ok (.iaload, 1) := by decide +kernel
theorem dX5_layRising_73 : decode cX5_layRising 73 = .ok (.invokevirtual 90, 3) := by decide +kernel
theorem dX5_layRising_76 : decode cX5_layRising 76 = .ok (.ifCond .eq 37, 3) := by decide +kernel
theorem dX5_layRising_79 : decode cX5_layRising 79 = .ok (.aload_n 0, 1) := by decide +kernel
theorem dX5_layRising_80 : decode cX5_layRising 80 = .ok (.getfield 51, 3) := by decide +kernel
theorem dX5_layRising_83 : decode cX5_layRising 83 = .ok (.sipush 300, 3) := by decide +kernel
theorem dX5_layRising_86 : decode cX5_layRising 86 = .ok (.iload_n 2, 1) := by decide +kernel
theorem dX5_layRising_87 : decode cX5_layRising 87 = .ok (.imul, 1) := by decide +kernel
theorem dX5_layRising_88 : decode cX5_layRising 88 = .ok (.iload 5, 2) := by decide +kernel
theorem dX5_layRising_90 : decode cX5_layRising 90 = .ok (.iadd, 1) := by decide +kernel
theorem dX5_layRising_91 : decode cX5_layRising 91 = .ok (.aload_n 0, 1) := by decide +kernel
theorem dX5_layRising_92 : decode cX5_layRising 92 = .ok (.getfield 51, 3) := by decide +kernel
theorem dX5_layRising_95 : decode cX5_layRising 95 = .ok (.sipush 300, 3) := by decide +kernel
theorem dX5_layRising_98 : decode cX5_layRising 98 = .ok (.iload_n 2, 1) := by decide +kernel
theorem dX5_layRising_99 : decode cX5_layRising 99 = .ok (.imul, 1) := by decide +kernel
theorem dX5_layRising_100 : decode cX5_layRising 100 = .ok (.iload 5, 2) := by decide +kernel
theorem dX5_layRising_102 : decode cX5_layRising 102 = .ok (.iadd, 1) := by decide +kernel
theorem dX5_layRising_103 : decode cX5_layRising 103 = .ok (.iconst 1, 1) := by decide +kernel
theorem dX5_layRising_104 : decode cX5_layRising 104 = .ok (.isub, 1) := by decide +kernel
theorem dX5_layRising_105 : decode cX5_layRising 105 = .ok (.iaload, 1) := by decide +kernel
