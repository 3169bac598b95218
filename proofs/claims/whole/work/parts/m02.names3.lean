theorem dX2_pairSum_0 : decode cX2_pairSum 0 = .ok (.aload_n 0, 1) := by decide +kernel
theorem dX2_pairSum_1 : decode cX2_pairSum 1 = .ok (.getfield 9, 3) := by decide +kernel
theorem dX2_pairSum_4 : decode cX2_pairSum 4 = .ok (.getfield 80, 3) := by decide +kernel
theorem dX2_pairSum_7 : decode cX2_pairSum 7 = .ok (.aload_n 0, 1) := by decide +kernel
theorem dX2_pairSum_8 : decode cX2_pairSum 8 = .ok (.getfield 15, 3) := by decide +kernel
theorem dX2_pairSum_11 : decode cX2_pairSum 11 = .ok (.iload_n 1, 1) := by decide +kernel
theorem dX2_pairSum_12 : decode cX2_pairSum 12 = .ok (.iaload, 1) := by decide +kernel
theorem dX2_pairSum_13 : decode cX2_pairSum 13 = .ok (.laload, 1) := by decide +kernel
theorem dX2_pairSum_14 : decode cX2_pairSum 14 = .ok (.aload_n 0, 1) := by decide +kernel
theorem dX2_pairSum_15 : decode cX2_pairSum 15 = .ok (.getfield 9, 3) := by decide +kernel
theorem dX2_pairSum_18 : decode cX2_pairSum 18 = .ok (.getfield 80, 3) := by decide +kernel
theorem dX2_pairSum_21 : decode cX2_pairSum 21 = .ok (.aload_n 0, 1) := by decide +kernel
theorem dX2_pairSum_22 : decode cX2_pairSum 22 = .ok (.getfield 19, 3) := by decide +kernel
theorem dX2_pairSum_25 : decode cX2_pairSum 25 = .ok (.aload_n 0, 1) := by decide +kernel
theorem dX2_pairSum_26 : decode cX2_pairSum 26 = .ok (.getfield 28, 3) := by decide +kernel
theorem dX2_pairSum_29 : decode cX2_pairSum 29 = .ok (.iload_n 1, 1) := by decide +kernel
theorem dX2_pairSum_30 : decode cX2_pairSum 30 = .ok (.iaload, 1) := by decide +kernel
theorem dX2_pairSum_31 : decode cX2_pairSum 31 = .ok (.iaload, 1) := by decide +kernel
theorem dX2_pairSum_32 : decode cX2_pairSum 32 = .ok (.laload, 1) := by decide +kernel
theorem dX2_pairSum_33 : decode cX2_pairSum 33 = .ok (.ladd, 1) := by decide +kernel
theorem dX2_pairSum_34 : decode cX2_pairSum 34 = .ok (.lreturn, 1) := by decide +kernel
set_option maxRecDepth 20000 in
theorem ggX2_gatherRow_X0_join : GoodIn wsX2_gatherRow wsX0_join := goodIn_r _ [7, 8, 9, 10, 11, 12, 13, 6, 14, 15, 16, 17, 18, 19, 20, 21, 28, 29, 30, 31, 32, 33, 34, 35, 36, 37, 38, 39, 40, 41, 42, 43, 44] (by decide +kernel) (by decide +kernel)
set_option maxRecDepth 20000 in
theorem gX2_gatherRow_X0_join : GoodIn wsX2_gatherRow (wsV RX2 107 RX0 yX0_join wsX0_join) := goodIn_app (goodIn_of _ (by decide +kernel)) ggX2_gatherRow_X0_join
theorem dX2_gatherRow_0 : decode cX2_gatherRow 0 = .ok (.iconst 0, 1) := by decide +kernel
theorem dX2_gatherRow_1 : decode cX2_gatherRow 1 = .ok (.istore_n 2, 1) := by decide +kernel
theorem dX2_gatherRow_2 : decode cX2_gatherRow 2 = .ok (.iload_n 1, 1) := by decide +kernel
theorem dX2_gatherRow_3 : decode cX2_gatherRow 3 = .ok (.istore_n 3, 1) := by decide +kernel
theorem dX2_gatherRow_4 : decode cX2_gatherRow 4 = .ok (.iload_n 3, 1) := by decide +kernel
theorem dX2_gatherRow_5 : decode cX2_gatherRow 5 = .ok (.iconst 1, 1) := by decide +kernel
theorem dX2_gatherRow_6 : decode cX2_gatherRow 6 = .ok (.if_icmp .le 58, 3) := by decide +kernel
theorem dX2_gatherRow_9 : decode cX2_gatherRow 9 = .ok (.aload_n 0, 1) := by decide +kernel
theorem dX2_gatherRow_10 : decode cX2_gatherRow 10 = .ok (.getfield 9, 3) := by decide +kernel
theorem dX2_gatherRow_13 : decode cX2_gatherRow 13 = .ok (.aload_n 0, 1) := by decide +kernel
theorem dX2_gatherRow_14 : decode cX2_gatherRow 14 = .ok (.getfield 22, 3) := by decide +kernel
theorem dX2_gatherRow_17 : decode cX2_gatherRow 17 = .ok (.iload_n 2, 1) := by decide +kernel
theorem dX2_gatherRow_18 : decode cX2_gatherRow 18 = .ok (.iaload, 1) := by decide +kernel
theorem dX2_gatherRow_19 : decode cX2_gatherRow 19 = .ok (.aload_n 0, 1) := by decide +kernel
theorem dX2_gatherRow_20 : decode cX2_gatherRow 20 = .ok (.getfield 22, 3) := by decide +kernel
theorem dX2_gatherRow_23 : decode cX2_gatherRow 23 = .ok (.iload_n 2, 1) := by decide +kernel
theorem dX2_gatherRow_24 : decode cX2_gatherRow 24 = .ok (.iconst 1, 1) := by decide +kernel
theorem dX2_gatherRow_25 : decode cX2_gatherRow 25 = .ok (.iadd, 1) := by decide +kernel
theorem dX2_gatherRow_26 : decode cX2_gatherRow 26 = .ok (.sipush 300, 3) := by decide +kernel
theorem dX2_gatherRow_29 : decode cX2_gatherRow 29 = .ok (.irem, 1) := by decide +kernel
theorem dX2_gatherRow_30 : decode cX2_gatherRow 30 = .ok (.iaload, 1) := by decide +kernel
theorem dX2_gatherRow_31 : decode cX2_gatherRow 31 = .ok (.invokevirtual 107, 3) := by decide +kernel
theorem dX2_gatherRow_34 : decode cX2_gatherRow 34 = .ok (.istore 4, 2) := by decide +kernel
theorem dX2_gatherRow_36 : decode cX2_gatherRow 36 = .ok (.aload_n 0, 1) := by decide +kernel
theorem dX2_gatherRow_37 : decode cX2_gatherRow 37 = .ok (.getfield 22, 3) := by decide +kernel
theorem dX2_gatherRow_40 : decode cX2_gatherRow 40 = .ok (.iload_n 2, 1) := by decide +kernel
theorem dX2_gatherRow_41 : decode cX2_gatherRow 41 = .ok (.iload_n 3, 1) := by decide +kernel
theorem dX2_gatherRow_42 : decode cX2_gatherRow 42 = .ok (.iadd, 1) := by decide +kernel
theorem dX2_gatherRow_43 : decode cX2_gatherRow 43 = .ok (.sipush 300, 3) := by decide +kernel
theorem dX2_gatherRow_46 : decode cX2_gatherRow 46 = .ok (.irem, 1) := by decide +kernel
theorem dX2_gatherRow_47 : decode cX2_gatherRow 47 = .ok (.iload 4, 2) := by decide +kernel
theorem dX2_gatherRow_49 : decode cX2_gatherRow 49 = .ok (.iastore, 1) := by decide +kernel
theorem dX2_gatherRow_50 : decode cX2_gatherRow 50 = .ok (.iload_n 2, 1) := by decide +kernel
theorem dX2_gatherRow_51 : decode cX2_gatherRow 51 = .ok (.iconst 2, 1) := by decide +kernel
theorem dX2_gatherRow_52 : decode cX2_gatherRow 52 = .ok (.iadd, 1) := by decide +kernel
theorem dX2_gatherRow_53 : decode cX2_gatherRow 53 = .ok (.sipush 300, 3) := by decide +kernel
theorem dX2_gatherRow_56 : decode cX2_gatherRow 56 = .ok (.irem, 1) := by decide +kernel
theorem dX2_gatherRow_57 : decode cX2_gatherRow 57 = .ok (.istore_n 2, 1) := by decide +kernel
theorem dX2_gatherRow_58 : decode cX2_gatherRow 58 = .ok (.iinc 3 (-1), 3) := by decide +kernel
theorem dX2_gatherRow_61 : decode cX2_gatherRow 61 = .ok (.goto (-57), 3) := by decide +kernel
theorem dX2_gatherRow_64 : decode cX2_gatherRow 64 = .ok (.iload_n 1, 1) := by decide +kernel
theorem dX2_gatherRow_65 : decode cX2_gatherRow 65 = .ok (.ifCond .le 12, 3) := by decide +kernel
theorem dX2_gatherRow_68 : decode cX2_gatherRow 68 = .ok (.aload_n 0, 1) := by decide +kernel
theorem dX2_gatherRow_69 : decode cX2_gatherRow 69 = .ok (.getfield 22, 3) := by decide +kernel
theorem dX2_gatherRow_72 : decode cX2_gatherRow 72 = .ok (.iload_n 2, 1) := by decide +kernel
theorem dX2_gatherRow_73 : decode cX2_gatherRow 73 = .ok (.iaload, 1) := by decide +kernel
theorem dX2_gatherRow_74 : decode cX2_gatherRow 74 = .ok (.goto 4, 3) := by decide +kernel
theorem dX2_gatherRow_77 : decode cX2_gatherRow 77 = .ok (.iconst (-1), 1) := by decide +kernel
theorem dX2_gatherRow_78 : decode cX2_gatherRow 78 = .ok (.ireturn, 1) := by decide +kernel
set_option maxRecDepth 20000 in
theorem ggX2_gatherDesks_J7_fill_53178 : GoodIn wsX2_gatherDesks wsJ7_fill_53178 := goodIn_r _ [7] (by decide +kernel) (by decide +kernel)
set_option maxRecDepth 20000 in
theorem gX2_gatherDesks_J7_fill_53178 : GoodIn wsX2_gatherDesks (va_wsS RX2 95 yJ7_fill_53178 wsJ7_fill_53178) := goodIn_app (goodIn_of _ (by decide +kernel)) ggX2_gatherDesks_J7_fill_53178
set_option maxRecDepth 20000 in
theorem ggX2_gatherDesks_X2_gatherRow : GoodIn wsX2_gatherDesks wsX2_gatherRow := goodIn_r _ [12, 1, 3, 13, 14, 15, 16, 17, 18, 19, 20, 21, 22, 23, 24, 25, 26, 27, 28, 29, 30, 31, 38, 39, 40, 41, 42, 43, 44, 45, 46, 47, 48, 49, 50, 51, 52, 53, 54, 55, 56, 57, 58, 59, 60] (by decide +kernel) (by decide +kernel)
set_option maxRecDepth 20000 in
theorem gX2_gatherDesks_X2_gatherRow : GoodIn wsX2_gatherDesks (wsV RX2 110 RX2 yX2_gatherRow wsX2_gatherRow) := goodIn_app (goodIn_of _ (by decide +kernel)) ggX2_gatherDesks_X2_gatherRow
set_option maxRecDepth 20000 in
theorem ggX2_gatherDesks_X0_relabel : GoodIn wsX2_gatherDesks wsX0_relabel := goodIn_r _ [35, 36, 37, 44, 45, 46, 47, 48, 49, 50, 51, 52, 53, 54, 55, 56, 57, 58, 59, 60] (by decide +kernel) (by decide +kernel)
set_option maxRecDepth 20000 in
theorem gX2_gatherDesks_X0_relabel : GoodIn wsX2_gatherDesks (wsV RX2 113 RX0 yX0_relabel wsX0_relabel) := goodIn_app (goodIn_of _ (by decide +kernel)) ggX2_gatherDesks_X0_relabel
theorem dX2_gatherDesks_0 : decode cX2_gatherDesks 0 = .ok (.iconst 0, 1) := by decide +kernel
theorem dX2_gatherDesks_1 : decode cX2_gatherDesks 1 = .ok (.istore_n 2, 1) := by decide +kernel
theorem dX2_gatherDesks_2 : decode cX2_gatherDesks 2 = .ok (.iconst 0, 1) := by decide +kernel
theorem dX2_gatherDesks_3 : decode cX2_gatherDesks 3 = .ok (.istore_n 3, 1) := by decide +kernel
theorem dX2_gatherDesks_4 : decode cX2_gatherDesks 4 = .ok (.iload_n 3, 1) := by decide +kernel
theorem dX2_gatherDesks_5 : decode cX2_gatherDesks 5 = .ok (.bipush 6, 2) := by decide +kernel
theorem dX2_gatherDesks_7 : decode cX2_gatherDesks 7 = .ok (.if_icmp .ge 40, 3) := by decide +kernel
theorem dX2_gatherDesks_10 : decode cX2_gatherDesks 10 = .ok (.aload_n 0, 1) := by decide +kernel
theorem dX2_gatherDesks_11 : decode cX2_gatherDesks 11 = .ok (.getfield 9, 3) := by decide +kernel
theorem dX2_gatherDesks_14 : decode cX2_gatherDesks 14 = .ok (.getfield 39, 3) := by decide +kernel
theorem dX2_gatherDesks_17 : decode cX2_gatherDesks 17 = .ok (.iload_n 3, 1) := by decide +kernel
theorem dX2_gatherDesks_18 : decode cX2_gatherDesks 18 = .ok (.iaload, 1) := by decide +kernel
theorem dX2_gatherDesks_19 : decode cX2_gatherDesks 19 = .ok (.iconst (-1), 1) := by decide +kernel
theorem dX2_gatherDesks_20 : decode cX2_gatherDesks 20 = .ok (.if_icmp .eq 21, 3) := by decide +kernel
theorem dX2_gatherDesks_23 : decode cX2_gatherDesks 23 = .ok (.aload_n 0, 1) := by decide +kernel
theorem dX2_gatherDesks_24 : decode cX2_gatherDesks 24 = .ok (.getfield 22, 3) := by decide +kernel
theorem dX2_gatherDesks_27 : decode cX2_gatherDesks 27 = .ok (.iload_n 2, 1) := by decide +kernel
theorem dX2_gatherDesks_28 : decode cX2_gatherDesks 28 = .ok (.iinc 2 1, 3) := by decide +kernel
theorem dX2_gatherDesks_31 : decode cX2_gatherDesks 31 = .ok (.aload_n 0, 1) := by decide +kernel
theorem dX2_gatherDesks_32 : decode cX2_gatherDesks 32 = .ok (.getfield 9, 3) := by decide +kernel
theorem dX2_gatherDesks_35 : decode cX2_gatherDesks 35 = .ok (.getfield 39, 3) := by decide +kernel
theorem dX2_gatherDesks_38 : decode cX2_gatherDesks 38 = .ok (.iload_n 3, 1) := by decide +kernel
theorem dX2_gatherDesks_39 : decode cX2_gatherDesks 39 = .ok (.iaload, 1) := by decide +kernel
theorem dX2_gatherDesks_40 : decode cX2_gatherDesks 40 = .ok (.iastore, 1) := by decide +kernel
theorem dX2_gatherDesks_41 : decode cX2_gatherDesks 41 = .ok (.iinc 3 1, 3) := by decide +kernel
theorem dX2_gatherDesks_44 : decode cX2_gatherDesks 44 = .ok (.goto (-40), 3) := by decide +kernel
theorem dX2_gatherDesks_47 : decode cX2_gatherDesks 47 = .ok (.iload_n 2, 1) := by decide +kernel
theorem dX2_gatherDesks_48 : decode cX2_gatherDesks 48 = .ok (.ifCond .ne 5, 3) := by decide +kernel
theorem dX2_gatherDesks_51 : decode cX2_gatherDesks 51 = .ok (.iconst 0, 1) := by decide +kernel
theorem dX2_gatherDesks_52 : decode cX2_gatherDesks 52 = .ok (.ireturn, 1) := by decide +kernel
theorem dX2_gatherDesks_53 : decode cX2_gatherDesks 53 = .ok (.aload_n 0, 1) := by decide +kernel
theorem dX2_gatherDesks_54 : decode cX2_gatherDesks 54 = .ok (.getfield 9, 3) := by decide +kernel
theorem dX2_gatherDesks_57 : decode cX2_gatherDesks 57 = .ok (.getfield 39, 3) := by decide +kernel
theorem dX2_gatherDesks_60 : decode cX2_gatherDesks 60 = .ok (.iconst (-1), 1) := by decide +kernel
theorem dX2_gatherDesks_61 : decode cX2_gatherDesks 61 = .ok (.invokestatic 95, 3) := by decide +kernel
theorem dX2_gatherDesks_64 : decode cX2_gatherDesks 64 = .ok (.aload_n 0, 1) := by decide +kernel
theorem dX2_gatherDesks_65 : decode cX2_gatherDesks 65 = .ok (.getfield 9, 3) := by decide +kernel
theorem dX2_gatherDesks_68 : decode cX2_gatherDesks 68 = .ok (.getfield 39, 3) := by decide +kernel
theorem dX2_gatherDesks_71 : decode cX2_gatherDesks 71 = .ok (.iload_n 1, 1) := by decide +kernel
theorem dX2_gatherDesks_72 : decode cX2_gatherDesks 72 = .ok (.aload_n 0, 1) := by decide +kernel
theorem dX2_gatherDesks_73 : decode cX2_gatherDesks 73 = .ok (.iload_n 2, 1) := by decide +kernel
theorem dX2_gatherDesks_74 : decode cX2_gatherDesks 74 = .ok (.invokevirtual 110, 3) := by decide +kernel
theorem dX2_gatherDesks_77 : decode cX2_gatherDesks 77 = .ok (.iastore, 1) := by decide +kernel
theorem dX2_gatherDesks_78 : decode cX2_gatherDesks 78 = .ok (.iconst 0, 1) := by decide +kernel
theorem dX2_gatherDesks_79 : decode cX2_gatherDesks 79 = .ok (.istore_n 3, 1) := by decide +kernel
theorem dX2_gatherDesks_80 : decode cX2_gatherDesks 80 = .ok (.iload_n 3, 1) := by decide +kernel
theorem dX2_gatherDesks_81 : decode cX2_gatherDesks 81 = .ok (.bipush 6, 2) := by decide +kernel
theorem dX2_gatherDesks_83 : decode cX2_gatherDesks 83 = .ok (.if_icmp .ge 18, 3) := by decide +kernel
theorem dX2_gatherDesks_86 : decode cX2_gatherDesks 86 = .ok (.aload_n 0, 1) := by decide +kernel
theorem dX2_gatherDesks_87 : decode cX2_gatherDesks 87 = .ok (.getfield 9, 3) := by decide +kernel
theorem dX2_gatherDesks_90 : decode cX2_gatherDesks 90 = .ok (.iload_n 3, 1) := by decide +kernel
theorem dX2_gatherDesks_91 : decode cX2_gatherDesks 91 = .ok (.iload_n 1, 1) := by decide +kernel
theorem dX2_gatherDesks_92 : decode cX2_gatherDesks 92 = .ok (.invokevirtual 113, 3) := by decide +kernel
theorem dX2_gatherDesks_95 : decode cX2_gatherDesks 95 = .ok (.iinc 3 1, 3) := by decide +kernel
theorem dX2_gatherDesks_98 : decode cX2_gatherDesks 98 = .ok (.goto (-18), 3) := by decide +kernel
theorem dX2_gatherDesks_101 : decode cX2_gatherDesks 101 = .ok (.iconst 1, 1) := by decide +kernel
theorem dX2_gatherDesks_102 : decode cX2_gatherDesks 102 = .ok (.ireturn, 1) := by decide +kernel
set_option maxRecDepth 20000 in
theorem ggX2_splitOff_X2_walk : GoodIn wsX2_splitOff wsX2_walk := goodIn_r _ [12, 7, 3, 1, 13, 14, 50, 51, 52, 53, 54, 55, 56, 57, 58, 59, 60, 61, 62, 63, 64, 65, 66, 67, 68, 69, 70, 71, 72] (by decide +kernel) (by decide +kernel)
set_option maxRecDepth 20000 in
theorem gX2_splitOff_X2_walk : GoodIn wsX2_splitOff (wsV RX2 42 RX2 yX2_walk wsX2_walk) := goodIn_app (goodIn_of _ (by decide +kernel)) ggX2_splitOff_X2_walk
set_option maxRecDepth 20000 in
theorem ggX2_splitOff_X2_gatherRow : GoodIn wsX2_splitOff wsX2_gatherRow := goodIn_r _ [18, 1, 7, 19, 20, 21, 22, 23, 24, 25, 26, 27, 28, 29, 30, 31, 32, 33, 34, 35, 36, 37, 50, 51, 52, 53, 54, 55, 56, 57, 58, 59, 60, 61, 62, 63, 64, 65, 66, 67, 68, 69, 70, 71, 72] (by decide +kernel) (by decide +kernel)
set_option maxRecDepth 20000 in
theorem gX2_splitOff_X2_gatherRow : GoodIn wsX2_splitOff (wsV RX2 110 RX2 yX2_gatherRow wsX2_gatherRow) := goodIn_app (goodIn_of _ (by decide +kernel)) ggX2_splitOff_X2_gatherRow
set_option maxRecDepth 20000 in
theorem ggX2_splitOff_X2_sort : GoodIn wsX2_splitOff wsX2_sort := goodIn_r _ [41, 1, 42, 28, 29, 22, 30, 31, 50, 51, 52, 53, 54, 55, 56, 57, 58, 59, 60, 61, 62, 63, 64, 65, 66, 67, 68, 69, 70, 71, 72] (by decide +kernel) (by decide +kernel)
set_option maxRecDepth 20000 in
theorem gX2_splitOff_X2_sort : GoodIn wsX2_splitOff (wsV RX2 72 RX2 yX2_sort wsX2_sort) := goodIn_app (goodIn_of _ (by decide +kernel)) ggX2_splitOff_X2_sort
set_option maxRecDepth 20000 in
theorem ggX2_splitOff_X0_place : GoodIn wsX2_splitOff wsX0_place := goodIn_r _ [46, 36, 25, 24, 37, 47, 48, 49, 20, 21, 22, 23, 26, 27, 28, 29, 30, 31, 32, 33, 34, 35, 56, 57, 58, 59, 60, 61, 62, 63, 64, 65, 66, 67, 68, 69, 70, 71, 72] (by decide +kernel) (by decide +kernel)
set_option maxRecDepth 20000 in
theorem gX2_splitOff_X0_place : GoodIn wsX2_splitOff (wsV RX2 117 RX0 yX0_place wsX0_place) := goodIn_app (goodIn_of _ (by decide +kernel)) ggX2_splitOff_X0_place
theorem dX2_splitOff_0 : decode cX2_splitOff 0 = .ok (.aload_n 0, 1) := by decide +kernel
theorem dX2_splitOff_1 : decode cX2_splitOff 1 = .ok (.aload_n 0, 1) := by decide +kernel
theorem dX2_splitOff_2 : decode cX2_splitOff 2 = .ok (.getfield 9, 3) := by decide +kernel
theorem dX2_splitOff_5 : decode cX2_splitOff 5 = .ok (.getfield 39, 3) := by decide +kernel
theorem dX2_splitOff_8 : decode cX2_splitOff 8 = .ok (.iload_n 1, 1) := by decide +kernel
theorem dX2_splitOff_9 : decode cX2_splitOff 9 = .ok (.iaload, 1) := by decide +kernel
theorem dX2_splitOff_10 : decode cX2_splitOff 10 = .ok (.invokevirtual 42, 3) := by decide +kernel
theorem dX2_splitOff_13 : decode cX2_splitOff 13 = .ok (.istore 4, 2) := by decide +kernel
theorem dX2_splitOff_15 : decode cX2_splitOff 15 = .ok (.iconst 0, 1) := by decide +kernel
theorem dX2_splitOff_16 : decode cX2_splitOff 16 = .ok (.istore 5, 2) := by decide +kernel
theorem dX2_splitOff_18 : decode cX2_splitOff 18 = .ok (.iconst 0, 1) := by decide +kernel
theorem dX2_splitOff_19 : decode cX2_splitOff 19 = .ok (.istore 6, 2) := by decide +kernel
theorem dX2_splitOff_21 : decode cX2_splitOff 21 = .ok (.iconst 0, 1) := by decide +kernel
theorem dX2_splitOff_22 : decode cX2_splitOff 22 = .ok (.istore 7, 2) := by decide +kernel
theorem dX2_splitOff_24 : decode cX2_splitOff 24 = .ok (.iload 7, 2) := by decide +kernel
theorem dX2_splitOff_26 : decode cX2_splitOff 26 = .ok (.iload 4, 2) := by decide +kernel
theorem dX2_splitOff_28 : decode cX2_splitOff 28 = .ok (.if_icmp .ge 99, 3) := by decide +kernel
theorem dX2_splitOff_31 : decode cX2_splitOff 31 = .ok (.aload_n 0, 1) := by decide +kernel
theorem dX2_splitOff_32 : decode cX2_splitOff 32 = .ok (.getfield 15, 3) := by decide +kernel
theorem dX2_splitOff_35 : decode cX2_splitOff 35 = .ok (.iload 7, 2) := by decide +kernel
theorem dX2_splitOff_37 : decode cX2_splitOff 37 = .ok (.iaload, 1) := by decide +kernel
theorem dX2_splitOff_38 : decode cX2_splitOff 38 = .ok (.istore 8, 2) := by decide +kernel
theorem dX2_splitOff_40 : decode cX2_splitOff 40 = .ok (.aload_n 0, 1) := by decide +kernel
theorem dX2_splitOff_41 : decode cX2_splitOff 41 = .ok (.getfield 9, 3) := by decide +kernel
theorem dX2_splitOff_44 : decode cX2_splitOff 44 = .ok (.getfield 80, 3) := by decide +kernel
theorem dX2_splitOff_47 : decode cX2_splitOff 47 = .ok (.iload 8, 2) := by decide +kernel
theorem dX2_splitOff_49 : decode cX2_splitOff 49 = .ok (.laload, 1) := by decide +kernel
theorem dX2_splitOff_50 : decode cX2_splitOff 50 = .ok (.iload_n 3, 1) := by decide +kernel
theorem dX2_splitOff_51 : decode cX2_splitOff 51 = .ok (.i2l, 1) := by decide +kernel
theorem dX2_splitOff_52 : decode cX2_splitOff 52 = .ok (.lcmp, 1) := by decide +kernel
theorem dX2_splitOff_53 : decode cX2_splitOff 53 = .ok (.ifCond .gt 18, 3) := by decide +kernel
theorem dX2_splitOff_56 : decode cX2_splitOff 56 = .ok (.aload_n 0, 1) := by decide +kernel
theorem dX2_splitOff_57 : decode cX2_splitOff 57 = .ok (.getfield 19, 3) := by decide +kernel
theorem dX2_splitOff_60 : decode cX2_splitOff 60 = .ok (.iload 5, 2) := by decide +kernel
theorem dX2_splitOff_62 : decode cX2_splitOff 62 = .ok (.iinc 5 1, 3) := by decide +kernel
theorem dX2_splitOff_65 : decode cX2_splitOff 65 = .ok (.iload 8, 2) := by decide +kernel
theorem dX2_splitOff_67 : decode cX2_splitOff 67 = .ok (.iastore, 1) := by decide +kernel
theorem dX2_splitOff_68 : decode cX2_splitOff 68 = .ok (.goto 53, 3) := by decide +kernel
theorem dX2_splitOff_71 : decode cX2_splitOff 71 = .ok (.aload_n 0, 1) := by decide +kernel
theorem dX2_splitOff_72 : decode cX2_splitOff 72 = .ok (.getfield 9, 3) := by decide +kernel
theorem dX2_splitOff_75 : decode cX2_splitOff 75 = .ok (.getfield 46, 3) := by decide +kernel
theorem dX2_splitOff_78 : decode cX2_splitOff 78 = .ok (.iload 8, 2) := by decide +kernel
theorem dX2_splitOff_80 : decode cX2_splitOff 80 = .ok (.iaload, 1) := by decide +kernel
theorem dX2_splitOff_81 : decode cX2_splitOff 81 = .ok (.iconst (-1), 1) := by decide +kernel
theorem dX2_splitOff_82 : decode cX2_splitOff 82 = .ok (.if_icmp .eq 27, 3) := by decide +kernel
theorem dX2_splitOff_85 : decode cX2_splitOff 85 = .ok (.aload_n 0, 1) := by decide +kernel
theorem dX2_splitOff_86 : decode cX2_splitOff 86 = .ok (.getfield 9, 3) := by decide +kernel
theorem dX2_splitOff_89 : decode cX2_splitOff 89 = .ok (.getfield 80, 3) := by decide +kernel
theorem dX2_splitOff_92 : decode cX2_splitOff 92 = .ok (.aload_n 0, 1) := by decide +kernel
theorem dX2_splitOff_93 : decode cX2_splitOff 93 = .ok (.getfield 9, 3) := by decide +kernel
theorem dX2_splitOff_96 : decode cX2_splitOff 96 = .ok (.getfield 46, 3) := by decide +kernel
theorem dX2_splitOff_99 : decode cX2_splitOff 99 = .ok (.iload 8, 2) := by decide +kernel
theorem dX2_splitOff_101 : decode cX2_splitOff 101 = .ok (.iaload, 1) := by decide +kernel
theorem dX2_splitOff_102 : decode cX2_splitOff 102 = .ok (.laload, 1) := by decide +kernel
theorem dX2_splitOff_103 : decode cX2_splitOff 103 = .ok (.iload_n 3, 1) := by decide +kernel
theorem dX2_splitOff_104 : decode cX2_splitOff 104 = .ok (.i2l, 1) := by decide +kernel
theorem dX2_splitOff_105 : decode cX2_splitOff 105 = .ok (.lcmp, 1) := by decide +kernel
theorem dX2_splitOff_106 : decode cX2_splitOff 106 = .ok (.ifCond .gt 15, 3) := by decide +kernel
theorem dX2_splitOff_109 : decode cX2_splitOff 109 = .ok (.aload_n 0, 1) := by decide +kernel
theorem dX2_splitOff_110 : decode cX2_splitOff 110 = .ok (.getfield 22, 3) := by decide +kernel
theorem dX2_splitOff_113 : decode cX2_splitOff 113 = .ok (.iload 6, 2) := by decide +kernel
theorem dX2_splitOff_115 : decode cX2_splitOff 115 = .ok (.iinc 6 1, 3) := by decide +kernel
theorem dX2_splitOff_118 : decode cX2_splitOff 118 = .ok (.iload 8, 2) := by decide +kernel
theorem dX2_splitOff_120 : decode cX2_splitOff 120 = .ok (.iastore, 1) := by decide +kernel
theorem dX2_splitOff_121 : decode cX2_splitOff 121 = .ok (.iinc 7 1, 3) := by decide +kernel
theorem dX2_splitOff_124 : decode cX2_splitOff 124 = .ok (.goto (-100), 3) := by decide +kernel
theorem dX2_splitOff_127 : decode cX2_splitOff 127 = .ok (.iload 5, 2) := by decide +kernel
theorem dX2_splitOff_129 : decode cX2_splitOff 129 = .ok (.ifCond .ne 5, 3) := by decide +kernel
theorem dX2_splitOff_132 : decode cX2_splitOff 132 = .ok (.iconst 0, 1) := by decide +kernel
theorem dX2_splitOff_133 : decode cX2_splitOff 133 = .ok (.ireturn, 1) := by decide +kernel
theorem dX2_splitOff_134 : decode cX2_splitOff 134 = .ok (.iconst 0, 1) := by decide +kernel
theorem dX2_splitOff_135 : decode cX2_splitOff 135 = .ok (.istore 7, 2) := by decide +kernel
theorem dX2_splitOff_137 : decode cX2_splitOff 137 = .ok (.iload 7, 2) := by decide +kernel
theorem dX2_splitOff_139 : decode cX2_splitOff 139 = .ok (.iload 6, 2) := by decide +kernel
theorem dX2_splitOff_141 : decode cX2_splitOff 141 = .ok (.if_icmp .ge 25, 3) := by decide +kernel
theorem dX2_splitOff_144 : decode cX2_splitOff 144 = .ok (.aload_n 0, 1) := by decide +kernel
theorem dX2_splitOff_145 : decode cX2_splitOff 145 = .ok (.getfield 9, 3) := by decide +kernel
theorem dX2_splitOff_148 : decode cX2_splitOff 148 = .ok (.getfield 46, 3) := by decide +kernel
theorem dX2_splitOff_151 : decode cX2_splitOff 151 = .ok (.aload_n 0, 1) := by decide +kernel
theorem dX2_splitOff_152 : decode cX2_splitOff 152 = .ok (.getfield 22, 3) := by decide +kernel
theorem dX2_splitOff_155 : decode cX2_splitOff 155 = .ok (.iload 7, 2) := by decide +kernel
theorem dX2_splitOff_157 : decode cX2_splitOff 157 = .ok (.iaload, 1) := by decide +kernel
theorem dX2_splitOff_158 : decode cX2_splitOff 158 = .ok (.iconst (-1), 1) := by decide +kernel
theorem dX2_splitOff_159 : decode cX2_splitOff 159 = .ok (.iastore, 1) := by decide +kernel
theorem dX2_splitOff_160 : decode cX2_splitOff 160 = .ok (.iinc 7 1, 3) := by decide +kernel
theorem dX2_splitOff_163 : decode cX2_splitOff 163 = .ok (.goto (-26), 3) := by decide +kernel
theorem dX2_splitOff_166 : decode cX2_splitOff 166 = .ok (.aload_n 0, 1) := by decide +kernel
theorem dX2_splitOff_167 : decode cX2_splitOff 167 = .ok (.getfield 9, 3) := by decide +kernel
theorem dX2_splitOff_170 : decode cX2_splitOff 170 = .ok (.getfield 39, 3) := by decide +kernel
theorem dX2_splitOff_173 : decode cX2_splitOff 173 = .ok (.iload_n 1, 1) := by decide +kernel
theorem dX2_splitOff_174 : decode cX2_splitOff 174 = .ok (.aload_n 0, 1) := by decide +kernel
theorem dX2_splitOff_175 : decode cX2_splitOff 175 = .ok (.iload 6, 2) := by decide +kernel
theorem dX2_splitOff_177 : decode cX2_splitOff 177 = .ok (.invokevirtual 110, 3) := by decide +kernel
theorem dX2_splitOff_180 : decode cX2_splitOff 180 = .ok (.iastore, 1) := by decide +kernel
theorem dX2_splitOff_181 : decode cX2_splitOff 181 = .ok (.aload_n 0, 1) := by decide +kernel
theorem dX2_splitOff_182 : decode cX2_splitOff 182 = .ok (.aload_n 0, 1) := by decide +kernel
theorem dX2_splitOff_183 : decode cX2_splitOff 183 = .ok (.getfield 19, 3) := by decide +kernel
theorem dX2_splitOff_186 : decode cX2_splitOff 186 = .ok (.iload 5, 2) := by decide +kernel
theorem dX2_splitOff_188 : decode cX2_splitOff 188 = .ok (.invokevirtual 72, 3) := by decide +kernel
theorem dX2_splitOff_191 : decode cX2_splitOff 191 = .ok (.iconst 0, 1) := by decide +kernel
theorem dX2_splitOff_192 : decode cX2_splitOff 192 = .ok (.istore 7, 2) := by decide +kernel
theorem dX2_splitOff_194 : decode cX2_splitOff 194 = .ok (.iload 7, 2) := by decide +kernel
theorem dX2_splitOff_196 : decode cX2_splitOff 196 = .ok (.iload 5, 2) := by decide +kernel
theorem dX2_splitOff_198 : decode cX2_splitOff 198 = .ok (.if_icmp .ge 24, 3) := by decide +kernel
theorem dX2_splitOff_201 : decode cX2_splitOff 201 = .ok (.aload_n 0, 1) := by decide +kernel
theorem dX2_splitOff_202 : decode cX2_splitOff 202 = .ok (.getfield 9, 3) := by decide +kernel
theorem dX2_splitOff_205 : decode cX2_splitOff 205 = .ok (.aload_n 0, 1) := by decide +kernel
theorem dX2_splitOff_206 : decode cX2_splitOff 206 = .ok (.getfield 19, 3) := by decide +kernel
theorem dX2_splitOff_209 : decode cX2_splitOff 209 = .ok (.iload 7, 2) := by decide +kernel
theorem dX2_splitOff_211 : decode cX2_splitOff 211 = .ok (.iaload, 1) := by decide +kernel
theorem dX2_splitOff_212 : decode cX2_splitOff 212 = .ok (.iload_n 2, 1) := by decide +kernel
theorem dX2_splitOff_213 : decode cX2_splitOff 213 = .ok (.invokevirtual 117, 3) := by decide +kernel
theorem dX2_splitOff_216 : decode cX2_splitOff 216 = .ok (.iinc 7 1, 3) := by decide +kernel
theorem dX2_splitOff_219 : decode cX2_splitOff 219 = .ok (.goto (-25), 3) := by decide +kernel
theorem dX2_splitOff_222 : decode cX2_splitOff 222 = .ok (.iload 5, 2) := by decide +kernel
theorem dX2_splitOff_224 : decode cX2_splitOff 224 = .ok (.ireturn, 1) := by decide +kernel
set_option maxRecDepth 20000 in
theorem ggX2_evenDesks_X0_plainIn : GoodIn wsX2_evenDesks wsX0_plainIn := goodIn_r _ [7, 8, 9, 10, 11, 6, 12, 13, 14, 57, 58, 59, 60, 61, 62, 63, 64, 65, 66, 67, 68, 69, 70, 71, 72, 73] (by decide +kernel) (by decide +kernel)
set_option maxRecDepth 20000 in
theorem gX2_evenDesks_X0_plainIn : GoodIn wsX2_evenDesks (wsV RX2 120 RX0 yX0_plainIn wsX0_plainIn) := goodIn_app (goodIn_of _ (by decide +kernel)) ggX2_evenDesks_X0_plainIn
set_option maxRecDepth 20000 in
theorem ggX2_evenDesks_X0_moveLeast : GoodIn wsX2_evenDesks wsX0_moveLeast := goodIn_r _ [18, 19, 20, 21, 6, 22, 23, 24, 25, 13, 26, 27, 28, 29, 30, 31, 32, 33, 34, 35, 36, 37, 38, 39, 40, 41, 42, 43, 44, 45, 14, 46, 47, 48, 49, 50, 57, 58, 59, 60, 61, 62, 63, 64, 65, 66, 67, 68, 69, 70, 71, 72, 73] (by decide +kernel) (by decide +kernel)
set_option maxRecDepth 20000 in
theorem gX2_evenDesks_X0_moveLeast : GoodIn wsX2_evenDesks (wsV RX2 123 RX0 yX0_moveLeast wsX0_moveLeast) := goodIn_app (goodIn_of _ (by decide +kernel)) ggX2_evenDesks_X0_moveLeast
theorem dX2_evenDesks_0 : decode cX2_evenDesks 0 = .ok (.iconst 0, 1) := by decide +kernel
theorem dX2_evenDesks_1 : decode cX2_evenDesks 1 = .ok (.istore_n 1, 1) := by decide +kernel
theorem dX2_evenDesks_2 : decode cX2_evenDesks 2 = .ok (.iload_n 1, 1) := by decide +kernel
theorem dX2_evenDesks_3 : decode cX2_evenDesks 3 = .ok (.bipush 6, 2) := by decide +kernel
theorem dX2_evenDesks_5 : decode cX2_evenDesks 5 = .ok (.if_icmp .ge 23, 3) := by decide +kernel
theorem dX2_evenDesks_8 : decode cX2_evenDesks 8 = .ok (.aload_n 0, 1) := by decide +kernel
theorem dX2_evenDesks_9 : decode cX2_evenDesks 9 = .ok (.getfield 25, 3) := by decide +kernel
theorem dX2_evenDesks_12 : decode cX2_evenDesks 12 = .ok (.iload_n 1, 1) := by decide +kernel
theorem dX2_evenDesks_13 : decode cX2_evenDesks 13 = .ok (.aload_n 0, 1) := by decide +kernel
theorem dX2_evenDesks_14 : decode cX2_evenDesks 14 = .ok (.getfield 9, 3) := by decide +kernel
theorem dX2_evenDesks_17 : decode cX2_evenDesks 17 = .ok (.iload_n 1, 1) := by decide +kernel
theorem dX2_evenDesks_18 : decode cX2_evenDesks 18 = .ok (.invokevirtual 120, 3) := by decide +kernel
theorem dX2_evenDesks_21 : decode cX2_evenDesks 21 = .ok (.iastore, 1) := by decide +kernel
theorem dX2_evenDesks_22 : decode cX2_evenDesks 22 = .ok (.iinc 1 1, 3) := by decide +kernel
theorem dX2_evenDesks_25 : decode cX2_evenDesks 25 = .ok (.goto (-23), 3) := by decide +kernel
theorem dX2_evenDesks_28 : decode cX2_evenDesks 28 = .ok (.iconst 0, 1) := by decide +kernel
theorem dX2_evenDesks_29 : decode cX2_evenDesks 29 = .ok (.istore_n 1, 1) := by decide +kernel
theorem dX2_evenDesks_30 : decode cX2_evenDesks 30 = .ok (.iload_n 1, 1) := by decide +kernel
theorem dX2_evenDesks_31 : decode cX2_evenDesks 31 = .ok (.sipush 300, 3) := by decide +kernel
theorem dX2_evenDesks_34 : decode cX2_evenDesks 34 = .ok (.if_icmp .ge 124, 3) := by decide +kernel
theorem dX2_evenDesks_37 : decode cX2_evenDesks 37 = .ok (.iconst 0, 1) := by decide +kernel
theorem dX2_evenDesks_38 : decode cX2_evenDesks 38 = .ok (.istore_n 2, 1) := by decide +kernel
theorem dX2_evenDesks_39 : decode cX2_evenDesks 39 = .ok (.iconst 0, 1) := by decide +kernel
theorem dX2_evenDesks_40 : decode cX2_evenDesks 40 = .ok (.istore_n 3, 1) := by decide +kernel
theorem dX2_evenDesks_41 : decode cX2_evenDesks 41 = .ok (.iconst 1, 1) := by decide +kernel
theorem dX2_evenDesks_42 : decode cX2_evenDesks 42 = .ok (.istore 4, 2) := by decide +kernel
theorem dX2_evenDesks_44 : decode cX2_evenDesks 44 = .ok (.iload 4, 2) := by decide +kernel
theorem dX2_evenDesks_46 : decode cX2_evenDesks 46 = .ok (.bipush 6, 2) := by decide +kernel
theorem dX2_evenDesks_48 : decode cX2_evenDesks 48 = .ok (.if_icmp .ge 55, 3) := by decide +kernel
theorem dX2_evenDesks_51 : decode cX2_evenDesks 51 = .ok (.aload_n 0, 1) := by decide +kernel
theorem dX2_evenDesks_52 : decode cX2_evenDesks 52 = .ok (.getfield 25, 3) := by decide +kernel
theorem dX2_evenDesks_55 : decode cX2_evenDesks 55 = .ok (.iload 4, 2) := by decide +kernel
theorem dX2_evenDesks_57 : decode cX2_evenDesks 57 = .ok (.iaload, 1) := by decide +kernel
theorem dX2_evenDesks_58 : decode cX2_evenDesks 58 = .ok (.aload_n 0, 1) := by decide +kernel
theorem dX2_evenDesks_59 : decode cX2_evenDesks 59 = .ok (.getfield 25, 3) := by decide +kernel
theorem dX2_evenDesks_62 : decode cX2_evenDesks 62 = .ok (.iload_n 2, 1) := by decide +kernel
theorem dX2_evenDesks_63 : decode cX2_evenDesks 63 = .ok (.iaload, 1) := by decide +kernel
theorem dX2_evenDesks_64 : decode cX2_evenDesks 64 = .ok (.if_icmp .le 8, 3) := by decide +kernel
theorem dX2_evenDesks_67 : decode cX2_evenDesks 67 = .ok (.iload 4, 2) := by decide +kernel
theorem dX2_evenDesks_69 : decode cX2_evenDesks 69 = .ok (.goto 4, 3) := by decide +kernel
theorem dX2_evenDesks_72 : decode cX2_evenDesks 72 = .ok (.iload_n 2, 1) := by decide +kernel
theorem dX2_evenDesks_73 : decode cX2_evenDesks 73 = .ok (.istore_n 2, 1) := by decide +kernel
theorem dX2_evenDesks_74 : decode cX2_evenDesks 74 = .ok (.aload_n 0, 1) := by decide +kernel
theorem dX2_evenDesks_75 : decode cX2_evenDesks 75 = .ok (.getfield 25, 3) := by decide +kernel
theorem dX2_evenDesks_78 : decode cX2_evenDesks 78 = .ok (.iload 4, 2) := by decide +kernel
theorem dX2_evenDesks_80 : decode cX2_evenDesks 80 = .ok (.iaload, 1) := by decide +kernel
theorem dX2_evenDesks_81 : decode cX2_evenDesks 81 = .ok (.aload_n 0, 1) := by decide +kernel
theorem dX2_evenDesks_82 : decode cX2_evenDesks 82 = .ok (.getfield 25, 3) := by decide +kernel
theorem dX2_evenDesks_85 : decode cX2_evenDesks 85 = .ok (.iload_n 3, 1) := by decide +kernel
theorem dX2_evenDesks_86 : decode cX2_evenDesks 86 = .ok (.iaload, 1) := by decide +kernel
theorem dX2_evenDesks_87 : decode cX2_evenDesks 87 = .ok (.if_icmp .ge 8, 3) := by decide +kernel
theorem dX2_evenDesks_90 : decode cX2_evenDesks 90 = .ok (.iload 4, 2) := by decide +kernel
theorem dX2_evenDesks_92 : decode cX2_evenDesks 92 = .ok (.goto 4, 3) := by decide +kernel
theorem dX2_evenDesks_95 : decode cX2_evenDesks 95 = .ok (.iload_n 3, 1) := by decide +kernel
theorem dX2_evenDesks_96 : decode cX2_evenDesks 96 = .ok (.istore_n 3, 1) := by decide +kernel
theorem dX2_evenDesks_97 : decode cX2_evenDesks 97 = .ok (.iinc 4 1, 3) := by decide +kernel
theorem dX2_evenDesks_100 : decode cX2_evenDesks 100 = .ok (.goto (-56), 3) := by decide +kernel
theorem dX2_evenDesks_103 : decode cX2_evenDesks 103 = .ok (.aload_n 0, 1) := by decide +kernel
theorem dX2_evenDesks_104 : decode cX2_evenDesks 104 = .ok (.getfield 25, 3) := by decide +kernel
theorem dX2_evenDesks_107 : decode cX2_evenDesks 107 = .ok (.iload_n 2, 1) := by decide +kernel
theorem dX2_evenDesks_108 : decode cX2_evenDesks 108 = .ok (.iaload, 1) := by decide +kernel
theorem dX2_evenDesks_109 : decode cX2_evenDesks 109 = .ok (.aload_n 0, 1) := by decide +kernel
theorem dX2_evenDesks_110 : decode cX2_evenDesks 110 = .ok (.getfield 25, 3) := by decide +kernel
theorem dX2_evenDesks_113 : decode cX2_evenDesks 113 = .ok (.iload_n 3, 1) := by decide +kernel
theorem dX2_evenDesks_114 : decode cX2_evenDesks 114 = .ok (.iaload, 1) := by decide +kernel
theorem dX2_evenDesks_115 : decode cX2_evenDesks 115 = .ok (.isub, 1) := by decide +kernel
theorem dX2_evenDesks_116 : decode cX2_evenDesks 116 = .ok (.iconst 2, 1) := by decide +kernel
theorem dX2_evenDesks_117 : decode cX2_evenDesks 117 = .ok (.if_icmp .ge 5, 3) := by decide +kernel
theorem dX2_evenDesks_120 : decode cX2_evenDesks 120 = .ok (.iload_n 1, 1) := by decide +kernel
theorem dX2_evenDesks_121 : decode cX2_evenDesks 121 = .ok (.ireturn, 1) := by decide +kernel
theorem dX2_evenDesks_122 : decode cX2_evenDesks 122 = .ok (.aload_n 0, 1) := by decide +kernel
theorem dX2_evenDesks_123 : decode cX2_evenDesks 123 = .ok (.getfield 9, 3) := by decide +kernel
theorem dX2_evenDesks_126 : decode cX2_evenDesks 126 = .ok (.iload_n 2, 1) := by decide +kernel
theorem dX2_evenDesks_127 : decode cX2_evenDesks 127 = .ok (.iload_n 3, 1) := by decide +kernel
theorem dX2_evenDesks_128 : decode cX2_evenDesks 128 = .ok (.invokevirtual 123, 3) := by decide +kernel
theorem dX2_evenDesks_131 : decode cX2_evenDesks 131 = .ok (.pop, 1) := by decide +kernel
theorem dX2_evenDesks_132 : decode cX2_evenDesks 132 = .ok (.aload_n 0, 1) := by decide +kernel
theorem dX2_evenDesks_133 : decode cX2_evenDesks 133 = .ok (.getfield 25, 3) := by decide +kernel
theorem dX2_evenDesks_136 : decode cX2_evenDesks 136 = .ok (.iload_n 2, 1) := by decide +kernel
theorem dX2_evenDesks_137 : decode cX2_evenDesks 137 = .ok (.dup2, 1) := by decide +kernel
theorem dX2_evenDesks_138 : decode cX2_evenDesks 138 = .ok (.iaload, 1) := by decide +kernel
theorem dX2_evenDesks_139 : decode cX2_evenDesks 139 = .ok (.iconst 1, 1) := by decide +kernel
theorem dX2_evenDesks_140 : decode cX2_evenDesks 140 = .ok (.isub, 1) := by decide +kernel
theorem dX2_evenDesks_141 : decode cX2_evenDesks 141 = .ok (.iastore, 1) := by decide +kernel
theorem dX2_evenDesks_142 : decode cX2_evenDesks 142 = .ok (.aload_n 0, 1) := by decide +kernel
theorem dX2_evenDesks_143 : decode cX2_evenDesks 143 = .ok (.getfield 25, 3) := by decide +kernel
theorem dX2_evenDesks_146 : decode cX2_evenDesks 146 = .ok (.iload_n 3, 1) := by decide +kernel
theorem dX2_evenDesks_147 : decode cX2_evenDesks 147 = .ok (.dup2, 1) := by decide +kernel
theorem dX2_evenDesks_148 : decode cX2_evenDesks 148 = .ok (.iaload, 1) := by decide +kernel
theorem dX2_evenDesks_149 : decode cX2_evenDesks 149 = .ok (.iconst 1, 1) := by decide +kernel
theorem dX2_evenDesks_150 : decode cX2_evenDesks 150 = .ok (.iadd, 1) := by decide +kernel
theorem dX2_evenDesks_151 : decode cX2_evenDesks 151 = .ok (.iastore, 1) := by decide +kernel
theorem dX2_evenDesks_152 : decode cX2_evenDesks 152 = .ok (.iinc 1 1, 3) := by decide +kernel
theorem dX2_evenDesks_155 : decode cX2_evenDesks 155 = .ok (.goto (-125), 3) := by decide +kernel
theorem dX2_evenDesks_158 : decode cX2_evenDesks 158 = .ok (.iload_n 1, 1) := by decide +kernel
theorem dX2_evenDesks_159 : decode cX2_evenDesks 159 = .ok (.ireturn, 1) := by decide +kernel
theorem dX3_init_0 : decode cX3_init 0 = .ok (.aload_n 0, 1) := by decide +kernel
theorem dX3_init_1 : decode cX3_init 1 = .ok (.invokespecial 3, 3) := by decide +kernel
theorem dX3_init_4 : decode cX3_init 4 = .ok (.aload_n 0, 1) := by decide +kernel
theorem dX3_init_5 : decode cX3_init 5 = .ok (.aload_n 1, 1) := by decide +kernel
theorem dX3_init_6 : decode cX3_init 6 = .ok (.putfield 9, 3) := by decide +kernel
theorem dX3_init_9 : decode cX3_init 9 = .ok (.aload_n 0, 1) := by decide +kernel
theorem dX3_init_10 : decode cX3_init 10 = .ok (.bipush 8, 2) := by decide +kernel
theorem dX3_init_12 : decode cX3_init 12 = .ok (.newarray .int, 2) := by decide +kernel
theorem dX3_init_14 : decode cX3_init 14 = .ok (.putfield 15, 3) := by decide +kernel
theorem dX3_init_17 : decode cX3_init 17 = .ok (.return_, 1) := by decide +kernel
set_option maxRecDepth 20000 in
theorem ggX3_seek_J7_fill_53178 : GoodIn wsX3_seek wsJ7_fill_53178 := goodIn_r _ [11] (by decide +kernel) (by decide +kernel)
set_option maxRecDepth 20000 in
theorem gX3_seek_J7_fill_53178 : GoodIn wsX3_seek (va_wsS RX3 38 yJ7_fill_53178 wsJ7_fill_53178) := goodIn_app (goodIn_of _ (by decide +kernel)) ggX3_seek_J7_fill_53178
set_option maxRecDepth 20000 in
theorem ggX3_seek_X3_findReach : GoodIn wsX3_seek wsX3_findReach := goodIn_r _ [16, 1, 17, 2, 18, 19, 20, 21, 22, 23, 15, 24, 46, 47, 48, 49, 50, 51, 52, 53, 54, 55, 56] (by decide +kernel) (by decide +kernel)
set_option maxRecDepth 20000 in
theorem gX3_seek_X3_findReach : GoodIn wsX3_seek (wsV RX3 44 RX3 yX3_findReach wsX3_findReach) := goodIn_app (goodIn_of _ (by decide +kernel)) ggX3_seek_X3_findReach
set_option maxRecDepth 20000 in
theorem ggX3_seek_X3_choose : GoodIn wsX3_seek wsX3_choose := goodIn_r _ [28, 6, 1, 7, 29, 30, 31, 15, 32, 5, 21, 22, 23, 24, 17, 25, 26, 27, 33, 34, 35, 36, 18, 19, 20, 2, 3, 37, 38, 39, 40, 41, 42, 43, 44, 45, 46, 47, 48, 49, 50, 51, 52, 53, 54, 55, 56] (by decide +kernel) (by decide +kernel)
set_option maxRecDepth 20000 in
theorem gX3_seek_X3_choose : GoodIn wsX3_seek (wsV RX3 47 RX3 yX3_choose wsX3_choose) := goodIn_app (goodIn_of _ (by decide +kernel)) ggX3_seek_X3_choose
theorem dX3_seek_0 : decode cX3_seek 0 = .ok (.aload_n 0, 1) := by decide +kernel
theorem dX3_seek_1 : decode cX3_seek 1 = .ok (.iload_n 1, 1) := by decide +kernel
theorem dX3_seek_2 : decode cX3_seek 2 = .ok (.putfield 19, 3) := by decide +kernel
theorem dX3_seek_5 : decode cX3_seek 5 = .ok (.aload_n 0, 1) := by decide +kernel
theorem dX3_seek_6 : decode cX3_seek 6 = .ok (.iload_n 2, 1) := by decide +kernel
theorem dX3_seek_7 : decode cX3_seek 7 = .ok (.putfield 23, 3) := by decide +kernel
theorem dX3_seek_10 : decode cX3_seek 10 = .ok (.aload_n 0, 1) := by decide +kernel
theorem dX3_seek_11 : decode cX3_seek 11 = .ok (.iload_n 3, 1) := by decide +kernel
theorem dX3_seek_12 : decode cX3_seek 12 = .ok (.putfield 26, 3) := by decide +kernel
theorem dX3_seek_15 : decode cX3_seek 15 = .ok (.aload_n 0, 1) := by decide +kernel
theorem dX3_seek_16 : decode cX3_seek 16 = .ok (.ldc2_w 29, 3) := by decide +kernel
theorem dX3_seek_19 : decode cX3_seek 19 = .ok (.putfield 31, 3) := by decide +kernel
theorem dX3_seek_22 : decode cX3_seek 22 = .ok (.aload_n 0, 1) := by decide +kernel
theorem dX3_seek_23 : decode cX3_seek 23 = .ok (.ldc2_w 29, 3) := by decide +kernel
theorem dX3_seek_26 : decode cX3_seek 26 = .ok (.putfield 35, 3) := by decide +kernel
theorem dX3_seek_29 : decode cX3_seek 29 = .ok (.aload_n 0, 1) := by decide +kernel
theorem dX3_seek_30 : decode cX3_seek 30 = .ok (.getfield 15, 3) := by decide +kernel
theorem dX3_seek_33 : decode cX3_seek 33 = .ok (.iconst (-1), 1) := by decide +kernel
theorem dX3_seek_34 : decode cX3_seek 34 = .ok (.invokestatic 38, 3) := by decide +kernel
theorem dX3_seek_37 : decode cX3_seek 37 = .ok (.aload_n 0, 1) := by decide +kernel
theorem dX3_seek_38 : decode cX3_seek 38 = .ok (.invokevirtual 44, 3) := by decide +kernel
theorem dX3_seek_41 : decode cX3_seek 41 = .ok (.aload_n 0, 1) := by decide +kernel
theorem dX3_seek_42 : decode cX3_seek 42 = .ok (.iconst 0, 1) := by decide +kernel
theorem dX3_seek_43 : decode cX3_seek 43 = .ok (.lconst 0, 1) := by decide +kernel
theorem dX3_seek_44 : decode cX3_seek 44 = .ok (.invokevirtual 47, 3) := by decide +kernel
theorem dX3_seek_47 : decode cX3_seek 47 = .ok (.return_, 1) := by decide +kernel
set_option maxRecDepth 20000 in
theorem ggX3_findReach_X3_isReached : GoodIn wsX3_findReach wsX3_isReached := goodIn_r _ [11, 2, 12, 13, 14, 15, 16, 17, 18, 19] (by decide +kernel) (by decide +kernel)
set_option maxRecDepth 20000 in
theorem gX3_findReach_X3_isReached : GoodIn wsX3_findReach (wsV RX3 59 RX3 yX3_isReached wsX3_isReached) := goodIn_app (goodIn_of _ (by decide +kernel)) ggX3_findReach_X3_isReached
theorem dX3_findReach_0 : decode cX3_findReach 0 = .ok (.aload_n 0, 1) := by decide +kernel
theorem dX3_findReach_1 : decode cX3_findReach 1 = .ok (.iconst 1, 1) := by decide +kernel
theorem dX3_findReach_2 : decode cX3_findReach 2 = .ok (.aload_n 0, 1) := by decide +kernel
theorem dX3_findReach_3 : decode cX3_findReach 3 = .ok (.getfield 19, 3) := by decide +kernel
theorem dX3_findReach_6 : decode cX3_findReach 6 = .ok (.ishl, 1) := by decide +kernel
theorem dX3_findReach_7 : decode cX3_findReach 7 = .ok (.putfield 51, 3) := by decide +kernel
theorem dX3_findReach_10 : decode cX3_findReach 10 = .ok (.iconst 0, 1) := by decide +kernel
theorem dX3_findReach_11 : decode cX3_findReach 11 = .ok (.istore_n 1, 1) := by decide +kernel
theorem dX3_findReach_12 : decode cX3_findReach 12 = .ok (.iload_n 1, 1) := by decide +kernel
theorem dX3_findReach_13 : decode cX3_findReach 13 = .ok (.bipush 8, 2) := by decide +kernel
theorem dX3_findReach_15 : decode cX3_findReach 15 = .ok (.if_icmp .ge 80, 3) := by decide +kernel
theorem dX3_findReach_18 : decode cX3_findReach 18 = .ok (.iconst 0, 1) := by decide +kernel
theorem dX3_findReach_19 : decode cX3_findReach 19 = .ok (.istore_n 2, 1) := by decide +kernel
theorem dX3_findReach_20 : decode cX3_findReach 20 = .ok (.iload_n 2, 1) := by decide +kernel
theorem dX3_findReach_21 : decode cX3_findReach 21 = .ok (.bipush 20, 2) := by decide +kernel
theorem dX3_findReach_23 : decode cX3_findReach 23 = .ok (.if_icmp .ge 66, 3) := by decide +kernel
theorem dX3_findReach_26 : decode cX3_findReach 26 = .ok (.iload_n 2, 1) := by decide +kernel
theorem dX3_findReach_27 : decode cX3_findReach 27 = .ok (.aload_n 0, 1) := by decide +kernel
theorem dX3_findReach_28 : decode cX3_findReach 28 = .ok (.getfield 23, 3) := by decide +kernel
theorem dX3_findReach_31 : decode cX3_findReach 31 = .ok (.if_icmp .eq 52, 3) := by decide +kernel
theorem dX3_findReach_34 : decode cX3_findReach 34 = .ok (.aload_n 0, 1) := by decide +kernel
theorem dX3_findReach_35 : decode cX3_findReach 35 = .ok (.getfield 9, 3) := by decide +kernel
theorem dX3_findReach_38 : decode cX3_findReach 38 = .ok (.getfield 54, 3) := by decide +kernel
theorem dX3_findReach_41 : decode cX3_findReach 41 = .ok (.iload_n 2, 1) := by decide +kernel
theorem dX3_findReach_42 : decode cX3_findReach 42 = .ok (.iaload, 1) := by decide +kernel
theorem dX3_findReach_43 : decode cX3_findReach 43 = .ok (.iconst (-1), 1) := by decide +kernel
theorem dX3_findReach_44 : decode cX3_findReach 44 = .ok (.if_icmp .eq 39, 3) := by decide +kernel
theorem dX3_findReach_47 : decode cX3_findReach 47 = .ok (.aload_n 0, 1) := by decide +kernel
theorem dX3_findReach_48 : decode cX3_findReach 48 = .ok (.aload_n 0, 1) := by decide +kernel
theorem dX3_findReach_49 : decode cX3_findReach 49 = .ok (.getfield 9, 3) := by decide +kernel
theorem dX3_findReach_52 : decode cX3_findReach 52 = .ok (.getfield 54, 3) := by decide +kernel
theorem dX3_findReach_55 : decode cX3_findReach 55 = .ok (.iload_n 2, 1) := by decide +kernel
theorem dX3_findReach_56 : decode cX3_findReach 56 = .ok (.iaload, 1) := by decide +kernel
theorem dX3_findReach_57 : decode cX3_findReach 57 = .ok (.invokevirtual 59, 3) := by decide +kernel
theorem dX3_findReach_60 : decode cX3_findReach 60 = .ok (.ifCond .eq 23, 3) := by decide +kernel
theorem dX3_findReach_63 : decode cX3_findReach 63 = .ok (.aload_n 0, 1) := by decide +kernel
theorem dX3_findReach_64 : decode cX3_findReach 64 = .ok (.dup, 1) := by decide +kernel
theorem dX3_findReach_65 : decode cX3_findReach 65 = .ok (.getfield 51, 3) := by decide +kernel
theorem dX3_findReach_68 : decode cX3_findReach 68 = .ok (.iconst 1, 1) := by decide +kernel
theorem dX3_findReach_69 : decode cX3_findReach 69 = .ok (.aload_n 0, 1) := by decide +kernel
theorem dX3_findReach_70 : decode cX3_findReach 70 = .ok (.getfield 9, 3) := by decide +kernel
theorem dX3_findReach_73 : decode cX3_findReach 73 = .ok (.getfield 63, 3) := by decide +kernel
theorem dX3_findReach_76 : decode cX3_findReach 76 = .ok (.iload_n 2, 1) := by decide +kernel
theorem dX3_findReach_77 : decode cX3_findReach 77 = .ok (.iaload, 1) := by decide +kernel
theorem dX3_findReach_78 : decode cX3_findReach 78 = .ok (.ishl, 1) := by decide +kernel
theorem dX3_findReach_79 : decode cX3_findReach 79 = .ok (.ior, 1) := by decide +kernel
theorem dX3_findReach_80 : decode cX3_findReach 80 = .ok (.putfield 51, 3) := by decide +kernel
theorem dX3_findReach_83 : decode cX3_findReach 83 = .ok (.iinc 2 1, 3) := by decide +kernel
theorem dX3_findReach_86 : decode cX3_findReach 86 = .ok (.goto (-66), 3) := by decide +kernel
theorem dX3_findReach_89 : decode cX3_findReach 89 = .ok (.iinc 1 1, 3) := by decide +kernel
theorem dX3_findReach_92 : decode cX3_findReach 92 = .ok (.goto (-80), 3) := by decide +kernel
theorem dX3_findReach_95 : decode cX3_findReach 95 = .ok (.return_, 1) := by decide +kernel
theorem dX3_isReached_0 : decode cX3_isReached 0 = .ok (.aload_n 0, 1) := by decide +kernel
theorem dX3_isReached_1 : decode cX3_isReached 1 = .ok (.getfield 51, 3) := by decide +kernel
theorem dX3_isReached_4 : decode cX3_isReached 4 = .ok (.iload_n 1, 1) := by decide +kernel
theorem dX3_isReached_5 : decode cX3_isReached 5 = .ok (.ishr, 1) := by decide +kernel
theorem dX3_isReached_6 : decode cX3_isReached 6 = .ok (.iconst 1, 1) := by decide +kernel
theorem dX3_isReached_7 : decode cX3_isReached 7 = .ok (.iand, 1) := by decide +kernel
theorem dX3_isReached_8 : decode cX3_isReached 8 = .ok (.iconst 1, 1) := by decide +kernel
theorem dX3_isReached_9 : decode cX3_isReached 9 = .ok (.if_icmp .ne 7, 3) := by decide +kernel
theorem dX3_isReached_12 : decode cX3_isReached 12 = .ok (.iconst 1, 1) := by decide +kernel
theorem dX3_isReached_13 : decode cX3_isReached 13 = .ok (.goto 4, 3) := by decide +kernel
theorem dX3_isReached_16 : decode cX3_isReached 16 = .ok (.iconst 0, 1) := by decide +kernel
theorem dX3_isReached_17 : decode cX3_isReached 17 = .ok (.ireturn, 1) := by decide +kernel
set_option maxRecDepth 20000 in
theorem ggX3_choose_X3_noteTree : GoodIn wsX3_choose wsX3_noteTree := goodIn_r _ [8, 9, 1, 36, 37, 38, 39, 40, 41, 42, 43] (by decide +kernel) (by decide +kernel)
set_option maxRecDepth 20000 in
theorem gX3_choose_X3_noteTree : GoodIn wsX3_choose (wsV RX3 66 RX3 yX3_noteTree wsX3_noteTree) := goodIn_app (goodIn_of _ (by decide +kernel)) ggX3_choose_X3_noteTree
set_option maxRecDepth 20000 in
theorem ggX3_choose_X3_isReached : GoodIn wsX3_choose wsX3_isReached := goodIn_r _ [13, 14, 36, 37, 38, 39, 40, 41, 42, 43] (by decide +kernel) (by decide +kernel)
set_option maxRecDepth 20000 in
theorem gX3_choose_X3_isReached : GoodIn wsX3_choose (wsV RX3 59 RX3 yX3_isReached wsX3_isReached) := goodIn_app (goodIn_of _ (by decide +kernel)) ggX3_choose_X3_isReached
set_option maxRecDepth 20000 in
theorem ggX3_choose_X3_choose : GoodIn wsX3_choose wsX3_choose := goodIn_r _ [0, 1, 2, 3, 4, 5, 6, 7, 8, 9, 10, 11, 12, 13, 14, 15, 16, 17, 18, 19, 20, 21, 22, 23, 24, 25, 26, 27, 28, 29, 30, 31, 32, 33, 34, 35, 36, 37, 38, 39, 40, 41, 42, 43, 44, 45, 46] (by decide +kernel) (by decide +kernel)
set_option maxRecDepth 20000 in
theorem gX3_choose_X3_choose : GoodIn wsX3_choose (wsV RX3 47 RX3 yX3_choose wsX3_choose) := goodIn_app (goodIn_of _ (by decide +kernel)) ggX3_choose_X3_choose
set_option maxRecDepth 20000 in
theorem ggX3_choose_X3_mayLead : GoodIn wsX3_choose wsX3_mayLead := goodIn_r _ [21, 22, 23, 24, 25, 26, 10, 11, 12, 7, 13, 14, 27, 28, 29, 30, 3, 36, 37, 38, 39, 40, 41, 42, 43, 44, 45, 46] (by decide +kernel) (by decide +kernel)
set_option maxRecDepth 20000 in
theorem gX3_choose_X3_mayLead : GoodIn wsX3_choose (wsV RX3 70 RX3 yX3_mayLead wsX3_mayLead) := goodIn_app (goodIn_of _ (by decide +kernel)) ggX3_choose_X3_mayLead
set_option maxRecDepth 20000 in
theorem ggX3_choose_X3_weightOf : GoodIn wsX3_choose wsX3_weightOf := goodIn_r _ [34, 22, 35, 36, 37, 38, 39, 40, 41, 42, 43, 44, 45, 46] (by decide +kernel) (by decide +kernel)
set_option maxRecDepth 20000 in
theorem gX3_choose_X3_weightOf : GoodIn wsX3_choose (wsV RX3 74 RX3 yX3_weightOf wsX3_weightOf) := goodIn_app (goodIn_of _ (by decide +kernel)) ggX3_choose_X3_weightOf
theorem dX3_choose_0 : decode cX3_choose 0 = .ok (.lload_n 2, 1) := by decide +kernel
theorem dX3_choose_1 : decode cX3_choose 1 = .ok (.aload_n 0, 1) := by decide +kernel
theorem dX3_choose_2 : decode cX3_choose 2 = .ok (.getfield 35, 3) := by decide +kernel
theorem dX3_choose_5 : decode cX3_choose 5 = .ok (.lcmp, 1) := by decide +kernel
theorem dX3_choose_6 : decode cX3_choose 6 = .ok (.ifCond .lt 4, 3) := by decide +kernel
theorem dX3_choose_9 : decode cX3_choose 9 = .ok (.return_, 1) := by decide +kernel
theorem dX3_choose_10 : decode cX3_choose 10 = .ok (.iload_n 1, 1) := by decide +kernel
theorem dX3_choose_11 : decode cX3_choose 11 = .ok (.bipush 8, 2) := by decide +kernel
theorem dX3_choose_13 : decode cX3_choose 13 = .ok (.if_icmp .lt 9, 3) := by decide +kernel
theorem dX3_choose_16 : decode cX3_choose 16 = .ok (.aload_n 0, 1) := by decide +kernel
theorem dX3_choose_17 : decode cX3_choose 17 = .ok (.lload_n 2, 1) := by decide +kernel
theorem dX3_choose_18 : decode cX3_choose 18 = .ok (.invokevirtual 66, 3) := by decide +kernel
theorem dX3_choose_21 : decode cX3_choose 21 = .ok (.return_, 1) := by decide +kernel
theorem dX3_choose_22 : decode cX3_choose 22 = .ok (.iload_n 1, 1) := by decide +kernel
theorem dX3_choose_23 : decode cX3_choose 23 = .ok (.aload_n 0, 1) := by decide +kernel
theorem dX3_choose_24 : decode cX3_choose 24 = .ok (.getfield 19, 3) := by decide +kernel
theorem dX3_choose_27 : decode cX3_choose 27 = .ok (.if_icmp .eq 11, 3) := by decide +kernel
theorem dX3_choose_30 : decode cX3_choose 30 = .ok (.aload_n 0, 1) := by decide +kernel
theorem dX3_choose_31 : decode cX3_choose 31 = .ok (.iload_n 1, 1) := by decide +kernel
theorem dX3_choose_32 : decode cX3_choose 32 = .ok (.invokevirtual 59, 3) := by decide +kernel
theorem dX3_choose_35 : decode cX3_choose 35 = .ok (.ifCond .ne 12, 3) := by decide +kernel
theorem dX3_choose_38 : decode cX3_choose 38 = .ok (.aload_n 0, 1) := by decide +kernel
theorem dX3_choose_39 : decode cX3_choose 39 = .ok (.iload_n 1, 1) := by decide +kernel
theorem dX3_choose_40 : decode cX3_choose 40 = .ok (.iconst 1, 1) := by decide +kernel
theorem dX3_choose_41 : decode cX3_choose 41 = .ok (.iadd, 1) := by decide +kernel
theorem dX3_choose_42 : decode cX3_choose 42 = .ok (.lload_n 2, 1) := by decide +kernel
theorem dX3_choose_43 : decode cX3_choose 43 = .ok (.invokevirtual 47, 3) := by decide +kernel
theorem dX3_choose_46 : decode cX3_choose 46 = .ok (.return_, 1) := by decide +kernel
theorem dX3_choose_47 : decode cX3_choose 47 = .ok (.iconst 0, 1) := by decide +kernel
theorem dX3_choose_48 : decode cX3_choose 48 = .ok (.istore 4, 2) := by decide +kernel
theorem dX3_choose_50 : decode cX3_choose 50 = .ok (.iload 4, 2) := by decide +kernel
theorem dX3_choose_52 : decode cX3_choose 52 = .ok (.bipush 20, 2) := by decide +kernel
theorem dX3_choose_54 : decode cX3_choose 54 = .ok (.if_icmp .ge 49, 3) := by decide +kernel
theorem dX3_choose_57 : decode cX3_choose 57 = .ok (.aload_n 0, 1) := by decide +kernel
theorem dX3_choose_58 : decode cX3_choose 58 = .ok (.iload 4, 2) := by decide +kernel
theorem dX3_choose_60 : decode cX3_choose 60 = .ok (.iload_n 1, 1) := by decide +kernel
theorem dX3_choose_61 : decode cX3_choose 61 = .ok (.invokevirtual 70, 3) := by decide +kernel
theorem dX3_choose_64 : decode cX3_choose 64 = .ok (.ifCond .eq 33, 3) := by decide +kernel
theorem dX3_choose_67 : decode cX3_choose 67 = .ok (.aload_n 0, 1) := by decide +kernel
theorem dX3_choose_68 : decode cX3_choose 68 = .ok (.getfield 15, 3) := by decide +kernel
theorem dX3_choose_71 : decode cX3_choose 71 = .ok (.iload_n 1, 1) := by decide +kernel
theorem dX3_choose_72 : decode cX3_choose 72 = .ok (.iload 4, 2) := by decide +kernel
theorem dX3_choose_74 : decode cX3_choose 74 = .ok (.iastore, 1) := by decide +kernel
theorem dX3_choose_75 : decode cX3_choose 75 = .ok (.aload_n 0, 1) := by decide +kernel
theorem dX3_choose_76 : decode cX3_choose 76 = .ok (.iload_n 1, 1) := by decide +kernel
theorem dX3_choose_77 : decode cX3_choose 77 = .ok (.iconst 1, 1) := by decide +kernel
theorem dX3_choose_78 : decode cX3_choose 78 = .ok (.iadd, 1) := by decide +kernel
theorem dX3_choose_79 : decode cX3_choose 79 = .ok (.lload_n 2, 1) := by decide +kernel
theorem dX3_choose_80 : decode cX3_choose 80 = .ok (.aload_n 0, 1) := by decide +kernel
theorem dX3_choose_81 : decode cX3_choose 81 = .ok (.iload 4, 2) := by decide +kernel
theorem dX3_choose_83 : decode cX3_choose 83 = .ok (.invokevirtual 74, 3) := by decide +kernel
theorem dX3_choose_86 : decode cX3_choose 86 = .ok (.ladd, 1) := by decide +kernel
theorem dX3_choose_87 : decode cX3_choose 87 = .ok (.invokevirtual 47, 3) := by decide +kernel
theorem dX3_choose_90 : decode cX3_choose 90 = .ok (.aload_n 0, 1) := by decide +kernel
theorem dX3_choose_91 : decode cX3_choose 91 = .ok (.getfield 15, 3) := by decide +kernel
theorem dX3_choose_94 : decode cX3_choose 94 = .ok (.iload_n 1, 1) := by decide +kernel
theorem dX3_choose_95 : decode cX3_choose 95 = .ok (.iconst (-1), 1) := by decide +kernel
theorem dX3_choose_96 : decode cX3_choose 96 = .ok (.iastore, 1) := by decide +kernel
theorem dX3_choose_97 : decode cX3_choose 97 = .ok (.iinc 4 1, 3) := by decide +kernel
theorem dX3_choose_100 : decode cX3_choose 100 = .ok (.goto (-50), 3) := by decide +kernel
theorem dX3_choose_103 : decode cX3_choose 103 = .ok (.return_, 1) := by decide +kernel
theorem dX3_noteTree_0 : decode cX3_noteTree 0 = .ok (.lload_n 1, 1) := by decide +kernel
theorem dX3_noteTree_1 : decode cX3_noteTree 1 = .ok (.aload_n 0, 1) := by decide +kernel
theorem dX3_noteTree_2 : decode cX3_noteTree 2 = .ok (.getfield 31, 3) := by decide +kernel
theorem dX3_noteTree_5 : decode cX3_noteTree 5 = .ok (.lcmp, 1) := by decide +kernel
theorem dX3_noteTree_6 : decode cX3_noteTree 6 = .ok (.ifCond .ge 19, 3) := by decide +kernel
theorem dX3_noteTree_9 : decode cX3_noteTree 9 = .ok (.aload_n 0, 1) := by decide +kernel
theorem dX3_noteTree_10 : decode cX3_noteTree 10 = .ok (.aload_n 0, 1) := by decide +kernel
theorem dX3_noteTree_11 : decode cX3_noteTree 11 = .ok (.getfield 31, 3) := by decide +kernel
theorem dX3_noteTree_14 : decode cX3_noteTree 14 = .ok (.putfield 35, 3) := by decide +kernel
theorem dX3_noteTree_17 : decode cX3_noteTree 17 = .ok (.aload_n 0, 1) := by decide +kernel
theorem dX3_noteTree_18 : decode cX3_noteTree 18 = .ok (.lload_n 1, 1) := by decide +kernel
theorem dX3_noteTree_19 : decode cX3_noteTree 19 = .ok (.putfield 31, 3) := by decide +kernel
theorem dX3_noteTree_22 : decode cX3_noteTree 22 = .ok (.goto 8, 3) := by decide +kernel
theorem dX3_noteTree_25 : decode cX3_noteTree 25 = .ok (.aload_n 0, 1) := by decide +kernel
theorem dX3_noteTree_26 : decode cX3_noteTree 26 = .ok (.lload_n 1, 1) := by decide +kernel
theorem dX3_noteTree_27 : decode cX3_noteTree 27 = .ok (.putfield 35, 3) := by decide +kernel
theorem dX3_noteTree_30 : decode cX3_noteTree 30 = .ok (.return_, 1) := by decide +kernel
set_option maxRecDepth 20000 in
theorem ggX3_mayLead_X3_isReached : GoodIn wsX3_mayLead wsX3_isReached := goodIn_r _ [10, 11, 17, 18, 19, 20, 21, 22, 23, 24] (by decide +kernel) (by decide +kernel)
set_option maxRecDepth 20000 in
theorem gX3_mayLead_X3_isReached : GoodIn wsX3_mayLead (wsV RX3 59 RX3 yX3_isReached wsX3_isReached) := goodIn_app (goodIn_of _ (by decide +kernel)) ggX3_mayLead_X3_isReached
set_option maxRecDepth 20000 in
theorem ggX3_mayLead_X3_closesRing : GoodIn wsX3_mayLead wsX3_closesRing := goodIn_r _ [15, 16, 1, 2, 17, 18, 19, 20, 21, 22, 23, 24, 25, 26, 27] (by decide +kernel) (by decide +kernel)
set_option maxRecDepth 20000 in
theorem gX3_mayLead_X3_closesRing : GoodIn wsX3_mayLead (wsV RX3 78 RX3 yX3_closesRing wsX3_closesRing) := goodIn_app (goodIn_of _ (by decide +kernel)) ggX3_mayLead_X3_closesRing
theorem dX3_mayLead_0 : decode cX3_mayLead 0 = .ok (.aload_n 0, 1) := by decide +kernel
theorem dX3_mayLead_1 : decode cX3_mayLead 1 = .ok (.getfield 9, 3) := by decide +kernel
theorem dX3_mayLead_4 : decode cX3_mayLead 4 = .ok (.getfield 54, 3) := by decide +kernel
theorem dX3_mayLead_7 : decode cX3_mayLead 7 = .ok (.iload_n 1, 1) := by decide +kernel
theorem dX3_mayLead_8 : decode cX3_mayLead 8 = .ok (.iaload, 1) := by decide +kernel
theorem dX3_mayLead_9 : decode cX3_mayLead 9 = .ok (.iconst (-1), 1) := by decide +kernel
theorem dX3_mayLead_10 : decode cX3_mayLead 10 = .ok (.if_icmp .eq 40, 3) := by decide +kernel
theorem dX3_mayLead_13 : decode cX3_mayLead 13 = .ok (.aload_n 0, 1) := by decide +kernel
theorem dX3_mayLead_14 : decode cX3_mayLead 14 = .ok (.getfield 9, 3) := by decide +kernel
theorem dX3_mayLead_17 : decode cX3_mayLead 17 = .ok (.getfield 63, 3) := by decide +kernel
theorem dX3_mayLead_20 : decode cX3_mayLead 20 = .ok (.iload_n 1, 1) := by decide +kernel
theorem dX3_mayLead_21 : decode cX3_mayLead 21 = .ok (.iaload, 1) := by decide +kernel
theorem dX3_mayLead_22 : decode cX3_mayLead 22 = .ok (.iload_n 2, 1) := by decide +kernel
theorem dX3_mayLead_23 : decode cX3_mayLead 23 = .ok (.if_icmp .ne 27, 3) := by decide +kernel
theorem dX3_mayLead_26 : decode cX3_mayLead 26 = .ok (.iload_n 1, 1) := by decide +kernel
theorem dX3_mayLead_27 : decode cX3_mayLead 27 = .ok (.aload_n 0, 1) := by decide +kernel
theorem dX3_mayLead_28 : decode cX3_mayLead 28 = .ok (.getfield 23, 3) := by decide +kernel
theorem dX3_mayLead_31 : decode cX3_mayLead 31 = .ok (.if_icmp .eq 19, 3) := by decide +kernel
theorem dX3_mayLead_34 : decode cX3_mayLead 34 = .ok (.aload_n 0, 1) := by decide +kernel
theorem dX3_mayLead_35 : decode cX3_mayLead 35 = .ok (.aload_n 0, 1) := by decide +kernel
theorem dX3_mayLead_36 : decode cX3_mayLead 36 = .ok (.getfield 9, 3) := by decide +kernel
theorem dX3_mayLead_39 : decode cX3_mayLead 39 = .ok (.getfield 54, 3) := by decide +kernel
theorem dX3_mayLead_42 : decode cX3_mayLead 42 = .ok (.iload_n 1, 1) := by decide +kernel
theorem dX3_mayLead_43 : decode cX3_mayLead 43 = .ok (.iaload, 1) := by decide +kernel
theorem dX3_mayLead_44 : decode cX3_mayLead 44 = .ok (.invokevirtual 59, 3) := by decide +kernel
theorem dX3_mayLead_47 : decode cX3_mayLead 47 = .ok (.ifCond .ne 5, 3) := by decide +kernel
theorem dX3_mayLead_50 : decode cX3_mayLead 50 = .ok (.iconst 0, 1) := by decide +kernel
theorem dX3_mayLead_51 : decode cX3_mayLead 51 = .ok (.ireturn, 1) := by decide +kernel
theorem dX3_mayLead_52 : decode cX3_mayLead 52 = .ok (.aload_n 0, 1) := by decide +kernel
theorem dX3_mayLead_53 : decode cX3_mayLead 53 = .ok (.getfield 26, 3) := by decide +kernel
theorem dX3_mayLead_56 : decode cX3_mayLead 56 = .ok (.iconst (-1), 1) := by decide +kernel
theorem dX3_mayLead_57 : decode cX3_mayLead 57 = .ok (.if_icmp .eq 29, 3) := by decide +kernel
theorem dX3_mayLead_60 : decode cX3_mayLead 60 = .ok (.aload_n 0, 1) := by decide +kernel
theorem dX3_mayLead_61 : decode cX3_mayLead 61 = .ok (.getfield 9, 3) := by decide +kernel
theorem dX3_mayLead_64 : decode cX3_mayLead 64 = .ok (.getfield 63, 3) := by decide +kernel
theorem dX3_mayLead_67 : decode cX3_mayLead 67 = .ok (.aload_n 0, 1) := by decide +kernel
theorem dX3_mayLead_68 : decode cX3_mayLead 68 = .ok (.getfield 26, 3) := by decide +kernel
theorem dX3_mayLead_71 : decode cX3_mayLead 71 = .ok (.iaload, 1) := by decide +kernel
theorem dX3_mayLead_72 : decode cX3_mayLead 72 = .ok (.iload_n 2, 1) := by decide +kernel
theorem dX3_mayLead_73 : decode cX3_mayLead 73 = .ok (.if_icmp .ne 13, 3) := by decide +kernel
theorem dX3_mayLead_76 : decode cX3_mayLead 76 = .ok (.iload_n 1, 1) := by decide +kernel
theorem dX3_mayLead_77 : decode cX3_mayLead 77 = .ok (.aload_n 0, 1) := by decide +kernel
theorem dX3_mayLead_78 : decode cX3_mayLead 78 = .ok (.getfield 26, 3) := by decide +kernel
theorem dX3_mayLead_81 : decode cX3_mayLead 81 = .ok (.if_icmp .eq 5, 3) := by decide +kernel
theorem dX3_mayLead_84 : decode cX3_mayLead 84 = .ok (.iconst 0, 1) := by decide +kernel
theorem dX3_mayLead_85 : decode cX3_mayLead 85 = .ok (.ireturn, 1) := by decide +kernel
theorem dX3_mayLead_86 : decode cX3_mayLead 86 = .ok (.aload_n 0, 1) := by decide +kernel
theorem dX3_mayLead_87 : decode cX3_mayLead 87 = .ok (.aload_n 0, 1) := by decide +kernel
theorem dX3_mayLead_88 : decode cX3_mayLead 88 = .ok (.getfield 9, 3) := by decide +kernel
theorem dX3_mayLead_91 : decode cX3_mayLead 91 = .ok (.getfield 54, 3) := by decide +kernel
theorem dX3_mayLead_94 : decode cX3_mayLead 94 = .ok (.iload_n 1, 1) := by decide +kernel
theorem dX3_mayLead_95 : decode cX3_mayLead 95 = .ok (.iaload, 1) := by decide +kernel
theorem dX3_mayLead_96 : decode cX3_mayLead 96 = .ok (.iload_n 2, 1) := by decide +kernel
theorem dX3_mayLead_97 : decode cX3_mayLead 97 = .ok (.invokevirtual 78, 3) := by decide +kernel
theorem dX3_mayLead_100 : decode cX3_mayLead 100 = .ok (.ifCond .ne 7, 3) := by decide +kernel
theorem dX3_mayLead_103 : decode cX3_mayLead 103 = .ok (.iconst 1, 1) := by decide +kernel
theorem dX3_mayLead_104 : decode cX3_mayLead 104 = .ok (.goto 4, 3) := by decide +kernel
theorem dX3_mayLead_107 : decode cX3_mayLead 107 = .ok (.iconst 0, 1) := by decide +kernel
theorem dX3_mayLead_108 : decode cX3_mayLead 108 = .ok (.ireturn, 1) := by decide +kernel
theorem dX3_closesRing_0 : decode cX3_closesRing 0 = .ok (.iload_n 1, 1) := by decide +kernel
theorem dX3_closesRing_1 : decode cX3_closesRing 1 = .ok (.istore_n 3, 1) := by decide +kernel
theorem dX3_closesRing_2 : decode cX3_closesRing 2 = .ok (.iconst 0, 1) := by decide +kernel
theorem dX3_closesRing_3 : decode cX3_closesRing 3 = .ok (.istore 4, 2) := by decide +kernel
theorem dX3_closesRing_5 : decode cX3_closesRing 5 = .ok (.iload 4, 2) := by decide +kernel
theorem dX3_closesRing_7 : decode cX3_closesRing 7 = .ok (.bipush 8, 2) := by decide +kernel
theorem dX3_closesRing_9 : decode cX3_closesRing 9 = .ok (.if_icmp .ge 39, 3) := by decide +kernel
theorem dX3_closesRing_12 : decode cX3_closesRing 12 = .ok (.iload_n 3, 1) := by decide +kernel
theorem dX3_closesRing_13 : decode cX3_closesRing 13 = .ok (.iload_n 2, 1) := by decide +kernel
theorem dX3_closesRing_14 : decode cX3_closesRing 14 = .ok (.if_icmp .eq 34, 3) := by decide +kernel
theorem dX3_closesRing_17 : decode cX3_closesRing 17 = .ok (.aload_n 0, 1) := by decide +kernel
theorem dX3_closesRing_18 : decode cX3_closesRing 18 = .ok (.getfield 15, 3) := by decide +kernel
theorem dX3_closesRing_21 : decode cX3_closesRing 21 = .ok (.iload_n 3, 1) := by decide +kernel
theorem dX3_closesRing_22 : decode cX3_closesRing 22 = .ok (.iaload, 1) := by decide +kernel
theorem dX3_closesRing_23 : decode cX3_closesRing 23 = .ok (.iconst (-1), 1) := by decide +kernel
theorem dX3_closesRing_24 : decode cX3_closesRing 24 = .ok (.if_icmp .eq 24, 3) := by decide +kernel
theorem dX3_closesRing_27 : decode cX3_closesRing 27 = .ok (.aload_n 0, 1) := by decide +kernel
theorem dX3_closesRing_28 : decode cX3_closesRing 28 = .ok (.getfield 9, 3) := by decide +kernel
theorem dX3_closesRing_31 : decode cX3_closesRing 31 = .ok (.getfield 54, 3) := by decide +kernel
theorem dX3_closesRing_34 : decode cX3_closesRing 34 = .ok (.aload_n 0, 1) := by decide +kernel
theorem dX3_closesRing_35 : decode cX3_closesRing 35 = .ok (.getfield 15, 3) := by decide +kernel
theorem dX3_closesRing_38 : decode cX3_closesRing 38 = .ok (.iload_n 3, 1) := by decide +kernel
theorem dX3_closesRing_39 : decode cX3_closesRing 39 = .ok (.iaload, 1) := by decide +kernel
theorem dX3_closesRing_40 : decode cX3_closesRing 40 = .ok (.iaload, 1) := by decide +kernel
theorem dX3_closesRing_41 : decode cX3_closesRing 41 = .ok (.istore_n 3, 1) := by decide +kernel
theorem dX3_closesRing_42 : decode cX3_closesRing 42 = .ok (.iinc 4 1, 3) := by decide +kernel
theorem dX3_closesRing_45 : decode cX3_closesRing 45 = .ok (.goto (-40), 3) := by decide +kernel
theorem dX3_closesRing_48 : decode cX3_closesRing 48 = .ok (.iload_n 3, 1) := by decide +kernel
theorem dX3_closesRing_49 : decode cX3_closesRing 49 = .ok (.iload_n 2, 1) := by decide +kernel
theorem dX3_closesRing_50 : decode cX3_closesRing 50 = .ok (.if_icmp .ne 7, 3) := by decide +kernel
theorem dX3_closesRing_53 : decode cX3_closesRing 53 = .ok (.iconst 1, 1) := by decide +kernel
theorem dX3_closesRing_54 : decode cX3_closesRing 54 = .ok (.goto 4, 3) := by decide +kernel
theorem dX3_closesRing_57 : decode cX3_closesRing 57 = .ok (.iconst 0, 1) := by decide +kernel
theorem dX3_closesRing_58 : decode cX3_closesRing 58 = .ok (.ireturn, 1) := by decide +kernel
theorem dX3_weightOf_0 : decode cX3_weightOf 0 = .ok (.aload_n 0, 1) := by decide +kernel
theorem dX3_weightOf_1 : decode cX3_weightOf 1 = .ok (.getfield 9, 3) := by decide +kernel
theorem dX3_weightOf_4 : decode cX3_weightOf 4 = .ok (.getfield 81, 3) := by decide +kernel
theorem dX3_weightOf_7 : decode cX3_weightOf 7 = .ok (.iload_n 1, 1) := by decide +kernel
theorem dX3_weightOf_8 : decode cX3_weightOf 8 = .ok (.iaload, 1) := by decide +kernel
theorem dX3_weightOf_9 : decode cX3_weightOf 9 = .ok (.i2l, 1) := by decide +kernel
theorem dX3_weightOf_10 : decode cX3_weightOf 10 = .ok (.bipush 20, 2) := by decide +kernel
theorem dX3_weightOf_12 : decode cX3_weightOf 12 = .ok (.lshl, 1) := by decide +kernel
theorem dX3_weightOf_13 : decode cX3_weightOf 13 = .ok (.lconst 1, 1) := by decide +kernel
theorem dX3_weightOf_14 : decode cX3_weightOf 14 = .ok (.iload_n 1, 1) := by decide +kernel
theorem dX3_weightOf_15 : decode cX3_weightOf 15 = .ok (.lshl, 1) := by decide +kernel
theorem dX3_weightOf_16 : decode cX3_weightOf 16 = .ok (.ladd, 1) := by decide +kernel
theorem dX3_weightOf_17 : decode cX3_weightOf 17 = .ok (.lreturn, 1) := by decide +kernel
theorem dX3_costOf_0 : decode cX3_costOf 0 = .ok (.lload_n 1, 1) := by decide +kernel
theorem dX3_costOf_1 : decode cX3_costOf 1 = .ok (.bipush 20, 2) := by decide +kernel
theorem dX3_costOf_3 : decode cX3_costOf 3 = .ok (.lshr, 1) := by decide +kernel
theorem dX3_costOf_4 : decode cX3_costOf 4 = .ok (.l2i, 1) := by decide +kernel
theorem dX3_costOf_5 : decode cX3_costOf 5 = .ok (.ireturn, 1) := by decide +kernel
theorem dX3_bitsOf_0 : decode cX3_bitsOf 0 = .ok (.lload_n 1, 1) := by decide +kernel
theorem dX3_bitsOf_1 : decode cX3_bitsOf 1 = .ok (.ldc2_w 84, 3) := by decide +kernel
theorem dX3_bitsOf_4 : decode cX3_bitsOf 4 = .ok (.land, 1) := by decide +kernel
theorem dX3_bitsOf_5 : decode cX3_bitsOf 5 = .ok (.l2i, 1) := by decide +kernel
theorem dX3_bitsOf_6 : decode cX3_bitsOf 6 = .ok (.ireturn, 1) := by decide +kernel
theorem dX3_firstHas_0 : decode cX3_firstHas 0 = .ok (.aload_n 0, 1) := by decide +kernel
theorem dX3_firstHas_1 : decode cX3_firstHas 1 = .ok (.getfield 31, 3) := by decide +kernel
theorem dX3_firstHas_4 : decode cX3_firstHas 4 = .ok (.ldc2_w 29, 3) := by decide +kernel
theorem dX3_firstHas_7 : decode cX3_firstHas 7 = .ok (.lcmp, 1) := by decide +kernel
theorem dX3_firstHas_8 : decode cX3_firstHas 8 = .ok (.ifCond .eq 20, 3) := by decide +kernel
theorem dX3_firstHas_11 : decode cX3_firstHas 11 = .ok (.aload_n 0, 1) := by decide +kernel
theorem dX3_firstHas_12 : decode cX3_firstHas 12 = .ok (.getfield 31, 3) := by decide +kernel
theorem dX3_firstHas_15 : decode cX3_firstHas 15 = .ok (.iload_n 1, 1) := by decide +kernel
theorem dX3_firstHas_16 : decode cX3_firstHas 16 = .ok (.lshr, 1) := by decide +kernel
theorem dX3_firstHas_17 : decode cX3_firstHas 17 = .ok (.lconst 1, 1) := by decide +kernel
theorem dX3_firstHas_18 : decode cX3_firstHas 18 = .ok (.land, 1) := by decide +kernel
theorem dX3_firstHas_19 : decode cX3_firstHas 19 = .ok (.lconst 1, 1) := by decide +kernel
theorem dX3_firstHas_20 : decode cX3_firstHas 20 = .ok (.lcmp, 1) := by decide +kernel
theorem dX3_firstHas_21 : decode cX3_firstHas 21 = .ok (.ifCond .ne 7, 3) := by decide +kernel
theorem dX3_firstHas_24 : decode cX3_firstHas 24 = .ok (.iconst 1, 1) := by decide +kernel
theorem dX3_firstHas_25 : decode cX3_firstHas 25 = .ok (.goto 4, 3) := by decide +kernel
theorem dX3_firstHas_28 : decode cX3_firstHas 28 = .ok (.iconst 0, 1) := by decide +kernel
theorem dX3_firstHas_29 : decode cX3_firstHas 29 = .ok (.ireturn, 1) := by decide +kernel
set_option maxRecDepth 20000 in
theorem ggX3_arcInto_X3_firstHas : GoodIn wsX3_arcInto wsX3_firstHas := goodIn_r _ [7, 8, 9, 10, 11, 12, 13, 14, 15, 16, 17] (by decide +kernel) (by decide +kernel)
set_option maxRecDepth 20000 in
theorem gX3_arcInto_X3_firstHas : GoodIn wsX3_arcInto (wsV RX3 86 RX3 yX3_firstHas wsX3_firstHas) := goodIn_app (goodIn_of _ (by decide +kernel)) ggX3_arcInto_X3_firstHas
theorem dX3_arcInto_0 : decode cX3_arcInto 0 = .ok (.iconst 0, 1) := by decide +kernel
theorem dX3_arcInto_1 : decode cX3_arcInto 1 = .ok (.istore_n 2, 1) := by decide +kernel
theorem dX3_arcInto_2 : decode cX3_arcInto 2 = .ok (.iload_n 2, 1) := by decide +kernel
theorem dX3_arcInto_3 : decode cX3_arcInto 3 = .ok (.bipush 20, 2) := by decide +kernel
theorem dX3_arcInto_5 : decode cX3_arcInto 5 = .ok (.if_icmp .ge 32, 3) := by decide +kernel
theorem dX3_arcInto_8 : decode cX3_arcInto 8 = .ok (.aload_n 0, 1) := by decide +kernel
theorem dX3_arcInto_9 : decode cX3_arcInto 9 = .ok (.iload_n 2, 1) := by decide +kernel
theorem dX3_arcInto_10 : decode cX3_arcInto 10 = .ok (.invokevirtual 86, 3) := by decide +kernel
theorem dX3_arcInto_13 : decode cX3_arcInto 13 = .ok (.ifCond .eq 18, 3) := by decide +kernel
theorem dX3_arcInto_16 : decode cX3_arcInto 16 = .ok (.aload_n 0, 1) := by decide +kernel
theorem dX3_arcInto_17 : decode cX3_arcInto 17 = .ok (.getfield 9, 3) := by decide +kernel
theorem dX3_arcInto_20 : decode cX3_arcInto 20 = .ok (.getfield 63, 3) := by decide +kernel
theorem dX3_arcInto_23 : decode cX3_arcInto 23 = .ok (.iload_n 2, 1) := by decide +kernel
theorem dX3_arcInto_24 : decode cX3_arcInto 24 = .ok (.iaload, 1) := by decide +kernel
theorem dX3_arcInto_25 : decode cX3_arcInto 25 = .ok (.iload_n 1, 1) := by decide +kernel
theorem dX3_arcInto_26 : decode cX3_arcInto 26 = .ok (.if_icmp .ne 5, 3) := by decide +kernel
theorem dX3_arcInto_29 : decode cX3_arcInto 29 = .ok (.iload_n 2, 1) := by decide +kernel
theorem dX3_arcInto_30 : decode cX3_arcInto 30 = .ok (.ireturn, 1) := by decide +kernel
theorem dX3_arcInto_31 : decode cX3_arcInto 31 = .ok (.iinc 2 1, 3) := by decide +kernel
theorem dX3_arcInto_34 : decode cX3_arcInto 34 = .ok (.goto (-32), 3) := by decide +kernel
theorem dX3_arcInto_37 : decode cX3_arcInto 37 = .ok (.iconst (-1), 1) := by decide +kernel
theorem dX3_arcInto_38 : decode cX3_arcInto 38 = .ok (.ireturn, 1) := by decide +kernel
theorem dX3_mostStillBelow_0 : decode cX3_mostStillBelow 0 = .ok (.lload_n 3, 1) := by decide +kernel
theorem dX3_mostStillBelow_1 : decode cX3_mostStillBelow 1 = .ok (.lload_n 1, 1) := by decide +kernel
theorem dX3_mostStillBelow_2 : decode cX3_mostStillBelow 2 = .ok (.lsub, 1) := by decide +kernel
theorem dX3_mostStillBelow_3 : decode cX3_mostStillBelow 3 = .ok (.lconst 1, 1) := by decide +kernel
theorem dX3_mostStillBelow_4 : decode cX3_mostStillBelow 4 = .ok (.lsub, 1) := by decide +kernel
theorem dX3_mostStillBelow_5 : decode cX3_mostStillBelow 5 = .ok (.bipush 20, 2) := by decide +kernel
theorem dX3_mostStillBelow_7 : decode cX3_mostStillBelow 7 = .ok (.lshr, 1) := by decide +kernel
theorem dX3_mostStillBelow_8 : decode cX3_mostStillBelow 8 = .ok (.l2i, 1) := by decide +kernel
theorem dX3_mostStillBelow_9 : decode cX3_mostStillBelow 9 = .ok (.ireturn, 1) := by decide +kernel
theorem dX3_leastToPass_0 : decode cX3_leastToPass 0 = .ok (.lload_n 1, 1) := by decide +kernel
theorem dX3_leastToPass_1 : decode cX3_leastToPass 1 = .ok (.lload_n 3, 1) := by decide +kernel
theorem dX3_leastToPass_2 : decode cX3_leastToPass 2 = .ok (.lsub, 1) := by decide +kernel
theorem dX3_leastToPass_3 : decode cX3_leastToPass 3 = .ok (.bipush 20, 2) := by decide +kernel
theorem dX3_leastToPass_5 : decode cX3_leastToPass 5 = .ok (.lshr, 1) := by decide +kernel
theorem dX3_leastToPass_6 : decode cX3_leastToPass 6 = .ok (.l2i, 1) := by decide +kernel
theorem dX3_leastToPass_7 : decode cX3_leastToPass 7 = .ok (.iconst 1, 1) := by decide +kernel
theorem dX3_leastToPass_8 : decode cX3_leastToPass 8 = .ok (.iadd, 1) := by decide +kernel
theorem dX3_leastToPass_9 : decode cX3_leastToPass 9 = .ok (.ireturn, 1) := by decide +kernel
set_option maxRecDepth 20000 in
theorem ggX4_init_X0_init : GoodIn wsX4_init wsX0_init := goodIn_r _ [26, 27, 2, 3, 14, 28, 29, 30, 31, 32, 33, 34, 35, 36, 37, 38, 39, 40, 41, 42, 43, 44, 69, 70, 71, 72, 73, 74, 75, 76, 77, 78, 79, 80, 81, 82, 83, 84, 85] (by decide +kernel) (by decide +kernel)
set_option maxRecDepth 20000 in
theorem gX4_init_X0_init : GoodIn wsX4_init (wsX0_init) := ggX4_init_X0_init
set_option maxRecDepth 20000 in
theorem ggX4_init_X1_init : GoodIn wsX4_init wsX1_init := goodIn_r _ [47, 48, 2, 3, 14, 49, 50, 51, 52, 42, 43, 44, 94, 95, 96] (by decide +kernel) (by decide +kernel)
set_option maxRecDepth 20000 in
theorem gX4_init_X1_init : GoodIn wsX4_init (wsX1_init) := ggX4_init_X1_init
set_option maxRecDepth 20000 in
theorem ggX4_init_X2_init : GoodIn wsX4_init wsX2_init := goodIn_r _ [55, 56, 2, 3, 57, 14, 58, 59, 60, 61, 62, 97, 98, 99, 100, 101, 102] (by decide +kernel) (by decide +kernel)
set_option maxRecDepth 20000 in
theorem gX4_init_X2_init : GoodIn wsX4_init (wsX2_init) := ggX4_init_X2_init
set_option maxRecDepth 20000 in
theorem ggX4_init_X3_init : GoodIn wsX4_init wsX3_init := goodIn_r _ [65, 66, 2, 3, 67, 14, 68, 103, 104, 105, 106, 107, 108, 109, 110] (by decide +kernel) (by decide +kernel)
set_option maxRecDepth 20000 in
theorem gX4_init_X3_init : GoodIn wsX4_init (wsX3_init) := ggX4_init_X3_init
theorem dX4_init_0 : decode cX4_init 0 = .ok (.aload_n 0, 1) := by decide +kernel
theorem dX4_init_1 : decode cX4_init 1 = .ok (.invokespecial 3, 3) := by decide +kernel
theorem dX4_init_4 : decode cX4_init 4 = .ok (.aload_n 0, 1) := by decide +kernel
theorem dX4_init_5 : decode cX4_init 5 = .ok (.new 9, 3) := by decide +kernel
theorem dX4_init_8 : decode cX4_init 8 = .ok (.dup, 1) := by decide +kernel
theorem dX4_init_9 : decode cX4_init 9 = .ok (.invokespecial 11, 3) := by decide +kernel
theorem dX4_init_12 : decode cX4_init 12 = .ok (.putfield 12, 3) := by decide +kernel
theorem dX4_init_15 : decode cX4_init 15 = .ok (.aload_n 0, 1) := by decide +kernel
theorem dX4_init_16 : decode cX4_init 16 = .ok (.iconst 2, 1) := by decide +kernel
theorem dX4_init_17 : decode cX4_init 17 = .ok (.anewarray 9, 3) := by decide +kernel
theorem dX4_init_20 : decode cX4_init 20 = .ok (.putfield 18, 3) := by decide +kernel
theorem dX4_init_23 : decode cX4_init 23 = .ok (.aload_n 0, 1) := by decide +kernel
theorem dX4_init_24 : decode cX4_init 24 = .ok (.new 22, 3) := by decide +kernel
theorem dX4_init_27 : decode cX4_init 27 = .ok (.dup, 1) := by decide +kernel
theorem dX4_init_28 : decode cX4_init 28 = .ok (.invokespecial 24, 3) := by decide +kernel
theorem dX4_init_31 : decode cX4_init 31 = .ok (.putfield 25, 3) := by decide +kernel
theorem dX4_init_34 : decode cX4_init 34 = .ok (.aload_n 0, 1) := by decide +kernel
theorem dX4_init_35 : decode cX4_init 35 = .ok (.iconst 2, 1) := by decide +kernel
theorem dX4_init_36 : decode cX4_init 36 = .ok (.anewarray 22, 3) := by decide +kernel
theorem dX4_init_39 : decode cX4_init 39 = .ok (.putfield 29, 3) := by decide +kernel
theorem dX4_init_42 : decode cX4_init 42 = .ok (.aload_n 0, 1) := by decide +kernel
theorem dX4_init_43 : decode cX4_init 43 = .ok (.iconst 5, 1) := by decide +kernel
theorem dX4_init_44 : decode cX4_init 44 = .ok (.newarray .int, 2) := by decide +kernel
theorem dX4_init_46 : decode cX4_init 46 = .ok (.putfield 33, 3) := by decide +kernel
theorem dX4_init_49 : decode cX4_init 49 = .ok (.aload_n 0, 1) := by decide +kernel
theorem dX4_init_50 : decode cX4_init 50 = .ok (.new 37, 3) := by decide +kernel
theorem dX4_init_53 : decode cX4_init 53 = .ok (.dup, 1) := by decide +kernel
theorem dX4_init_54 : decode cX4_init 54 = .ok (.aload_n 0, 1) := by decide +kernel
theorem dX4_init_55 : decode cX4_init 55 = .ok (.getfield 12, 3) := by decide +kernel
theorem dX4_init_58 : decode cX4_init 58 = .ok (.invokespecial 39, 3) := by decide +kernel
theorem dX4_init_61 : decode cX4_init 61 = .ok (.putfield 42, 3) := by decide +kernel
theorem dX4_init_64 : decode cX4_init 64 = .ok (.aload_n 0, 1) := by decide +kernel
theorem dX4_init_65 : decode cX4_init 65 = .ok (.new 46, 3) := by decide +kernel
theorem dX4_init_68 : decode cX4_init 68 = .ok (.dup, 1) := by decide +kernel
theorem dX4_init_69 : decode cX4_init 69 = .ok (.aload_n 0, 1) := by decide +kernel
theorem dX4_init_70 : decode cX4_init 70 = .ok (.getfield 25, 3) := by decide +kernel
theorem dX4_init_73 : decode cX4_init 73 = .ok (.invokespecial 48, 3) := by decide +kernel
theorem dX4_init_76 : decode cX4_init 76 = .ok (.putfield 51, 3) := by decide +kernel
theorem dX4_init_79 : decode cX4_init 79 = .ok (.return_, 1) := by decide +kernel
set_option maxRecDepth 20000 in
theorem ggX4_enter_X4_isDesk : GoodIn wsX4_enter wsX4_isDesk := goodIn_r _ [6] (by decide +kernel) (by decide +kernel)
set_option maxRecDepth 20000 in
theorem gX4_enter_X4_isDesk : GoodIn wsX4_enter (va_wsS RX4 55 yX4_isDesk wsX4_isDesk) := goodIn_app (goodIn_of _ (by decide +kernel)) ggX4_enter_X4_isDesk
set_option maxRecDepth 20000 in
theorem ggX4_enter_X4_isKey : GoodIn wsX4_enter wsX4_isKey := goodIn_r _ [9, 10, 11] (by decide +kernel) (by decide +kernel)
set_option maxRecDepth 20000 in
theorem gX4_enter_X4_isKey : GoodIn wsX4_enter (va_wsS RX4 59 yX4_isKey wsX4_isKey) := goodIn_app (goodIn_of _ (by decide +kernel)) ggX4_enter_X4_isKey
set_option maxRecDepth 20000 in
theorem ggX4_enter_X4_isTag : GoodIn wsX4_enter wsX4_isTag := goodIn_r _ [14] (by decide +kernel) (by decide +kernel)
set_option maxRecDepth 20000 in
theorem gX4_enter_X4_isTag : GoodIn wsX4_enter (va_wsS RX4 62 yX4_isTag wsX4_isTag) := goodIn_app (goodIn_of _ (by decide +kernel)) ggX4_enter_X4_isTag
set_option maxRecDepth 20000 in
theorem ggX4_enter_X4_refuse : GoodIn wsX4_enter wsX4_refuse := goodIn_r _ [18, 19, 61, 62, 63, 64, 65, 66, 67, 68] (by decide +kernel) (by decide +kernel)
set_option maxRecDepth 20000 in
theorem gX4_enter_X4_refuse : GoodIn wsX4_enter (wsV RX4 65 RX4 yX4_refuse wsX4_refuse) := goodIn_app (goodIn_of _ (by decide +kernel)) ggX4_enter_X4_refuse
set_option maxRecDepth 20000 in
theorem ggX4_enter_X0_newItem : GoodIn wsX4_enter wsX0_newItem := goodIn_r _ [24, 25, 26, 27, 28, 29, 69, 70, 71, 72, 73, 74, 75, 76, 77, 78, 79, 80, 81, 82, 83, 84, 85] (by decide +kernel) (by decide +kernel)
set_option maxRecDepth 20000 in
theorem gX4_enter_X0_newItem : GoodIn wsX4_enter (wsV RX4 73 RX0 yX0_newItem wsX0_newItem) := goodIn_app (goodIn_of _ (by decide +kernel)) ggX4_enter_X0_newItem
set_option maxRecDepth 20000 in
theorem ggX4_enter_X0_place : GoodIn wsX4_enter wsX0_place := goodIn_r _ [33, 34, 35, 36, 37, 29, 38, 39, 40, 41, 23, 42, 43, 44, 45, 46, 47, 26, 48, 49, 50, 51, 69, 70, 71, 72, 73, 74, 75, 76, 77, 78, 79, 80, 81, 82, 83, 84, 85] (by decide +kernel) (by decide +kernel)
set_option maxRecDepth 20000 in
theorem gX4_enter_X0_place : GoodIn wsX4_enter (wsV RX4 77 RX0 yX0_place wsX0_place) := goodIn_app (goodIn_of _ (by decide +kernel)) ggX4_enter_X0_place
set_option maxRecDepth 20000 in
theorem ggX4_enter_X0_sweep : GoodIn wsX4_enter wsX0_sweep := goodIn_r _ [55, 38, 28, 56, 57, 58, 59, 23, 60, 34, 35, 29, 39, 40, 41, 42, 36, 43, 44, 45, 46, 47, 26, 48, 49, 50, 51, 37, 69, 70, 71, 72, 73, 74, 75, 76, 77, 78, 79, 80, 81, 82, 83, 84, 85] (by decide +kernel) (by decide +kernel)
set_option maxRecDepth 20000 in
theorem gX4_enter_X0_sweep : GoodIn wsX4_enter (wsV RX4 81 RX0 yX0_sweep wsX0_sweep) := goodIn_app (goodIn_of _ (by decide +kernel)) ggX4_enter_X0_sweep
theorem dX4_enter_0 : decode cX4_enter 0 = .ok (.iload_n 1, 1) := by decide +kernel
theorem dX4_enter_1 : decode cX4_enter 1 = .ok (.invokestatic 55, 3) := by decide +kernel
theorem dX4_enter_4 : decode cX4_enter 4 = .ok (.ifCond .eq 17, 3) := by decide +kernel
theorem dX4_enter_7 : decode cX4_enter 7 = .ok (.iload_n 2, 1) := by decide +kernel
theorem dX4_enter_8 : decode cX4_enter 8 = .ok (.invokestatic 59, 3) := by decide +kernel
theorem dX4_enter_11 : decode cX4_enter 11 = .ok (.ifCond .eq 10, 3) := by decide +kernel
theorem dX4_enter_14 : decode cX4_enter 14 = .ok (.iload_n 3, 1) := by decide +kernel
theorem dX4_enter_15 : decode cX4_enter 15 = .ok (.invokestatic 62, 3) := by decide +kernel
theorem dX4_enter_18 : decode cX4_enter 18 = .ok (.ifCond .ne 9, 3) := by decide +kernel
theorem dX4_enter_21 : decode cX4_enter 21 = .ok (.aload_n 0, 1) := by decide +kernel
theorem dX4_enter_22 : decode cX4_enter 22 = .ok (.iconst (-1), 1) := by decide +kernel
theorem dX4_enter_23 : decode cX4_enter 23 = .ok (.invokevirtual 65, 3) := by decide +kernel
theorem dX4_enter_26 : decode cX4_enter 26 = .ok (.ireturn, 1) := by decide +kernel
theorem dX4_enter_27 : decode cX4_enter 27 = .ok (.aload_n 0, 1) := by decide +kernel
theorem dX4_enter_28 : decode cX4_enter 28 = .ok (.getfield 12, 3) := by decide +kernel
theorem dX4_enter_31 : decode cX4_enter 31 = .ok (.getfield 69, 3) := by decide +kernel
theorem dX4_enter_34 : decode cX4_enter 34 = .ok (.sipush 300, 3) := by decide +kernel
theorem dX4_enter_37 : decode cX4_enter 37 = .ok (.if_icmp .lt 10, 3) := by decide +kernel
theorem dX4_enter_40 : decode cX4_enter 40 = .ok (.aload_n 0, 1) := by decide +kernel
theorem dX4_enter_41 : decode cX4_enter 41 = .ok (.bipush (-5), 2) := by decide +kernel
theorem dX4_enter_43 : decode cX4_enter 43 = .ok (.invokevirtual 65, 3) := by decide +kernel
theorem dX4_enter_46 : decode cX4_enter 46 = .ok (.ireturn, 1) := by decide +kernel
theorem dX4_enter_47 : decode cX4_enter 47 = .ok (.aload_n 0, 1) := by decide +kernel
theorem dX4_enter_48 : decode cX4_enter 48 = .ok (.getfield 12, 3) := by decide +kernel
theorem dX4_enter_51 : decode cX4_enter 51 = .ok (.iload_n 2, 1) := by decide +kernel
theorem dX4_enter_52 : decode cX4_enter 52 = .ok (.iload_n 3, 1) := by decide +kernel
theorem dX4_enter_53 : decode cX4_enter 53 = .ok (.invokevirtual 73, 3) := by decide +kernel
theorem dX4_enter_56 : decode cX4_enter 56 = .ok (.istore 4, 2) := by decide +kernel
theorem dX4_enter_58 : decode cX4_enter 58 = .ok (.aload_n 0, 1) := by decide +kernel
theorem dX4_enter_59 : decode cX4_enter 59 = .ok (.getfield 12, 3) := by decide +kernel
theorem dX4_enter_62 : decode cX4_enter 62 = .ok (.iload 4, 2) := by decide +kernel
theorem dX4_enter_64 : decode cX4_enter 64 = .ok (.iload_n 1, 1) := by decide +kernel
theorem dX4_enter_65 : decode cX4_enter 65 = .ok (.invokevirtual 77, 3) := by decide +kernel
theorem dX4_enter_68 : decode cX4_enter 68 = .ok (.aload_n 0, 1) := by decide +kernel
theorem dX4_enter_69 : decode cX4_enter 69 = .ok (.getfield 12, 3) := by decide +kernel
theorem dX4_enter_72 : decode cX4_enter 72 = .ok (.invokevirtual 81, 3) := by decide +kernel
theorem dX4_enter_75 : decode cX4_enter 75 = .ok (.iload 4, 2) := by decide +kernel
theorem dX4_enter_77 : decode cX4_enter 77 = .ok (.ireturn, 1) := by decide +kernel
set_option maxRecDepth 20000 in
theorem ggX4_take_X4_isDesk : GoodIn wsX4_take wsX4_isDesk := goodIn_r _ [6] (by decide +kernel) (by decide +kernel)
set_option maxRecDepth 20000 in
theorem gX4_take_X4_isDesk : GoodIn wsX4_take (va_wsS RX4 55 yX4_isDesk wsX4_isDesk) := goodIn_app (goodIn_of _ (by decide +kernel)) ggX4_take_X4_isDesk
set_option maxRecDepth 20000 in
theorem ggX4_take_X4_refuse : GoodIn wsX4_take wsX4_refuse := goodIn_r _ [10, 11, 51, 52, 53, 54, 55, 56, 57, 58] (by decide +kernel) (by decide +kernel)
set_option maxRecDepth 20000 in
theorem gX4_take_X4_refuse : GoodIn wsX4_take (wsV RX4 65 RX4 yX4_refuse wsX4_refuse) := goodIn_app (goodIn_of _ (by decide +kernel)) ggX4_take_X4_refuse
set_option maxRecDepth 20000 in
theorem ggX4_take_X0_dispatch : GoodIn wsX4_take wsX0_dispatch := goodIn_r _ [16, 17, 18, 19, 20, 21, 22, 23, 24, 15, 25, 26, 27, 28, 29, 30, 31, 32, 33, 34, 35, 36, 37, 38, 39, 40, 41, 42, 43, 44, 45, 46, 47, 48, 49, 50, 59, 60, 61, 62, 63, 64, 65, 66, 67, 68, 69, 70, 71, 72, 73, 74, 75] (by decide +kernel) (by decide +kernel)
set_option maxRecDepth 20000 in
theorem gX4_take_X0_dispatch : GoodIn wsX4_take (wsV RX4 87 RX0 yX0_dispatch wsX0_dispatch) := goodIn_app (goodIn_of _ (by decide +kernel)) ggX4_take_X0_dispatch
theorem dX4_take_0 : decode cX4_take 0 = .ok (.iload_n 1, 1) := by decide +kernel
theorem dX4_take_1 : decode cX4_take 1 = .ok (.invokestatic 55, 3) := by decide +kernel
theorem dX4_take_4 : decode cX4_take 4 = .ok (.ifCond .ne 9, 3) := by decide +kernel
theorem dX4_take_7 : decode cX4_take 7 = .ok (.aload_n 0, 1) := by decide +kernel
theorem dX4_take_8 : decode cX4_take 8 = .ok (.iconst (-1), 1) := by decide +kernel
theorem dX4_take_9 : decode cX4_take 9 = .ok (.invokevirtual 65, 3) := by decide +kernel
theorem dX4_take_12 : decode cX4_take 12 = .ok (.ireturn, 1) := by decide +kernel
theorem dX4_take_13 : decode cX4_take 13 = .ok (.aload_n 0, 1) := by decide +kernel
theorem dX4_take_14 : decode cX4_take 14 = .ok (.getfield 12, 3) := by decide +kernel
theorem dX4_take_17 : decode cX4_take 17 = .ok (.getfield 84, 3) := by decide +kernel
theorem dX4_take_20 : decode cX4_take 20 = .ok (.iload_n 1, 1) := by decide +kernel
theorem dX4_take_21 : decode cX4_take 21 = .ok (.iaload, 1) := by decide +kernel
theorem dX4_take_22 : decode cX4_take 22 = .ok (.iconst (-1), 1) := by decide +kernel
theorem dX4_take_23 : decode cX4_take 23 = .ok (.if_icmp .ne 10, 3) := by decide +kernel
theorem dX4_take_26 : decode cX4_take 26 = .ok (.aload_n 0, 1) := by decide +kernel
theorem dX4_take_27 : decode cX4_take 27 = .ok (.bipush (-3), 2) := by decide +kernel
theorem dX4_take_29 : decode cX4_take 29 = .ok (.invokevirtual 65, 3) := by decide +kernel
theorem dX4_take_32 : decode cX4_take 32 = .ok (.ireturn, 1) := by decide +kernel
theorem dX4_take_33 : decode cX4_take 33 = .ok (.aload_n 0, 1) := by decide +kernel
theorem dX4_take_34 : decode cX4_take 34 = .ok (.getfield 12, 3) := by decide +kernel
theorem dX4_take_37 : decode cX4_take 37 = .ok (.iload_n 1, 1) := by decide +kernel
theorem dX4_take_38 : decode cX4_take 38 = .ok (.invokevirtual 87, 3) := by decide +kernel
theorem dX4_take_41 : decode cX4_take 41 = .ok (.ireturn, 1) := by decide +kernel
set_option maxRecDepth 20000 in
theorem ggX4_round_X4_refuse : GoodIn wsX4_round wsX4_refuse := goodIn_r _ [6, 7, 52, 53, 54, 55, 56, 57, 58, 59] (by decide +kernel) (by decide +kernel)
set_option maxRecDepth 20000 in
theorem gX4_round_X4_refuse : GoodIn wsX4_round (wsV RX4 65 RX4 yX4_refuse wsX4_refuse) := goodIn_app (goodIn_of _ (by decide +kernel)) ggX4_round_X4_refuse
set_option maxRecDepth 20000 in
theorem ggX4_round_X0_callNext : GoodIn wsX4_round wsX0_callNext := goodIn_r _ [12, 13, 14, 15, 16, 11, 17, 18, 19, 20, 21, 22, 23, 24, 25, 26, 27, 28, 29, 30, 31, 32, 33, 34, 35, 36, 37, 38, 39, 40, 41, 42, 43, 44, 45, 46, 47, 48, 49, 50, 51, 60, 61, 62, 63, 64, 65, 66, 67, 68, 69, 70, 71, 72, 73, 74, 75, 76] (by decide +kernel) (by decide +kernel)
set_option maxRecDepth 20000 in
theorem gX4_round_X0_callNext : GoodIn wsX4_round (wsV RX4 90 RX0 yX0_callNext wsX0_callNext) := goodIn_app (goodIn_of _ (by decide +kernel)) ggX4_round_X0_callNext
theorem dX4_round_0 : decode cX4_round 0 = .ok (.iload_n 1, 1) := by decide +kernel
theorem dX4_round_1 : decode cX4_round 1 = .ok (.iconst 1, 1) := by decide +kernel
theorem dX4_round_2 : decode cX4_round 2 = .ok (.if_icmp .lt 9, 3) := by decide +kernel
theorem dX4_round_5 : decode cX4_round 5 = .ok (.iload_n 1, 1) := by decide +kernel
theorem dX4_round_6 : decode cX4_round 6 = .ok (.bipush 30, 2) := by decide +kernel
theorem dX4_round_8 : decode cX4_round 8 = .ok (.if_icmp .le 9, 3) := by decide +kernel
theorem dX4_round_11 : decode cX4_round 11 = .ok (.aload_n 0, 1) := by decide +kernel
theorem dX4_round_12 : decode cX4_round 12 = .ok (.iconst (-1), 1) := by decide +kernel
theorem dX4_round_13 : decode cX4_round 13 = .ok (.invokevirtual 65, 3) := by decide +kernel
theorem dX4_round_16 : decode cX4_round 16 = .ok (.ireturn, 1) := by decide +kernel
theorem dX4_round_17 : decode cX4_round 17 = .ok (.iconst 0, 1) := by decide +kernel
theorem dX4_round_18 : decode cX4_round 18 = .ok (.istore_n 2, 1) := by decide +kernel
theorem dX4_round_19 : decode cX4_round 19 = .ok (.iconst 0, 1) := by decide +kernel
theorem dX4_round_20 : decode cX4_round 20 = .ok (.istore_n 3, 1) := by decide +kernel
theorem dX4_round_21 : decode cX4_round 21 = .ok (.iload_n 3, 1) := by decide +kernel
theorem dX4_round_22 : decode cX4_round 22 = .ok (.iload_n 1, 1) := by decide +kernel
theorem dX4_round_23 : decode cX4_round 23 = .ok (.if_icmp .ge 23, 3) := by decide +kernel
theorem dX4_round_26 : decode cX4_round 26 = .ok (.aload_n 0, 1) := by decide +kernel
theorem dX4_round_27 : decode cX4_round 27 = .ok (.getfield 12, 3) := by decide +kernel
theorem dX4_round_30 : decode cX4_round 30 = .ok (.invokevirtual 90, 3) := by decide +kernel
theorem dX4_round_33 : decode cX4_round 33 = .ok (.iconst (-1), 1) := by decide +kernel
theorem dX4_round_34 : decode cX4_round 34 = .ok (.if_icmp .eq 6, 3) := by decide +kernel
theorem dX4_round_37 : decode cX4_round 37 = .ok (.iinc 2 1, 3) := by decide +kernel
theorem dX4_round_40 : decode cX4_round 40 = .ok (.iinc 3 1, 3) := by decide +kernel
theorem dX4_round_43 : decode cX4_round 43 = .ok (.goto (-22), 3) := by decide +kernel
theorem dX4_round_46 : decode cX4_round 46 = .ok (.iload_n 2, 1) := by decide +kernel
theorem dX4_round_47 : decode cX4_round 47 = .ok (.ireturn, 1) := by decide +kernel
set_option maxRecDepth 20000 in
theorem ggX4_cross_X4_setCrossed : GoodIn wsX4_cross wsX4_setCrossed := goodIn_r _ [5, 6, 7, 8, 9, 10, 11, 12, 13, 14, 15, 16, 17, 18, 4, 19, 20, 21, 22, 23, 24, 25, 26, 27, 28, 29, 30, 31, 32, 33, 34, 35, 36, 37, 38, 39, 40, 41, 42, 43, 44, 45, 46, 47, 48, 49, 50, 51, 52, 53, 54, 55, 56, 57, 58, 59, 60, 61, 62, 63, 64, 65, 66, 67, 68, 69, 70, 71, 72, 73, 74, 75, 76, 77, 78, 79, 80, 81, 82] (by decide +kernel) (by decide +kernel)
set_option maxRecDepth 20000 in
theorem gX4_cross_X4_setCrossed : GoodIn wsX4_cross (wsV RX4 94 RX4 yX4_setCrossed wsX4_setCrossed) := goodIn_app (goodIn_of _ (by decide +kernel)) ggX4_cross_X4_setCrossed
theorem dX4_cross_0 : decode cX4_cross 0 = .ok (.aload_n 0, 1) := by decide +kernel
theorem dX4_cross_1 : decode cX4_cross 1 = .ok (.iload_n 1, 1) := by decide +kernel
theorem dX4_cross_2 : decode cX4_cross 2 = .ok (.iconst 1, 1) := by decide +kernel
theorem dX4_cross_3 : decode cX4_cross 3 = .ok (.invokevirtual 94, 3) := by decide +kernel
theorem dX4_cross_6 : decode cX4_cross 6 = .ok (.ireturn, 1) := by decide +kernel
set_option maxRecDepth 20000 in
theorem ggX4_uncross_X4_setCrossed : GoodIn wsX4_uncross wsX4_setCrossed := goodIn_r _ [5, 6, 7, 8, 9, 10, 11, 12, 13, 14, 15, 16, 17, 18, 4, 19, 20, 21, 22, 23, 24, 25, 26, 27, 28, 29, 30, 31, 32, 33, 34, 35, 36, 37, 38, 39, 40, 41, 42, 43, 44, 45, 46, 47, 48, 49, 50, 51, 52, 53, 54, 55, 56, 57, 58, 59, 60, 61, 62, 63, 64, 65, 66, 67, 68, 69, 70, 71, 72, 73, 74, 75, 76, 77, 78, 79, 80, 81, 82] (by decide +kernel) (by decide +kernel)
set_option maxRecDepth 20000 in
theorem gX4_uncross_X4_setCrossed : GoodIn wsX4_uncross (wsV RX4 94 RX4 yX4_setCrossed wsX4_setCrossed) := goodIn_app (goodIn_of _ (by decide +kernel)) ggX4_uncross_X4_setCrossed
theorem dX4_uncross_0 : decode cX4_uncross 0 = .ok (.aload_n 0, 1) := by decide +kernel
theorem dX4_uncross_1 : decode cX4_uncross 1 = .ok (.iload_n 1, 1) := by decide +kernel
theorem dX4_uncross_2 : decode cX4_uncross 2 = .ok (.iconst 0, 1) := by decide +kernel
theorem dX4_uncross_3 : decode cX4_uncross 3 = .ok (.invokevirtual 94, 3) := by decide +kernel
theorem dX4_uncross_6 : decode cX4_uncross 6 = .ok (.ireturn, 1) := by decide +kernel
set_option maxRecDepth 20000 in
theorem ggX4_cut_X0_isThere : GoodIn wsX4_cut wsX0_isThere := goodIn_r _ [7, 8, 9, 61, 62, 63, 64, 65, 66, 67, 68, 69, 70, 71, 72, 73, 74, 75, 76, 77] (by decide +kernel) (by decide +kernel)
set_option maxRecDepth 20000 in
theorem gX4_cut_X0_isThere : GoodIn wsX4_cut (wsV RX4 97 RX0 yX0_isThere wsX0_isThere) := goodIn_app (goodIn_of _ (by decide +kernel)) ggX4_cut_X0_isThere
set_option maxRecDepth 20000 in
theorem ggX4_cut_X4_refuse : GoodIn wsX4_cut wsX4_refuse := goodIn_r _ [14, 15, 53, 54, 55, 56, 57, 58, 59, 60] (by decide +kernel) (by decide +kernel)
set_option maxRecDepth 20000 in
theorem gX4_cut_X4_refuse : GoodIn wsX4_cut (wsV RX4 65 RX4 yX4_refuse wsX4_refuse) := goodIn_app (goodIn_of _ (by decide +kernel)) ggX4_cut_X4_refuse
set_option maxRecDepth 20000 in
theorem ggX4_cut_X0_cutOut : GoodIn wsX4_cut wsX0_cutOut := goodIn_r _ [19, 20, 21, 22, 23, 9, 24, 25, 26, 6, 27, 28, 29, 30, 31, 32, 33, 34, 35, 36, 37, 38, 61, 62, 63, 64, 65, 66, 67, 68, 69, 70, 71, 72, 73, 74, 75, 76, 77] (by decide +kernel) (by decide +kernel)
set_option maxRecDepth 20000 in
theorem gX4_cut_X0_cutOut : GoodIn wsX4_cut (wsV RX4 103 RX0 yX0_cutOut wsX0_cutOut) := goodIn_app (goodIn_of _ (by decide +kernel)) ggX4_cut_X0_cutOut
set_option maxRecDepth 20000 in
theorem ggX4_cut_X0_sweep : GoodIn wsX4_cut wsX0_sweep := goodIn_r _ [42, 23, 43, 44, 45, 46, 47, 6, 48, 21, 22, 9, 24, 25, 26, 27, 20, 28, 29, 30, 31, 32, 33, 34, 35, 36, 37, 38, 61, 62, 63, 64, 65, 66, 67, 68, 69, 70, 71, 72, 73, 74, 75, 76, 77] (by decide +kernel) (by decide +kernel)
set_option maxRecDepth 20000 in
theorem gX4_cut_X0_sweep : GoodIn wsX4_cut (wsV RX4 81 RX0 yX0_sweep wsX0_sweep) := goodIn_app (goodIn_of _ (by decide +kernel)) ggX4_cut_X0_sweep
set_option maxRecDepth 20000 in
theorem ggX4_cut_X0_allIn : GoodIn wsX4_cut wsX0_allIn := goodIn_r _ [52, 8, 9, 61, 62, 63, 64, 65, 66, 67, 68, 69, 70, 71, 72, 73, 74, 75, 76, 77] (by decide +kernel) (by decide +kernel)
set_option maxRecDepth 20000 in
theorem gX4_cut_X0_allIn : GoodIn wsX4_cut (wsV RX4 107 RX0 yX0_allIn wsX0_allIn) := goodIn_app (goodIn_of _ (by decide +kernel)) ggX4_cut_X0_allIn
theorem dX4_cut_0 : decode cX4_cut 0 = .ok (.aload_n 0, 1) := by decide +kernel
theorem dX4_cut_1 : decode cX4_cut 1 = .ok (.getfield 12, 3) := by decide +kernel
theorem dX4_cut_4 : decode cX4_cut 4 = .ok (.iload_n 1, 1) := by decide +kernel
theorem dX4_cut_5 : decode cX4_cut 5 = .ok (.invokevirtual 97, 3) := by decide +kernel
theorem dX4_cut_8 : decode cX4_cut 8 = .ok (.ifCond .ne 10, 3) := by decide +kernel
theorem dX4_cut_11 : decode cX4_cut 11 = .ok (.aload_n 0, 1) := by decide +kernel
theorem dX4_cut_12 : decode cX4_cut 12 = .ok (.bipush (-2), 2) := by decide +kernel
theorem dX4_cut_14 : decode cX4_cut 14 = .ok (.invokevirtual 65, 3) := by decide +kernel
theorem dX4_cut_17 : decode cX4_cut 17 = .ok (.ireturn, 1) := by decide +kernel
theorem dX4_cut_18 : decode cX4_cut 18 = .ok (.aload_n 0, 1) := by decide +kernel
theorem dX4_cut_19 : decode cX4_cut 19 = .ok (.getfield 12, 3) := by decide +kernel
theorem dX4_cut_22 : decode cX4_cut 22 = .ok (.getfield 100, 3) := by decide +kernel
theorem dX4_cut_25 : decode cX4_cut 25 = .ok (.iload_n 1, 1) := by decide +kernel
theorem dX4_cut_26 : decode cX4_cut 26 = .ok (.iaload, 1) := by decide +kernel
theorem dX4_cut_27 : decode cX4_cut 27 = .ok (.istore_n 2, 1) := by decide +kernel
theorem dX4_cut_28 : decode cX4_cut 28 = .ok (.aload_n 0, 1) := by decide +kernel
theorem dX4_cut_29 : decode cX4_cut 29 = .ok (.getfield 12, 3) := by decide +kernel
theorem dX4_cut_32 : decode cX4_cut 32 = .ok (.iload_n 1, 1) := by decide +kernel
theorem dX4_cut_33 : decode cX4_cut 33 = .ok (.invokevirtual 103, 3) := by decide +kernel
theorem dX4_cut_36 : decode cX4_cut 36 = .ok (.aload_n 0, 1) := by decide +kernel
theorem dX4_cut_37 : decode cX4_cut 37 = .ok (.getfield 12, 3) := by decide +kernel
theorem dX4_cut_40 : decode cX4_cut 40 = .ok (.invokevirtual 81, 3) := by decide +kernel
theorem dX4_cut_43 : decode cX4_cut 43 = .ok (.aload_n 0, 1) := by decide +kernel
theorem dX4_cut_44 : decode cX4_cut 44 = .ok (.getfield 12, 3) := by decide +kernel
theorem dX4_cut_47 : decode cX4_cut 47 = .ok (.iload_n 2, 1) := by decide +kernel
theorem dX4_cut_48 : decode cX4_cut 48 = .ok (.invokevirtual 107, 3) := by decide +kernel
theorem dX4_cut_51 : decode cX4_cut 51 = .ok (.ireturn, 1) := by decide +kernel
set_option maxRecDepth 20000 in
theorem ggX4_rekey_X4_isKey : GoodIn wsX4_rekey wsX4_isKey := goodIn_r _ [7, 8, 9] (by decide +kernel) (by decide +kernel)
set_option maxRecDepth 20000 in
theorem gX4_rekey_X4_isKey : GoodIn wsX4_rekey (va_wsS RX4 59 yX4_isKey wsX4_isKey) := goodIn_app (goodIn_of _ (by decide +kernel)) ggX4_rekey_X4_isKey
set_option maxRecDepth 20000 in
theorem ggX4_rekey_X4_refuse : GoodIn wsX4_rekey wsX4_refuse := goodIn_r _ [13, 14, 67, 68, 69, 70, 71, 72, 73, 74] (by decide +kernel) (by decide +kernel)
set_option maxRecDepth 20000 in
theorem gX4_rekey_X4_refuse : GoodIn wsX4_rekey (wsV RX4 65 RX4 yX4_refuse wsX4_refuse) := goodIn_app (goodIn_of _ (by decide +kernel)) ggX4_rekey_X4_refuse
set_option maxRecDepth 20000 in
theorem ggX4_rekey_X0_isThere : GoodIn wsX4_rekey wsX0_isThere := goodIn_r _ [19, 20, 21, 75, 76, 77, 78, 79, 80, 81, 82, 83, 84, 85, 86, 87, 88, 89, 90, 91] (by decide +kernel) (by decide +kernel)
set_option maxRecDepth 20000 in
theorem gX4_rekey_X0_isThere : GoodIn wsX4_rekey (wsV RX4 97 RX0 yX0_isThere wsX0_isThere) := goodIn_app (goodIn_of _ (by decide +kernel)) ggX4_rekey_X0_isThere
set_option maxRecDepth 20000 in
theorem ggX4_rekey_X0_cutOut : GoodIn wsX4_rekey wsX0_cutOut := goodIn_r _ [25, 26, 27, 28, 29, 21, 30, 31, 32, 18, 33, 34, 35, 36, 37, 38, 39, 40, 41, 42, 43, 44, 75, 76, 77, 78, 79, 80, 81, 82, 83, 84, 85, 86, 87, 88, 89, 90, 91] (by decide +kernel) (by decide +kernel)
set_option maxRecDepth 20000 in
theorem gX4_rekey_X0_cutOut : GoodIn wsX4_rekey (wsV RX4 103 RX0 yX0_cutOut wsX0_cutOut) := goodIn_app (goodIn_of _ (by decide +kernel)) ggX4_rekey_X0_cutOut
set_option maxRecDepth 20000 in
theorem ggX4_rekey_X0_place : GoodIn wsX4_rekey wsX0_place := goodIn_r _ [48, 27, 28, 26, 44, 21, 29, 30, 31, 32, 18, 33, 34, 35, 36, 37, 38, 39, 40, 41, 42, 43, 75, 76, 77, 78, 79, 80, 81, 82, 83, 84, 85, 86, 87, 88, 89, 90, 91] (by decide +kernel) (by decide +kernel)
set_option maxRecDepth 20000 in
theorem gX4_rekey_X0_place : GoodIn wsX4_rekey (wsV RX4 77 RX0 yX0_place wsX0_place) := goodIn_app (goodIn_of _ (by decide +kernel)) ggX4_rekey_X0_place
set_option maxRecDepth 20000 in
theorem ggX4_rekey_X0_sweep : GoodIn wsX4_rekey wsX0_sweep := goodIn_r _ [52, 29, 53, 54, 55, 56, 57, 18, 58, 27, 28, 21, 30, 31, 32, 33, 26, 34, 35, 36, 37, 38, 39, 40, 41, 42, 43, 44, 75, 76, 77, 78, 79, 80, 81, 82, 83, 84, 85, 86, 87, 88, 89, 90, 91] (by decide +kernel) (by decide +kernel)
set_option maxRecDepth 20000 in
theorem gX4_rekey_X0_sweep : GoodIn wsX4_rekey (wsV RX4 81 RX0 yX0_sweep wsX0_sweep) := goodIn_app (goodIn_of _ (by decide +kernel)) ggX4_rekey_X0_sweep
set_option maxRecDepth 20000 in
theorem ggX4_rekey_X0_plainLess : GoodIn wsX4_rekey wsX0_plainLess := goodIn_r _ [62, 20, 63, 64, 65, 18, 66, 21, 53, 35, 36, 37, 38, 39, 75, 76, 77, 78, 79, 80, 81, 82, 83, 84, 85, 86, 87, 88, 89, 90, 91] (by decide +kernel) (by decide +kernel)
set_option maxRecDepth 20000 in
theorem gX4_rekey_X0_plainLess : GoodIn wsX4_rekey (wsV RX4 114 RX0 yX0_plainLess wsX0_plainLess) := goodIn_app (goodIn_of _ (by decide +kernel)) ggX4_rekey_X0_plainLess
theorem dX4_rekey_0 : decode cX4_rekey 0 = .ok (.iload_n 2, 1) := by decide +kernel
theorem dX4_rekey_1 : decode cX4_rekey 1 = .ok (.invokestatic 59, 3) := by decide +kernel
theorem dX4_rekey_4 : decode cX4_rekey 4 = .ok (.ifCond .ne 9, 3) := by decide +kernel
theorem dX4_rekey_7 : decode cX4_rekey 7 = .ok (.aload_n 0, 1) := by decide +kernel
theorem dX4_rekey_8 : decode cX4_rekey 8 = .ok (.iconst (-1), 1) := by decide +kernel
theorem dX4_rekey_9 : decode cX4_rekey 9 = .ok (.invokevirtual 65, 3) := by decide +kernel
theorem dX4_rekey_12 : decode cX4_rekey 12 = .ok (.ireturn, 1) := by decide +kernel
theorem dX4_rekey_13 : decode cX4_rekey 13 = .ok (.aload_n 0, 1) := by decide +kernel
theorem dX4_rekey_14 : decode cX4_rekey 14 = .ok (.getfield 12, 3) := by decide +kernel
theorem dX4_rekey_17 : decode cX4_rekey 17 = .ok (.iload_n 1, 1) := by decide +kernel
theorem dX4_rekey_18 : decode cX4_rekey 18 = .ok (.invokevirtual 97, 3) := by decide +kernel
theorem dX4_rekey_21 : decode cX4_rekey 21 = .ok (.ifCond .ne 10, 3) := by decide +kernel
theorem dX4_rekey_24 : decode cX4_rekey 24 = .ok (.aload_n 0, 1) := by decide +kernel
theorem dX4_rekey_25 : decode cX4_rekey 25 = .ok (.bipush (-2), 2) := by decide +kernel
theorem dX4_rekey_27 : decode cX4_rekey 27 = .ok (.invokevirtual 65, 3) := by decide +kernel
theorem dX4_rekey_30 : decode cX4_rekey 30 = .ok (.ireturn, 1) := by decide +kernel
theorem dX4_rekey_31 : decode cX4_rekey 31 = .ok (.aload_n 0, 1) := by decide +kernel
theorem dX4_rekey_32 : decode cX4_rekey 32 = .ok (.getfield 12, 3) := by decide +kernel
theorem dX4_rekey_35 : decode cX4_rekey 35 = .ok (.getfield 110, 3) := by decide +kernel
theorem dX4_rekey_38 : decode cX4_rekey 38 = .ok (.iload_n 1, 1) := by decide +kernel
theorem dX4_rekey_39 : decode cX4_rekey 39 = .ok (.laload, 1) := by decide +kernel
theorem dX4_rekey_40 : decode cX4_rekey 40 = .ok (.iload_n 2, 1) := by decide +kernel
theorem dX4_rekey_41 : decode cX4_rekey 41 = .ok (.i2l, 1) := by decide +kernel
theorem dX4_rekey_42 : decode cX4_rekey 42 = .ok (.lcmp, 1) := by decide +kernel
theorem dX4_rekey_43 : decode cX4_rekey 43 = .ok (.ifCond .ne 10, 3) := by decide +kernel
theorem dX4_rekey_46 : decode cX4_rekey 46 = .ok (.aload_n 0, 1) := by decide +kernel
theorem dX4_rekey_47 : decode cX4_rekey 47 = .ok (.bipush (-4), 2) := by decide +kernel
theorem dX4_rekey_49 : decode cX4_rekey 49 = .ok (.invokevirtual 65, 3) := by decide +kernel
theorem dX4_rekey_52 : decode cX4_rekey 52 = .ok (.ireturn, 1) := by decide +kernel
theorem dX4_rekey_53 : decode cX4_rekey 53 = .ok (.aload_n 0, 1) := by decide +kernel
theorem dX4_rekey_54 : decode cX4_rekey 54 = .ok (.getfield 12, 3) := by decide +kernel
theorem dX4_rekey_57 : decode cX4_rekey 57 = .ok (.getfield 100, 3) := by decide +kernel
theorem dX4_rekey_60 : decode cX4_rekey 60 = .ok (.iload_n 1, 1) := by decide +kernel
theorem dX4_rekey_61 : decode cX4_rekey 61 = .ok (.iaload, 1) := by decide +kernel
theorem dX4_rekey_62 : decode cX4_rekey 62 = .ok (.istore_n 3, 1) := by decide +kernel
theorem dX4_rekey_63 : decode cX4_rekey 63 = .ok (.aload_n 0, 1) := by decide +kernel
theorem dX4_rekey_64 : decode cX4_rekey 64 = .ok (.getfield 12, 3) := by decide +kernel
theorem dX4_rekey_67 : decode cX4_rekey 67 = .ok (.iload_n 1, 1) := by decide +kernel
theorem dX4_rekey_68 : decode cX4_rekey 68 = .ok (.invokevirtual 103, 3) := by decide +kernel
theorem dX4_rekey_71 : decode cX4_rekey 71 = .ok (.aload_n 0, 1) := by decide +kernel
theorem dX4_rekey_72 : decode cX4_rekey 72 = .ok (.getfield 12, 3) := by decide +kernel
theorem dX4_rekey_75 : decode cX4_rekey 75 = .ok (.getfield 110, 3) := by decide +kernel
theorem dX4_rekey_78 : decode cX4_rekey 78 = .ok (.iload_n 1, 1) := by decide +kernel
theorem dX4_rekey_79 : decode cX4_rekey 79 = .ok (.iload_n 2, 1) := by decide +kernel
theorem dX4_rekey_80 : decode cX4_rekey 80 = .ok (.i2l, 1) := by decide +kernel
theorem dX4_rekey_81 : decode cX4_rekey 81 = .ok (.lastore, 1) := by decide +kernel
theorem dX4_rekey_82 : decode cX4_rekey 82 = .ok (.aload_n 0, 1) := by decide +kernel
theorem dX4_rekey_83 : decode cX4_rekey 83 = .ok (.getfield 12, 3) := by decide +kernel
theorem dX4_rekey_86 : decode cX4_rekey 86 = .ok (.iload_n 1, 1) := by decide +kernel
theorem dX4_rekey_87 : decode cX4_rekey 87 = .ok (.iload_n 3, 1) := by decide +kernel
theorem dX4_rekey_88 : decode cX4_rekey 88 = .ok (.invokevirtual 77, 3) := by decide +kernel
theorem dX4_rekey_91 : decode cX4_rekey 91 = .ok (.aload_n 0, 1) := by decide +kernel
theorem dX4_rekey_92 : decode cX4_rekey 92 = .ok (.getfield 12, 3) := by decide +kernel
theorem dX4_rekey_95 : decode cX4_rekey 95 = .ok (.invokevirtual 81, 3) := by decide +kernel
theorem dX4_rekey_98 : decode cX4_rekey 98 = .ok (.aload_n 0, 1) := by decide +kernel
theorem dX4_rekey_99 : decode cX4_rekey 99 = .ok (.getfield 12, 3) := by decide +kernel
theorem dX4_rekey_102 : decode cX4_rekey 102 = .ok (.iload_n 3, 1) := by decide +kernel
theorem dX4_rekey_103 : decode cX4_rekey 103 = .ok (.iload_n 1, 1) := by decide +kernel
theorem dX4_rekey_104 : decode cX4_rekey 104 = .ok (.invokevirtual 114, 3) := by decide +kernel
theorem dX4_rekey_107 : decode cX4_rekey 107 = .ok (.ireturn, 1) := by decide +kernel
set_option maxRecDepth 20000 in
theorem ggX4_raise_X4_isDesk : GoodIn wsX4_raise wsX4_isDesk := goodIn_r _ [8] (by decide +kernel) (by decide +kernel)
set_option maxRecDepth 20000 in
theorem gX4_raise_X4_isDesk : GoodIn wsX4_raise (va_wsS RX4 55 yX4_isDesk wsX4_isDesk) := goodIn_app (goodIn_of _ (by decide +kernel)) ggX4_raise_X4_isDesk
set_option maxRecDepth 20000 in
theorem ggX4_raise_X4_refuse : GoodIn wsX4_raise wsX4_refuse := goodIn_r _ [12, 13, 54, 55, 56, 57, 58, 59, 60, 61] (by decide +kernel) (by decide +kernel)
set_option maxRecDepth 20000 in
theorem gX4_raise_X4_refuse : GoodIn wsX4_raise (wsV RX4 65 RX4 yX4_refuse wsX4_refuse) := goodIn_app (goodIn_of _ (by decide +kernel)) ggX4_raise_X4_refuse
set_option maxRecDepth 20000 in
theorem ggX4_raise_X0_raiseAll : GoodIn wsX4_raise wsX0_raiseAll := goodIn_r _ [18, 19, 20, 21, 62, 63, 64, 65, 66, 67, 68, 69, 70, 71, 72, 73, 74, 75, 76, 77, 78] (by decide +kernel) (by decide +kernel)
set_option maxRecDepth 20000 in
theorem gX4_raise_X0_raiseAll : GoodIn wsX4_raise (wsV RX4 119 RX0 yX0_raiseAll wsX0_raiseAll) := goodIn_app (goodIn_of _ (by decide +kernel)) ggX4_raise_X0_raiseAll
set_option maxRecDepth 20000 in
theorem ggX4_raise_X0_sweep : GoodIn wsX4_raise wsX0_sweep := goodIn_r _ [25, 26, 27, 28, 29, 30, 31, 17, 32, 33, 34, 20, 35, 36, 37, 38, 39, 40, 41, 42, 43, 44, 21, 45, 46, 47, 48, 49, 62, 63, 64, 65, 66, 67, 68, 69, 70, 71, 72, 73, 74, 75, 76, 77, 78] (by decide +kernel) (by decide +kernel)
set_option maxRecDepth 20000 in
theorem gX4_raise_X0_sweep : GoodIn wsX4_raise (wsV RX4 81 RX0 yX0_sweep wsX0_sweep) := goodIn_app (goodIn_of _ (by decide +kernel)) ggX4_raise_X0_sweep
set_option maxRecDepth 20000 in
theorem ggX4_raise_X0_allIn : GoodIn wsX4_raise wsX0_allIn := goodIn_r _ [53, 19, 20, 62, 63, 64, 65, 66, 67, 68, 69, 70, 71, 72, 73, 74, 75, 76, 77, 78] (by decide +kernel) (by decide +kernel)
set_option maxRecDepth 20000 in
theorem gX4_raise_X0_allIn : GoodIn wsX4_raise (wsV RX4 107 RX0 yX0_allIn wsX0_allIn) := goodIn_app (goodIn_of _ (by decide +kernel)) ggX4_raise_X0_allIn
theorem dX4_raise_0 : decode cX4_raise 0 = .ok (.iload_n 1, 1) := by decide +kernel
theorem dX4_raise_1 : decode cX4_raise 1 = .ok (.invokestatic 55, 3) := by decide +kernel
theorem dX4_raise_4 : decode cX4_raise 4 = .ok (.ifCond .eq 15, 3) := by decide +kernel
theorem dX4_raise_7 : decode cX4_raise 7 = .ok (.iload_n 2, 1) := by decide +kernel
theorem dX4_raise_8 : decode cX4_raise 8 = .ok (.ldc 117, 2) := by decide +kernel
theorem dX4_raise_10 : decode cX4_raise 10 = .ok (.if_icmp .lt 9, 3) := by decide +kernel
theorem dX4_raise_13 : decode cX4_raise 13 = .ok (.iload_n 2, 1) := by decide +kernel
theorem dX4_raise_14 : decode cX4_raise 14 = .ok (.ldc 118, 2) := by decide +kernel
theorem dX4_raise_16 : decode cX4_raise 16 = .ok (.if_icmp .le 9, 3) := by decide +kernel
theorem dX4_raise_19 : decode cX4_raise 19 = .ok (.aload_n 0, 1) := by decide +kernel
theorem dX4_raise_20 : decode cX4_raise 20 = .ok (.iconst (-1), 1) := by decide +kernel
theorem dX4_raise_21 : decode cX4_raise 21 = .ok (.invokevirtual 65, 3) := by decide +kernel
theorem dX4_raise_24 : decode cX4_raise 24 = .ok (.ireturn, 1) := by decide +kernel
theorem dX4_raise_25 : decode cX4_raise 25 = .ok (.aload_n 0, 1) := by decide +kernel
theorem dX4_raise_26 : decode cX4_raise 26 = .ok (.getfield 12, 3) := by decide +kernel
theorem dX4_raise_29 : decode cX4_raise 29 = .ok (.getfield 84, 3) := by decide +kernel
theorem dX4_raise_32 : decode cX4_raise 32 = .ok (.iload_n 1, 1) := by decide +kernel
theorem dX4_raise_33 : decode cX4_raise 33 = .ok (.iaload, 1) := by decide +kernel
theorem dX4_raise_34 : decode cX4_raise 34 = .ok (.iconst (-1), 1) := by decide +kernel
theorem dX4_raise_35 : decode cX4_raise 35 = .ok (.if_icmp .ne 10, 3) := by decide +kernel
theorem dX4_raise_38 : decode cX4_raise 38 = .ok (.aload_n 0, 1) := by decide +kernel
theorem dX4_raise_39 : decode cX4_raise 39 = .ok (.bipush (-3), 2) := by decide +kernel
theorem dX4_raise_41 : decode cX4_raise 41 = .ok (.invokevirtual 65, 3) := by decide +kernel
theorem dX4_raise_44 : decode cX4_raise 44 = .ok (.ireturn, 1) := by decide +kernel
theorem dX4_raise_45 : decode cX4_raise 45 = .ok (.aload_n 0, 1) := by decide +kernel
theorem dX4_raise_46 : decode cX4_raise 46 = .ok (.getfield 12, 3) := by decide +kernel
theorem dX4_raise_49 : decode cX4_raise 49 = .ok (.iload_n 1, 1) := by decide +kernel
theorem dX4_raise_50 : decode cX4_raise 50 = .ok (.iload_n 2, 1) := by decide +kernel
theorem dX4_raise_51 : decode cX4_raise 51 = .ok (.invokevirtual 119, 3) := by decide +kernel
theorem dX4_raise_54 : decode cX4_raise 54 = .ok (.aload_n 0, 1) := by decide +kernel
theorem dX4_raise_55 : decode cX4_raise 55 = .ok (.getfield 12, 3) := by decide +kernel
theorem dX4_raise_58 : decode cX4_raise 58 = .ok (.invokevirtual 81, 3) := by decide +kernel
theorem dX4_raise_61 : decode cX4_raise 61 = .ok (.aload_n 0, 1) := by decide +kernel
theorem dX4_raise_62 : decode cX4_raise 62 = .ok (.getfield 12, 3) := by decide +kernel
theorem dX4_raise_65 : decode cX4_raise 65 = .ok (.iload_n 1, 1) := by decide +kernel
theorem dX4_raise_66 : decode cX4_raise 66 = .ok (.invokevirtual 107, 3) := by decide +kernel
theorem dX4_raise_69 : decode cX4_raise 69 = .ok (.ireturn, 1) := by decide +kernel
set_option maxRecDepth 20000 in
theorem ggX4_meld_X4_areTwoDesks : GoodIn wsX4_meld wsX4_areTwoDesks := goodIn_r _ [7, 8, 9, 6, 10] (by decide +kernel) (by decide +kernel)
set_option maxRecDepth 20000 in
theorem gX4_meld_X4_areTwoDesks : GoodIn wsX4_meld (va_wsS RX4 122 yX4_areTwoDesks wsX4_areTwoDesks) := goodIn_app (goodIn_of _ (by decide +kernel)) ggX4_meld_X4_areTwoDesks
set_option maxRecDepth 20000 in
theorem ggX4_meld_X4_refuse : GoodIn wsX4_meld wsX4_refuse := goodIn_r _ [14, 15, 56, 57, 58, 59, 60, 61, 62, 63] (by decide +kernel) (by decide +kernel)
set_option maxRecDepth 20000 in
theorem gX4_meld_X4_refuse : GoodIn wsX4_meld (wsV RX4 65 RX4 yX4_refuse wsX4_refuse) := goodIn_app (goodIn_of _ (by decide +kernel)) ggX4_meld_X4_refuse
set_option maxRecDepth 20000 in
theorem ggX4_meld_X0_meldInto : GoodIn wsX4_meld wsX0_meldInto := goodIn_r _ [20, 21, 22, 23, 24, 19, 25, 26, 27, 28, 29, 30, 31, 32, 33, 34, 35, 36, 37, 38, 39, 40, 41, 42, 43, 44, 45, 64, 65, 66, 67, 68, 69, 70, 71, 72, 73, 74, 75, 76, 77, 78, 79, 80] (by decide +kernel) (by decide +kernel)
set_option maxRecDepth 20000 in
theorem gX4_meld_X0_meldInto : GoodIn wsX4_meld (wsV RX4 129 RX0 yX0_meldInto wsX0_meldInto) := goodIn_app (goodIn_of _ (by decide +kernel)) ggX4_meld_X0_meldInto
set_option maxRecDepth 20000 in
theorem ggX4_meld_X0_sweep : GoodIn wsX4_meld wsX0_sweep := goodIn_r _ [49, 21, 50, 51, 52, 53, 54, 19, 55, 38, 27, 45, 22, 23, 24, 25, 26, 28, 29, 30, 31, 32, 33, 34, 35, 36, 37, 39, 64, 65, 66, 67, 68, 69, 70, 71, 72, 73, 74, 75, 76, 77, 78, 79, 80] (by decide +kernel) (by decide +kernel)
set_option maxRecDepth 20000 in
theorem gX4_meld_X0_sweep : GoodIn wsX4_meld (wsV RX4 81 RX0 yX0_sweep wsX0_sweep) := goodIn_app (goodIn_of _ (by decide +kernel)) ggX4_meld_X0_sweep
theorem dX4_meld_0 : decode cX4_meld 0 = .ok (.iload_n 1, 1) := by decide +kernel
theorem dX4_meld_1 : decode cX4_meld 1 = .ok (.iload_n 2, 1) := by decide +kernel
theorem dX4_meld_2 : decode cX4_meld 2 = .ok (.invokestatic 122, 3) := by decide +kernel
theorem dX4_meld_5 : decode cX4_meld 5 = .ok (.ifCond .ne 9, 3) := by decide +kernel
theorem dX4_meld_8 : decode cX4_meld 8 = .ok (.aload_n 0, 1) := by decide +kernel
theorem dX4_meld_9 : decode cX4_meld 9 = .ok (.iconst (-1), 1) := by decide +kernel
theorem dX4_meld_10 : decode cX4_meld 10 = .ok (.invokevirtual 65, 3) := by decide +kernel
theorem dX4_meld_13 : decode cX4_meld 13 = .ok (.ireturn, 1) := by decide +kernel
theorem dX4_meld_14 : decode cX4_meld 14 = .ok (.aload_n 0, 1) := by decide +kernel
theorem dX4_meld_15 : decode cX4_meld 15 = .ok (.getfield 12, 3) := by decide +kernel
theorem dX4_meld_18 : decode cX4_meld 18 = .ok (.getfield 84, 3) := by decide +kernel
theorem dX4_meld_21 : decode cX4_meld 21 = .ok (.iload_n 2, 1) := by decide +kernel
theorem dX4_meld_22 : decode cX4_meld 22 = .ok (.iaload, 1) := by decide +kernel
theorem dX4_meld_23 : decode cX4_meld 23 = .ok (.iconst (-1), 1) := by decide +kernel
theorem dX4_meld_24 : decode cX4_meld 24 = .ok (.if_icmp .ne 10, 3) := by decide +kernel
theorem dX4_meld_27 : decode cX4_meld 27 = .ok (.aload_n 0, 1) := by decide +kernel
theorem dX4_meld_28 : decode cX4_meld 28 = .ok (.bipush (-3), 2) := by decide +kernel
theorem dX4_meld_30 : decode cX4_meld 30 = .ok (.invokevirtual 65, 3) := by decide +kernel
theorem dX4_meld_33 : decode cX4_meld 33 = .ok (.ireturn, 1) := by decide +kernel
theorem dX4_meld_34 : decode cX4_meld 34 = .ok (.aload_n 0, 1) := by decide +kernel
theorem dX4_meld_35 : decode cX4_meld 35 = .ok (.getfield 12, 3) := by decide +kernel
theorem dX4_meld_38 : decode cX4_meld 38 = .ok (.getfield 126, 3) := by decide +kernel
theorem dX4_meld_41 : decode cX4_meld 41 = .ok (.istore_n 3, 1) := by decide +kernel
theorem dX4_meld_42 : decode cX4_meld 42 = .ok (.aload_n 0, 1) := by decide +kernel
theorem dX4_meld_43 : decode cX4_meld 43 = .ok (.getfield 12, 3) := by decide +kernel
theorem dX4_meld_46 : decode cX4_meld 46 = .ok (.iload_n 1, 1) := by decide +kernel
theorem dX4_meld_47 : decode cX4_meld 47 = .ok (.iload_n 2, 1) := by decide +kernel
theorem dX4_meld_48 : decode cX4_meld 48 = .ok (.invokevirtual 129, 3) := by decide +kernel
theorem dX4_meld_51 : decode cX4_meld 51 = .ok (.aload_n 0, 1) := by decide +kernel
theorem dX4_meld_52 : decode cX4_meld 52 = .ok (.getfield 12, 3) := by decide +kernel
theorem dX4_meld_55 : decode cX4_meld 55 = .ok (.getfield 126, 3) := by decide +kernel
theorem dX4_meld_58 : decode cX4_meld 58 = .ok (.iload_n 3, 1) := by decide +kernel
theorem dX4_meld_59 : decode cX4_meld 59 = .ok (.isub, 1) := by decide +kernel
theorem dX4_meld_60 : decode cX4_meld 60 = .ok (.istore 4, 2) := by decide +kernel
theorem dX4_meld_62 : decode cX4_meld 62 = .ok (.aload_n 0, 1) := by decide +kernel
theorem dX4_meld_63 : decode cX4_meld 63 = .ok (.getfield 12, 3) := by decide +kernel
theorem dX4_meld_66 : decode cX4_meld 66 = .ok (.invokevirtual 81, 3) := by decide +kernel
theorem dX4_meld_69 : decode cX4_meld 69 = .ok (.iload 4, 2) := by decide +kernel
theorem dX4_meld_71 : decode cX4_meld 71 = .ok (.ireturn, 1) := by decide +kernel
set_option maxRecDepth 20000 in
theorem ggX4_part_X4_areTwoDesks : GoodIn wsX4_part wsX4_areTwoDesks := goodIn_r _ [5, 6, 7, 4, 8] (by decide +kernel) (by decide +kernel)
set_option maxRecDepth 20000 in
theorem gX4_part_X4_areTwoDesks : GoodIn wsX4_part (va_wsS RX4 122 yX4_areTwoDesks wsX4_areTwoDesks) := goodIn_app (goodIn_of _ (by decide +kernel)) ggX4_part_X4_areTwoDesks
set_option maxRecDepth 20000 in
theorem ggX4_part_X4_refuse : GoodIn wsX4_part wsX4_refuse := goodIn_r _ [12, 13, 62, 63, 64, 65, 66, 67, 68, 69] (by decide +kernel) (by decide +kernel)
set_option maxRecDepth 20000 in
theorem gX4_part_X4_refuse : GoodIn wsX4_part (wsV RX4 65 RX4 yX4_refuse wsX4_refuse) := goodIn_app (goodIn_of _ (by decide +kernel)) ggX4_part_X4_refuse
set_option maxRecDepth 20000 in
theorem ggX4_part_X0_plainIn : GoodIn wsX4_part wsX0_plainIn := goodIn_r _ [18, 19, 20, 21, 22, 17, 23, 24, 25, 70, 71, 72, 73, 74, 75, 76, 77, 78, 79, 80, 81, 82, 83, 84, 85, 86] (by decide +kernel) (by decide +kernel)
set_option maxRecDepth 20000 in
theorem gX4_part_X0_plainIn : GoodIn wsX4_part (wsV RX4 132 RX0 yX0_plainIn wsX0_plainIn) := goodIn_app (goodIn_of _ (by decide +kernel)) ggX4_part_X0_plainIn
set_option maxRecDepth 20000 in
theorem ggX4_part_X0_moveLeast : GoodIn wsX4_part wsX0_moveLeast := goodIn_r _ [29, 30, 31, 32, 17, 33, 34, 35, 36, 24, 37, 38, 39, 40, 41, 42, 43, 44, 45, 46, 47, 48, 49, 50, 51, 52, 53, 54, 55, 56, 25, 57, 58, 59, 60, 61, 70, 71, 72, 73, 74, 75, 76, 77, 78, 79, 80, 81, 82, 83, 84, 85, 86] (by decide +kernel) (by decide +kernel)
set_option maxRecDepth 20000 in
theorem gX4_part_X0_moveLeast : GoodIn wsX4_part (wsV RX4 135 RX0 yX0_moveLeast wsX0_moveLeast) := goodIn_app (goodIn_of _ (by decide +kernel)) ggX4_part_X0_moveLeast
theorem dX4_part_0 : decode cX4_part 0 = .ok (.iload_n 1, 1) := by decide +kernel
theorem dX4_part_1 : decode cX4_part 1 = .ok (.iload_n 2, 1) := by decide +kernel
theorem dX4_part_2 : decode cX4_part 2 = .ok (.invokestatic 122, 3) := by decide +kernel
theorem dX4_part_5 : decode cX4_part 5 = .ok (.ifCond .eq 14, 3) := by decide +kernel
theorem dX4_part_8 : decode cX4_part 8 = .ok (.iload_n 3, 1) := by decide +kernel
theorem dX4_part_9 : decode cX4_part 9 = .ok (.iconst 1, 1) := by decide +kernel
theorem dX4_part_10 : decode cX4_part 10 = .ok (.if_icmp .lt 9, 3) := by decide +kernel
theorem dX4_part_13 : decode cX4_part 13 = .ok (.iload_n 3, 1) := by decide +kernel
theorem dX4_part_14 : decode cX4_part 14 = .ok (.bipush 50, 2) := by decide +kernel
theorem dX4_part_16 : decode cX4_part 16 = .ok (.if_icmp .le 9, 3) := by decide +kernel
theorem dX4_part_19 : decode cX4_part 19 = .ok (.aload_n 0, 1) := by decide +kernel
theorem dX4_part_20 : decode cX4_part 20 = .ok (.iconst (-1), 1) := by decide +kernel
theorem dX4_part_21 : decode cX4_part 21 = .ok (.invokevirtual 65, 3) := by decide +kernel
theorem dX4_part_24 : decode cX4_part 24 = .ok (.ireturn, 1) := by decide +kernel
theorem dX4_part_25 : decode cX4_part 25 = .ok (.aload_n 0, 1) := by decide +kernel
theorem dX4_part_26 : decode cX4_part 26 = .ok (.getfield 12, 3) := by decide +kernel
theorem dX4_part_29 : decode cX4_part 29 = .ok (.iload_n 1, 1) := by decide +kernel
theorem dX4_part_30 : decode cX4_part 30 = .ok (.invokevirtual 132, 3) := by decide +kernel
theorem dX4_part_33 : decode cX4_part 33 = .ok (.iload_n 3, 1) := by decide +kernel
theorem dX4_part_34 : decode cX4_part 34 = .ok (.if_icmp .ge 10, 3) := by decide +kernel
theorem dX4_part_37 : decode cX4_part 37 = .ok (.aload_n 0, 1) := by decide +kernel
theorem dX4_part_38 : decode cX4_part 38 = .ok (.bipush (-3), 2) := by decide +kernel
theorem dX4_part_40 : decode cX4_part 40 = .ok (.invokevirtual 65, 3) := by decide +kernel
theorem dX4_part_43 : decode cX4_part 43 = .ok (.ireturn, 1) := by decide +kernel
theorem dX4_part_44 : decode cX4_part 44 = .ok (.iconst (-1), 1) := by decide +kernel
theorem dX4_part_45 : decode cX4_part 45 = .ok (.istore 4, 2) := by decide +kernel
theorem dX4_part_47 : decode cX4_part 47 = .ok (.iconst 0, 1) := by decide +kernel
theorem dX4_part_48 : decode cX4_part 48 = .ok (.istore 5, 2) := by decide +kernel
theorem dX4_part_50 : decode cX4_part 50 = .ok (.iload 5, 2) := by decide +kernel
theorem dX4_part_52 : decode cX4_part 52 = .ok (.iload_n 3, 1) := by decide +kernel
theorem dX4_part_53 : decode cX4_part 53 = .ok (.if_icmp .ge 20, 3) := by decide +kernel
theorem dX4_part_56 : decode cX4_part 56 = .ok (.aload_n 0, 1) := by decide +kernel
theorem dX4_part_57 : decode cX4_part 57 = .ok (.getfield 12, 3) := by decide +kernel
theorem dX4_part_60 : decode cX4_part 60 = .ok (.iload_n 1, 1) := by decide +kernel
theorem dX4_part_61 : decode cX4_part 61 = .ok (.iload_n 2, 1) := by decide +kernel
theorem dX4_part_62 : decode cX4_part 62 = .ok (.invokevirtual 135, 3) := by decide +kernel
theorem dX4_part_65 : decode cX4_part 65 = .ok (.istore 4, 2) := by decide +kernel
theorem dX4_part_67 : decode cX4_part 67 = .ok (.iinc 5 1, 3) := by decide +kernel
theorem dX4_part_70 : decode cX4_part 70 = .ok (.goto (-20), 3) := by decide +kernel
theorem dX4_part_73 : decode cX4_part 73 = .ok (.iload 4, 2) := by decide +kernel
theorem dX4_part_75 : decode cX4_part 75 = .ok (.ireturn, 1) := by decide +kernel
set_option maxRecDepth 20000 in
theorem ggX4_split_X4_areTwoDesks : GoodIn wsX4_split wsX4_areTwoDesks := goodIn_r _ [6, 7, 8, 5, 9] (by decide +kernel) (by decide +kernel)
set_option maxRecDepth 20000 in
theorem gX4_split_X4_areTwoDesks : GoodIn wsX4_split (va_wsS RX4 122 yX4_areTwoDesks wsX4_areTwoDesks) := goodIn_app (goodIn_of _ (by decide +kernel)) ggX4_split_X4_areTwoDesks
set_option maxRecDepth 20000 in
theorem ggX4_split_X4_refuse : GoodIn wsX4_split wsX4_refuse := goodIn_r _ [13, 14, 78, 79, 80, 81, 82, 83, 84, 85] (by decide +kernel) (by decide +kernel)
set_option maxRecDepth 20000 in
theorem gX4_split_X4_refuse : GoodIn wsX4_split (wsV RX4 65 RX4 yX4_refuse wsX4_refuse) := goodIn_app (goodIn_of _ (by decide +kernel)) ggX4_split_X4_refuse
set_option maxRecDepth 20000 in
theorem ggX4_split_X2_splitOff : GoodIn wsX4_split wsX2_splitOff := goodIn_r _ [19, 20, 21, 22, 23, 24, 25, 26, 27, 28, 29, 18, 30, 31, 32, 33, 34, 35, 36, 37, 38, 39, 40, 41, 42, 43, 44, 45, 46, 47, 48, 49, 50, 51, 52, 53, 54, 55, 56, 57, 58, 59, 60, 61, 62, 63, 64, 65, 66, 67, 86, 87, 88, 89, 90, 91, 92, 93, 94, 95, 96, 97, 98, 99, 100, 101, 102, 103, 104, 105, 106, 107, 108] (by decide +kernel) (by decide +kernel)
set_option maxRecDepth 20000 in
theorem gX4_split_X2_splitOff : GoodIn wsX4_split (wsV RX4 138 RX2 yX2_splitOff wsX2_splitOff) := goodIn_app (goodIn_of _ (by decide +kernel)) ggX4_split_X2_splitOff
set_option maxRecDepth 20000 in
theorem ggX4_split_X0_sweep : GoodIn wsX4_split wsX0_sweep := goodIn_r _ [71, 66, 72, 73, 74, 75, 76, 40, 77, 54, 43, 65, 67, 38, 39, 41, 42, 44, 45, 46, 47, 48, 49, 50, 51, 52, 53, 55, 92, 93, 94, 95, 96, 97, 98, 99, 100, 101, 102, 103, 104, 105, 106, 107, 108] (by decide +kernel) (by decide +kernel)
set_option maxRecDepth 20000 in
theorem gX4_split_X0_sweep : GoodIn wsX4_split (wsV RX4 81 RX0 yX0_sweep wsX0_sweep) := goodIn_app (goodIn_of _ (by decide +kernel)) ggX4_split_X0_sweep
theorem dX4_split_0 : decode cX4_split 0 = .ok (.iload_n 1, 1) := by decide +kernel
theorem dX4_split_1 : decode cX4_split 1 = .ok (.iload_n 2, 1) := by decide +kernel
theorem dX4_split_2 : decode cX4_split 2 = .ok (.invokestatic 122, 3) := by decide +kernel
theorem dX4_split_5 : decode cX4_split 5 = .ok (.ifCond .ne 9, 3) := by decide +kernel
theorem dX4_split_8 : decode cX4_split 8 = .ok (.aload_n 0, 1) := by decide +kernel
theorem dX4_split_9 : decode cX4_split 9 = .ok (.iconst (-1), 1) := by decide +kernel
theorem dX4_split_10 : decode cX4_split 10 = .ok (.invokevirtual 65, 3) := by decide +kernel
theorem dX4_split_13 : decode cX4_split 13 = .ok (.ireturn, 1) := by decide +kernel
theorem dX4_split_14 : decode cX4_split 14 = .ok (.aload_n 0, 1) := by decide +kernel
theorem dX4_split_15 : decode cX4_split 15 = .ok (.getfield 42, 3) := by decide +kernel
theorem dX4_split_18 : decode cX4_split 18 = .ok (.iload_n 1, 1) := by decide +kernel
theorem dX4_split_19 : decode cX4_split 19 = .ok (.iload_n 2, 1) := by decide +kernel
theorem dX4_split_20 : decode cX4_split 20 = .ok (.iload_n 3, 1) := by decide +kernel
theorem dX4_split_21 : decode cX4_split 21 = .ok (.invokevirtual 138, 3) := by decide +kernel
theorem dX4_split_24 : decode cX4_split 24 = .ok (.istore 4, 2) := by decide +kernel
theorem dX4_split_26 : decode cX4_split 26 = .ok (.iload 4, 2) := by decide +kernel
theorem dX4_split_28 : decode cX4_split 28 = .ok (.ifCond .ne 10, 3) := by decide +kernel
theorem dX4_split_31 : decode cX4_split 31 = .ok (.aload_n 0, 1) := by decide +kernel
theorem dX4_split_32 : decode cX4_split 32 = .ok (.bipush (-3), 2) := by decide +kernel
theorem dX4_split_34 : decode cX4_split 34 = .ok (.invokevirtual 65, 3) := by decide +kernel
theorem dX4_split_37 : decode cX4_split 37 = .ok (.ireturn, 1) := by decide +kernel
theorem dX4_split_38 : decode cX4_split 38 = .ok (.aload_n 0, 1) := by decide +kernel
theorem dX4_split_39 : decode cX4_split 39 = .ok (.getfield 12, 3) := by decide +kernel
theorem dX4_split_42 : decode cX4_split 42 = .ok (.invokevirtual 81, 3) := by decide +kernel
theorem dX4_split_45 : decode cX4_split 45 = .ok (.iload 4, 2) := by decide +kernel
theorem dX4_split_47 : decode cX4_split 47 = .ok (.ireturn, 1) := by decide +kernel
set_option maxRecDepth 20000 in
theorem ggX4_gather_X4_isDesk : GoodIn wsX4_gather wsX4_isDesk := goodIn_r _ [7] (by decide +kernel) (by decide +kernel)
set_option maxRecDepth 20000 in
theorem gX4_gather_X4_isDesk : GoodIn wsX4_gather (va_wsS RX4 55 yX4_isDesk wsX4_isDesk) := goodIn_app (goodIn_of _ (by decide +kernel)) ggX4_gather_X4_isDesk
set_option maxRecDepth 20000 in
theorem ggX4_gather_X4_refuse : GoodIn wsX4_gather wsX4_refuse := goodIn_r _ [11, 12, 66, 67, 68, 69, 70, 71, 72, 73] (by decide +kernel) (by decide +kernel)
set_option maxRecDepth 20000 in
theorem gX4_gather_X4_refuse : GoodIn wsX4_gather (wsV RX4 65 RX4 yX4_refuse wsX4_refuse) := goodIn_app (goodIn_of _ (by decide +kernel)) ggX4_gather_X4_refuse
set_option maxRecDepth 20000 in
theorem ggX4_gather_X2_gatherDesks : GoodIn wsX4_gather wsX2_gatherDesks := goodIn_r _ [17, 18, 19, 20, 21, 22, 23, 24, 25, 26, 27, 16, 28, 29, 30, 31, 32, 33, 34, 35, 36, 37, 38, 39, 40, 41, 42, 43, 44, 45, 46, 47, 48, 49, 50, 51, 52, 53, 91, 92, 93, 94, 95, 96, 74, 75, 76, 77, 78, 79, 80, 81, 82, 83, 84, 85, 86, 87, 88, 89, 90] (by decide +kernel) (by decide +kernel)
set_option maxRecDepth 20000 in
theorem gX4_gather_X2_gatherDesks : GoodIn wsX4_gather (wsV RX4 142 RX2 yX2_gatherDesks wsX2_gatherDesks) := goodIn_app (goodIn_of _ (by decide +kernel)) ggX4_gather_X2_gatherDesks
set_option maxRecDepth 20000 in
theorem ggX4_gather_X0_sweep : GoodIn wsX4_gather wsX0_sweep := goodIn_r _ [57, 58, 59, 60, 61, 62, 63, 32, 64, 46, 35, 53, 65, 30, 31, 33, 34, 36, 37, 38, 39, 40, 41, 42, 43, 44, 45, 47, 74, 75, 76, 77, 78, 79, 80, 81, 82, 83, 84, 85, 86, 87, 88, 89, 90] (by decide +kernel) (by decide +kernel)
set_option maxRecDepth 20000 in
theorem gX4_gather_X0_sweep : GoodIn wsX4_gather (wsV RX4 81 RX0 yX0_sweep wsX0_sweep) := goodIn_app (goodIn_of _ (by decide +kernel)) ggX4_gather_X0_sweep
theorem dX4_gather_0 : decode cX4_gather 0 = .ok (.iload_n 1, 1) := by decide +kernel
theorem dX4_gather_1 : decode cX4_gather 1 = .ok (.invokestatic 55, 3) := by decide +kernel
theorem dX4_gather_4 : decode cX4_gather 4 = .ok (.ifCond .ne 9, 3) := by decide +kernel
theorem dX4_gather_7 : decode cX4_gather 7 = .ok (.aload_n 0, 1) := by decide +kernel
theorem dX4_gather_8 : decode cX4_gather 8 = .ok (.iconst (-1), 1) := by decide +kernel
theorem dX4_gather_9 : decode cX4_gather 9 = .ok (.invokevirtual 65, 3) := by decide +kernel
theorem dX4_gather_12 : decode cX4_gather 12 = .ok (.ireturn, 1) := by decide +kernel
theorem dX4_gather_13 : decode cX4_gather 13 = .ok (.aload_n 0, 1) := by decide +kernel
theorem dX4_gather_14 : decode cX4_gather 14 = .ok (.getfield 12, 3) := by decide +kernel
theorem dX4_gather_17 : decode cX4_gather 17 = .ok (.getfield 126, 3) := by decide +kernel
theorem dX4_gather_20 : decode cX4_gather 20 = .ok (.istore_n 2, 1) := by decide +kernel
theorem dX4_gather_21 : decode cX4_gather 21 = .ok (.aload_n 0, 1) := by decide +kernel
theorem dX4_gather_22 : decode cX4_gather 22 = .ok (.getfield 42, 3) := by decide +kernel
theorem dX4_gather_25 : decode cX4_gather 25 = .ok (.iload_n 1, 1) := by decide +kernel
theorem dX4_gather_26 : decode cX4_gather 26 = .ok (.invokevirtual 142, 3) := by decide +kernel
theorem dX4_gather_29 : decode cX4_gather 29 = .ok (.ifCond .ne 10, 3) := by decide +kernel
theorem dX4_gather_32 : decode cX4_gather 32 = .ok (.aload_n 0, 1) := by decide +kernel
theorem dX4_gather_33 : decode cX4_gather 33 = .ok (.bipush (-3), 2) := by decide +kernel
theorem dX4_gather_35 : decode cX4_gather 35 = .ok (.invokevirtual 65, 3) := by decide +kernel
theorem dX4_gather_38 : decode cX4_gather 38 = .ok (.ireturn, 1) := by decide +kernel
theorem dX4_gather_39 : decode cX4_gather 39 = .ok (.aload_n 0, 1) := by decide +kernel
theorem dX4_gather_40 : decode cX4_gather 40 = .ok (.getfield 12, 3) := by decide +kernel
theorem dX4_gather_43 : decode cX4_gather 43 = .ok (.getfield 126, 3) := by decide +kernel
theorem dX4_gather_46 : decode cX4_gather 46 = .ok (.iload_n 2, 1) := by decide +kernel
theorem dX4_gather_47 : decode cX4_gather 47 = .ok (.isub, 1) := by decide +kernel
theorem dX4_gather_48 : decode cX4_gather 48 = .ok (.istore_n 3, 1) := by decide +kernel
theorem dX4_gather_49 : decode cX4_gather 49 = .ok (.aload_n 0, 1) := by decide +kernel
theorem dX4_gather_50 : decode cX4_gather 50 = .ok (.getfield 12, 3) := by decide +kernel
theorem dX4_gather_53 : decode cX4_gather 53 = .ok (.invokevirtual 81, 3) := by decide +kernel
theorem dX4_gather_56 : decode cX4_gather 56 = .ok (.iload_n 3, 1) := by decide +kernel
theorem dX4_gather_57 : decode cX4_gather 57 = .ok (.ireturn, 1) := by decide +kernel
set_option maxRecDepth 20000 in
theorem ggX4_even_X2_evenDesks : GoodIn wsX4_even wsX2_evenDesks := goodIn_r _ [6, 7, 8, 9, 10, 11, 12, 13, 14, 15, 16, 17, 18, 19, 20, 21, 22, 23, 24, 25, 26, 27, 28, 29, 30, 31, 32, 33, 34, 35, 36, 37, 38, 39, 40, 41, 42, 43, 44, 45, 46, 47, 48, 49, 50, 51, 52, 53, 54, 55, 56, 65, 66, 67, 68, 69, 70, 71, 72, 73, 74, 75, 76, 77, 78, 79, 80, 81, 82, 83, 84, 85, 86, 87] (by decide +kernel) (by decide +kernel)
set_option maxRecDepth 20000 in
theorem gX4_even_X2_evenDesks : GoodIn wsX4_even (wsV RX4 145 RX2 yX2_evenDesks wsX2_evenDesks) := goodIn_app (goodIn_of _ (by decide +kernel)) ggX4_even_X2_evenDesks
theorem dX4_even_0 : decode cX4_even 0 = .ok (.aload_n 0, 1) := by decide +kernel
theorem dX4_even_1 : decode cX4_even 1 = .ok (.getfield 42, 3) := by decide +kernel
theorem dX4_even_4 : decode cX4_even 4 = .ok (.invokevirtual 145, 3) := by decide +kernel
theorem dX4_even_7 : decode cX4_even 7 = .ok (.ireturn, 1) := by decide +kernel
set_option maxRecDepth 20000 in
theorem ggX4_arc_X4_isPlace : GoodIn wsX4_arc wsX4_isPlace := goodIn_r _ [8] (by decide +kernel) (by decide +kernel)
set_option maxRecDepth 20000 in
theorem gX4_arc_X4_isPlace : GoodIn wsX4_arc (va_wsS RX4 148 yX4_isPlace wsX4_isPlace) := goodIn_app (goodIn_of _ (by decide +kernel)) ggX4_arc_X4_isPlace
set_option maxRecDepth 20000 in
theorem ggX4_arc_X4_isCost : GoodIn wsX4_arc wsX4_isCost := goodIn_r _ [11, 12] (by decide +kernel) (by decide +kernel)
set_option maxRecDepth 20000 in
theorem gX4_arc_X4_isCost : GoodIn wsX4_arc (va_wsS RX4 151 yX4_isCost wsX4_isCost) := goodIn_app (goodIn_of _ (by decide +kernel)) ggX4_arc_X4_isCost
set_option maxRecDepth 20000 in
theorem ggX4_arc_X4_refuse : GoodIn wsX4_arc wsX4_refuse := goodIn_r _ [16, 17, 24, 25, 26, 27, 28, 29, 30, 31] (by decide +kernel) (by decide +kernel)
set_option maxRecDepth 20000 in
theorem gX4_arc_X4_refuse : GoodIn wsX4_arc (wsV RX4 65 RX4 yX4_refuse wsX4_refuse) := goodIn_app (goodIn_of _ (by decide +kernel)) ggX4_arc_X4_refuse
set_option maxRecDepth 20000 in
theorem ggX4_arc_X1_firstFree : GoodIn wsX4_arc wsX1_firstFree := goodIn_r _ [22, 23, 32, 33, 34] (by decide +kernel) (by decide +kernel)
set_option maxRecDepth 20000 in
theorem gX4_arc_X1_firstFree : GoodIn wsX4_arc (wsV RX4 154 RX1 yX1_firstFree wsX1_firstFree) := goodIn_app (goodIn_of _ (by decide +kernel)) ggX4_arc_X1_firstFree
theorem dX4_arc_0 : decode cX4_arc 0 = .ok (.iload_n 1, 1) := by decide +kernel
theorem dX4_arc_1 : decode cX4_arc 1 = .ok (.invokestatic 148, 3) := by decide +kernel
theorem dX4_arc_4 : decode cX4_arc 4 = .ok (.ifCond .eq 22, 3) := by decide +kernel
theorem dX4_arc_7 : decode cX4_arc 7 = .ok (.iload_n 2, 1) := by decide +kernel
theorem dX4_arc_8 : decode cX4_arc 8 = .ok (.invokestatic 148, 3) := by decide +kernel
theorem dX4_arc_11 : decode cX4_arc 11 = .ok (.ifCond .eq 15, 3) := by decide +kernel
theorem dX4_arc_14 : decode cX4_arc 14 = .ok (.iload_n 1, 1) := by decide +kernel
theorem dX4_arc_15 : decode cX4_arc 15 = .ok (.iload_n 2, 1) := by decide +kernel
theorem dX4_arc_16 : decode cX4_arc 16 = .ok (.if_icmp .eq 10, 3) := by decide +kernel
theorem dX4_arc_19 : decode cX4_arc 19 = .ok (.iload_n 3, 1) := by decide +kernel
theorem dX4_arc_20 : decode cX4_arc 20 = .ok (.invokestatic 151, 3) := by decide +kernel
theorem dX4_arc_23 : decode cX4_arc 23 = .ok (.ifCond .ne 9, 3) := by decide +kernel
theorem dX4_arc_26 : decode cX4_arc 26 = .ok (.aload_n 0, 1) := by decide +kernel
theorem dX4_arc_27 : decode cX4_arc 27 = .ok (.iconst (-1), 1) := by decide +kernel
theorem dX4_arc_28 : decode cX4_arc 28 = .ok (.invokevirtual 65, 3) := by decide +kernel
theorem dX4_arc_31 : decode cX4_arc 31 = .ok (.ireturn, 1) := by decide +kernel
theorem dX4_arc_32 : decode cX4_arc 32 = .ok (.aload_n 0, 1) := by decide +kernel
theorem dX4_arc_33 : decode cX4_arc 33 = .ok (.getfield 25, 3) := by decide +kernel
theorem dX4_arc_36 : decode cX4_arc 36 = .ok (.invokevirtual 154, 3) := by decide +kernel
theorem dX4_arc_39 : decode cX4_arc 39 = .ok (.istore 4, 2) := by decide +kernel
theorem dX4_arc_41 : decode cX4_arc 41 = .ok (.iload 4, 2) := by decide +kernel
theorem dX4_arc_43 : decode cX4_arc 43 = .ok (.iconst (-1), 1) := by decide +kernel
theorem dX4_arc_44 : decode cX4_arc 44 = .ok (.if_icmp .ne 10, 3) := by decide +kernel
theorem dX4_arc_47 : decode cX4_arc 47 = .ok (.aload_n 0, 1) := by decide +kernel
theorem dX4_arc_48 : decode cX4_arc 48 = .ok (.bipush (-5), 2) := by decide +kernel
theorem dX4_arc_50 : decode cX4_arc 50 = .ok (.invokevirtual 65, 3) := by decide +kernel
theorem dX4_arc_53 : decode cX4_arc 53 = .ok (.ireturn, 1) := by decide +kernel
theorem dX4_arc_54 : decode cX4_arc 54 = .ok (.aload_n 0, 1) := by decide +kernel
theorem dX4_arc_55 : decode cX4_arc 55 = .ok (.getfield 25, 3) := by decide +kernel
theorem dX4_arc_58 : decode cX4_arc 58 = .ok (.getfield 157, 3) := by decide +kernel
theorem dX4_arc_61 : decode cX4_arc 61 = .ok (.iload 4, 2) := by decide +kernel
theorem dX4_arc_63 : decode cX4_arc 63 = .ok (.iload_n 1, 1) := by decide +kernel
theorem dX4_arc_64 : decode cX4_arc 64 = .ok (.iastore, 1) := by decide +kernel
theorem dX4_arc_65 : decode cX4_arc 65 = .ok (.aload_n 0, 1) := by decide +kernel
theorem dX4_arc_66 : decode cX4_arc 66 = .ok (.getfield 25, 3) := by decide +kernel
theorem dX4_arc_69 : decode cX4_arc 69 = .ok (.getfield 160, 3) := by decide +kernel
theorem dX4_arc_72 : decode cX4_arc 72 = .ok (.iload 4, 2) := by decide +kernel
theorem dX4_arc_74 : decode cX4_arc 74 = .ok (.iload_n 2, 1) := by decide +kernel
theorem dX4_arc_75 : decode cX4_arc 75 = .ok (.iastore, 1) := by decide +kernel
theorem dX4_arc_76 : decode cX4_arc 76 = .ok (.aload_n 0, 1) := by decide +kernel
theorem dX4_arc_77 : decode cX4_arc 77 = .ok (.getfield 25, 3) := by decide +kernel
theorem dX4_arc_80 : decode cX4_arc 80 = .ok (.getfield 163, 3) := by decide +kernel
theorem dX4_arc_83 : decode cX4_arc 83 = .ok (.iload 4, 2) := by decide +kernel
theorem dX4_arc_85 : decode cX4_arc 85 = .ok (.iload_n 3, 1) := by decide +kernel
theorem dX4_arc_86 : decode cX4_arc 86 = .ok (.iastore, 1) := by decide +kernel
theorem dX4_arc_87 : decode cX4_arc 87 = .ok (.iload 4, 2) := by decide +kernel
theorem dX4_arc_89 : decode cX4_arc 89 = .ok (.ireturn, 1) := by decide +kernel
set_option maxRecDepth 20000 in
theorem ggX4_unarc_X1_isThere : GoodIn wsX4_unarc wsX1_isThere := goodIn_r _ [7, 8, 27, 28, 29] (by decide +kernel) (by decide +kernel)
set_option maxRecDepth 20000 in
theorem gX4_unarc_X1_isThere : GoodIn wsX4_unarc (wsV RX4 166 RX1 yX1_isThere wsX1_isThere) := goodIn_app (goodIn_of _ (by decide +kernel)) ggX4_unarc_X1_isThere
set_option maxRecDepth 20000 in
theorem ggX4_unarc_X4_refuse : GoodIn wsX4_unarc wsX4_refuse := goodIn_r _ [13, 14, 19, 20, 21, 22, 23, 24, 25, 26] (by decide +kernel) (by decide +kernel)
set_option maxRecDepth 20000 in
theorem gX4_unarc_X4_refuse : GoodIn wsX4_unarc (wsV RX4 65 RX4 yX4_refuse wsX4_refuse) := goodIn_app (goodIn_of _ (by decide +kernel)) ggX4_unarc_X4_refuse
set_option maxRecDepth 20000 in
theorem ggX4_unarc_X1_size : GoodIn wsX4_unarc wsX1_size := goodIn_r _ [18, 8, 27, 28, 29] (by decide +kernel) (by decide +kernel)
set_option maxRecDepth 20000 in
theorem gX4_unarc_X1_size : GoodIn wsX4_unarc (wsV RX4 167 RX1 yX1_size wsX1_size) := goodIn_app (goodIn_of _ (by decide +kernel)) ggX4_unarc_X1_size
theorem dX4_unarc_0 : decode cX4_unarc 0 = .ok (.aload_n 0, 1) := by decide +kernel
theorem dX4_unarc_1 : decode cX4_unarc 1 = .ok (.getfield 25, 3) := by decide +kernel
theorem dX4_unarc_4 : decode cX4_unarc 4 = .ok (.iload_n 1, 1) := by decide +kernel
theorem dX4_unarc_5 : decode cX4_unarc 5 = .ok (.invokevirtual 166, 3) := by decide +kernel
theorem dX4_unarc_8 : decode cX4_unarc 8 = .ok (.ifCond .ne 10, 3) := by decide +kernel
theorem dX4_unarc_11 : decode cX4_unarc 11 = .ok (.aload_n 0, 1) := by decide +kernel
theorem dX4_unarc_12 : decode cX4_unarc 12 = .ok (.bipush (-2), 2) := by decide +kernel
theorem dX4_unarc_14 : decode cX4_unarc 14 = .ok (.invokevirtual 65, 3) := by decide +kernel
theorem dX4_unarc_17 : decode cX4_unarc 17 = .ok (.ireturn, 1) := by decide +kernel
theorem dX4_unarc_18 : decode cX4_unarc 18 = .ok (.aload_n 0, 1) := by decide +kernel
theorem dX4_unarc_19 : decode cX4_unarc 19 = .ok (.getfield 25, 3) := by decide +kernel
theorem dX4_unarc_22 : decode cX4_unarc 22 = .ok (.getfield 157, 3) := by decide +kernel
theorem dX4_unarc_25 : decode cX4_unarc 25 = .ok (.iload_n 1, 1) := by decide +kernel
theorem dX4_unarc_26 : decode cX4_unarc 26 = .ok (.iconst (-1), 1) := by decide +kernel
theorem dX4_unarc_27 : decode cX4_unarc 27 = .ok (.iastore, 1) := by decide +kernel
theorem dX4_unarc_28 : decode cX4_unarc 28 = .ok (.aload_n 0, 1) := by decide +kernel
theorem dX4_unarc_29 : decode cX4_unarc 29 = .ok (.getfield 25, 3) := by decide +kernel
theorem dX4_unarc_32 : decode cX4_unarc 32 = .ok (.invokevirtual 167, 3) := by decide +kernel
theorem dX4_unarc_35 : decode cX4_unarc 35 = .ok (.ireturn, 1) := by decide +kernel
set_option maxRecDepth 20000 in
theorem ggX4_price_X4_isCost : GoodIn wsX4_price wsX4_isCost := goodIn_r _ [6, 7] (by decide +kernel) (by decide +kernel)
set_option maxRecDepth 20000 in
theorem gX4_price_X4_isCost : GoodIn wsX4_price (va_wsS RX4 151 yX4_isCost wsX4_isCost) := goodIn_app (goodIn_of _ (by decide +kernel)) ggX4_price_X4_isCost
set_option maxRecDepth 20000 in
theorem ggX4_price_X4_refuse : GoodIn wsX4_price wsX4_refuse := goodIn_r _ [11, 12, 19, 20, 21, 22, 23, 24, 25, 26] (by decide +kernel) (by decide +kernel)
set_option maxRecDepth 20000 in
theorem gX4_price_X4_refuse : GoodIn wsX4_price (wsV RX4 65 RX4 yX4_refuse wsX4_refuse) := goodIn_app (goodIn_of _ (by decide +kernel)) ggX4_price_X4_refuse
set_option maxRecDepth 20000 in
theorem ggX4_price_X1_isThere : GoodIn wsX4_price wsX1_isThere := goodIn_r _ [17, 18, 27, 28, 29] (by decide +kernel) (by decide +kernel)
set_option maxRecDepth 20000 in
theorem gX4_price_X1_isThere : GoodIn wsX4_price (wsV RX4 166 RX1 yX1_isThere wsX1_isThere) := goodIn_app (goodIn_of _ (by decide +kernel)) ggX4_price_X1_isThere
theorem dX4_price_0 : decode cX4_price 0 = .ok (.iload_n 2, 1) := by decide +kernel
theorem dX4_price_1 : decode cX4_price 1 = .ok (.invokestatic 151, 3) := by decide +kernel
theorem dX4_price_4 : decode cX4_price 4 = .ok (.ifCond .ne 9, 3) := by decide +kernel
theorem dX4_price_7 : decode cX4_price 7 = .ok (.aload_n 0, 1) := by decide +kernel
theorem dX4_price_8 : decode cX4_price 8 = .ok (.iconst (-1), 1) := by decide +kernel
theorem dX4_price_9 : decode cX4_price 9 = .ok (.invokevirtual 65, 3) := by decide +kernel
theorem dX4_price_12 : decode cX4_price 12 = .ok (.ireturn, 1) := by decide +kernel
theorem dX4_price_13 : decode cX4_price 13 = .ok (.aload_n 0, 1) := by decide +kernel
theorem dX4_price_14 : decode cX4_price 14 = .ok (.getfield 25, 3) := by decide +kernel
theorem dX4_price_17 : decode cX4_price 17 = .ok (.iload_n 1, 1) := by decide +kernel
theorem dX4_price_18 : decode cX4_price 18 = .ok (.invokevirtual 166, 3) := by decide +kernel
theorem dX4_price_21 : decode cX4_price 21 = .ok (.ifCond .ne 10, 3) := by decide +kernel
theorem dX4_price_24 : decode cX4_price 24 = .ok (.aload_n 0, 1) := by decide +kernel
theorem dX4_price_25 : decode cX4_price 25 = .ok (.bipush (-2), 2) := by decide +kernel
theorem dX4_price_27 : decode cX4_price 27 = .ok (.invokevirtual 65, 3) := by decide +kernel
theorem dX4_price_30 : decode cX4_price 30 = .ok (.ireturn, 1) := by decide +kernel
theorem dX4_price_31 : decode cX4_price 31 = .ok (.aload_n 0, 1) := by decide +kernel
theorem dX4_price_32 : decode cX4_price 32 = .ok (.getfield 25, 3) := by decide +kernel
theorem dX4_price_35 : decode cX4_price 35 = .ok (.getfield 163, 3) := by decide +kernel
theorem dX4_price_38 : decode cX4_price 38 = .ok (.iload_n 1, 1) := by decide +kernel
theorem dX4_price_39 : decode cX4_price 39 = .ok (.iaload, 1) := by decide +kernel
theorem dX4_price_40 : decode cX4_price 40 = .ok (.istore_n 3, 1) := by decide +kernel
theorem dX4_price_41 : decode cX4_price 41 = .ok (.iload_n 3, 1) := by decide +kernel
theorem dX4_price_42 : decode cX4_price 42 = .ok (.iload_n 2, 1) := by decide +kernel
theorem dX4_price_43 : decode cX4_price 43 = .ok (.if_icmp .ne 10, 3) := by decide +kernel
theorem dX4_price_46 : decode cX4_price 46 = .ok (.aload_n 0, 1) := by decide +kernel
theorem dX4_price_47 : decode cX4_price 47 = .ok (.bipush (-4), 2) := by decide +kernel
theorem dX4_price_49 : decode cX4_price 49 = .ok (.invokevirtual 65, 3) := by decide +kernel
theorem dX4_price_52 : decode cX4_price 52 = .ok (.ireturn, 1) := by decide +kernel
theorem dX4_price_53 : decode cX4_price 53 = .ok (.aload_n 0, 1) := by decide +kernel
theorem dX4_price_54 : decode cX4_price 54 = .ok (.getfield 25, 3) := by decide +kernel
theorem dX4_price_57 : decode cX4_price 57 = .ok (.getfield 163, 3) := by decide +kernel
theorem dX4_price_60 : decode cX4_price 60 = .ok (.iload_n 1, 1) := by decide +kernel
theorem dX4_price_61 : decode cX4_price 61 = .ok (.iload_n 2, 1) := by decide +kernel
theorem dX4_price_62 : decode cX4_price 62 = .ok (.iastore, 1) := by decide +kernel
theorem dX4_price_63 : decode cX4_price 63 = .ok (.iload_n 3, 1) := by decide +kernel
theorem dX4_price_64 : decode cX4_price 64 = .ok (.ireturn, 1) := by decide +kernel
set_option maxRecDepth 20000 in
theorem ggX4_keep_X0_init : GoodIn wsX4_keep wsX0_init := goodIn_r _ [13, 14, 15, 16, 17, 18, 19, 20, 21, 22, 23, 24, 25, 26, 27, 28, 29, 30, 31, 32, 33, 34, 68, 69, 70, 71, 72, 73, 74, 75, 76, 77, 78, 79, 80, 81, 82, 83, 84] (by decide +kernel) (by decide +kernel)
set_option maxRecDepth 20000 in
theorem gX4_keep_X0_init : GoodIn wsX4_keep (wsX0_init) := ggX4_keep_X0_init
set_option maxRecDepth 20000 in
theorem ggX4_keep_X1_init : GoodIn wsX4_keep wsX1_init := goodIn_r _ [37, 38, 15, 16, 17, 39, 40, 41, 42, 32, 33, 34, 85, 86, 87] (by decide +kernel) (by decide +kernel)
set_option maxRecDepth 20000 in
theorem gX4_keep_X1_init : GoodIn wsX4_keep (wsX1_init) := ggX4_keep_X1_init
set_option maxRecDepth 20000 in
theorem ggX4_keep_X0_copyFrom : GoodIn wsX4_keep wsX0_copyFrom := goodIn_r _ [46, 47, 48, 49, 50, 18, 51, 52, 53, 54, 20, 21, 22, 23, 24, 25, 26, 27, 28, 29, 30, 68, 69, 70, 71, 72, 73, 74, 75, 76, 77, 78, 79, 80, 81, 82, 83, 84] (by decide +kernel) (by decide +kernel)
set_option maxRecDepth 20000 in
theorem gX4_keep_X0_copyFrom : GoodIn wsX4_keep (wsV RX4 170 RX0 yX0_copyFrom wsX0_copyFrom) := goodIn_app (goodIn_of _ (by decide +kernel)) ggX4_keep_X0_copyFrom
set_option maxRecDepth 20000 in
theorem ggX4_keep_X1_copyFrom : GoodIn wsX4_keep wsX1_copyFrom := goodIn_r _ [58, 39, 59, 52, 53, 54, 40, 41, 85, 86, 87] (by decide +kernel) (by decide +kernel)
set_option maxRecDepth 20000 in
theorem gX4_keep_X1_copyFrom : GoodIn wsX4_keep (wsV RX4 173 RX1 yX1_copyFrom wsX1_copyFrom) := goodIn_app (goodIn_of _ (by decide +kernel)) ggX4_keep_X1_copyFrom
theorem dX4_keep_0 : decode cX4_keep 0 = .ok (.iload_n 1, 1) := by decide +kernel
theorem dX4_keep_1 : decode cX4_keep 1 = .ok (.ifCond .lt 8, 3) := by decide +kernel
theorem dX4_keep_4 : decode cX4_keep 4 = .ok (.iload_n 1, 1) := by decide +kernel
theorem dX4_keep_5 : decode cX4_keep 5 = .ok (.iconst 2, 1) := by decide +kernel
theorem dX4_keep_6 : decode cX4_keep 6 = .ok (.if_icmp .lt 5, 3) := by decide +kernel
theorem dX4_keep_9 : decode cX4_keep 9 = .ok (.iconst 0, 1) := by decide +kernel
theorem dX4_keep_10 : decode cX4_keep 10 = .ok (.ireturn, 1) := by decide +kernel
theorem dX4_keep_11 : decode cX4_keep 11 = .ok (.aload_n 0, 1) := by decide +kernel
theorem dX4_keep_12 : decode cX4_keep 12 = .ok (.getfield 18, 3) := by decide +kernel
theorem dX4_keep_15 : decode cX4_keep 15 = .ok (.iload_n 1, 1) := by decide +kernel
theorem dX4_keep_16 : decode cX4_keep 16 = .ok (.aaload, 1) := by decide +kernel
theorem dX4_keep_17 : decode cX4_keep 17 = .ok (.ifnull 12, 3) := by decide +kernel
theorem dX4_keep_20 : decode cX4_keep 20 = .ok (.aload_n 0, 1) := by decide +kernel
theorem dX4_keep_21 : decode cX4_keep 21 = .ok (.getfield 29, 3) := by decide +kernel
theorem dX4_keep_24 : decode cX4_keep 24 = .ok (.iload_n 1, 1) := by decide +kernel
theorem dX4_keep_25 : decode cX4_keep 25 = .ok (.aaload, 1) := by decide +kernel
