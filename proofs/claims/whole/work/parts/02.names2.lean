theorem dX0_plainLess_5 : decode cX0_plainLess 5 = .ok (.iload 4, 2) := by decide +kernel
theorem dX0_plainLess_7 : decode cX0_plainLess 7 = .ok (.aload_n 0, 1) := by decide +kernel
theorem dX0_plainLess_8 : decode cX0_plainLess 8 = .ok (.getfield 55, 3) := by decide +kernel
theorem dX0_plainLess_11 : decode cX0_plainLess 11 = .ok (.if_icmp .ge 37, 3) := by decide +kernel
theorem dX0_plainLess_14 : decode cX0_plainLess 14 = .ok (.iload_n 3, 1) := by decide +kernel
theorem dX0_plainLess_15 : decode cX0_plainLess 15 = .ok (.aload_n 0, 1) := by decide +kernel
theorem dX0_plainLess_16 : decode cX0_plainLess 16 = .ok (.iload 4, 2) := by decide +kernel
theorem dX0_plainLess_18 : decode cX0_plainLess 18 = .ok (.iload_n 1, 1) := by decide +kernel
theorem dX0_plainLess_19 : decode cX0_plainLess 19 = .ok (.invokevirtual 111, 3) := by decide +kernel
theorem dX0_plainLess_22 : decode cX0_plainLess 22 = .ok (.ifCond .eq 17, 3) := by decide +kernel
theorem dX0_plainLess_25 : decode cX0_plainLess 25 = .ok (.aload_n 0, 1) := by decide +kernel
theorem dX0_plainLess_26 : decode cX0_plainLess 26 = .ok (.iload 4, 2) := by decide +kernel
theorem dX0_plainLess_28 : decode cX0_plainLess 28 = .ok (.iload_n 2, 1) := by decide +kernel
theorem dX0_plainLess_29 : decode cX0_plainLess 29 = .ok (.invokevirtual 80, 3) := by decide +kernel
theorem dX0_plainLess_32 : decode cX0_plainLess 32 = .ok (.ifCond .eq 7, 3) := by decide +kernel
theorem dX0_plainLess_35 : decode cX0_plainLess 35 = .ok (.iconst 1, 1) := by decide +kernel
theorem dX0_plainLess_36 : decode cX0_plainLess 36 = .ok (.goto 4, 3) := by decide +kernel
theorem dX0_plainLess_39 : decode cX0_plainLess 39 = .ok (.iconst 0, 1) := by decide +kernel
theorem dX0_plainLess_40 : decode cX0_plainLess 40 = .ok (.iadd, 1) := by decide +kernel
theorem dX0_plainLess_41 : decode cX0_plainLess 41 = .ok (.istore_n 3, 1) := by decide +kernel
theorem dX0_plainLess_42 : decode cX0_plainLess 42 = .ok (.iinc 4 1, 3) := by decide +kernel
theorem dX0_plainLess_45 : decode cX0_plainLess 45 = .ok (.goto (-40), 3) := by decide +kernel
theorem dX0_plainLess_48 : decode cX0_plainLess 48 = .ok (.iload_n 3, 1) := by decide +kernel
theorem dX0_plainLess_49 : decode cX0_plainLess 49 = .ok (.ireturn, 1) := by decide +kernel
set_option maxRecDepth 20000 in
theorem ggX0_plainBelow_X0_isPlainIn : GoodIn wsX0_plainBelow wsX0_isPlainIn := goodIn_r _ [7, 8, 9, 10, 11, 12, 13, 14, 15, 16, 17, 18, 19, 20, 21, 22, 23, 24, 25, 26] (by decide +kernel) (by decide +kernel)
set_option maxRecDepth 20000 in
theorem gX0_plainBelow_X0_isPlainIn : GoodIn wsX0_plainBelow (wsV RX0 111 RX0 yX0_isPlainIn wsX0_isPlainIn) := goodIn_app (goodIn_of _ (by decide +kernel)) ggX0_plainBelow_X0_isPlainIn
theorem dX0_plainBelow_0 : decode cX0_plainBelow 0 = .ok (.iconst 0, 1) := by decide +kernel
theorem dX0_plainBelow_1 : decode cX0_plainBelow 1 = .ok (.istore 4, 2) := by decide +kernel
theorem dX0_plainBelow_3 : decode cX0_plainBelow 3 = .ok (.iconst 0, 1) := by decide +kernel
theorem dX0_plainBelow_4 : decode cX0_plainBelow 4 = .ok (.istore 5, 2) := by decide +kernel
theorem dX0_plainBelow_6 : decode cX0_plainBelow 6 = .ok (.iload 5, 2) := by decide +kernel
theorem dX0_plainBelow_8 : decode cX0_plainBelow 8 = .ok (.aload_n 0, 1) := by decide +kernel
theorem dX0_plainBelow_9 : decode cX0_plainBelow 9 = .ok (.getfield 55, 3) := by decide +kernel
theorem dX0_plainBelow_12 : decode cX0_plainBelow 12 = .ok (.if_icmp .ge 41, 3) := by decide +kernel
theorem dX0_plainBelow_15 : decode cX0_plainBelow 15 = .ok (.iload 4, 2) := by decide +kernel
theorem dX0_plainBelow_17 : decode cX0_plainBelow 17 = .ok (.aload_n 0, 1) := by decide +kernel
theorem dX0_plainBelow_18 : decode cX0_plainBelow 18 = .ok (.iload 5, 2) := by decide +kernel
theorem dX0_plainBelow_20 : decode cX0_plainBelow 20 = .ok (.iload_n 1, 1) := by decide +kernel
theorem dX0_plainBelow_21 : decode cX0_plainBelow 21 = .ok (.invokevirtual 111, 3) := by decide +kernel
theorem dX0_plainBelow_24 : decode cX0_plainBelow 24 = .ok (.ifCond .eq 19, 3) := by decide +kernel
theorem dX0_plainBelow_27 : decode cX0_plainBelow 27 = .ok (.aload_n 0, 1) := by decide +kernel
theorem dX0_plainBelow_28 : decode cX0_plainBelow 28 = .ok (.getfield 21, 3) := by decide +kernel
theorem dX0_plainBelow_31 : decode cX0_plainBelow 31 = .ok (.iload 5, 2) := by decide +kernel
theorem dX0_plainBelow_33 : decode cX0_plainBelow 33 = .ok (.laload, 1) := by decide +kernel
theorem dX0_plainBelow_34 : decode cX0_plainBelow 34 = .ok (.lload_n 2, 1) := by decide +kernel
theorem dX0_plainBelow_35 : decode cX0_plainBelow 35 = .ok (.lcmp, 1) := by decide +kernel
theorem dX0_plainBelow_36 : decode cX0_plainBelow 36 = .ok (.ifCond .ge 7, 3) := by decide +kernel
theorem dX0_plainBelow_39 : decode cX0_plainBelow 39 = .ok (.iconst 1, 1) := by decide +kernel
theorem dX0_plainBelow_40 : decode cX0_plainBelow 40 = .ok (.goto 4, 3) := by decide +kernel
theorem dX0_plainBelow_43 : decode cX0_plainBelow 43 = .ok (.iconst 0, 1) := by decide +kernel
theorem dX0_plainBelow_44 : decode cX0_plainBelow 44 = .ok (.iadd, 1) := by decide +kernel
theorem dX0_plainBelow_45 : decode cX0_plainBelow 45 = .ok (.istore 4, 2) := by decide +kernel
theorem dX0_plainBelow_47 : decode cX0_plainBelow 47 = .ok (.iinc 5 1, 3) := by decide +kernel
theorem dX0_plainBelow_50 : decode cX0_plainBelow 50 = .ok (.goto (-44), 3) := by decide +kernel
theorem dX0_plainBelow_53 : decode cX0_plainBelow 53 = .ok (.iload 4, 2) := by decide +kernel
theorem dX0_plainBelow_55 : decode cX0_plainBelow 55 = .ok (.ireturn, 1) := by decide +kernel
set_option maxRecDepth 20000 in
theorem ggX0_plainWithTag_X0_isPlainIn : GoodIn wsX0_plainWithTag wsX0_isPlainIn := goodIn_r _ [7, 8, 9, 10, 11, 12, 13, 14, 15, 16, 17, 18, 19, 20, 21, 22, 23, 24, 25, 26] (by decide +kernel) (by decide +kernel)
set_option maxRecDepth 20000 in
theorem gX0_plainWithTag_X0_isPlainIn : GoodIn wsX0_plainWithTag (wsV RX0 111 RX0 yX0_isPlainIn wsX0_isPlainIn) := goodIn_app (goodIn_of _ (by decide +kernel)) ggX0_plainWithTag_X0_isPlainIn
theorem dX0_plainWithTag_0 : decode cX0_plainWithTag 0 = .ok (.iconst 0, 1) := by decide +kernel
theorem dX0_plainWithTag_1 : decode cX0_plainWithTag 1 = .ok (.istore_n 3, 1) := by decide +kernel
theorem dX0_plainWithTag_2 : decode cX0_plainWithTag 2 = .ok (.iconst 0, 1) := by decide +kernel
theorem dX0_plainWithTag_3 : decode cX0_plainWithTag 3 = .ok (.istore 4, 2) := by decide +kernel
theorem dX0_plainWithTag_5 : decode cX0_plainWithTag 5 = .ok (.iload 4, 2) := by decide +kernel
theorem dX0_plainWithTag_7 : decode cX0_plainWithTag 7 = .ok (.aload_n 0, 1) := by decide +kernel
theorem dX0_plainWithTag_8 : decode cX0_plainWithTag 8 = .ok (.getfield 55, 3) := by decide +kernel
theorem dX0_plainWithTag_11 : decode cX0_plainWithTag 11 = .ok (.if_icmp .ge 38, 3) := by decide +kernel
theorem dX0_plainWithTag_14 : decode cX0_plainWithTag 14 = .ok (.iload_n 3, 1) := by decide +kernel
theorem dX0_plainWithTag_15 : decode cX0_plainWithTag 15 = .ok (.aload_n 0, 1) := by decide +kernel
theorem dX0_plainWithTag_16 : decode cX0_plainWithTag 16 = .ok (.iload 4, 2) := by decide +kernel
theorem dX0_plainWithTag_18 : decode cX0_plainWithTag 18 = .ok (.iload_n 1, 1) := by decide +kernel
theorem dX0_plainWithTag_19 : decode cX0_plainWithTag 19 = .ok (.invokevirtual 111, 3) := by decide +kernel
theorem dX0_plainWithTag_22 : decode cX0_plainWithTag 22 = .ok (.ifCond .eq 18, 3) := by decide +kernel
theorem dX0_plainWithTag_25 : decode cX0_plainWithTag 25 = .ok (.aload_n 0, 1) := by decide +kernel
theorem dX0_plainWithTag_26 : decode cX0_plainWithTag 26 = .ok (.getfield 25, 3) := by decide +kernel
theorem dX0_plainWithTag_29 : decode cX0_plainWithTag 29 = .ok (.iload 4, 2) := by decide +kernel
theorem dX0_plainWithTag_31 : decode cX0_plainWithTag 31 = .ok (.iaload, 1) := by decide +kernel
theorem dX0_plainWithTag_32 : decode cX0_plainWithTag 32 = .ok (.iload_n 2, 1) := by decide +kernel
theorem dX0_plainWithTag_33 : decode cX0_plainWithTag 33 = .ok (.if_icmp .ne 7, 3) := by decide +kernel
theorem dX0_plainWithTag_36 : decode cX0_plainWithTag 36 = .ok (.iconst 1, 1) := by decide +kernel
theorem dX0_plainWithTag_37 : decode cX0_plainWithTag 37 = .ok (.goto 4, 3) := by decide +kernel
theorem dX0_plainWithTag_40 : decode cX0_plainWithTag 40 = .ok (.iconst 0, 1) := by decide +kernel
theorem dX0_plainWithTag_41 : decode cX0_plainWithTag 41 = .ok (.iadd, 1) := by decide +kernel
theorem dX0_plainWithTag_42 : decode cX0_plainWithTag 42 = .ok (.istore_n 3, 1) := by decide +kernel
theorem dX0_plainWithTag_43 : decode cX0_plainWithTag 43 = .ok (.iinc 4 1, 3) := by decide +kernel
theorem dX0_plainWithTag_46 : decode cX0_plainWithTag 46 = .ok (.goto (-41), 3) := by decide +kernel
theorem dX0_plainWithTag_49 : decode cX0_plainWithTag 49 = .ok (.iload_n 3, 1) := by decide +kernel
theorem dX0_plainWithTag_50 : decode cX0_plainWithTag 50 = .ok (.ireturn, 1) := by decide +kernel
theorem dX0_rankedIn_0 : decode cX0_rankedIn 0 = .ok (.iconst 0, 1) := by decide +kernel
theorem dX0_rankedIn_1 : decode cX0_rankedIn 1 = .ok (.istore_n 3, 1) := by decide +kernel
theorem dX0_rankedIn_2 : decode cX0_rankedIn 2 = .ok (.iconst 0, 1) := by decide +kernel
theorem dX0_rankedIn_3 : decode cX0_rankedIn 3 = .ok (.istore 4, 2) := by decide +kernel
theorem dX0_rankedIn_5 : decode cX0_rankedIn 5 = .ok (.iload 4, 2) := by decide +kernel
theorem dX0_rankedIn_7 : decode cX0_rankedIn 7 = .ok (.aload_n 0, 1) := by decide +kernel
theorem dX0_rankedIn_8 : decode cX0_rankedIn 8 = .ok (.getfield 55, 3) := by decide +kernel
theorem dX0_rankedIn_11 : decode cX0_rankedIn 11 = .ok (.if_icmp .ge 39, 3) := by decide +kernel
theorem dX0_rankedIn_14 : decode cX0_rankedIn 14 = .ok (.iload_n 3, 1) := by decide +kernel
theorem dX0_rankedIn_15 : decode cX0_rankedIn 15 = .ok (.aload_n 0, 1) := by decide +kernel
theorem dX0_rankedIn_16 : decode cX0_rankedIn 16 = .ok (.getfield 28, 3) := by decide +kernel
theorem dX0_rankedIn_19 : decode cX0_rankedIn 19 = .ok (.iload 4, 2) := by decide +kernel
theorem dX0_rankedIn_21 : decode cX0_rankedIn 21 = .ok (.iaload, 1) := by decide +kernel
theorem dX0_rankedIn_22 : decode cX0_rankedIn 22 = .ok (.iload_n 1, 1) := by decide +kernel
theorem dX0_rankedIn_23 : decode cX0_rankedIn 23 = .ok (.if_icmp .ne 18, 3) := by decide +kernel
theorem dX0_rankedIn_26 : decode cX0_rankedIn 26 = .ok (.aload_n 0, 1) := by decide +kernel
theorem dX0_rankedIn_27 : decode cX0_rankedIn 27 = .ok (.getfield 43, 3) := by decide +kernel
theorem dX0_rankedIn_30 : decode cX0_rankedIn 30 = .ok (.iload 4, 2) := by decide +kernel
theorem dX0_rankedIn_32 : decode cX0_rankedIn 32 = .ok (.iaload, 1) := by decide +kernel
theorem dX0_rankedIn_33 : decode cX0_rankedIn 33 = .ok (.iload_n 2, 1) := by decide +kernel
theorem dX0_rankedIn_34 : decode cX0_rankedIn 34 = .ok (.if_icmp .ne 7, 3) := by decide +kernel
theorem dX0_rankedIn_37 : decode cX0_rankedIn 37 = .ok (.iconst 1, 1) := by decide +kernel
theorem dX0_rankedIn_38 : decode cX0_rankedIn 38 = .ok (.goto 4, 3) := by decide +kernel
theorem dX0_rankedIn_41 : decode cX0_rankedIn 41 = .ok (.iconst 0, 1) := by decide +kernel
theorem dX0_rankedIn_42 : decode cX0_rankedIn 42 = .ok (.iadd, 1) := by decide +kernel
theorem dX0_rankedIn_43 : decode cX0_rankedIn 43 = .ok (.istore_n 3, 1) := by decide +kernel
theorem dX0_rankedIn_44 : decode cX0_rankedIn 44 = .ok (.iinc 4 1, 3) := by decide +kernel
theorem dX0_rankedIn_47 : decode cX0_rankedIn 47 = .ok (.goto (-42), 3) := by decide +kernel
theorem dX0_rankedIn_50 : decode cX0_rankedIn 50 = .ok (.iload_n 3, 1) := by decide +kernel
theorem dX0_rankedIn_51 : decode cX0_rankedIn 51 = .ok (.ireturn, 1) := by decide +kernel
theorem dX0_allThere_0 : decode cX0_allThere 0 = .ok (.iconst 0, 1) := by decide +kernel
theorem dX0_allThere_1 : decode cX0_allThere 1 = .ok (.istore_n 1, 1) := by decide +kernel
theorem dX0_allThere_2 : decode cX0_allThere 2 = .ok (.iconst 0, 1) := by decide +kernel
theorem dX0_allThere_3 : decode cX0_allThere 3 = .ok (.istore_n 2, 1) := by decide +kernel
theorem dX0_allThere_4 : decode cX0_allThere 4 = .ok (.iload_n 2, 1) := by decide +kernel
theorem dX0_allThere_5 : decode cX0_allThere 5 = .ok (.aload_n 0, 1) := by decide +kernel
theorem dX0_allThere_6 : decode cX0_allThere 6 = .ok (.getfield 55, 3) := by decide +kernel
theorem dX0_allThere_9 : decode cX0_allThere 9 = .ok (.if_icmp .ge 27, 3) := by decide +kernel
theorem dX0_allThere_12 : decode cX0_allThere 12 = .ok (.iload_n 1, 1) := by decide +kernel
theorem dX0_allThere_13 : decode cX0_allThere 13 = .ok (.aload_n 0, 1) := by decide +kernel
theorem dX0_allThere_14 : decode cX0_allThere 14 = .ok (.getfield 28, 3) := by decide +kernel
theorem dX0_allThere_17 : decode cX0_allThere 17 = .ok (.iload_n 2, 1) := by decide +kernel
theorem dX0_allThere_18 : decode cX0_allThere 18 = .ok (.iaload, 1) := by decide +kernel
theorem dX0_allThere_19 : decode cX0_allThere 19 = .ok (.iconst (-1), 1) := by decide +kernel
theorem dX0_allThere_20 : decode cX0_allThere 20 = .ok (.if_icmp .eq 7, 3) := by decide +kernel
theorem dX0_allThere_23 : decode cX0_allThere 23 = .ok (.iconst 1, 1) := by decide +kernel
theorem dX0_allThere_24 : decode cX0_allThere 24 = .ok (.goto 4, 3) := by decide +kernel
theorem dX0_allThere_27 : decode cX0_allThere 27 = .ok (.iconst 0, 1) := by decide +kernel
theorem dX0_allThere_28 : decode cX0_allThere 28 = .ok (.iadd, 1) := by decide +kernel
theorem dX0_allThere_29 : decode cX0_allThere 29 = .ok (.istore_n 1, 1) := by decide +kernel
theorem dX0_allThere_30 : decode cX0_allThere 30 = .ok (.iinc 2 1, 3) := by decide +kernel
theorem dX0_allThere_33 : decode cX0_allThere 33 = .ok (.goto (-29), 3) := by decide +kernel
theorem dX0_allThere_36 : decode cX0_allThere 36 = .ok (.iload_n 1, 1) := by decide +kernel
theorem dX0_allThere_37 : decode cX0_allThere 37 = .ok (.ireturn, 1) := by decide +kernel
theorem dX0_plainThere_0 : decode cX0_plainThere 0 = .ok (.iconst 0, 1) := by decide +kernel
theorem dX0_plainThere_1 : decode cX0_plainThere 1 = .ok (.istore_n 1, 1) := by decide +kernel
theorem dX0_plainThere_2 : decode cX0_plainThere 2 = .ok (.iconst 0, 1) := by decide +kernel
theorem dX0_plainThere_3 : decode cX0_plainThere 3 = .ok (.istore_n 2, 1) := by decide +kernel
theorem dX0_plainThere_4 : decode cX0_plainThere 4 = .ok (.iload_n 2, 1) := by decide +kernel
theorem dX0_plainThere_5 : decode cX0_plainThere 5 = .ok (.aload_n 0, 1) := by decide +kernel
theorem dX0_plainThere_6 : decode cX0_plainThere 6 = .ok (.getfield 55, 3) := by decide +kernel
theorem dX0_plainThere_9 : decode cX0_plainThere 9 = .ok (.if_icmp .ge 36, 3) := by decide +kernel
theorem dX0_plainThere_12 : decode cX0_plainThere 12 = .ok (.iload_n 1, 1) := by decide +kernel
theorem dX0_plainThere_13 : decode cX0_plainThere 13 = .ok (.aload_n 0, 1) := by decide +kernel
theorem dX0_plainThere_14 : decode cX0_plainThere 14 = .ok (.getfield 28, 3) := by decide +kernel
theorem dX0_plainThere_17 : decode cX0_plainThere 17 = .ok (.iload_n 2, 1) := by decide +kernel
theorem dX0_plainThere_18 : decode cX0_plainThere 18 = .ok (.iaload, 1) := by decide +kernel
theorem dX0_plainThere_19 : decode cX0_plainThere 19 = .ok (.iconst (-1), 1) := by decide +kernel
theorem dX0_plainThere_20 : decode cX0_plainThere 20 = .ok (.if_icmp .eq 16, 3) := by decide +kernel
theorem dX0_plainThere_23 : decode cX0_plainThere 23 = .ok (.aload_n 0, 1) := by decide +kernel
theorem dX0_plainThere_24 : decode cX0_plainThere 24 = .ok (.getfield 31, 3) := by decide +kernel
theorem dX0_plainThere_27 : decode cX0_plainThere 27 = .ok (.iload_n 2, 1) := by decide +kernel
theorem dX0_plainThere_28 : decode cX0_plainThere 28 = .ok (.iaload, 1) := by decide +kernel
theorem dX0_plainThere_29 : decode cX0_plainThere 29 = .ok (.ifCond .ne 7, 3) := by decide +kernel
theorem dX0_plainThere_32 : decode cX0_plainThere 32 = .ok (.iconst 1, 1) := by decide +kernel
theorem dX0_plainThere_33 : decode cX0_plainThere 33 = .ok (.goto 4, 3) := by decide +kernel
theorem dX0_plainThere_36 : decode cX0_plainThere 36 = .ok (.iconst 0, 1) := by decide +kernel
theorem dX0_plainThere_37 : decode cX0_plainThere 37 = .ok (.iadd, 1) := by decide +kernel
theorem dX0_plainThere_38 : decode cX0_plainThere 38 = .ok (.istore_n 1, 1) := by decide +kernel
theorem dX0_plainThere_39 : decode cX0_plainThere 39 = .ok (.iinc 2 1, 3) := by decide +kernel
theorem dX0_plainThere_42 : decode cX0_plainThere 42 = .ok (.goto (-38), 3) := by decide +kernel
theorem dX0_plainThere_45 : decode cX0_plainThere 45 = .ok (.iload_n 1, 1) := by decide +kernel
theorem dX0_plainThere_46 : decode cX0_plainThere 46 = .ok (.ireturn, 1) := by decide +kernel
theorem dX0_logSize_0 : decode cX0_logSize 0 = .ok (.aload_n 0, 1) := by decide +kernel
theorem dX0_logSize_1 : decode cX0_logSize 1 = .ok (.getfield 65, 3) := by decide +kernel
theorem dX0_logSize_4 : decode cX0_logSize 4 = .ok (.bipush 40, 2) := by decide +kernel
theorem dX0_logSize_6 : decode cX0_logSize 6 = .ok (.invokestatic 74, 3) := by decide +kernel
theorem dX0_logSize_9 : decode cX0_logSize 9 = .ok (.ireturn, 1) := by decide +kernel
theorem dX0_logPlace_0 : decode cX0_logPlace 0 = .ok (.aload_n 0, 1) := by decide +kernel
theorem dX0_logPlace_1 : decode cX0_logPlace 1 = .ok (.getfield 65, 3) := by decide +kernel
theorem dX0_logPlace_4 : decode cX0_logPlace 4 = .ok (.iconst 1, 1) := by decide +kernel
theorem dX0_logPlace_5 : decode cX0_logPlace 5 = .ok (.isub, 1) := by decide +kernel
theorem dX0_logPlace_6 : decode cX0_logPlace 6 = .ok (.iload_n 1, 1) := by decide +kernel
theorem dX0_logPlace_7 : decode cX0_logPlace 7 = .ok (.isub, 1) := by decide +kernel
theorem dX0_logPlace_8 : decode cX0_logPlace 8 = .ok (.bipush 40, 2) := by decide +kernel
theorem dX0_logPlace_10 : decode cX0_logPlace 10 = .ok (.irem, 1) := by decide +kernel
theorem dX0_logPlace_11 : decode cX0_logPlace 11 = .ok (.ireturn, 1) := by decide +kernel
set_option maxRecDepth 20000 in
theorem ggX1_init_J7_fill_53178 : GoodIn wsX1_init wsJ7_fill_53178 := goodIn_r _ [11] (by decide +kernel) (by decide +kernel)
set_option maxRecDepth 20000 in
theorem gX1_init_J7_fill_53178 : GoodIn wsX1_init (va_wsS RX1 15 yJ7_fill_53178 wsJ7_fill_53178) := goodIn_app (goodIn_of _ (by decide +kernel)) ggX1_init_J7_fill_53178
theorem dX1_init_0 : decode cX1_init 0 = .ok (.aload_n 0, 1) := by decide +kernel
theorem dX1_init_1 : decode cX1_init 1 = .ok (.invokespecial 3, 3) := by decide +kernel
theorem dX1_init_4 : decode cX1_init 4 = .ok (.aload_n 0, 1) := by decide +kernel
theorem dX1_init_5 : decode cX1_init 5 = .ok (.bipush 20, 2) := by decide +kernel
theorem dX1_init_7 : decode cX1_init 7 = .ok (.newarray .int, 2) := by decide +kernel
theorem dX1_init_9 : decode cX1_init 9 = .ok (.putfield 9, 3) := by decide +kernel
theorem dX1_init_12 : decode cX1_init 12 = .ok (.aload_n 0, 1) := by decide +kernel
theorem dX1_init_13 : decode cX1_init 13 = .ok (.getfield 9, 3) := by decide +kernel
theorem dX1_init_16 : decode cX1_init 16 = .ok (.iconst (-1), 1) := by decide +kernel
theorem dX1_init_17 : decode cX1_init 17 = .ok (.invokestatic 15, 3) := by decide +kernel
theorem dX1_init_20 : decode cX1_init 20 = .ok (.aload_n 0, 1) := by decide +kernel
theorem dX1_init_21 : decode cX1_init 21 = .ok (.bipush 20, 2) := by decide +kernel
theorem dX1_init_23 : decode cX1_init 23 = .ok (.newarray .int, 2) := by decide +kernel
theorem dX1_init_25 : decode cX1_init 25 = .ok (.putfield 21, 3) := by decide +kernel
theorem dX1_init_28 : decode cX1_init 28 = .ok (.aload_n 0, 1) := by decide +kernel
theorem dX1_init_29 : decode cX1_init 29 = .ok (.bipush 20, 2) := by decide +kernel
theorem dX1_init_31 : decode cX1_init 31 = .ok (.newarray .int, 2) := by decide +kernel
theorem dX1_init_33 : decode cX1_init 33 = .ok (.putfield 24, 3) := by decide +kernel
theorem dX1_init_36 : decode cX1_init 36 = .ok (.return_, 1) := by decide +kernel
theorem dX1_copyFrom_0 : decode cX1_copyFrom 0 = .ok (.aload_n 1, 1) := by decide +kernel
theorem dX1_copyFrom_1 : decode cX1_copyFrom 1 = .ok (.getfield 9, 3) := by decide +kernel
theorem dX1_copyFrom_4 : decode cX1_copyFrom 4 = .ok (.iconst 0, 1) := by decide +kernel
theorem dX1_copyFrom_5 : decode cX1_copyFrom 5 = .ok (.aload_n 0, 1) := by decide +kernel
theorem dX1_copyFrom_6 : decode cX1_copyFrom 6 = .ok (.getfield 9, 3) := by decide +kernel
theorem dX1_copyFrom_9 : decode cX1_copyFrom 9 = .ok (.iconst 0, 1) := by decide +kernel
theorem dX1_copyFrom_10 : decode cX1_copyFrom 10 = .ok (.bipush 20, 2) := by decide +kernel
theorem dX1_copyFrom_12 : decode cX1_copyFrom 12 = .ok (.invokestatic 27, 3) := by decide +kernel
theorem dX1_copyFrom_15 : decode cX1_copyFrom 15 = .ok (.aload_n 1, 1) := by decide +kernel
theorem dX1_copyFrom_16 : decode cX1_copyFrom 16 = .ok (.getfield 21, 3) := by decide +kernel
theorem dX1_copyFrom_19 : decode cX1_copyFrom 19 = .ok (.iconst 0, 1) := by decide +kernel
theorem dX1_copyFrom_20 : decode cX1_copyFrom 20 = .ok (.aload_n 0, 1) := by decide +kernel
theorem dX1_copyFrom_21 : decode cX1_copyFrom 21 = .ok (.getfield 21, 3) := by decide +kernel
theorem dX1_copyFrom_24 : decode cX1_copyFrom 24 = .ok (.iconst 0, 1) := by decide +kernel
theorem dX1_copyFrom_25 : decode cX1_copyFrom 25 = .ok (.bipush 20, 2) := by decide +kernel
theorem dX1_copyFrom_27 : decode cX1_copyFrom 27 = .ok (.invokestatic 27, 3) := by decide +kernel
theorem dX1_copyFrom_30 : decode cX1_copyFrom 30 = .ok (.aload_n 1, 1) := by decide +kernel
theorem dX1_copyFrom_31 : decode cX1_copyFrom 31 = .ok (.getfield 24, 3) := by decide +kernel
theorem dX1_copyFrom_34 : decode cX1_copyFrom 34 = .ok (.iconst 0, 1) := by decide +kernel
theorem dX1_copyFrom_35 : decode cX1_copyFrom 35 = .ok (.aload_n 0, 1) := by decide +kernel
theorem dX1_copyFrom_36 : decode cX1_copyFrom 36 = .ok (.getfield 24, 3) := by decide +kernel
theorem dX1_copyFrom_39 : decode cX1_copyFrom 39 = .ok (.iconst 0, 1) := by decide +kernel
theorem dX1_copyFrom_40 : decode cX1_copyFrom 40 = .ok (.bipush 20, 2) := by decide +kernel
theorem dX1_copyFrom_42 : decode cX1_copyFrom 42 = .ok (.invokestatic 27, 3) := by decide +kernel
theorem dX1_copyFrom_45 : decode cX1_copyFrom 45 = .ok (.return_, 1) := by decide +kernel
theorem dX1_isThere_0 : decode cX1_isThere 0 = .ok (.iload_n 1, 1) := by decide +kernel
theorem dX1_isThere_1 : decode cX1_isThere 1 = .ok (.ifCond .lt 23, 3) := by decide +kernel
theorem dX1_isThere_4 : decode cX1_isThere 4 = .ok (.iload_n 1, 1) := by decide +kernel
theorem dX1_isThere_5 : decode cX1_isThere 5 = .ok (.bipush 20, 2) := by decide +kernel
theorem dX1_isThere_7 : decode cX1_isThere 7 = .ok (.if_icmp .ge 17, 3) := by decide +kernel
theorem dX1_isThere_10 : decode cX1_isThere 10 = .ok (.aload_n 0, 1) := by decide +kernel
theorem dX1_isThere_11 : decode cX1_isThere 11 = .ok (.getfield 9, 3) := by decide +kernel
theorem dX1_isThere_14 : decode cX1_isThere 14 = .ok (.iload_n 1, 1) := by decide +kernel
theorem dX1_isThere_15 : decode cX1_isThere 15 = .ok (.iaload, 1) := by decide +kernel
theorem dX1_isThere_16 : decode cX1_isThere 16 = .ok (.iconst (-1), 1) := by decide +kernel
theorem dX1_isThere_17 : decode cX1_isThere 17 = .ok (.if_icmp .eq 7, 3) := by decide +kernel
theorem dX1_isThere_20 : decode cX1_isThere 20 = .ok (.iconst 1, 1) := by decide +kernel
theorem dX1_isThere_21 : decode cX1_isThere 21 = .ok (.goto 4, 3) := by decide +kernel
theorem dX1_isThere_24 : decode cX1_isThere 24 = .ok (.iconst 0, 1) := by decide +kernel
theorem dX1_isThere_25 : decode cX1_isThere 25 = .ok (.ireturn, 1) := by decide +kernel
theorem dX1_firstFree_0 : decode cX1_firstFree 0 = .ok (.iconst 0, 1) := by decide +kernel
theorem dX1_firstFree_1 : decode cX1_firstFree 1 = .ok (.istore_n 1, 1) := by decide +kernel
theorem dX1_firstFree_2 : decode cX1_firstFree 2 = .ok (.iload_n 1, 1) := by decide +kernel
theorem dX1_firstFree_3 : decode cX1_firstFree 3 = .ok (.bipush 20, 2) := by decide +kernel
theorem dX1_firstFree_5 : decode cX1_firstFree 5 = .ok (.if_icmp .ge 21, 3) := by decide +kernel
theorem dX1_firstFree_8 : decode cX1_firstFree 8 = .ok (.aload_n 0, 1) := by decide +kernel
theorem dX1_firstFree_9 : decode cX1_firstFree 9 = .ok (.getfield 9, 3) := by decide +kernel
theorem dX1_firstFree_12 : decode cX1_firstFree 12 = .ok (.iload_n 1, 1) := by decide +kernel
theorem dX1_firstFree_13 : decode cX1_firstFree 13 = .ok (.iaload, 1) := by decide +kernel
theorem dX1_firstFree_14 : decode cX1_firstFree 14 = .ok (.iconst (-1), 1) := by decide +kernel
theorem dX1_firstFree_15 : decode cX1_firstFree 15 = .ok (.if_icmp .ne 5, 3) := by decide +kernel
theorem dX1_firstFree_18 : decode cX1_firstFree 18 = .ok (.iload_n 1, 1) := by decide +kernel
theorem dX1_firstFree_19 : decode cX1_firstFree 19 = .ok (.ireturn, 1) := by decide +kernel
theorem dX1_firstFree_20 : decode cX1_firstFree 20 = .ok (.iinc 1 1, 3) := by decide +kernel
theorem dX1_firstFree_23 : decode cX1_firstFree 23 = .ok (.goto (-21), 3) := by decide +kernel
theorem dX1_firstFree_26 : decode cX1_firstFree 26 = .ok (.iconst (-1), 1) := by decide +kernel
theorem dX1_firstFree_27 : decode cX1_firstFree 27 = .ok (.ireturn, 1) := by decide +kernel
theorem dX1_size_0 : decode cX1_size 0 = .ok (.iconst 0, 1) := by decide +kernel
theorem dX1_size_1 : decode cX1_size 1 = .ok (.istore_n 1, 1) := by decide +kernel
theorem dX1_size_2 : decode cX1_size 2 = .ok (.iconst 0, 1) := by decide +kernel
theorem dX1_size_3 : decode cX1_size 3 = .ok (.istore_n 2, 1) := by decide +kernel
theorem dX1_size_4 : decode cX1_size 4 = .ok (.iload_n 2, 1) := by decide +kernel
theorem dX1_size_5 : decode cX1_size 5 = .ok (.bipush 20, 2) := by decide +kernel
theorem dX1_size_7 : decode cX1_size 7 = .ok (.if_icmp .ge 27, 3) := by decide +kernel
theorem dX1_size_10 : decode cX1_size 10 = .ok (.iload_n 1, 1) := by decide +kernel
theorem dX1_size_11 : decode cX1_size 11 = .ok (.aload_n 0, 1) := by decide +kernel
theorem dX1_size_12 : decode cX1_size 12 = .ok (.getfield 9, 3) := by decide +kernel
theorem dX1_size_15 : decode cX1_size 15 = .ok (.iload_n 2, 1) := by decide +kernel
theorem dX1_size_16 : decode cX1_size 16 = .ok (.iaload, 1) := by decide +kernel
theorem dX1_size_17 : decode cX1_size 17 = .ok (.iconst (-1), 1) := by decide +kernel
theorem dX1_size_18 : decode cX1_size 18 = .ok (.if_icmp .eq 7, 3) := by decide +kernel
theorem dX1_size_21 : decode cX1_size 21 = .ok (.iconst 1, 1) := by decide +kernel
theorem dX1_size_22 : decode cX1_size 22 = .ok (.goto 4, 3) := by decide +kernel
theorem dX1_size_25 : decode cX1_size 25 = .ok (.iconst 0, 1) := by decide +kernel
theorem dX1_size_26 : decode cX1_size 26 = .ok (.iadd, 1) := by decide +kernel
theorem dX1_size_27 : decode cX1_size 27 = .ok (.istore_n 1, 1) := by decide +kernel
theorem dX1_size_28 : decode cX1_size 28 = .ok (.iinc 2 1, 3) := by decide +kernel
theorem dX1_size_31 : decode cX1_size 31 = .ok (.goto (-27), 3) := by decide +kernel
theorem dX1_size_34 : decode cX1_size 34 = .ok (.iload_n 1, 1) := by decide +kernel
theorem dX1_size_35 : decode cX1_size 35 = .ok (.ireturn, 1) := by decide +kernel
theorem dX2_init_0 : decode cX2_init 0 = .ok (.aload_n 0, 1) := by decide +kernel
theorem dX2_init_1 : decode cX2_init 1 = .ok (.invokespecial 3, 3) := by decide +kernel
theorem dX2_init_4 : decode cX2_init 4 = .ok (.aload_n 0, 1) := by decide +kernel
theorem dX2_init_5 : decode cX2_init 5 = .ok (.aload_n 1, 1) := by decide +kernel
theorem dX2_init_6 : decode cX2_init 6 = .ok (.putfield 9, 3) := by decide +kernel
theorem dX2_init_9 : decode cX2_init 9 = .ok (.aload_n 0, 1) := by decide +kernel
theorem dX2_init_10 : decode cX2_init 10 = .ok (.sipush 300, 3) := by decide +kernel
theorem dX2_init_13 : decode cX2_init 13 = .ok (.newarray .int, 2) := by decide +kernel
theorem dX2_init_15 : decode cX2_init 15 = .ok (.putfield 15, 3) := by decide +kernel
theorem dX2_init_18 : decode cX2_init 18 = .ok (.aload_n 0, 1) := by decide +kernel
theorem dX2_init_19 : decode cX2_init 19 = .ok (.sipush 300, 3) := by decide +kernel
theorem dX2_init_22 : decode cX2_init 22 = .ok (.newarray .int, 2) := by decide +kernel
theorem dX2_init_24 : decode cX2_init 24 = .ok (.putfield 19, 3) := by decide +kernel
theorem dX2_init_27 : decode cX2_init 27 = .ok (.aload_n 0, 1) := by decide +kernel
theorem dX2_init_28 : decode cX2_init 28 = .ok (.sipush 300, 3) := by decide +kernel
theorem dX2_init_31 : decode cX2_init 31 = .ok (.newarray .int, 2) := by decide +kernel
theorem dX2_init_33 : decode cX2_init 33 = .ok (.putfield 22, 3) := by decide +kernel
theorem dX2_init_36 : decode cX2_init 36 = .ok (.aload_n 0, 1) := by decide +kernel
theorem dX2_init_37 : decode cX2_init 37 = .ok (.sipush 300, 3) := by decide +kernel
theorem dX2_init_40 : decode cX2_init 40 = .ok (.newarray .int, 2) := by decide +kernel
theorem dX2_init_42 : decode cX2_init 42 = .ok (.putfield 25, 3) := by decide +kernel
theorem dX2_init_45 : decode cX2_init 45 = .ok (.aload_n 0, 1) := by decide +kernel
theorem dX2_init_46 : decode cX2_init 46 = .ok (.bipush 40, 2) := by decide +kernel
theorem dX2_init_48 : decode cX2_init 48 = .ok (.newarray .int, 2) := by decide +kernel
theorem dX2_init_50 : decode cX2_init 50 = .ok (.putfield 28, 3) := by decide +kernel
theorem dX2_init_53 : decode cX2_init 53 = .ok (.return_, 1) := by decide +kernel
theorem dX2_walk_0 : decode cX2_walk 0 = .ok (.iconst 0, 1) := by decide +kernel
theorem dX2_walk_1 : decode cX2_walk 1 = .ok (.istore_n 2, 1) := by decide +kernel
theorem dX2_walk_2 : decode cX2_walk 2 = .ok (.iconst 0, 1) := by decide +kernel
theorem dX2_walk_3 : decode cX2_walk 3 = .ok (.istore_n 3, 1) := by decide +kernel
theorem dX2_walk_4 : decode cX2_walk 4 = .ok (.iload_n 1, 1) := by decide +kernel
theorem dX2_walk_5 : decode cX2_walk 5 = .ok (.iconst (-1), 1) := by decide +kernel
theorem dX2_walk_6 : decode cX2_walk 6 = .ok (.if_icmp .eq 13, 3) := by decide +kernel
theorem dX2_walk_9 : decode cX2_walk 9 = .ok (.aload_n 0, 1) := by decide +kernel
theorem dX2_walk_10 : decode cX2_walk 10 = .ok (.getfield 22, 3) := by decide +kernel
theorem dX2_walk_13 : decode cX2_walk 13 = .ok (.iload_n 3, 1) := by decide +kernel
theorem dX2_walk_14 : decode cX2_walk 14 = .ok (.iinc 3 1, 3) := by decide +kernel
theorem dX2_walk_17 : decode cX2_walk 17 = .ok (.iload_n 1, 1) := by decide +kernel
theorem dX2_walk_18 : decode cX2_walk 18 = .ok (.iastore, 1) := by decide +kernel
theorem dX2_walk_19 : decode cX2_walk 19 = .ok (.iload_n 3, 1) := by decide +kernel
theorem dX2_walk_20 : decode cX2_walk 20 = .ok (.ifCond .le 115, 3) := by decide +kernel
theorem dX2_walk_23 : decode cX2_walk 23 = .ok (.iload_n 2, 1) := by decide +kernel
theorem dX2_walk_24 : decode cX2_walk 24 = .ok (.sipush 300, 3) := by decide +kernel
theorem dX2_walk_27 : decode cX2_walk 27 = .ok (.if_icmp .ge 108, 3) := by decide +kernel
theorem dX2_walk_30 : decode cX2_walk 30 = .ok (.aload_n 0, 1) := by decide +kernel
theorem dX2_walk_31 : decode cX2_walk 31 = .ok (.getfield 22, 3) := by decide +kernel
theorem dX2_walk_34 : decode cX2_walk 34 = .ok (.iinc 3 (-1), 3) := by decide +kernel
theorem dX2_walk_37 : decode cX2_walk 37 = .ok (.iload_n 3, 1) := by decide +kernel
theorem dX2_walk_38 : decode cX2_walk 38 = .ok (.iaload, 1) := by decide +kernel
theorem dX2_walk_39 : decode cX2_walk 39 = .ok (.istore 4, 2) := by decide +kernel
theorem dX2_walk_41 : decode cX2_walk 41 = .ok (.aload_n 0, 1) := by decide +kernel
theorem dX2_walk_42 : decode cX2_walk 42 = .ok (.getfield 15, 3) := by decide +kernel
theorem dX2_walk_45 : decode cX2_walk 45 = .ok (.iload_n 2, 1) := by decide +kernel
theorem dX2_walk_46 : decode cX2_walk 46 = .ok (.iinc 2 1, 3) := by decide +kernel
theorem dX2_walk_49 : decode cX2_walk 49 = .ok (.iload 4, 2) := by decide +kernel
theorem dX2_walk_51 : decode cX2_walk 51 = .ok (.iastore, 1) := by decide +kernel
theorem dX2_walk_52 : decode cX2_walk 52 = .ok (.aload_n 0, 1) := by decide +kernel
theorem dX2_walk_53 : decode cX2_walk 53 = .ok (.getfield 9, 3) := by decide +kernel
theorem dX2_walk_56 : decode cX2_walk 56 = .ok (.getfield 31, 3) := by decide +kernel
theorem dX2_walk_59 : decode cX2_walk 59 = .ok (.iload 4, 2) := by decide +kernel
theorem dX2_walk_61 : decode cX2_walk 61 = .ok (.iaload, 1) := by decide +kernel
theorem dX2_walk_62 : decode cX2_walk 62 = .ok (.iconst (-1), 1) := by decide +kernel
theorem dX2_walk_63 : decode cX2_walk 63 = .ok (.if_icmp .eq 29, 3) := by decide +kernel
theorem dX2_walk_66 : decode cX2_walk 66 = .ok (.iload_n 3, 1) := by decide +kernel
theorem dX2_walk_67 : decode cX2_walk 67 = .ok (.sipush 300, 3) := by decide +kernel
theorem dX2_walk_70 : decode cX2_walk 70 = .ok (.if_icmp .ge 22, 3) := by decide +kernel
theorem dX2_walk_73 : decode cX2_walk 73 = .ok (.aload_n 0, 1) := by decide +kernel
theorem dX2_walk_74 : decode cX2_walk 74 = .ok (.getfield 22, 3) := by decide +kernel
theorem dX2_walk_77 : decode cX2_walk 77 = .ok (.iload_n 3, 1) := by decide +kernel
theorem dX2_walk_78 : decode cX2_walk 78 = .ok (.iinc 3 1, 3) := by decide +kernel
theorem dX2_walk_81 : decode cX2_walk 81 = .ok (.aload_n 0, 1) := by decide +kernel
theorem dX2_walk_82 : decode cX2_walk 82 = .ok (.getfield 9, 3) := by decide +kernel
theorem dX2_walk_85 : decode cX2_walk 85 = .ok (.getfield 31, 3) := by decide +kernel
theorem dX2_walk_88 : decode cX2_walk 88 = .ok (.iload 4, 2) := by decide +kernel
theorem dX2_walk_90 : decode cX2_walk 90 = .ok (.iaload, 1) := by decide +kernel
theorem dX2_walk_91 : decode cX2_walk 91 = .ok (.iastore, 1) := by decide +kernel
theorem dX2_walk_92 : decode cX2_walk 92 = .ok (.aload_n 0, 1) := by decide +kernel
theorem dX2_walk_93 : decode cX2_walk 93 = .ok (.getfield 9, 3) := by decide +kernel
theorem dX2_walk_96 : decode cX2_walk 96 = .ok (.getfield 36, 3) := by decide +kernel
theorem dX2_walk_99 : decode cX2_walk 99 = .ok (.iload 4, 2) := by decide +kernel
theorem dX2_walk_101 : decode cX2_walk 101 = .ok (.iaload, 1) := by decide +kernel
theorem dX2_walk_102 : decode cX2_walk 102 = .ok (.iconst (-1), 1) := by decide +kernel
theorem dX2_walk_103 : decode cX2_walk 103 = .ok (.if_icmp .eq 29, 3) := by decide +kernel
theorem dX2_walk_106 : decode cX2_walk 106 = .ok (.iload_n 3, 1) := by decide +kernel
theorem dX2_walk_107 : decode cX2_walk 107 = .ok (.sipush 300, 3) := by decide +kernel
theorem dX2_walk_110 : decode cX2_walk 110 = .ok (.if_icmp .ge 22, 3) := by decide +kernel
theorem dX2_walk_113 : decode cX2_walk 113 = .ok (.aload_n 0, 1) := by decide +kernel
theorem dX2_walk_114 : decode cX2_walk 114 = .ok (.getfield 22, 3) := by decide +kernel
theorem dX2_walk_117 : decode cX2_walk 117 = .ok (.iload_n 3, 1) := by decide +kernel
theorem dX2_walk_118 : decode cX2_walk 118 = .ok (.iinc 3 1, 3) := by decide +kernel
theorem dX2_walk_121 : decode cX2_walk 121 = .ok (.aload_n 0, 1) := by decide +kernel
theorem dX2_walk_122 : decode cX2_walk 122 = .ok (.getfield 9, 3) := by decide +kernel
theorem dX2_walk_125 : decode cX2_walk 125 = .ok (.getfield 36, 3) := by decide +kernel
theorem dX2_walk_128 : decode cX2_walk 128 = .ok (.iload 4, 2) := by decide +kernel
theorem dX2_walk_130 : decode cX2_walk 130 = .ok (.iaload, 1) := by decide +kernel
theorem dX2_walk_131 : decode cX2_walk 131 = .ok (.iastore, 1) := by decide +kernel
theorem dX2_walk_132 : decode cX2_walk 132 = .ok (.goto (-113), 3) := by decide +kernel
theorem dX2_walk_135 : decode cX2_walk 135 = .ok (.iload_n 2, 1) := by decide +kernel
theorem dX2_walk_136 : decode cX2_walk 136 = .ok (.ireturn, 1) := by decide +kernel
set_option maxRecDepth 20000 in
theorem ggX2_height_X2_walk : GoodIn wsX2_height wsX2_walk := goodIn_r _ [14, 15, 3, 1, 16, 17, 18, 19, 20, 21, 22, 23, 24, 25, 26, 27, 28, 29, 30, 31, 32, 33, 34, 35, 36, 37, 38, 39, 40] (by decide +kernel) (by decide +kernel)
set_option maxRecDepth 20000 in
theorem gX2_height_X2_walk : GoodIn wsX2_height (wsV RX2 42 RX2 yX2_walk wsX2_walk) := goodIn_app (goodIn_of _ (by decide +kernel)) ggX2_height_X2_walk
theorem dX2_height_0 : decode cX2_height 0 = .ok (.aload_n 0, 1) := by decide +kernel
theorem dX2_height_1 : decode cX2_height 1 = .ok (.aload_n 0, 1) := by decide +kernel
theorem dX2_height_2 : decode cX2_height 2 = .ok (.getfield 9, 3) := by decide +kernel
theorem dX2_height_5 : decode cX2_height 5 = .ok (.getfield 39, 3) := by decide +kernel
theorem dX2_height_8 : decode cX2_height 8 = .ok (.iload_n 1, 1) := by decide +kernel
theorem dX2_height_9 : decode cX2_height 9 = .ok (.iaload, 1) := by decide +kernel
theorem dX2_height_10 : decode cX2_height 10 = .ok (.invokevirtual 42, 3) := by decide +kernel
theorem dX2_height_13 : decode cX2_height 13 = .ok (.istore_n 2, 1) := by decide +kernel
theorem dX2_height_14 : decode cX2_height 14 = .ok (.iconst 0, 1) := by decide +kernel
theorem dX2_height_15 : decode cX2_height 15 = .ok (.istore_n 3, 1) := by decide +kernel
theorem dX2_height_16 : decode cX2_height 16 = .ok (.iconst 0, 1) := by decide +kernel
theorem dX2_height_17 : decode cX2_height 17 = .ok (.istore 4, 2) := by decide +kernel
theorem dX2_height_19 : decode cX2_height 19 = .ok (.iload 4, 2) := by decide +kernel
theorem dX2_height_21 : decode cX2_height 21 = .ok (.iload_n 2, 1) := by decide +kernel
theorem dX2_height_22 : decode cX2_height 22 = .ok (.if_icmp .ge 72, 3) := by decide +kernel
theorem dX2_height_25 : decode cX2_height 25 = .ok (.aload_n 0, 1) := by decide +kernel
theorem dX2_height_26 : decode cX2_height 26 = .ok (.getfield 15, 3) := by decide +kernel
theorem dX2_height_29 : decode cX2_height 29 = .ok (.iload 4, 2) := by decide +kernel
theorem dX2_height_31 : decode cX2_height 31 = .ok (.iaload, 1) := by decide +kernel
theorem dX2_height_32 : decode cX2_height 32 = .ok (.istore 5, 2) := by decide +kernel
theorem dX2_height_34 : decode cX2_height 34 = .ok (.aload_n 0, 1) := by decide +kernel
theorem dX2_height_35 : decode cX2_height 35 = .ok (.getfield 25, 3) := by decide +kernel
theorem dX2_height_38 : decode cX2_height 38 = .ok (.iload 5, 2) := by decide +kernel
theorem dX2_height_40 : decode cX2_height 40 = .ok (.aload_n 0, 1) := by decide +kernel
theorem dX2_height_41 : decode cX2_height 41 = .ok (.getfield 9, 3) := by decide +kernel
theorem dX2_height_44 : decode cX2_height 44 = .ok (.getfield 46, 3) := by decide +kernel
theorem dX2_height_47 : decode cX2_height 47 = .ok (.iload 5, 2) := by decide +kernel
theorem dX2_height_49 : decode cX2_height 49 = .ok (.iaload, 1) := by decide +kernel
theorem dX2_height_50 : decode cX2_height 50 = .ok (.iconst (-1), 1) := by decide +kernel
theorem dX2_height_51 : decode cX2_height 51 = .ok (.if_icmp .ne 7, 3) := by decide +kernel
theorem dX2_height_54 : decode cX2_height 54 = .ok (.iconst 1, 1) := by decide +kernel
theorem dX2_height_55 : decode cX2_height 55 = .ok (.goto 20, 3) := by decide +kernel
theorem dX2_height_58 : decode cX2_height 58 = .ok (.aload_n 0, 1) := by decide +kernel
theorem dX2_height_59 : decode cX2_height 59 = .ok (.getfield 25, 3) := by decide +kernel
theorem dX2_height_62 : decode cX2_height 62 = .ok (.aload_n 0, 1) := by decide +kernel
theorem dX2_height_63 : decode cX2_height 63 = .ok (.getfield 9, 3) := by decide +kernel
theorem dX2_height_66 : decode cX2_height 66 = .ok (.getfield 46, 3) := by decide +kernel
theorem dX2_height_69 : decode cX2_height 69 = .ok (.iload 5, 2) := by decide +kernel
theorem dX2_height_71 : decode cX2_height 71 = .ok (.iaload, 1) := by decide +kernel
theorem dX2_height_72 : decode cX2_height 72 = .ok (.iaload, 1) := by decide +kernel
theorem dX2_height_73 : decode cX2_height 73 = .ok (.iconst 1, 1) := by decide +kernel
theorem dX2_height_74 : decode cX2_height 74 = .ok (.iadd, 1) := by decide +kernel
theorem dX2_height_75 : decode cX2_height 75 = .ok (.iastore, 1) := by decide +kernel
theorem dX2_height_76 : decode cX2_height 76 = .ok (.iload_n 3, 1) := by decide +kernel
theorem dX2_height_77 : decode cX2_height 77 = .ok (.aload_n 0, 1) := by decide +kernel
theorem dX2_height_78 : decode cX2_height 78 = .ok (.getfield 25, 3) := by decide +kernel
theorem dX2_height_81 : decode cX2_height 81 = .ok (.iload 5, 2) := by decide +kernel
theorem dX2_height_83 : decode cX2_height 83 = .ok (.iaload, 1) := by decide +kernel
theorem dX2_height_84 : decode cX2_height 84 = .ok (.invokestatic 49, 3) := by decide +kernel
theorem dX2_height_87 : decode cX2_height 87 = .ok (.istore_n 3, 1) := by decide +kernel
theorem dX2_height_88 : decode cX2_height 88 = .ok (.iinc 4 1, 3) := by decide +kernel
theorem dX2_height_91 : decode cX2_height 91 = .ok (.goto (-72), 3) := by decide +kernel
theorem dX2_height_94 : decode cX2_height 94 = .ok (.iload_n 3, 1) := by decide +kernel
theorem dX2_height_95 : decode cX2_height 95 = .ok (.ireturn, 1) := by decide +kernel
theorem dX2_rightSpine_0 : decode cX2_rightSpine 0 = .ok (.iconst 0, 1) := by decide +kernel
theorem dX2_rightSpine_1 : decode cX2_rightSpine 1 = .ok (.istore_n 2, 1) := by decide +kernel
theorem dX2_rightSpine_2 : decode cX2_rightSpine 2 = .ok (.aload_n 0, 1) := by decide +kernel
theorem dX2_rightSpine_3 : decode cX2_rightSpine 3 = .ok (.getfield 9, 3) := by decide +kernel
theorem dX2_rightSpine_6 : decode cX2_rightSpine 6 = .ok (.getfield 39, 3) := by decide +kernel
theorem dX2_rightSpine_9 : decode cX2_rightSpine 9 = .ok (.iload_n 1, 1) := by decide +kernel
theorem dX2_rightSpine_10 : decode cX2_rightSpine 10 = .ok (.iaload, 1) := by decide +kernel
theorem dX2_rightSpine_11 : decode cX2_rightSpine 11 = .ok (.istore_n 3, 1) := by decide +kernel
theorem dX2_rightSpine_12 : decode cX2_rightSpine 12 = .ok (.iload_n 3, 1) := by decide +kernel
theorem dX2_rightSpine_13 : decode cX2_rightSpine 13 = .ok (.iconst (-1), 1) := by decide +kernel
theorem dX2_rightSpine_14 : decode cX2_rightSpine 14 = .ok (.if_icmp .eq 26, 3) := by decide +kernel
theorem dX2_rightSpine_17 : decode cX2_rightSpine 17 = .ok (.iload_n 2, 1) := by decide +kernel
theorem dX2_rightSpine_18 : decode cX2_rightSpine 18 = .ok (.sipush 300, 3) := by decide +kernel
theorem dX2_rightSpine_21 : decode cX2_rightSpine 21 = .ok (.if_icmp .ge 19, 3) := by decide +kernel
theorem dX2_rightSpine_24 : decode cX2_rightSpine 24 = .ok (.iinc 2 1, 3) := by decide +kernel
theorem dX2_rightSpine_27 : decode cX2_rightSpine 27 = .ok (.aload_n 0, 1) := by decide +kernel
theorem dX2_rightSpine_28 : decode cX2_rightSpine 28 = .ok (.getfield 9, 3) := by decide +kernel
theorem dX2_rightSpine_31 : decode cX2_rightSpine 31 = .ok (.getfield 31, 3) := by decide +kernel
theorem dX2_rightSpine_34 : decode cX2_rightSpine 34 = .ok (.iload_n 3, 1) := by decide +kernel
theorem dX2_rightSpine_35 : decode cX2_rightSpine 35 = .ok (.iaload, 1) := by decide +kernel
theorem dX2_rightSpine_36 : decode cX2_rightSpine 36 = .ok (.istore_n 3, 1) := by decide +kernel
theorem dX2_rightSpine_37 : decode cX2_rightSpine 37 = .ok (.goto (-25), 3) := by decide +kernel
theorem dX2_rightSpine_40 : decode cX2_rightSpine 40 = .ok (.iload_n 2, 1) := by decide +kernel
theorem dX2_rightSpine_41 : decode cX2_rightSpine 41 = .ok (.ireturn, 1) := by decide +kernel
set_option maxRecDepth 20000 in
theorem ggX2_balanced_X0_rankOf : GoodIn wsX2_balanced wsX0_rankOf := goodIn_r _ [10, 11, 18, 19, 20, 21, 22, 23, 24, 25, 26, 27, 28, 29, 30, 31, 32, 33, 34] (by decide +kernel) (by decide +kernel)
set_option maxRecDepth 20000 in
theorem gX2_balanced_X0_rankOf : GoodIn wsX2_balanced (wsV RX2 62 RX0 yX0_rankOf wsX0_rankOf) := goodIn_app (goodIn_of _ (by decide +kernel)) ggX2_balanced_X0_rankOf
theorem dX2_balanced_0 : decode cX2_balanced 0 = .ok (.iconst 0, 1) := by decide +kernel
theorem dX2_balanced_1 : decode cX2_balanced 1 = .ok (.istore_n 2, 1) := by decide +kernel
theorem dX2_balanced_2 : decode cX2_balanced 2 = .ok (.iconst 0, 1) := by decide +kernel
theorem dX2_balanced_3 : decode cX2_balanced 3 = .ok (.istore_n 3, 1) := by decide +kernel
theorem dX2_balanced_4 : decode cX2_balanced 4 = .ok (.iload_n 3, 1) := by decide +kernel
theorem dX2_balanced_5 : decode cX2_balanced 5 = .ok (.aload_n 0, 1) := by decide +kernel
theorem dX2_balanced_6 : decode cX2_balanced 6 = .ok (.getfield 9, 3) := by decide +kernel
theorem dX2_balanced_9 : decode cX2_balanced 9 = .ok (.getfield 55, 3) := by decide +kernel
theorem dX2_balanced_12 : decode cX2_balanced 12 = .ok (.if_icmp .ge 60, 3) := by decide +kernel
theorem dX2_balanced_15 : decode cX2_balanced 15 = .ok (.aload_n 0, 1) := by decide +kernel
theorem dX2_balanced_16 : decode cX2_balanced 16 = .ok (.getfield 9, 3) := by decide +kernel
theorem dX2_balanced_19 : decode cX2_balanced 19 = .ok (.getfield 59, 3) := by decide +kernel
theorem dX2_balanced_22 : decode cX2_balanced 22 = .ok (.iload_n 3, 1) := by decide +kernel
theorem dX2_balanced_23 : decode cX2_balanced 23 = .ok (.iaload, 1) := by decide +kernel
theorem dX2_balanced_24 : decode cX2_balanced 24 = .ok (.iload_n 1, 1) := by decide +kernel
theorem dX2_balanced_25 : decode cX2_balanced 25 = .ok (.if_icmp .ne 41, 3) := by decide +kernel
theorem dX2_balanced_28 : decode cX2_balanced 28 = .ok (.aload_n 0, 1) := by decide +kernel
theorem dX2_balanced_29 : decode cX2_balanced 29 = .ok (.getfield 9, 3) := by decide +kernel
theorem dX2_balanced_32 : decode cX2_balanced 32 = .ok (.aload_n 0, 1) := by decide +kernel
theorem dX2_balanced_33 : decode cX2_balanced 33 = .ok (.getfield 9, 3) := by decide +kernel
theorem dX2_balanced_36 : decode cX2_balanced 36 = .ok (.getfield 36, 3) := by decide +kernel
theorem dX2_balanced_39 : decode cX2_balanced 39 = .ok (.iload_n 3, 1) := by decide +kernel
theorem dX2_balanced_40 : decode cX2_balanced 40 = .ok (.iaload, 1) := by decide +kernel
theorem dX2_balanced_41 : decode cX2_balanced 41 = .ok (.invokevirtual 62, 3) := by decide +kernel
theorem dX2_balanced_44 : decode cX2_balanced 44 = .ok (.aload_n 0, 1) := by decide +kernel
theorem dX2_balanced_45 : decode cX2_balanced 45 = .ok (.getfield 9, 3) := by decide +kernel
theorem dX2_balanced_48 : decode cX2_balanced 48 = .ok (.aload_n 0, 1) := by decide +kernel
theorem dX2_balanced_49 : decode cX2_balanced 49 = .ok (.getfield 9, 3) := by decide +kernel
theorem dX2_balanced_52 : decode cX2_balanced 52 = .ok (.getfield 31, 3) := by decide +kernel
theorem dX2_balanced_55 : decode cX2_balanced 55 = .ok (.iload_n 3, 1) := by decide +kernel
theorem dX2_balanced_56 : decode cX2_balanced 56 = .ok (.iaload, 1) := by decide +kernel
theorem dX2_balanced_57 : decode cX2_balanced 57 = .ok (.invokevirtual 62, 3) := by decide +kernel
theorem dX2_balanced_60 : decode cX2_balanced 60 = .ok (.if_icmp .ne 6, 3) := by decide +kernel
theorem dX2_balanced_63 : decode cX2_balanced 63 = .ok (.iinc 2 1, 3) := by decide +kernel
theorem dX2_balanced_66 : decode cX2_balanced 66 = .ok (.iinc 3 1, 3) := by decide +kernel
theorem dX2_balanced_69 : decode cX2_balanced 69 = .ok (.goto (-65), 3) := by decide +kernel
theorem dX2_balanced_72 : decode cX2_balanced 72 = .ok (.iload_n 2, 1) := by decide +kernel
theorem dX2_balanced_73 : decode cX2_balanced 73 = .ok (.ireturn, 1) := by decide +kernel
theorem dX2_leaves_0 : decode cX2_leaves 0 = .ok (.iconst 0, 1) := by decide +kernel
theorem dX2_leaves_1 : decode cX2_leaves 1 = .ok (.istore_n 2, 1) := by decide +kernel
theorem dX2_leaves_2 : decode cX2_leaves 2 = .ok (.iconst 0, 1) := by decide +kernel
theorem dX2_leaves_3 : decode cX2_leaves 3 = .ok (.istore_n 3, 1) := by decide +kernel
theorem dX2_leaves_4 : decode cX2_leaves 4 = .ok (.iload_n 3, 1) := by decide +kernel
theorem dX2_leaves_5 : decode cX2_leaves 5 = .ok (.aload_n 0, 1) := by decide +kernel
theorem dX2_leaves_6 : decode cX2_leaves 6 = .ok (.getfield 9, 3) := by decide +kernel
theorem dX2_leaves_9 : decode cX2_leaves 9 = .ok (.getfield 55, 3) := by decide +kernel
theorem dX2_leaves_12 : decode cX2_leaves 12 = .ok (.if_icmp .ge 51, 3) := by decide +kernel
theorem dX2_leaves_15 : decode cX2_leaves 15 = .ok (.aload_n 0, 1) := by decide +kernel
theorem dX2_leaves_16 : decode cX2_leaves 16 = .ok (.getfield 9, 3) := by decide +kernel
theorem dX2_leaves_19 : decode cX2_leaves 19 = .ok (.getfield 59, 3) := by decide +kernel
theorem dX2_leaves_22 : decode cX2_leaves 22 = .ok (.iload_n 3, 1) := by decide +kernel
theorem dX2_leaves_23 : decode cX2_leaves 23 = .ok (.iaload, 1) := by decide +kernel
theorem dX2_leaves_24 : decode cX2_leaves 24 = .ok (.iload_n 1, 1) := by decide +kernel
theorem dX2_leaves_25 : decode cX2_leaves 25 = .ok (.if_icmp .ne 32, 3) := by decide +kernel
theorem dX2_leaves_28 : decode cX2_leaves 28 = .ok (.aload_n 0, 1) := by decide +kernel
theorem dX2_leaves_29 : decode cX2_leaves 29 = .ok (.getfield 9, 3) := by decide +kernel
theorem dX2_leaves_32 : decode cX2_leaves 32 = .ok (.getfield 36, 3) := by decide +kernel
theorem dX2_leaves_35 : decode cX2_leaves 35 = .ok (.iload_n 3, 1) := by decide +kernel
theorem dX2_leaves_36 : decode cX2_leaves 36 = .ok (.iaload, 1) := by decide +kernel
theorem dX2_leaves_37 : decode cX2_leaves 37 = .ok (.iconst (-1), 1) := by decide +kernel
theorem dX2_leaves_38 : decode cX2_leaves 38 = .ok (.if_icmp .ne 19, 3) := by decide +kernel
theorem dX2_leaves_41 : decode cX2_leaves 41 = .ok (.aload_n 0, 1) := by decide +kernel
theorem dX2_leaves_42 : decode cX2_leaves 42 = .ok (.getfield 9, 3) := by decide +kernel
theorem dX2_leaves_45 : decode cX2_leaves 45 = .ok (.getfield 31, 3) := by decide +kernel
theorem dX2_leaves_48 : decode cX2_leaves 48 = .ok (.iload_n 3, 1) := by decide +kernel
theorem dX2_leaves_49 : decode cX2_leaves 49 = .ok (.iaload, 1) := by decide +kernel
theorem dX2_leaves_50 : decode cX2_leaves 50 = .ok (.iconst (-1), 1) := by decide +kernel
theorem dX2_leaves_51 : decode cX2_leaves 51 = .ok (.if_icmp .ne 6, 3) := by decide +kernel
theorem dX2_leaves_54 : decode cX2_leaves 54 = .ok (.iinc 2 1, 3) := by decide +kernel
theorem dX2_leaves_57 : decode cX2_leaves 57 = .ok (.iinc 3 1, 3) := by decide +kernel
theorem dX2_leaves_60 : decode cX2_leaves 60 = .ok (.goto (-56), 3) := by decide +kernel
theorem dX2_leaves_63 : decode cX2_leaves 63 = .ok (.iload_n 2, 1) := by decide +kernel
theorem dX2_leaves_64 : decode cX2_leaves 64 = .ok (.ireturn, 1) := by decide +kernel
set_option maxRecDepth 20000 in
theorem ggX2_rightHeavy_X2_walk : GoodIn wsX2_rightHeavy wsX2_walk := goodIn_r _ [11, 12, 3, 1, 6, 4, 13, 14, 15, 16, 17, 18, 19, 20, 21, 22, 23, 24, 25, 26, 27, 28, 29, 30, 31, 32, 33, 34, 35] (by decide +kernel) (by decide +kernel)
set_option maxRecDepth 20000 in
theorem gX2_rightHeavy_X2_walk : GoodIn wsX2_rightHeavy (wsV RX2 42 RX2 yX2_walk wsX2_walk) := goodIn_app (goodIn_of _ (by decide +kernel)) ggX2_rightHeavy_X2_walk
theorem dX2_rightHeavy_0 : decode cX2_rightHeavy 0 = .ok (.aload_n 0, 1) := by decide +kernel
theorem dX2_rightHeavy_1 : decode cX2_rightHeavy 1 = .ok (.aload_n 0, 1) := by decide +kernel
theorem dX2_rightHeavy_2 : decode cX2_rightHeavy 2 = .ok (.getfield 9, 3) := by decide +kernel
theorem dX2_rightHeavy_5 : decode cX2_rightHeavy 5 = .ok (.getfield 39, 3) := by decide +kernel
theorem dX2_rightHeavy_8 : decode cX2_rightHeavy 8 = .ok (.iload_n 1, 1) := by decide +kernel
theorem dX2_rightHeavy_9 : decode cX2_rightHeavy 9 = .ok (.iaload, 1) := by decide +kernel
theorem dX2_rightHeavy_10 : decode cX2_rightHeavy 10 = .ok (.invokevirtual 42, 3) := by decide +kernel
theorem dX2_rightHeavy_13 : decode cX2_rightHeavy 13 = .ok (.istore_n 2, 1) := by decide +kernel
theorem dX2_rightHeavy_14 : decode cX2_rightHeavy 14 = .ok (.iconst 0, 1) := by decide +kernel
theorem dX2_rightHeavy_15 : decode cX2_rightHeavy 15 = .ok (.istore_n 3, 1) := by decide +kernel
theorem dX2_rightHeavy_16 : decode cX2_rightHeavy 16 = .ok (.iload_n 2, 1) := by decide +kernel
theorem dX2_rightHeavy_17 : decode cX2_rightHeavy 17 = .ok (.iconst 1, 1) := by decide +kernel
theorem dX2_rightHeavy_18 : decode cX2_rightHeavy 18 = .ok (.isub, 1) := by decide +kernel
theorem dX2_rightHeavy_19 : decode cX2_rightHeavy 19 = .ok (.istore 4, 2) := by decide +kernel
theorem dX2_rightHeavy_21 : decode cX2_rightHeavy 21 = .ok (.iload 4, 2) := by decide +kernel
theorem dX2_rightHeavy_23 : decode cX2_rightHeavy 23 = .ok (.ifCond .lt 117, 3) := by decide +kernel
theorem dX2_rightHeavy_26 : decode cX2_rightHeavy 26 = .ok (.aload_n 0, 1) := by decide +kernel
theorem dX2_rightHeavy_27 : decode cX2_rightHeavy 27 = .ok (.getfield 15, 3) := by decide +kernel
theorem dX2_rightHeavy_30 : decode cX2_rightHeavy 30 = .ok (.iload 4, 2) := by decide +kernel
theorem dX2_rightHeavy_32 : decode cX2_rightHeavy 32 = .ok (.iaload, 1) := by decide +kernel
theorem dX2_rightHeavy_33 : decode cX2_rightHeavy 33 = .ok (.istore 5, 2) := by decide +kernel
theorem dX2_rightHeavy_35 : decode cX2_rightHeavy 35 = .ok (.aload_n 0, 1) := by decide +kernel
theorem dX2_rightHeavy_36 : decode cX2_rightHeavy 36 = .ok (.getfield 9, 3) := by decide +kernel
theorem dX2_rightHeavy_39 : decode cX2_rightHeavy 39 = .ok (.getfield 36, 3) := by decide +kernel
theorem dX2_rightHeavy_42 : decode cX2_rightHeavy 42 = .ok (.iload 5, 2) := by decide +kernel
theorem dX2_rightHeavy_44 : decode cX2_rightHeavy 44 = .ok (.iaload, 1) := by decide +kernel
theorem dX2_rightHeavy_45 : decode cX2_rightHeavy 45 = .ok (.iconst (-1), 1) := by decide +kernel
theorem dX2_rightHeavy_46 : decode cX2_rightHeavy 46 = .ok (.if_icmp .ne 7, 3) := by decide +kernel
theorem dX2_rightHeavy_49 : decode cX2_rightHeavy 49 = .ok (.iconst 0, 1) := by decide +kernel
theorem dX2_rightHeavy_50 : decode cX2_rightHeavy 50 = .ok (.goto 18, 3) := by decide +kernel
theorem dX2_rightHeavy_53 : decode cX2_rightHeavy 53 = .ok (.aload_n 0, 1) := by decide +kernel
theorem dX2_rightHeavy_54 : decode cX2_rightHeavy 54 = .ok (.getfield 25, 3) := by decide +kernel
theorem dX2_rightHeavy_57 : decode cX2_rightHeavy 57 = .ok (.aload_n 0, 1) := by decide +kernel
theorem dX2_rightHeavy_58 : decode cX2_rightHeavy 58 = .ok (.getfield 9, 3) := by decide +kernel
theorem dX2_rightHeavy_61 : decode cX2_rightHeavy 61 = .ok (.getfield 36, 3) := by decide +kernel
theorem dX2_rightHeavy_64 : decode cX2_rightHeavy 64 = .ok (.iload 5, 2) := by decide +kernel
theorem dX2_rightHeavy_66 : decode cX2_rightHeavy 66 = .ok (.iaload, 1) := by decide +kernel
theorem dX2_rightHeavy_67 : decode cX2_rightHeavy 67 = .ok (.iaload, 1) := by decide +kernel
theorem dX2_rightHeavy_68 : decode cX2_rightHeavy 68 = .ok (.istore 6, 2) := by decide +kernel
theorem dX2_rightHeavy_70 : decode cX2_rightHeavy 70 = .ok (.aload_n 0, 1) := by decide +kernel
theorem dX2_rightHeavy_71 : decode cX2_rightHeavy 71 = .ok (.getfield 9, 3) := by decide +kernel
theorem dX2_rightHeavy_74 : decode cX2_rightHeavy 74 = .ok (.getfield 31, 3) := by decide +kernel
theorem dX2_rightHeavy_77 : decode cX2_rightHeavy 77 = .ok (.iload 5, 2) := by decide +kernel
theorem dX2_rightHeavy_79 : decode cX2_rightHeavy 79 = .ok (.iaload, 1) := by decide +kernel
theorem dX2_rightHeavy_80 : decode cX2_rightHeavy 80 = .ok (.iconst (-1), 1) := by decide +kernel
theorem dX2_rightHeavy_81 : decode cX2_rightHeavy 81 = .ok (.if_icmp .ne 7, 3) := by decide +kernel
theorem dX2_rightHeavy_84 : decode cX2_rightHeavy 84 = .ok (.iconst 0, 1) := by decide +kernel
theorem dX2_rightHeavy_85 : decode cX2_rightHeavy 85 = .ok (.goto 18, 3) := by decide +kernel
theorem dX2_rightHeavy_88 : decode cX2_rightHeavy 88 = .ok (.aload_n 0, 1) := by decide +kernel
theorem dX2_rightHeavy_89 : decode cX2_rightHeavy 89 = .ok (.getfield 25, 3) := by decide +kernel
theorem dX2_rightHeavy_92 : decode cX2_rightHeavy 92 = .ok (.aload_n 0, 1) := by decide +kernel
theorem dX2_rightHeavy_93 : decode cX2_rightHeavy 93 = .ok (.getfield 9, 3) := by decide +kernel
theorem dX2_rightHeavy_96 : decode cX2_rightHeavy 96 = .ok (.getfield 31, 3) := by decide +kernel
theorem dX2_rightHeavy_99 : decode cX2_rightHeavy 99 = .ok (.iload 5, 2) := by decide +kernel
theorem dX2_rightHeavy_101 : decode cX2_rightHeavy 101 = .ok (.iaload, 1) := by decide +kernel
theorem dX2_rightHeavy_102 : decode cX2_rightHeavy 102 = .ok (.iaload, 1) := by decide +kernel
theorem dX2_rightHeavy_103 : decode cX2_rightHeavy 103 = .ok (.istore 7, 2) := by decide +kernel
theorem dX2_rightHeavy_105 : decode cX2_rightHeavy 105 = .ok (.aload_n 0, 1) := by decide +kernel
theorem dX2_rightHeavy_106 : decode cX2_rightHeavy 106 = .ok (.getfield 25, 3) := by decide +kernel
theorem dX2_rightHeavy_109 : decode cX2_rightHeavy 109 = .ok (.iload 5, 2) := by decide +kernel
theorem dX2_rightHeavy_111 : decode cX2_rightHeavy 111 = .ok (.iconst 1, 1) := by decide +kernel
theorem dX2_rightHeavy_112 : decode cX2_rightHeavy 112 = .ok (.iload 6, 2) := by decide +kernel
theorem dX2_rightHeavy_114 : decode cX2_rightHeavy 114 = .ok (.iadd, 1) := by decide +kernel
theorem dX2_rightHeavy_115 : decode cX2_rightHeavy 115 = .ok (.iload 7, 2) := by decide +kernel
theorem dX2_rightHeavy_117 : decode cX2_rightHeavy 117 = .ok (.iadd, 1) := by decide +kernel
theorem dX2_rightHeavy_118 : decode cX2_rightHeavy 118 = .ok (.iastore, 1) := by decide +kernel
theorem dX2_rightHeavy_119 : decode cX2_rightHeavy 119 = .ok (.iload_n 3, 1) := by decide +kernel
theorem dX2_rightHeavy_120 : decode cX2_rightHeavy 120 = .ok (.iload 7, 2) := by decide +kernel
theorem dX2_rightHeavy_122 : decode cX2_rightHeavy 122 = .ok (.iload 6, 2) := by decide +kernel
theorem dX2_rightHeavy_124 : decode cX2_rightHeavy 124 = .ok (.if_icmp .le 7, 3) := by decide +kernel
theorem dX2_rightHeavy_127 : decode cX2_rightHeavy 127 = .ok (.iconst 1, 1) := by decide +kernel
theorem dX2_rightHeavy_128 : decode cX2_rightHeavy 128 = .ok (.goto 4, 3) := by decide +kernel
theorem dX2_rightHeavy_131 : decode cX2_rightHeavy 131 = .ok (.iconst 0, 1) := by decide +kernel
theorem dX2_rightHeavy_132 : decode cX2_rightHeavy 132 = .ok (.iadd, 1) := by decide +kernel
theorem dX2_rightHeavy_133 : decode cX2_rightHeavy 133 = .ok (.istore_n 3, 1) := by decide +kernel
theorem dX2_rightHeavy_134 : decode cX2_rightHeavy 134 = .ok (.iinc 4 (-1), 3) := by decide +kernel
theorem dX2_rightHeavy_137 : decode cX2_rightHeavy 137 = .ok (.goto (-116), 3) := by decide +kernel
theorem dX2_rightHeavy_140 : decode cX2_rightHeavy 140 = .ok (.iload_n 3, 1) := by decide +kernel
theorem dX2_rightHeavy_141 : decode cX2_rightHeavy 141 = .ok (.ireturn, 1) := by decide +kernel
set_option maxRecDepth 20000 in
theorem ggX2_sort_X0_isLess : GoodIn wsX2_sort wsX0_isLess := goodIn_r _ [6, 7, 14, 15, 16, 17, 18, 19, 20, 21, 22, 23, 24, 25, 26, 27, 28, 29, 30] (by decide +kernel) (by decide +kernel)
set_option maxRecDepth 20000 in
theorem gX2_sort_X0_isLess : GoodIn wsX2_sort (wsV RX2 65 RX0 yX0_isLess wsX0_isLess) := goodIn_app (goodIn_of _ (by decide +kernel)) ggX2_sort_X0_isLess
theorem dX2_sort_0 : decode cX2_sort 0 = .ok (.iload_n 2, 1) := by decide +kernel
theorem dX2_sort_1 : decode cX2_sort 1 = .ok (.iconst 2, 1) := by decide +kernel
theorem dX2_sort_2 : decode cX2_sort 2 = .ok (.idiv, 1) := by decide +kernel
theorem dX2_sort_3 : decode cX2_sort 3 = .ok (.istore_n 3, 1) := by decide +kernel
theorem dX2_sort_4 : decode cX2_sort 4 = .ok (.iload_n 3, 1) := by decide +kernel
theorem dX2_sort_5 : decode cX2_sort 5 = .ok (.ifCond .le 84, 3) := by decide +kernel
theorem dX2_sort_8 : decode cX2_sort 8 = .ok (.iload_n 3, 1) := by decide +kernel
theorem dX2_sort_9 : decode cX2_sort 9 = .ok (.istore 4, 2) := by decide +kernel
theorem dX2_sort_11 : decode cX2_sort 11 = .ok (.iload 4, 2) := by decide +kernel
theorem dX2_sort_13 : decode cX2_sort 13 = .ok (.iload_n 2, 1) := by decide +kernel
theorem dX2_sort_14 : decode cX2_sort 14 = .ok (.if_icmp .ge 68, 3) := by decide +kernel
theorem dX2_sort_17 : decode cX2_sort 17 = .ok (.aload_n 1, 1) := by decide +kernel
theorem dX2_sort_18 : decode cX2_sort 18 = .ok (.iload 4, 2) := by decide +kernel
theorem dX2_sort_20 : decode cX2_sort 20 = .ok (.iaload, 1) := by decide +kernel
theorem dX2_sort_21 : decode cX2_sort 21 = .ok (.istore 5, 2) := by decide +kernel
theorem dX2_sort_23 : decode cX2_sort 23 = .ok (.iload 4, 2) := by decide +kernel
theorem dX2_sort_25 : decode cX2_sort 25 = .ok (.istore 6, 2) := by decide +kernel
theorem dX2_sort_27 : decode cX2_sort 27 = .ok (.iload 6, 2) := by decide +kernel
theorem dX2_sort_29 : decode cX2_sort 29 = .ok (.iload_n 3, 1) := by decide +kernel
theorem dX2_sort_30 : decode cX2_sort 30 = .ok (.if_icmp .lt 40, 3) := by decide +kernel
theorem dX2_sort_33 : decode cX2_sort 33 = .ok (.aload_n 0, 1) := by decide +kernel
theorem dX2_sort_34 : decode cX2_sort 34 = .ok (.getfield 9, 3) := by decide +kernel
theorem dX2_sort_37 : decode cX2_sort 37 = .ok (.iload 5, 2) := by decide +kernel
theorem dX2_sort_39 : decode cX2_sort 39 = .ok (.aload_n 1, 1) := by decide +kernel
theorem dX2_sort_40 : decode cX2_sort 40 = .ok (.iload 6, 2) := by decide +kernel
theorem dX2_sort_42 : decode cX2_sort 42 = .ok (.iload_n 3, 1) := by decide +kernel
theorem dX2_sort_43 : decode cX2_sort 43 = .ok (.isub, 1) := by decide +kernel
theorem dX2_sort_44 : decode cX2_sort 44 = .ok (.iaload, 1) := by decide +kernel
theorem dX2_sort_45 : decode cX2_sort 45 = .ok (.invokevirtual 65, 3) := by decide +kernel
theorem dX2_sort_48 : decode cX2_sort 48 = .ok (.ifCond .eq 22, 3) := by decide +kernel
theorem dX2_sort_51 : decode cX2_sort 51 = .ok (.aload_n 1, 1) := by decide +kernel
theorem dX2_sort_52 : decode cX2_sort 52 = .ok (.iload 6, 2) := by decide +kernel
theorem dX2_sort_54 : decode cX2_sort 54 = .ok (.aload_n 1, 1) := by decide +kernel
theorem dX2_sort_55 : decode cX2_sort 55 = .ok (.iload 6, 2) := by decide +kernel
theorem dX2_sort_57 : decode cX2_sort 57 = .ok (.iload_n 3, 1) := by decide +kernel
theorem dX2_sort_58 : decode cX2_sort 58 = .ok (.isub, 1) := by decide +kernel
theorem dX2_sort_59 : decode cX2_sort 59 = .ok (.iaload, 1) := by decide +kernel
theorem dX2_sort_60 : decode cX2_sort 60 = .ok (.iastore, 1) := by decide +kernel
theorem dX2_sort_61 : decode cX2_sort 61 = .ok (.iload 6, 2) := by decide +kernel
theorem dX2_sort_63 : decode cX2_sort 63 = .ok (.iload_n 3, 1) := by decide +kernel
theorem dX2_sort_64 : decode cX2_sort 64 = .ok (.isub, 1) := by decide +kernel
theorem dX2_sort_65 : decode cX2_sort 65 = .ok (.istore 6, 2) := by decide +kernel
theorem dX2_sort_67 : decode cX2_sort 67 = .ok (.goto (-40), 3) := by decide +kernel
theorem dX2_sort_70 : decode cX2_sort 70 = .ok (.aload_n 1, 1) := by decide +kernel
theorem dX2_sort_71 : decode cX2_sort 71 = .ok (.iload 6, 2) := by decide +kernel
theorem dX2_sort_73 : decode cX2_sort 73 = .ok (.iload 5, 2) := by decide +kernel
theorem dX2_sort_75 : decode cX2_sort 75 = .ok (.iastore, 1) := by decide +kernel
theorem dX2_sort_76 : decode cX2_sort 76 = .ok (.iinc 4 1, 3) := by decide +kernel
theorem dX2_sort_79 : decode cX2_sort 79 = .ok (.goto (-68), 3) := by decide +kernel
theorem dX2_sort_82 : decode cX2_sort 82 = .ok (.iload_n 3, 1) := by decide +kernel
theorem dX2_sort_83 : decode cX2_sort 83 = .ok (.iconst 2, 1) := by decide +kernel
theorem dX2_sort_84 : decode cX2_sort 84 = .ok (.idiv, 1) := by decide +kernel
theorem dX2_sort_85 : decode cX2_sort 85 = .ok (.istore_n 3, 1) := by decide +kernel
theorem dX2_sort_86 : decode cX2_sort 86 = .ok (.goto (-82), 3) := by decide +kernel
theorem dX2_sort_89 : decode cX2_sort 89 = .ok (.return_, 1) := by decide +kernel
set_option maxRecDepth 20000 in
theorem ggX2_sortInto_X0_isPlainIn : GoodIn wsX2_sortInto wsX0_isPlainIn := goodIn_r _ [7, 8, 9, 26, 27, 28, 29, 30, 31, 32, 33, 34, 35, 36, 37, 38, 39, 40, 41, 42] (by decide +kernel) (by decide +kernel)
set_option maxRecDepth 20000 in
theorem gX2_sortInto_X0_isPlainIn : GoodIn wsX2_sortInto (wsV RX2 69 RX0 yX0_isPlainIn wsX0_isPlainIn) := goodIn_app (goodIn_of _ (by decide +kernel)) ggX2_sortInto_X0_isPlainIn
set_option maxRecDepth 20000 in
theorem ggX2_sortInto_X2_sort : GoodIn wsX2_sortInto wsX2_sort := goodIn_r _ [14, 1, 15, 16, 17, 6, 18, 19, 20, 21, 22, 23, 24, 25, 26, 27, 28, 29, 30, 31, 32, 33, 34, 35, 36, 37, 38, 39, 40, 41, 42] (by decide +kernel) (by decide +kernel)
set_option maxRecDepth 20000 in
theorem gX2_sortInto_X2_sort : GoodIn wsX2_sortInto (wsV RX2 72 RX2 yX2_sort wsX2_sort) := goodIn_app (goodIn_of _ (by decide +kernel)) ggX2_sortInto_X2_sort
theorem dX2_sortInto_0 : decode cX2_sortInto 0 = .ok (.iconst 0, 1) := by decide +kernel
theorem dX2_sortInto_1 : decode cX2_sortInto 1 = .ok (.istore_n 3, 1) := by decide +kernel
theorem dX2_sortInto_2 : decode cX2_sortInto 2 = .ok (.iconst 0, 1) := by decide +kernel
theorem dX2_sortInto_3 : decode cX2_sortInto 3 = .ok (.istore 4, 2) := by decide +kernel
theorem dX2_sortInto_5 : decode cX2_sortInto 5 = .ok (.iload 4, 2) := by decide +kernel
theorem dX2_sortInto_7 : decode cX2_sortInto 7 = .ok (.aload_n 0, 1) := by decide +kernel
theorem dX2_sortInto_8 : decode cX2_sortInto 8 = .ok (.getfield 9, 3) := by decide +kernel
theorem dX2_sortInto_11 : decode cX2_sortInto 11 = .ok (.getfield 55, 3) := by decide +kernel
theorem dX2_sortInto_14 : decode cX2_sortInto 14 = .ok (.if_icmp .ge 30, 3) := by decide +kernel
theorem dX2_sortInto_17 : decode cX2_sortInto 17 = .ok (.aload_n 0, 1) := by decide +kernel
theorem dX2_sortInto_18 : decode cX2_sortInto 18 = .ok (.getfield 9, 3) := by decide +kernel
theorem dX2_sortInto_21 : decode cX2_sortInto 21 = .ok (.iload 4, 2) := by decide +kernel
theorem dX2_sortInto_23 : decode cX2_sortInto 23 = .ok (.iload_n 2, 1) := by decide +kernel
theorem dX2_sortInto_24 : decode cX2_sortInto 24 = .ok (.invokevirtual 69, 3) := by decide +kernel
theorem dX2_sortInto_27 : decode cX2_sortInto 27 = .ok (.ifCond .eq 11, 3) := by decide +kernel
theorem dX2_sortInto_30 : decode cX2_sortInto 30 = .ok (.aload_n 1, 1) := by decide +kernel
theorem dX2_sortInto_31 : decode cX2_sortInto 31 = .ok (.iload_n 3, 1) := by decide +kernel
theorem dX2_sortInto_32 : decode cX2_sortInto 32 = .ok (.iinc 3 1, 3) := by decide +kernel
theorem dX2_sortInto_35 : decode cX2_sortInto 35 = .ok (.iload 4, 2) := by decide +kernel
theorem dX2_sortInto_37 : decode cX2_sortInto 37 = .ok (.iastore, 1) := by decide +kernel
theorem dX2_sortInto_38 : decode cX2_sortInto 38 = .ok (.iinc 4 1, 3) := by decide +kernel
theorem dX2_sortInto_41 : decode cX2_sortInto 41 = .ok (.goto (-36), 3) := by decide +kernel
theorem dX2_sortInto_44 : decode cX2_sortInto 44 = .ok (.aload_n 0, 1) := by decide +kernel
theorem dX2_sortInto_45 : decode cX2_sortInto 45 = .ok (.aload_n 1, 1) := by decide +kernel
theorem dX2_sortInto_46 : decode cX2_sortInto 46 = .ok (.iload_n 3, 1) := by decide +kernel
theorem dX2_sortInto_47 : decode cX2_sortInto 47 = .ok (.invokevirtual 72, 3) := by decide +kernel
theorem dX2_sortInto_50 : decode cX2_sortInto 50 = .ok (.iload_n 3, 1) := by decide +kernel
theorem dX2_sortInto_51 : decode cX2_sortInto 51 = .ok (.ireturn, 1) := by decide +kernel
set_option maxRecDepth 20000 in
theorem ggX2_sortPlain_X2_sortInto : GoodIn wsX2_sortPlain wsX2_sortInto := goodIn_r _ [6, 7, 8, 9, 10, 11, 12, 13, 14, 15, 16, 17, 18, 5, 19, 20, 21, 22, 23, 24, 25, 26, 27, 28, 29, 30, 31, 32, 33, 34, 35, 36, 37, 38, 39, 40, 41, 42, 43, 44, 45, 46, 47] (by decide +kernel) (by decide +kernel)
set_option maxRecDepth 20000 in
theorem gX2_sortPlain_X2_sortInto : GoodIn wsX2_sortPlain (wsV RX2 76 RX2 yX2_sortInto wsX2_sortInto) := goodIn_app (goodIn_of _ (by decide +kernel)) ggX2_sortPlain_X2_sortInto
theorem dX2_sortPlain_0 : decode cX2_sortPlain 0 = .ok (.aload_n 0, 1) := by decide +kernel
theorem dX2_sortPlain_1 : decode cX2_sortPlain 1 = .ok (.aload_n 0, 1) := by decide +kernel
theorem dX2_sortPlain_2 : decode cX2_sortPlain 2 = .ok (.getfield 15, 3) := by decide +kernel
theorem dX2_sortPlain_5 : decode cX2_sortPlain 5 = .ok (.iload_n 1, 1) := by decide +kernel
theorem dX2_sortPlain_6 : decode cX2_sortPlain 6 = .ok (.invokevirtual 76, 3) := by decide +kernel
theorem dX2_sortPlain_9 : decode cX2_sortPlain 9 = .ok (.ireturn, 1) := by decide +kernel
set_option maxRecDepth 20000 in
theorem ggX2_sumOfKeys_X0_isPlainIn : GoodIn wsX2_sumOfKeys wsX0_isPlainIn := goodIn_r _ [8, 9, 10, 17, 18, 19, 20, 21, 22, 23, 24, 25, 26, 27, 28, 29, 30, 31, 32, 33] (by decide +kernel) (by decide +kernel)
set_option maxRecDepth 20000 in
theorem gX2_sumOfKeys_X0_isPlainIn : GoodIn wsX2_sumOfKeys (wsV RX2 69 RX0 yX0_isPlainIn wsX0_isPlainIn) := goodIn_app (goodIn_of _ (by decide +kernel)) ggX2_sumOfKeys_X0_isPlainIn
theorem dX2_sumOfKeys_0 : decode cX2_sumOfKeys 0 = .ok (.lconst 0, 1) := by decide +kernel
theorem dX2_sumOfKeys_1 : decode cX2_sumOfKeys 1 = .ok (.lstore_n 2, 1) := by decide +kernel
theorem dX2_sumOfKeys_2 : decode cX2_sumOfKeys 2 = .ok (.iconst 0, 1) := by decide +kernel
theorem dX2_sumOfKeys_3 : decode cX2_sumOfKeys 3 = .ok (.istore 4, 2) := by decide +kernel
theorem dX2_sumOfKeys_5 : decode cX2_sumOfKeys 5 = .ok (.iload 4, 2) := by decide +kernel
theorem dX2_sumOfKeys_7 : decode cX2_sumOfKeys 7 = .ok (.aload_n 0, 1) := by decide +kernel
theorem dX2_sumOfKeys_8 : decode cX2_sumOfKeys 8 = .ok (.getfield 9, 3) := by decide +kernel
theorem dX2_sumOfKeys_11 : decode cX2_sumOfKeys 11 = .ok (.getfield 55, 3) := by decide +kernel
theorem dX2_sumOfKeys_14 : decode cX2_sumOfKeys 14 = .ok (.if_icmp .ge 39, 3) := by decide +kernel
theorem dX2_sumOfKeys_17 : decode cX2_sumOfKeys 17 = .ok (.lload_n 2, 1) := by decide +kernel
theorem dX2_sumOfKeys_18 : decode cX2_sumOfKeys 18 = .ok (.aload_n 0, 1) := by decide +kernel
theorem dX2_sumOfKeys_19 : decode cX2_sumOfKeys 19 = .ok (.getfield 9, 3) := by decide +kernel
theorem dX2_sumOfKeys_22 : decode cX2_sumOfKeys 22 = .ok (.iload 4, 2) := by decide +kernel
theorem dX2_sumOfKeys_24 : decode cX2_sumOfKeys 24 = .ok (.iload_n 1, 1) := by decide +kernel
theorem dX2_sumOfKeys_25 : decode cX2_sumOfKeys 25 = .ok (.invokevirtual 69, 3) := by decide +kernel
theorem dX2_sumOfKeys_28 : decode cX2_sumOfKeys 28 = .ok (.ifCond .eq 16, 3) := by decide +kernel
theorem dX2_sumOfKeys_31 : decode cX2_sumOfKeys 31 = .ok (.aload_n 0, 1) := by decide +kernel
theorem dX2_sumOfKeys_32 : decode cX2_sumOfKeys 32 = .ok (.getfield 9, 3) := by decide +kernel
theorem dX2_sumOfKeys_35 : decode cX2_sumOfKeys 35 = .ok (.getfield 80, 3) := by decide +kernel
theorem dX2_sumOfKeys_38 : decode cX2_sumOfKeys 38 = .ok (.iload 4, 2) := by decide +kernel
theorem dX2_sumOfKeys_40 : decode cX2_sumOfKeys 40 = .ok (.laload, 1) := by decide +kernel
theorem dX2_sumOfKeys_41 : decode cX2_sumOfKeys 41 = .ok (.goto 4, 3) := by decide +kernel
theorem dX2_sumOfKeys_44 : decode cX2_sumOfKeys 44 = .ok (.lconst 0, 1) := by decide +kernel
theorem dX2_sumOfKeys_45 : decode cX2_sumOfKeys 45 = .ok (.ladd, 1) := by decide +kernel
theorem dX2_sumOfKeys_46 : decode cX2_sumOfKeys 46 = .ok (.lstore_n 2, 1) := by decide +kernel
theorem dX2_sumOfKeys_47 : decode cX2_sumOfKeys 47 = .ok (.iinc 4 1, 3) := by decide +kernel
theorem dX2_sumOfKeys_50 : decode cX2_sumOfKeys 50 = .ok (.goto (-45), 3) := by decide +kernel
theorem dX2_sumOfKeys_53 : decode cX2_sumOfKeys 53 = .ok (.lload_n 2, 1) := by decide +kernel
theorem dX2_sumOfKeys_54 : decode cX2_sumOfKeys 54 = .ok (.lreturn, 1) := by decide +kernel
set_option maxRecDepth 20000 in
theorem ggX2_greatestKey_X2_sortPlain : GoodIn wsX2_greatestKey wsX2_sortPlain := goodIn_r _ [9, 3, 10, 11, 12, 8, 13, 1, 14, 15, 16, 17, 18, 19, 20, 21, 22, 23, 24, 25, 26, 27, 28, 29, 30, 31, 32, 33, 34, 35, 36, 37, 38, 39, 40, 41, 42, 43, 44, 45, 46, 47, 48, 49, 50, 51, 52, 53] (by decide +kernel) (by decide +kernel)
set_option maxRecDepth 20000 in
theorem gX2_greatestKey_X2_sortPlain : GoodIn wsX2_greatestKey (wsV RX2 84 RX2 yX2_sortPlain wsX2_sortPlain) := goodIn_app (goodIn_of _ (by decide +kernel)) ggX2_greatestKey_X2_sortPlain
theorem dX2_greatestKey_0 : decode cX2_greatestKey 0 = .ok (.aload_n 0, 1) := by decide +kernel
theorem dX2_greatestKey_1 : decode cX2_greatestKey 1 = .ok (.iload_n 1, 1) := by decide +kernel
theorem dX2_greatestKey_2 : decode cX2_greatestKey 2 = .ok (.invokevirtual 84, 3) := by decide +kernel
theorem dX2_greatestKey_5 : decode cX2_greatestKey 5 = .ok (.istore_n 2, 1) := by decide +kernel
theorem dX2_greatestKey_6 : decode cX2_greatestKey 6 = .ok (.iload_n 2, 1) := by decide +kernel
theorem dX2_greatestKey_7 : decode cX2_greatestKey 7 = .ok (.ifCond .le 22, 3) := by decide +kernel
theorem dX2_greatestKey_10 : decode cX2_greatestKey 10 = .ok (.aload_n 0, 1) := by decide +kernel
theorem dX2_greatestKey_11 : decode cX2_greatestKey 11 = .ok (.getfield 9, 3) := by decide +kernel
theorem dX2_greatestKey_14 : decode cX2_greatestKey 14 = .ok (.getfield 80, 3) := by decide +kernel
theorem dX2_greatestKey_17 : decode cX2_greatestKey 17 = .ok (.aload_n 0, 1) := by decide +kernel
theorem dX2_greatestKey_18 : decode cX2_greatestKey 18 = .ok (.getfield 15, 3) := by decide +kernel
theorem dX2_greatestKey_21 : decode cX2_greatestKey 21 = .ok (.iload_n 2, 1) := by decide +kernel
theorem dX2_greatestKey_22 : decode cX2_greatestKey 22 = .ok (.iconst 1, 1) := by decide +kernel
theorem dX2_greatestKey_23 : decode cX2_greatestKey 23 = .ok (.isub, 1) := by decide +kernel
theorem dX2_greatestKey_24 : decode cX2_greatestKey 24 = .ok (.iaload, 1) := by decide +kernel
theorem dX2_greatestKey_25 : decode cX2_greatestKey 25 = .ok (.laload, 1) := by decide +kernel
theorem dX2_greatestKey_26 : decode cX2_greatestKey 26 = .ok (.goto 6, 3) := by decide +kernel
theorem dX2_greatestKey_29 : decode cX2_greatestKey 29 = .ok (.ldc2_w 87, 3) := by decide +kernel
theorem dX2_greatestKey_32 : decode cX2_greatestKey 32 = .ok (.lreturn, 1) := by decide +kernel
set_option maxRecDepth 20000 in
theorem ggX2_greatestGap_X2_sortPlain : GoodIn wsX2_greatestGap wsX2_sortPlain := goodIn_r _ [13, 4, 14, 15, 16, 12, 17, 2, 18, 19, 20, 21, 22, 23, 24, 25, 26, 27, 28, 29, 30, 31, 32, 33, 34, 35, 36, 37, 38, 39, 40, 41, 42, 43, 44, 45, 46, 47, 48, 49, 50, 51, 52, 53, 54, 55, 56, 57] (by decide +kernel) (by decide +kernel)
set_option maxRecDepth 20000 in
theorem gX2_greatestGap_X2_sortPlain : GoodIn wsX2_greatestGap (wsV RX2 84 RX2 yX2_sortPlain wsX2_sortPlain) := goodIn_app (goodIn_of _ (by decide +kernel)) ggX2_greatestGap_X2_sortPlain
theorem dX2_greatestGap_0 : decode cX2_greatestGap 0 = .ok (.aload_n 0, 1) := by decide +kernel
theorem dX2_greatestGap_1 : decode cX2_greatestGap 1 = .ok (.iload_n 1, 1) := by decide +kernel
theorem dX2_greatestGap_2 : decode cX2_greatestGap 2 = .ok (.invokevirtual 84, 3) := by decide +kernel
theorem dX2_greatestGap_5 : decode cX2_greatestGap 5 = .ok (.istore_n 2, 1) := by decide +kernel
theorem dX2_greatestGap_6 : decode cX2_greatestGap 6 = .ok (.ldc2_w 87, 3) := by decide +kernel
theorem dX2_greatestGap_9 : decode cX2_greatestGap 9 = .ok (.lstore_n 3, 1) := by decide +kernel
theorem dX2_greatestGap_10 : decode cX2_greatestGap 10 = .ok (.iconst 1, 1) := by decide +kernel
theorem dX2_greatestGap_11 : decode cX2_greatestGap 11 = .ok (.istore 5, 2) := by decide +kernel
theorem dX2_greatestGap_13 : decode cX2_greatestGap 13 = .ok (.iload 5, 2) := by decide +kernel
theorem dX2_greatestGap_15 : decode cX2_greatestGap 15 = .ok (.iload_n 2, 1) := by decide +kernel
theorem dX2_greatestGap_16 : decode cX2_greatestGap 16 = .ok (.if_icmp .ge 47, 3) := by decide +kernel
theorem dX2_greatestGap_19 : decode cX2_greatestGap 19 = .ok (.lload_n 3, 1) := by decide +kernel
theorem dX2_greatestGap_20 : decode cX2_greatestGap 20 = .ok (.aload_n 0, 1) := by decide +kernel
theorem dX2_greatestGap_21 : decode cX2_greatestGap 21 = .ok (.getfield 9, 3) := by decide +kernel
theorem dX2_greatestGap_24 : decode cX2_greatestGap 24 = .ok (.getfield 80, 3) := by decide +kernel
theorem dX2_greatestGap_27 : decode cX2_greatestGap 27 = .ok (.aload_n 0, 1) := by decide +kernel
theorem dX2_greatestGap_28 : decode cX2_greatestGap 28 = .ok (.getfield 15, 3) := by decide +kernel
theorem dX2_greatestGap_31 : decode cX2_greatestGap 31 = .ok (.iload 5, 2) := by decide +kernel
theorem dX2_greatestGap_33 : decode cX2_greatestGap 33 = .ok (.iaload, 1) := by decide +kernel
theorem dX2_greatestGap_34 : decode cX2_greatestGap 34 = .ok (.laload, 1) := by decide +kernel
theorem dX2_greatestGap_35 : decode cX2_greatestGap 35 = .ok (.aload_n 0, 1) := by decide +kernel
theorem dX2_greatestGap_36 : decode cX2_greatestGap 36 = .ok (.getfield 9, 3) := by decide +kernel
theorem dX2_greatestGap_39 : decode cX2_greatestGap 39 = .ok (.getfield 80, 3) := by decide +kernel
theorem dX2_greatestGap_42 : decode cX2_greatestGap 42 = .ok (.aload_n 0, 1) := by decide +kernel
theorem dX2_greatestGap_43 : decode cX2_greatestGap 43 = .ok (.getfield 15, 3) := by decide +kernel
theorem dX2_greatestGap_46 : decode cX2_greatestGap 46 = .ok (.iload 5, 2) := by decide +kernel
theorem dX2_greatestGap_48 : decode cX2_greatestGap 48 = .ok (.iconst 1, 1) := by decide +kernel
theorem dX2_greatestGap_49 : decode cX2_greatestGap 49 = .ok (.isub, 1) := by decide +kernel
theorem dX2_greatestGap_50 : decode cX2_greatestGap 50 = .ok (.iaload, 1) := by decide +kernel
theorem dX2_greatestGap_51 : decode cX2_greatestGap 51 = .ok (.laload, 1) := by decide +kernel
theorem dX2_greatestGap_52 : decode cX2_greatestGap 52 = .ok (.lsub, 1) := by decide +kernel
theorem dX2_greatestGap_53 : decode cX2_greatestGap 53 = .ok (.invokestatic 89, 3) := by decide +kernel
theorem dX2_greatestGap_56 : decode cX2_greatestGap 56 = .ok (.lstore_n 3, 1) := by decide +kernel
theorem dX2_greatestGap_57 : decode cX2_greatestGap 57 = .ok (.iinc 5 1, 3) := by decide +kernel
theorem dX2_greatestGap_60 : decode cX2_greatestGap 60 = .ok (.goto (-47), 3) := by decide +kernel
theorem dX2_greatestGap_63 : decode cX2_greatestGap 63 = .ok (.lload_n 3, 1) := by decide +kernel
theorem dX2_greatestGap_64 : decode cX2_greatestGap 64 = .ok (.lreturn, 1) := by decide +kernel
set_option maxRecDepth 20000 in
theorem ggX2_differentKeys_X2_sortPlain : GoodIn wsX2_differentKeys wsX2_sortPlain := goodIn_r _ [8, 3, 9, 10, 11, 7, 12, 1, 13, 14, 15, 16, 17, 18, 19, 20, 21, 22, 23, 24, 25, 26, 27, 28, 29, 30, 31, 32, 33, 34, 35, 36, 37, 38, 39, 40, 41, 42, 43, 44, 45, 46, 47, 48, 49, 50, 51, 52] (by decide +kernel) (by decide +kernel)
set_option maxRecDepth 20000 in
theorem gX2_differentKeys_X2_sortPlain : GoodIn wsX2_differentKeys (wsV RX2 84 RX2 yX2_sortPlain wsX2_sortPlain) := goodIn_app (goodIn_of _ (by decide +kernel)) ggX2_differentKeys_X2_sortPlain
theorem dX2_differentKeys_0 : decode cX2_differentKeys 0 = .ok (.aload_n 0, 1) := by decide +kernel
theorem dX2_differentKeys_1 : decode cX2_differentKeys 1 = .ok (.iload_n 1, 1) := by decide +kernel
theorem dX2_differentKeys_2 : decode cX2_differentKeys 2 = .ok (.invokevirtual 84, 3) := by decide +kernel
theorem dX2_differentKeys_5 : decode cX2_differentKeys 5 = .ok (.istore_n 2, 1) := by decide +kernel
theorem dX2_differentKeys_6 : decode cX2_differentKeys 6 = .ok (.iconst 0, 1) := by decide +kernel
theorem dX2_differentKeys_7 : decode cX2_differentKeys 7 = .ok (.istore_n 3, 1) := by decide +kernel
theorem dX2_differentKeys_8 : decode cX2_differentKeys 8 = .ok (.iconst 0, 1) := by decide +kernel
theorem dX2_differentKeys_9 : decode cX2_differentKeys 9 = .ok (.istore 4, 2) := by decide +kernel
theorem dX2_differentKeys_11 : decode cX2_differentKeys 11 = .ok (.iload 4, 2) := by decide +kernel
theorem dX2_differentKeys_13 : decode cX2_differentKeys 13 = .ok (.iload_n 2, 1) := by decide +kernel
theorem dX2_differentKeys_14 : decode cX2_differentKeys 14 = .ok (.if_icmp .ge 58, 3) := by decide +kernel
theorem dX2_differentKeys_17 : decode cX2_differentKeys 17 = .ok (.iload_n 3, 1) := by decide +kernel
theorem dX2_differentKeys_18 : decode cX2_differentKeys 18 = .ok (.iload 4, 2) := by decide +kernel
theorem dX2_differentKeys_20 : decode cX2_differentKeys 20 = .ok (.ifCond .eq 39, 3) := by decide +kernel
theorem dX2_differentKeys_23 : decode cX2_differentKeys 23 = .ok (.aload_n 0, 1) := by decide +kernel
theorem dX2_differentKeys_24 : decode cX2_differentKeys 24 = .ok (.getfield 9, 3) := by decide +kernel
theorem dX2_differentKeys_27 : decode cX2_differentKeys 27 = .ok (.getfield 80, 3) := by decide +kernel
theorem dX2_differentKeys_30 : decode cX2_differentKeys 30 = .ok (.aload_n 0, 1) := by decide +kernel
theorem dX2_differentKeys_31 : decode cX2_differentKeys 31 = .ok (.getfield 15, 3) := by decide +kernel
theorem dX2_differentKeys_34 : decode cX2_differentKeys 34 = .ok (.iload 4, 2) := by decide +kernel
theorem dX2_differentKeys_36 : decode cX2_differentKeys 36 = .ok (.iaload, 1) := by decide +kernel
theorem dX2_differentKeys_37 : decode cX2_differentKeys 37 = .ok (.laload, 1) := by decide +kernel
theorem dX2_differentKeys_38 : decode cX2_differentKeys 38 = .ok (.aload_n 0, 1) := by decide +kernel
theorem dX2_differentKeys_39 : decode cX2_differentKeys 39 = .ok (.getfield 9, 3) := by decide +kernel
theorem dX2_differentKeys_42 : decode cX2_differentKeys 42 = .ok (.getfield 80, 3) := by decide +kernel
theorem dX2_differentKeys_45 : decode cX2_differentKeys 45 = .ok (.aload_n 0, 1) := by decide +kernel
theorem dX2_differentKeys_46 : decode cX2_differentKeys 46 = .ok (.getfield 15, 3) := by decide +kernel
theorem dX2_differentKeys_49 : decode cX2_differentKeys 49 = .ok (.iload 4, 2) := by decide +kernel
theorem dX2_differentKeys_51 : decode cX2_differentKeys 51 = .ok (.iconst 1, 1) := by decide +kernel
theorem dX2_differentKeys_52 : decode cX2_differentKeys 52 = .ok (.isub, 1) := by decide +kernel
theorem dX2_differentKeys_53 : decode cX2_differentKeys 53 = .ok (.iaload, 1) := by decide +kernel
theorem dX2_differentKeys_54 : decode cX2_differentKeys 54 = .ok (.laload, 1) := by decide +kernel
theorem dX2_differentKeys_55 : decode cX2_differentKeys 55 = .ok (.lcmp, 1) := by decide +kernel
theorem dX2_differentKeys_56 : decode cX2_differentKeys 56 = .ok (.ifCond .eq 7, 3) := by decide +kernel
theorem dX2_differentKeys_59 : decode cX2_differentKeys 59 = .ok (.iconst 1, 1) := by decide +kernel
theorem dX2_differentKeys_60 : decode cX2_differentKeys 60 = .ok (.goto 4, 3) := by decide +kernel
theorem dX2_differentKeys_63 : decode cX2_differentKeys 63 = .ok (.iconst 0, 1) := by decide +kernel
theorem dX2_differentKeys_64 : decode cX2_differentKeys 64 = .ok (.iadd, 1) := by decide +kernel
theorem dX2_differentKeys_65 : decode cX2_differentKeys 65 = .ok (.istore_n 3, 1) := by decide +kernel
theorem dX2_differentKeys_66 : decode cX2_differentKeys 66 = .ok (.iinc 4 1, 3) := by decide +kernel
theorem dX2_differentKeys_69 : decode cX2_differentKeys 69 = .ok (.goto (-58), 3) := by decide +kernel
theorem dX2_differentKeys_72 : decode cX2_differentKeys 72 = .ok (.iload_n 3, 1) := by decide +kernel
theorem dX2_differentKeys_73 : decode cX2_differentKeys 73 = .ok (.i2l, 1) := by decide +kernel
theorem dX2_differentKeys_74 : decode cX2_differentKeys 74 = .ok (.lreturn, 1) := by decide +kernel
set_option maxRecDepth 20000 in
theorem ggX2_pairAt_X2_sortInto : GoodIn wsX2_pairAt wsX2_sortInto := goodIn_r _ [13, 14, 15, 16, 17, 18, 19, 20, 21, 22, 23, 24, 25, 12, 26, 27, 28, 29, 30, 31, 45, 46, 47, 48, 49, 50, 51, 52, 53, 54, 55, 56, 57, 58, 59, 60, 61, 62, 63, 64, 65, 66, 67] (by decide +kernel) (by decide +kernel)
set_option maxRecDepth 20000 in
theorem gX2_pairAt_X2_sortInto : GoodIn wsX2_pairAt (wsV RX2 76 RX2 yX2_sortInto wsX2_sortInto) := goodIn_app (goodIn_of _ (by decide +kernel)) ggX2_pairAt_X2_sortInto
set_option maxRecDepth 20000 in
theorem ggX2_pairAt_J7_fill_53178 : GoodIn wsX2_pairAt wsJ7_fill_53178 := goodIn_r _ [35] (by decide +kernel) (by decide +kernel)
set_option maxRecDepth 20000 in
theorem gX2_pairAt_J7_fill_53178 : GoodIn wsX2_pairAt (va_wsS RX2 95 yJ7_fill_53178 wsJ7_fill_53178) := goodIn_app (goodIn_of _ (by decide +kernel)) ggX2_pairAt_J7_fill_53178
set_option maxRecDepth 20000 in
theorem ggX2_pairAt_X2_pickPair : GoodIn wsX2_pairAt wsX2_pickPair := goodIn_r _ [39, 7, 40, 41, 42, 12, 43, 14, 44, 1, 6, 45, 46, 47, 48, 49, 50, 51, 52, 53, 54, 55, 56, 57, 58, 59, 60, 61, 62, 63, 64, 65, 66, 67] (by decide +kernel) (by decide +kernel)
set_option maxRecDepth 20000 in
theorem gX2_pairAt_X2_pickPair : GoodIn wsX2_pairAt (wsV RX2 100 RX2 yX2_pickPair wsX2_pickPair) := goodIn_app (goodIn_of _ (by decide +kernel)) ggX2_pairAt_X2_pickPair
set_option maxRecDepth 20000 in
theorem ggX2_pairAt_X2_pairSum : GoodIn wsX2_pairAt wsX2_pairSum := goodIn_r _ [43, 14, 44, 1, 6, 7, 45, 46, 47, 48, 49, 50, 51, 52, 53, 54, 55, 56, 57, 58, 59, 60, 61, 62, 63, 64, 65, 66, 67] (by decide +kernel) (by decide +kernel)
set_option maxRecDepth 20000 in
theorem gX2_pairAt_X2_pairSum : GoodIn wsX2_pairAt (wsV RX2 103 RX2 yX2_pairSum wsX2_pairSum) := goodIn_app (goodIn_of _ (by decide +kernel)) ggX2_pairAt_X2_pairSum
theorem dX2_pairAt_0 : decode cX2_pairAt 0 = .ok (.aload_n 0, 1) := by decide +kernel
theorem dX2_pairAt_1 : decode cX2_pairAt 1 = .ok (.aload_n 0, 1) := by decide +kernel
theorem dX2_pairAt_2 : decode cX2_pairAt 2 = .ok (.getfield 15, 3) := by decide +kernel
theorem dX2_pairAt_5 : decode cX2_pairAt 5 = .ok (.iload_n 1, 1) := by decide +kernel
theorem dX2_pairAt_6 : decode cX2_pairAt 6 = .ok (.invokevirtual 76, 3) := by decide +kernel
theorem dX2_pairAt_9 : decode cX2_pairAt 9 = .ok (.bipush 40, 2) := by decide +kernel
theorem dX2_pairAt_11 : decode cX2_pairAt 11 = .ok (.invokestatic 92, 3) := by decide +kernel
theorem dX2_pairAt_14 : decode cX2_pairAt 14 = .ok (.istore 5, 2) := by decide +kernel
theorem dX2_pairAt_16 : decode cX2_pairAt 16 = .ok (.aload_n 0, 1) := by decide +kernel
theorem dX2_pairAt_17 : decode cX2_pairAt 17 = .ok (.aload_n 0, 1) := by decide +kernel
theorem dX2_pairAt_18 : decode cX2_pairAt 18 = .ok (.getfield 19, 3) := by decide +kernel
theorem dX2_pairAt_21 : decode cX2_pairAt 21 = .ok (.iload_n 2, 1) := by decide +kernel
theorem dX2_pairAt_22 : decode cX2_pairAt 22 = .ok (.invokevirtual 76, 3) := by decide +kernel
theorem dX2_pairAt_25 : decode cX2_pairAt 25 = .ok (.istore 6, 2) := by decide +kernel
theorem dX2_pairAt_27 : decode cX2_pairAt 27 = .ok (.aload_n 0, 1) := by decide +kernel
theorem dX2_pairAt_28 : decode cX2_pairAt 28 = .ok (.getfield 28, 3) := by decide +kernel
theorem dX2_pairAt_31 : decode cX2_pairAt 31 = .ok (.iconst 0, 1) := by decide +kernel
theorem dX2_pairAt_32 : decode cX2_pairAt 32 = .ok (.invokestatic 95, 3) := by decide +kernel
theorem dX2_pairAt_35 : decode cX2_pairAt 35 = .ok (.aload_n 0, 1) := by decide +kernel
theorem dX2_pairAt_36 : decode cX2_pairAt 36 = .ok (.iload 5, 2) := by decide +kernel
theorem dX2_pairAt_38 : decode cX2_pairAt 38 = .ok (.iload 6, 2) := by decide +kernel
theorem dX2_pairAt_40 : decode cX2_pairAt 40 = .ok (.invokevirtual 100, 3) := by decide +kernel
theorem dX2_pairAt_43 : decode cX2_pairAt 43 = .ok (.istore 7, 2) := by decide +kernel
theorem dX2_pairAt_45 : decode cX2_pairAt 45 = .ok (.iconst 0, 1) := by decide +kernel
theorem dX2_pairAt_46 : decode cX2_pairAt 46 = .ok (.istore 8, 2) := by decide +kernel
theorem dX2_pairAt_48 : decode cX2_pairAt 48 = .ok (.iload 8, 2) := by decide +kernel
theorem dX2_pairAt_50 : decode cX2_pairAt 50 = .ok (.iload_n 3, 1) := by decide +kernel
theorem dX2_pairAt_51 : decode cX2_pairAt 51 = .ok (.if_icmp .ge 36, 3) := by decide +kernel
theorem dX2_pairAt_54 : decode cX2_pairAt 54 = .ok (.iload 7, 2) := by decide +kernel
theorem dX2_pairAt_56 : decode cX2_pairAt 56 = .ok (.iconst (-1), 1) := by decide +kernel
theorem dX2_pairAt_57 : decode cX2_pairAt 57 = .ok (.if_icmp .eq 30, 3) := by decide +kernel
theorem dX2_pairAt_60 : decode cX2_pairAt 60 = .ok (.aload_n 0, 1) := by decide +kernel
theorem dX2_pairAt_61 : decode cX2_pairAt 61 = .ok (.getfield 28, 3) := by decide +kernel
theorem dX2_pairAt_64 : decode cX2_pairAt 64 = .ok (.iload 7, 2) := by decide +kernel
theorem dX2_pairAt_66 : decode cX2_pairAt 66 = .ok (.dup2, 1) := by decide +kernel
theorem dX2_pairAt_67 : decode cX2_pairAt 67 = .ok (.iaload, 1) := by decide +kernel
theorem dX2_pairAt_68 : decode cX2_pairAt 68 = .ok (.iconst 1, 1) := by decide +kernel
theorem dX2_pairAt_69 : decode cX2_pairAt 69 = .ok (.iadd, 1) := by decide +kernel
theorem dX2_pairAt_70 : decode cX2_pairAt 70 = .ok (.iastore, 1) := by decide +kernel
theorem dX2_pairAt_71 : decode cX2_pairAt 71 = .ok (.aload_n 0, 1) := by decide +kernel
theorem dX2_pairAt_72 : decode cX2_pairAt 72 = .ok (.iload 5, 2) := by decide +kernel
theorem dX2_pairAt_74 : decode cX2_pairAt 74 = .ok (.iload 6, 2) := by decide +kernel
theorem dX2_pairAt_76 : decode cX2_pairAt 76 = .ok (.invokevirtual 100, 3) := by decide +kernel
theorem dX2_pairAt_79 : decode cX2_pairAt 79 = .ok (.istore 7, 2) := by decide +kernel
theorem dX2_pairAt_81 : decode cX2_pairAt 81 = .ok (.iinc 8 1, 3) := by decide +kernel
theorem dX2_pairAt_84 : decode cX2_pairAt 84 = .ok (.goto (-36), 3) := by decide +kernel
theorem dX2_pairAt_87 : decode cX2_pairAt 87 = .ok (.iload 7, 2) := by decide +kernel
theorem dX2_pairAt_89 : decode cX2_pairAt 89 = .ok (.iconst (-1), 1) := by decide +kernel
theorem dX2_pairAt_90 : decode cX2_pairAt 90 = .ok (.if_icmp .ne 7, 3) := by decide +kernel
theorem dX2_pairAt_93 : decode cX2_pairAt 93 = .ok (.ldc2_w 87, 3) := by decide +kernel
theorem dX2_pairAt_96 : decode cX2_pairAt 96 = .ok (.lreturn, 1) := by decide +kernel
theorem dX2_pairAt_97 : decode cX2_pairAt 97 = .ok (.iload 4, 2) := by decide +kernel
theorem dX2_pairAt_99 : decode cX2_pairAt 99 = .ok (.ifCond .ne 10, 3) := by decide +kernel
theorem dX2_pairAt_102 : decode cX2_pairAt 102 = .ok (.aload_n 0, 1) := by decide +kernel
theorem dX2_pairAt_103 : decode cX2_pairAt 103 = .ok (.iload 7, 2) := by decide +kernel
theorem dX2_pairAt_105 : decode cX2_pairAt 105 = .ok (.invokevirtual 103, 3) := by decide +kernel
theorem dX2_pairAt_108 : decode cX2_pairAt 108 = .ok (.lreturn, 1) := by decide +kernel
theorem dX2_pairAt_109 : decode cX2_pairAt 109 = .ok (.iload 4, 2) := by decide +kernel
theorem dX2_pairAt_111 : decode cX2_pairAt 111 = .ok (.iconst 1, 1) := by decide +kernel
theorem dX2_pairAt_112 : decode cX2_pairAt 112 = .ok (.if_icmp .ne 14, 3) := by decide +kernel
theorem dX2_pairAt_115 : decode cX2_pairAt 115 = .ok (.aload_n 0, 1) := by decide +kernel
theorem dX2_pairAt_116 : decode cX2_pairAt 116 = .ok (.getfield 15, 3) := by decide +kernel
theorem dX2_pairAt_119 : decode cX2_pairAt 119 = .ok (.iload 7, 2) := by decide +kernel
theorem dX2_pairAt_121 : decode cX2_pairAt 121 = .ok (.iaload, 1) := by decide +kernel
theorem dX2_pairAt_122 : decode cX2_pairAt 122 = .ok (.i2l, 1) := by decide +kernel
theorem dX2_pairAt_123 : decode cX2_pairAt 123 = .ok (.goto 16, 3) := by decide +kernel
theorem dX2_pairAt_126 : decode cX2_pairAt 126 = .ok (.aload_n 0, 1) := by decide +kernel
theorem dX2_pairAt_127 : decode cX2_pairAt 127 = .ok (.getfield 19, 3) := by decide +kernel
theorem dX2_pairAt_130 : decode cX2_pairAt 130 = .ok (.aload_n 0, 1) := by decide +kernel
theorem dX2_pairAt_131 : decode cX2_pairAt 131 = .ok (.getfield 28, 3) := by decide +kernel
theorem dX2_pairAt_134 : decode cX2_pairAt 134 = .ok (.iload 7, 2) := by decide +kernel
theorem dX2_pairAt_136 : decode cX2_pairAt 136 = .ok (.iaload, 1) := by decide +kernel
theorem dX2_pairAt_137 : decode cX2_pairAt 137 = .ok (.iaload, 1) := by decide +kernel
theorem dX2_pairAt_138 : decode cX2_pairAt 138 = .ok (.i2l, 1) := by decide +kernel
theorem dX2_pairAt_139 : decode cX2_pairAt 139 = .ok (.lreturn, 1) := by decide +kernel
set_option maxRecDepth 20000 in
theorem ggX2_pickPair_X2_pairSum : GoodIn wsX2_pickPair wsX2_pairSum := goodIn_r _ [6, 7, 8, 9, 10, 1, 11, 12, 13, 14, 15, 16, 17, 18, 19, 20, 21, 22, 23, 24, 25, 26, 27, 28, 29, 30, 31, 32, 33] (by decide +kernel) (by decide +kernel)
set_option maxRecDepth 20000 in
theorem gX2_pickPair_X2_pairSum : GoodIn wsX2_pickPair (wsV RX2 103 RX2 yX2_pairSum wsX2_pairSum) := goodIn_app (goodIn_of _ (by decide +kernel)) ggX2_pickPair_X2_pairSum
theorem dX2_pickPair_0 : decode cX2_pickPair 0 = .ok (.iconst (-1), 1) := by decide +kernel
theorem dX2_pickPair_1 : decode cX2_pickPair 1 = .ok (.istore_n 3, 1) := by decide +kernel
theorem dX2_pickPair_2 : decode cX2_pickPair 2 = .ok (.iconst 0, 1) := by decide +kernel
theorem dX2_pickPair_3 : decode cX2_pickPair 3 = .ok (.istore 4, 2) := by decide +kernel
theorem dX2_pickPair_5 : decode cX2_pickPair 5 = .ok (.iload 4, 2) := by decide +kernel
theorem dX2_pickPair_7 : decode cX2_pickPair 7 = .ok (.iload_n 1, 1) := by decide +kernel
theorem dX2_pickPair_8 : decode cX2_pickPair 8 = .ok (.if_icmp .ge 43, 3) := by decide +kernel
theorem dX2_pickPair_11 : decode cX2_pickPair 11 = .ok (.aload_n 0, 1) := by decide +kernel
theorem dX2_pickPair_12 : decode cX2_pickPair 12 = .ok (.getfield 28, 3) := by decide +kernel
theorem dX2_pickPair_15 : decode cX2_pickPair 15 = .ok (.iload 4, 2) := by decide +kernel
theorem dX2_pickPair_17 : decode cX2_pickPair 17 = .ok (.iaload, 1) := by decide +kernel
theorem dX2_pickPair_18 : decode cX2_pickPair 18 = .ok (.iload_n 2, 1) := by decide +kernel
theorem dX2_pickPair_19 : decode cX2_pickPair 19 = .ok (.if_icmp .ge 26, 3) := by decide +kernel
theorem dX2_pickPair_22 : decode cX2_pickPair 22 = .ok (.iload_n 3, 1) := by decide +kernel
theorem dX2_pickPair_23 : decode cX2_pickPair 23 = .ok (.iconst (-1), 1) := by decide +kernel
theorem dX2_pickPair_24 : decode cX2_pickPair 24 = .ok (.if_icmp .eq 18, 3) := by decide +kernel
theorem dX2_pickPair_27 : decode cX2_pickPair 27 = .ok (.aload_n 0, 1) := by decide +kernel
theorem dX2_pickPair_28 : decode cX2_pickPair 28 = .ok (.iload 4, 2) := by decide +kernel
theorem dX2_pickPair_30 : decode cX2_pickPair 30 = .ok (.invokevirtual 103, 3) := by decide +kernel
theorem dX2_pickPair_33 : decode cX2_pickPair 33 = .ok (.aload_n 0, 1) := by decide +kernel
theorem dX2_pickPair_34 : decode cX2_pickPair 34 = .ok (.iload_n 3, 1) := by decide +kernel
theorem dX2_pickPair_35 : decode cX2_pickPair 35 = .ok (.invokevirtual 103, 3) := by decide +kernel
theorem dX2_pickPair_38 : decode cX2_pickPair 38 = .ok (.lcmp, 1) := by decide +kernel
theorem dX2_pickPair_39 : decode cX2_pickPair 39 = .ok (.ifCond .ge 6, 3) := by decide +kernel
theorem dX2_pickPair_42 : decode cX2_pickPair 42 = .ok (.iload 4, 2) := by decide +kernel
theorem dX2_pickPair_44 : decode cX2_pickPair 44 = .ok (.istore_n 3, 1) := by decide +kernel
theorem dX2_pickPair_45 : decode cX2_pickPair 45 = .ok (.iinc 4 1, 3) := by decide +kernel
theorem dX2_pickPair_48 : decode cX2_pickPair 48 = .ok (.goto (-43), 3) := by decide +kernel
theorem dX2_pickPair_51 : decode cX2_pickPair 51 = .ok (.iload_n 3, 1) := by decide +kernel
theorem dX2_pickPair_52 : decode cX2_pickPair 52 = .ok (.ireturn, 1) := by decide +kernel
theorem dX2_pairSum_0 : decode cX2_pairSum 0 = .ok (.aload_n 0, 1) := by decide +kernel
theorem dX2_pairSum_1 : decode cX2_pairSum 1 = .ok (.getfield 9, 3) := by decide +kernel
theorem dX2_pairSum_4 : decode cX2_pairSum 4 = .ok (.getfield 80, 3) := by decide +kernel
theorem dX2_pairSum_7 : decode cX2_pairSum 7 = .ok (.aload_n 0, 1) := by decide +kernel
theorem dX2_pairSum_8 : decode cX2_pairSum 8 = .ok (.getfield 15, 3) := by decide +kernel
theorem dX2_pairSum_11 : decode cX2_pairSum 11 = .ok (.iload_n 1, 1) := by decide +kernel
theorem dX2_pairSum_12 : decode cX2_pairSum 12 = .ok (.iaload, 1) := by decide +kernel
theorem dX2_pairSum_13 : decode cX2_pairSum 13 = .ok (.laload, 1) := by decide +kernel
theorem dX2_pairSum_14 : decode cX2_pairSum 14 = .ok (.aload_n 0, 1) := by decide +kernel
theorem dX2_pairSum_15 : decode cX2_pairSum 15 = .ok (.getfield 9, 3) := by decide +kernel
theorem dX2_pairSum_18 : decode cX2_pairSum 18 = .ok (.getfield 80, 3) := by decide +kernel
theorem dX2_pairSum_21 : decode cX2_pairSum 21 = .ok (.aload_n 0, 1) := by decide +kernel
theorem dX2_pairSum_22 : decode cX2_pairSum 22 = .ok (.getfield 19, 3) := by decide +kernel
theorem dX2_pairSum_25 : decode cX2_pairSum 25 = .ok (.aload_n 0, 1) := by decide +kernel
theorem dX2_pairSum_26 : decode cX2_pairSum 26 = .ok (.getfield 28, 3) := by decide +kernel
theorem dX2_pairSum_29 : decode cX2_pairSum 29 = .ok (.iload_n 1, 1) := by decide +kernel
theorem dX2_pairSum_30 : decode cX2_pairSum 30 = .ok (.iaload, 1) := by decide +kernel
theorem dX2_pairSum_31 : decode cX2_pairSum 31 = .ok (.iaload, 1) := by decide +kernel
theorem dX2_pairSum_32 : decode cX2_pairSum 32 = .ok (.laload, 1) := by decide +kernel
theorem dX2_pairSum_33 : decode cX2_pairSum 33 = .ok (.ladd, 1) := by decide +kernel
theorem dX2_pairSum_34 : decode cX2_pairSum 34 = .ok (.lreturn, 1) := by decide +kernel
set_option maxRecDepth 20000 in
theorem ggX2_gatherRow_X0_join : GoodIn wsX2_gatherRow wsX0_join := goodIn_r _ [7, 8, 9, 10, 11, 12, 13, 6, 14, 15, 16, 17, 18, 19, 20, 21, 22, 23, 24, 25, 32, 33, 34, 35, 36, 37, 38, 39, 40, 41, 42, 43, 44, 45, 46, 47, 48] (by decide +kernel) (by decide +kernel)
set_option maxRecDepth 20000 in
theorem gX2_gatherRow_X0_join : GoodIn wsX2_gatherRow (wsV RX2 107 RX0 yX0_join wsX0_join) := goodIn_app (goodIn_of _ (by decide +kernel)) ggX2_gatherRow_X0_join
theorem dX2_gatherRow_0 : decode cX2_gatherRow 0 = .ok (.iconst 0, 1) := by decide +kernel
theorem dX2_gatherRow_1 : decode cX2_gatherRow 1 = .ok (.istore_n 2, 1) := by decide +kernel
theorem dX2_gatherRow_2 : decode cX2_gatherRow 2 = .ok (.iload_n 1, 1) := by decide +kernel
theorem dX2_gatherRow_3 : decode cX2_gatherRow 3 = .ok (.istore_n 3, 1) := by decide +kernel
theorem dX2_gatherRow_4 : decode cX2_gatherRow 4 = .ok (.iload_n 3, 1) := by decide +kernel
theorem dX2_gatherRow_5 : decode cX2_gatherRow 5 = .ok (.iconst 1, 1) := by decide +kernel
theorem dX2_gatherRow_6 : decode cX2_gatherRow 6 = .ok (.if_icmp .le 58, 3) := by decide +kernel
theorem dX2_gatherRow_9 : decode cX2_gatherRow 9 = .ok (.aload_n 0, 1) := by decide +kernel
theorem dX2_gatherRow_10 : decode cX2_gatherRow 10 = .ok (.getfield 9, 3) := by decide +kernel
theorem dX2_gatherRow_13 : decode cX2_gatherRow 13 = .ok (.aload_n 0, 1) := by decide +kernel
theorem dX2_gatherRow_14 : decode cX2_gatherRow 14 = .ok (.getfield 22, 3) := by decide +kernel
theorem dX2_gatherRow_17 : decode cX2_gatherRow 17 = .ok (.iload_n 2, 1) := by decide +kernel
theorem dX2_gatherRow_18 : decode cX2_gatherRow 18 = .ok (.iaload, 1) := by decide +kernel
theorem dX2_gatherRow_19 : decode cX2_gatherRow 19 = .ok (.aload_n 0, 1) := by decide +kernel
theorem dX2_gatherRow_20 : decode cX2_gatherRow 20 = .ok (.getfield 22, 3) := by decide +kernel
theorem dX2_gatherRow_23 : decode cX2_gatherRow 23 = .ok (.iload_n 2, 1) := by decide +kernel
theorem dX2_gatherRow_24 : decode cX2_gatherRow 24 = .ok (.iconst 1, 1) := by decide +kernel
theorem dX2_gatherRow_25 : decode cX2_gatherRow 25 = .ok (.iadd, 1) := by decide +kernel
theorem dX2_gatherRow_26 : decode cX2_gatherRow 26 = .ok (.sipush 300, 3) := by decide +kernel
theorem dX2_gatherRow_29 : decode cX2_gatherRow 29 = .ok (.irem, 1) := by decide +kernel
theorem dX2_gatherRow_30 : decode cX2_gatherRow 30 = .ok (.iaload, 1) := by decide +kernel
theorem dX2_gatherRow_31 : decode cX2_gatherRow 31 = .ok (.invokevirtual 107, 3) := by decide +kernel
theorem dX2_gatherRow_34 : decode cX2_gatherRow 34 = .ok (.istore 4, 2) := by decide +kernel
theorem dX2_gatherRow_36 : decode cX2_gatherRow 36 = .ok (.aload_n 0, 1) := by decide +kernel
theorem dX2_gatherRow_37 : decode cX2_gatherRow 37 = .ok (.getfield 22, 3) := by decide +kernel
theorem dX2_gatherRow_40 : decode cX2_gatherRow 40 = .ok (.iload_n 2, 1) := by decide +kernel
theorem dX2_gatherRow_41 : decode cX2_gatherRow 41 = .ok (.iload_n 3, 1) := by decide +kernel
theorem dX2_gatherRow_42 : decode cX2_gatherRow 42 = .ok (.iadd, 1) := by decide +kernel
theorem dX2_gatherRow_43 : decode cX2_gatherRow 43 = .ok (.sipush 300, 3) := by decide +kernel
theorem dX2_gatherRow_46 : decode cX2_gatherRow 46 = .ok (.irem, 1) := by decide +kernel
theorem dX2_gatherRow_47 : decode cX2_gatherRow 47 = .ok (.iload 4, 2) := by decide +kernel
theorem dX2_gatherRow_49 : decode cX2_gatherRow 49 = .ok (.iastore, 1) := by decide +kernel
theorem dX2_gatherRow_50 : decode cX2_gatherRow 50 = .ok (.iload_n 2, 1) := by decide +kernel
theorem dX2_gatherRow_51 : decode cX2_gatherRow 51 = .ok (.iconst 2, 1) := by decide +kernel
theorem dX2_gatherRow_52 : decode cX2_gatherRow 52 = .ok (.iadd, 1) := by decide +kernel
theorem dX2_gatherRow_53 : decode cX2_gatherRow 53 = .ok (.sipush 300, 3) := by decide +kernel
theorem dX2_gatherRow_56 : decode cX2_gatherRow 56 = .ok (.irem, 1) := by decide +kernel
theorem dX2_gatherRow_57 : decode cX2_gatherRow 57 = .ok (.istore_n 2, 1) := by decide +kernel
theorem dX2_gatherRow_58 : decode cX2_gatherRow 58 = .ok (.iinc 3 (-1), 3) := by decide +kernel
theorem dX2_gatherRow_61 : decode cX2_gatherRow 61 = .ok (.goto (-57), 3) := by decide +kernel
theorem dX2_gatherRow_64 : decode cX2_gatherRow 64 = .ok (.iload_n 1, 1) := by decide +kernel
theorem dX2_gatherRow_65 : decode cX2_gatherRow 65 = .ok (.ifCond .le 12, 3) := by decide +kernel
theorem dX2_gatherRow_68 : decode cX2_gatherRow 68 = .ok (.aload_n 0, 1) := by decide +kernel
theorem dX2_gatherRow_69 : decode cX2_gatherRow 69 = .ok (.getfield 22, 3) := by decide +kernel
theorem dX2_gatherRow_72 : decode cX2_gatherRow 72 = .ok (.iload_n 2, 1) := by decide +kernel
theorem dX2_gatherRow_73 : decode cX2_gatherRow 73 = .ok (.iaload, 1) := by decide +kernel
theorem dX2_gatherRow_74 : decode cX2_gatherRow 74 = .ok (.goto 4, 3) := by decide +kernel
theorem dX2_gatherRow_77 : decode cX2_gatherRow 77 = .ok (.iconst (-1), 1) := by decide +kernel
theorem dX2_gatherRow_78 : decode cX2_gatherRow 78 = .ok (.ireturn, 1) := by decide +kernel
set_option maxRecDepth 20000 in
theorem ggX2_gatherDesks_J7_fill_53178 : GoodIn wsX2_gatherDesks wsJ7_fill_53178 := goodIn_r _ [7] (by decide +kernel) (by decide +kernel)
set_option maxRecDepth 20000 in
theorem gX2_gatherDesks_J7_fill_53178 : GoodIn wsX2_gatherDesks (va_wsS RX2 95 yJ7_fill_53178 wsJ7_fill_53178) := goodIn_app (goodIn_of _ (by decide +kernel)) ggX2_gatherDesks_J7_fill_53178
set_option maxRecDepth 20000 in
theorem ggX2_gatherDesks_X2_gatherRow : GoodIn wsX2_gatherDesks wsX2_gatherRow := goodIn_r _ [12, 1, 3, 13, 14, 15, 16, 17, 18, 19, 20, 21, 22, 23, 24, 25, 26, 27, 28, 29, 30, 31, 32, 33, 34, 35, 42, 43, 44, 45, 46, 47, 48, 49, 50, 51, 52, 53, 54, 55, 56, 57, 58, 59, 60, 61, 62, 63, 64] (by decide +kernel) (by decide +kernel)
set_option maxRecDepth 20000 in
theorem gX2_gatherDesks_X2_gatherRow : GoodIn wsX2_gatherDesks (wsV RX2 110 RX2 yX2_gatherRow wsX2_gatherRow) := goodIn_app (goodIn_of _ (by decide +kernel)) ggX2_gatherDesks_X2_gatherRow
set_option maxRecDepth 20000 in
theorem ggX2_gatherDesks_X0_relabel : GoodIn wsX2_gatherDesks wsX0_relabel := goodIn_r _ [39, 40, 41, 48, 49, 50, 51, 52, 53, 54, 55, 56, 57, 58, 59, 60, 61, 62, 63, 64] (by decide +kernel) (by decide +kernel)
set_option maxRecDepth 20000 in
theorem gX2_gatherDesks_X0_relabel : GoodIn wsX2_gatherDesks (wsV RX2 113 RX0 yX0_relabel wsX0_relabel) := goodIn_app (goodIn_of _ (by decide +kernel)) ggX2_gatherDesks_X0_relabel
theorem dX2_gatherDesks_0 : decode cX2_gatherDesks 0 = .ok (.iconst 0, 1) := by decide +kernel
theorem dX2_gatherDesks_1 : decode cX2_gatherDesks 1 = .ok (.istore_n 2, 1) := by decide +kernel
theorem dX2_gatherDesks_2 : decode cX2_gatherDesks 2 = .ok (.iconst 0, 1) := by decide +kernel
theorem dX2_gatherDesks_3 : decode cX2_gatherDesks 3 = .ok (.istore_n 3, 1) := by decide +kernel
theorem dX2_gatherDesks_4 : decode cX2_gatherDesks 4 = .ok (.iload_n 3, 1) := by decide +kernel
theorem dX2_gatherDesks_5 : decode cX2_gatherDesks 5 = .ok (.bipush 6, 2) := by decide +kernel
theorem dX2_gatherDesks_7 : decode cX2_gatherDesks 7 = .ok (.if_icmp .ge 40, 3) := by decide +kernel
theorem dX2_gatherDesks_10 : decode cX2_gatherDesks 10 = .ok (.aload_n 0, 1) := by decide +kernel
theorem dX2_gatherDesks_11 : decode cX2_gatherDesks 11 = .ok (.getfield 9, 3) := by decide +kernel
theorem dX2_gatherDesks_14 : decode cX2_gatherDesks 14 = .ok (.getfield 39, 3) := by decide +kernel
theorem dX2_gatherDesks_17 : decode cX2_gatherDesks 17 = .ok (.iload_n 3, 1) := by decide +kernel
theorem dX2_gatherDesks_18 : decode cX2_gatherDesks 18 = .ok (.iaload, 1) := by decide +kernel
theorem dX2_gatherDesks_19 : decode cX2_gatherDesks 19 = .ok (.iconst (-1), 1) := by decide +kernel
theorem dX2_gatherDesks_20 : decode cX2_gatherDesks 20 = .ok (.if_icmp .eq 21, 3) := by decide +kernel
theorem dX2_gatherDesks_23 : decode cX2_gatherDesks 23 = .ok (.aload_n 0, 1) := by decide +kernel
theorem dX2_gatherDesks_24 : decode cX2_gatherDesks 24 = .ok (.getfield 22, 3) := by decide +kernel
theorem dX2_gatherDesks_27 : decode cX2_gatherDesks 27 = .ok (.iload_n 2, 1) := by decide +kernel
theorem dX2_gatherDesks_28 : decode cX2_gatherDesks 28 = .ok (.iinc 2 1, 3) := by decide +kernel
theorem dX2_gatherDesks_31 : decode cX2_gatherDesks 31 = .ok (.aload_n 0, 1) := by decide +kernel
theorem dX2_gatherDesks_32 : decode cX2_gatherDesks 32 = .ok (.getfield 9, 3) := by decide +kernel
theorem dX2_gatherDesks_35 : decode cX2_gatherDesks 35 = .ok (.getfield 39, 3) := by decide +kernel
theorem dX2_gatherDesks_38 : decode cX2_gatherDesks 38 = .ok (.iload_n 3, 1) := by decide +kernel
theorem dX2_gatherDesks_39 : decode cX2_gatherDesks 39 = .ok (.iaload, 1) := by decide +kernel
theorem dX2_gatherDesks_40 : decode cX2_gatherDesks 40 = .ok (.iastore, 1) := by decide +kernel
theorem dX2_gatherDesks_41 : decode cX2_gatherDesks 41 = .ok (.iinc 3 1, 3) := by decide +kernel
theorem dX2_gatherDesks_44 : decode cX2_gatherDesks 44 = .ok (.goto (-40), 3) := by decide +kernel
theorem dX2_gatherDesks_47 : decode cX2_gatherDesks 47 = .ok (.iload_n 2, 1) := by decide +kernel
theorem dX2_gatherDesks_48 : decode cX2_gatherDesks 48 = .ok (.ifCond .ne 5, 3) := by decide +kernel
theorem dX2_gatherDesks_51 : decode cX2_gatherDesks 51 = .ok (.iconst 0, 1) := by decide +kernel
theorem dX2_gatherDesks_52 : decode cX2_gatherDesks 52 = .ok (.ireturn, 1) := by decide +kernel
theorem dX2_gatherDesks_53 : decode cX2_gatherDesks 53 = .ok (.aload_n 0, 1) := by decide +kernel
theorem dX2_gatherDesks_54 : decode cX2_gatherDesks 54 = .ok (.getfield 9, 3) := by decide +kernel
theorem dX2_gatherDesks_57 : decode cX2_gatherDesks 57 = .ok (.getfield 39, 3) := by decide +kernel
theorem dX2_gatherDesks_60 : decode cX2_gatherDesks 60 = .ok (.iconst (-1), 1) := by decide +kernel
theorem dX2_gatherDesks_61 : decode cX2_gatherDesks 61 = .ok (.invokestatic 95, 3) := by decide +kernel
theorem dX2_gatherDesks_64 : decode cX2_gatherDesks 64 = .ok (.aload_n 0, 1) := by decide +kernel
theorem dX2_gatherDesks_65 : decode cX2_gatherDesks 65 = .ok (.getfield 9, 3) := by decide +kernel
theorem dX2_gatherDesks_68 : decode cX2_gatherDesks 68 = .ok (.getfield 39, 3) := by decide +kernel
theorem dX2_gatherDesks_71 : decode cX2_gatherDesks 71 = .ok (.iload_n 1, 1) := by decide +kernel
theorem dX2_gatherDesks_72 : decode cX2_gatherDesks 72 = .ok (.aload_n 0, 1) := by decide +kernel
theorem dX2_gatherDesks_73 : decode cX2_gatherDesks 73 = .ok (.iload_n 2, 1) := by decide +kernel
theorem dX2_gatherDesks_74 : decode cX2_gatherDesks 74 = .ok (.invokevirtual 110, 3) := by decide +kernel
theorem dX2_gatherDesks_77 : decode cX2_gatherDesks 77 = .ok (.iastore, 1) := by decide +kernel
theorem dX2_gatherDesks_78 : decode cX2_gatherDesks 78 = .ok (.iconst 0, 1) := by decide +kernel
theorem dX2_gatherDesks_79 : decode cX2_gatherDesks 79 = .ok (.istore_n 3, 1) := by decide +kernel
theorem dX2_gatherDesks_80 : decode cX2_gatherDesks 80 = .ok (.iload_n 3, 1) := by decide +kernel
theorem dX2_gatherDesks_81 : decode cX2_gatherDesks 81 = .ok (.bipush 6, 2) := by decide +kernel
theorem dX2_gatherDesks_83 : decode cX2_gatherDesks 83 = .ok (.if_icmp .ge 18, 3) := by decide +kernel
theorem dX2_gatherDesks_86 : decode cX2_gatherDesks 86 = .ok (.aload_n 0, 1) := by decide +kernel
theorem dX2_gatherDesks_87 : decode cX2_gatherDesks 87 = .ok (.getfield 9, 3) := by decide +kernel
theorem dX2_gatherDesks_90 : decode cX2_gatherDesks 90 = .ok (.iload_n 3, 1) := by decide +kernel
theorem dX2_gatherDesks_91 : decode cX2_gatherDesks 91 = .ok (.iload_n 1, 1) := by decide +kernel
theorem dX2_gatherDesks_92 : decode cX2_gatherDesks 92 = .ok (.invokevirtual 113, 3) := by decide +kernel
theorem dX2_gatherDesks_95 : decode cX2_gatherDesks 95 = .ok (.iinc 3 1, 3) := by decide +kernel
theorem dX2_gatherDesks_98 : decode cX2_gatherDesks 98 = .ok (.goto (-18), 3) := by decide +kernel
theorem dX2_gatherDesks_101 : decode cX2_gatherDesks 101 = .ok (.iconst 1, 1) := by decide +kernel
theorem dX2_gatherDesks_102 : decode cX2_gatherDesks 102 = .ok (.ireturn, 1) := by decide +kernel
set_option maxRecDepth 20000 in
theorem ggX2_splitOff_X2_walk : GoodIn wsX2_splitOff wsX2_walk := goodIn_r _ [12, 7, 3, 1, 13, 14, 54, 55, 56, 57, 58, 59, 60, 61, 62, 63, 64, 65, 66, 67, 68, 69, 70, 71, 72, 73, 74, 75, 76] (by decide +kernel) (by decide +kernel)
set_option maxRecDepth 20000 in
theorem gX2_splitOff_X2_walk : GoodIn wsX2_splitOff (wsV RX2 42 RX2 yX2_walk wsX2_walk) := goodIn_app (goodIn_of _ (by decide +kernel)) ggX2_splitOff_X2_walk
set_option maxRecDepth 20000 in
theorem ggX2_splitOff_X2_gatherRow : GoodIn wsX2_splitOff wsX2_gatherRow := goodIn_r _ [18, 1, 7, 19, 20, 21, 22, 23, 24, 25, 26, 27, 28, 29, 30, 31, 32, 33, 34, 35, 36, 37, 38, 39, 40, 41, 54, 55, 56, 57, 58, 59, 60, 61, 62, 63, 64, 65, 66, 67, 68, 69, 70, 71, 72, 73, 74, 75, 76] (by decide +kernel) (by decide +kernel)
set_option maxRecDepth 20000 in
theorem gX2_splitOff_X2_gatherRow : GoodIn wsX2_splitOff (wsV RX2 110 RX2 yX2_gatherRow wsX2_gatherRow) := goodIn_app (goodIn_of _ (by decide +kernel)) ggX2_splitOff_X2_gatherRow
set_option maxRecDepth 20000 in
theorem ggX2_splitOff_X2_sort : GoodIn wsX2_splitOff wsX2_sort := goodIn_r _ [45, 1, 46, 28, 29, 22, 30, 31, 54, 55, 56, 57, 58, 59, 60, 61, 62, 63, 64, 65, 66, 67, 68, 69, 70, 71, 72, 73, 74, 75, 76] (by decide +kernel) (by decide +kernel)
set_option maxRecDepth 20000 in
theorem gX2_splitOff_X2_sort : GoodIn wsX2_splitOff (wsV RX2 72 RX2 yX2_sort wsX2_sort) := goodIn_app (goodIn_of _ (by decide +kernel)) ggX2_splitOff_X2_sort
set_option maxRecDepth 20000 in
theorem ggX2_splitOff_X0_place : GoodIn wsX2_splitOff wsX0_place := goodIn_r _ [50, 36, 25, 24, 37, 51, 52, 53, 20, 21, 22, 23, 26, 27, 28, 29, 30, 31, 32, 33, 34, 35, 38, 39, 40, 41, 60, 61, 62, 63, 64, 65, 66, 67, 68, 69, 70, 71, 72, 73, 74, 75, 76] (by decide +kernel) (by decide +kernel)
set_option maxRecDepth 20000 in
theorem gX2_splitOff_X0_place : GoodIn wsX2_splitOff (wsV RX2 117 RX0 yX0_place wsX0_place) := goodIn_app (goodIn_of _ (by decide +kernel)) ggX2_splitOff_X0_place
theorem dX2_splitOff_0 : decode cX2_splitOff 0 = .ok (.aload_n 0, 1) := by decide +kernel
theorem dX2_splitOff_1 : decode cX2_splitOff 1 = .ok (.aload_n 0, 1) := by decide +kernel
theorem dX2_splitOff_2 : decode cX2_splitOff 2 = .ok (.getfield 9, 3) := by decide +kernel
theorem dX2_splitOff_5 : decode cX2_splitOff 5 = .ok (.getfield 39, 3) := by decide +kernel
theorem dX2_splitOff_8 : decode cX2_splitOff 8 = .ok (.iload_n 1, 1) := by decide +kernel
theorem dX2_splitOff_9 : decode cX2_splitOff 9 = .ok (.iaload, 1) := by decide +kernel
theorem dX2_splitOff_10 : decode cX2_splitOff 10 = .ok (.invokevirtual 42, 3) := by decide +kernel
theorem dX2_splitOff_13 : decode cX2_splitOff 13 = .ok (.istore 4, 2) := by decide +kernel
theorem dX2_splitOff_15 : decode cX2_splitOff 15 = .ok (.iconst 0, 1) := by decide +kernel
theorem dX2_splitOff_16 : decode cX2_splitOff 16 = .ok (.istore 5, 2) := by decide +kernel
theorem dX2_splitOff_18 : decode cX2_splitOff 18 = .ok (.iconst 0, 1) := by decide +kernel
theorem dX2_splitOff_19 : decode cX2_splitOff 19 = .ok (.istore 6, 2) := by decide +kernel
theorem dX2_splitOff_21 : decode cX2_splitOff 21 = .ok (.iconst 0, 1) := by decide +kernel
theorem dX2_splitOff_22 : decode cX2_splitOff 22 = .ok (.istore 7, 2) := by decide +kernel
theorem dX2_splitOff_24 : decode cX2_splitOff 24 = .ok (.iload 7, 2) := by decide +kernel
theorem dX2_splitOff_26 : decode cX2_splitOff 26 = .ok (.iload 4, 2) := by decide +kernel
theorem dX2_splitOff_28 : decode cX2_splitOff 28 = .ok (.if_icmp .ge 99, 3) := by decide +kernel
theorem dX2_splitOff_31 : decode cX2_splitOff 31 = .ok (.aload_n 0, 1) := by decide +kernel
theorem dX2_splitOff_32 : decode cX2_splitOff 32 = .ok (.getfield 15, 3) := by decide +kernel
theorem dX2_splitOff_35 : decode cX2_splitOff 35 = .ok (.iload 7, 2) := by decide +kernel
theorem dX2_splitOff_37 : decode cX2_splitOff 37 = .ok (.iaload, 1) := by decide +kernel
theorem dX2_splitOff_38 : decode cX2_splitOff 38 = .ok (.istore 8, 2) := by decide +kernel
theorem dX2_splitOff_40 : decode cX2_splitOff 40 = .ok (.aload_n 0, 1) := by decide +kernel
theorem dX2_splitOff_41 : decode cX2_splitOff 41 = .ok (.getfield 9, 3) := by decide +kernel
theorem dX2_splitOff_44 : decode cX2_splitOff 44 = .ok (.getfield 80, 3) := by decide +kernel
theorem dX2_splitOff_47 : decode cX2_splitOff 47 = .ok (.iload 8, 2) := by decide +kernel
theorem dX2_splitOff_49 : decode cX2_splitOff 49 = .ok (.laload, 1) := by decide +kernel
theorem dX2_splitOff_50 : decode cX2_splitOff 50 = .ok (.iload_n 3, 1) := by decide +kernel
theorem dX2_splitOff_51 : decode cX2_splitOff 51 = .ok (.i2l, 1) := by decide +kernel
theorem dX2_splitOff_52 : decode cX2_splitOff 52 = .ok (.lcmp, 1) := by decide +kernel
theorem dX2_splitOff_53 : decode cX2_splitOff 53 = .ok (.ifCond .gt 18, 3) := by decide +kernel
theorem dX2_splitOff_56 : decode cX2_splitOff 56 = .ok (.aload_n 0, 1) := by decide +kernel
theorem dX2_splitOff_57 : decode cX2_splitOff 57 = .ok (.getfield 19, 3) := by decide +kernel
theorem dX2_splitOff_60 : decode cX2_splitOff 60 = .ok (.iload 5, 2) := by decide +kernel
theorem dX2_splitOff_62 : decode cX2_splitOff 62 = .ok (.iinc 5 1, 3) := by decide +kernel
theorem dX2_splitOff_65 : decode cX2_splitOff 65 = .ok (.iload 8, 2) := by decide +kernel
theorem dX2_splitOff_67 : decode cX2_splitOff 67 = .ok (.iastore, 1) := by decide +kernel
theorem dX2_splitOff_68 : decode cX2_splitOff 68 = .ok (.goto 53, 3) := by decide +kernel
theorem dX2_splitOff_71 : decode cX2_splitOff 71 = .ok (.aload_n 0, 1) := by decide +kernel
theorem dX2_splitOff_72 : decode cX2_splitOff 72 = .ok (.getfield 9, 3) := by decide +kernel
theorem dX2_splitOff_75 : decode cX2_splitOff 75 = .ok (.getfield 46, 3) := by decide +kernel
theorem dX2_splitOff_78 : decode cX2_splitOff 78 = .ok (.iload 8, 2) := by decide +kernel
theorem dX2_splitOff_80 : decode cX2_splitOff 80 = .ok (.iaload, 1) := by decide +kernel
theorem dX2_splitOff_81 : decode cX2_splitOff 81 = .ok (.iconst (-1), 1) := by decide +kernel
theorem dX2_splitOff_82 : decode cX2_splitOff 82 = .ok (.if_icmp .eq 27, 3) := by decide +kernel
theorem dX2_splitOff_85 : decode cX2_splitOff 85 = .ok (.aload_n 0, 1) := by decide +kernel
theorem dX2_splitOff_86 : decode cX2_splitOff 86 = .ok (.getfield 9, 3) := by decide +kernel
theorem dX2_splitOff_89 : decode cX2_splitOff 89 = .ok (.getfield 80, 3) := by decide +kernel
theorem dX2_splitOff_92 : decode cX2_splitOff 92 = .ok (.aload_n 0, 1) := by decide +kernel
theorem dX2_splitOff_93 : decode cX2_splitOff 93 = .ok (.getfield 9, 3) := by decide +kernel
theorem dX2_splitOff_96 : decode cX2_splitOff 96 = .ok (.getfield 46, 3) := by decide +kernel
theorem dX2_splitOff_99 : decode cX2_splitOff 99 = .ok (.iload 8, 2) := by decide +kernel
theorem dX2_splitOff_101 : decode cX2_splitOff 101 = .ok (.iaload, 1) := by decide +kernel
theorem dX2_splitOff_102 : decode cX2_splitOff 102 = .ok (.laload, 1) := by decide +kernel
theorem dX2_splitOff_103 : decode cX2_splitOff 103 = .ok (.iload_n 3, 1) := by decide +kernel
theorem dX2_splitOff_104 : decode cX2_splitOff 104 = .ok (.i2l, 1) := by decide +kernel
theorem dX2_splitOff_105 : decode cX2_splitOff 105 = .ok (.lcmp, 1) := by decide +kernel
theorem dX2_splitOff_106 : decode cX2_splitOff 106 = .ok (.ifCond .gt 15, 3) := by decide +kernel
theorem dX2_splitOff_109 : decode cX2_splitOff 109 = .ok (.aload_n 0, 1) := by decide +kernel
theorem dX2_splitOff_110 : decode cX2_splitOff 110 = .ok (.getfield 22, 3) := by decide +kernel
theorem dX2_splitOff_113 : decode cX2_splitOff 113 = .ok (.iload 6, 2) := by decide +kernel
theorem dX2_splitOff_115 : decode cX2_splitOff 115 = .ok (.iinc 6 1, 3) := by decide +kernel
theorem dX2_splitOff_118 : decode cX2_splitOff 118 = .ok (.iload 8, 2) := by decide +kernel
theorem dX2_splitOff_120 : decode cX2_splitOff 120 = .ok (.iastore, 1) := by decide +kernel
theorem dX2_splitOff_121 : decode cX2_splitOff 121 = .ok (.iinc 7 1, 3) := by decide +kernel
theorem dX2_splitOff_124 : decode cX2_splitOff 124 = .ok (.goto (-100), 3) := by decide +kernel
theorem dX2_splitOff_127 : decode cX2_splitOff 127 = .ok (.iload 5, 2) := by decide +kernel
theorem dX2_splitOff_129 : decode cX2_splitOff 129 = .ok (.ifCond .ne 5, 3) := by decide +kernel
theorem dX2_splitOff_132 : decode cX2_splitOff 132 = .ok (.iconst 0, 1) := by decide +kernel
theorem dX2_splitOff_133 : decode cX2_splitOff 133 = .ok (.ireturn, 1) := by decide +kernel
theorem dX2_splitOff_134 : decode cX2_splitOff 134 = .ok (.iconst 0, 1) := by decide +kernel
theorem dX2_splitOff_135 : decode cX2_splitOff 135 = .ok (.istore 7, 2) := by decide +kernel
theorem dX2_splitOff_137 : decode cX2_splitOff 137 = .ok (.iload 7, 2) := by decide +kernel
theorem dX2_splitOff_139 : decode cX2_splitOff 139 = .ok (.iload 6, 2) := by decide +kernel
theorem dX2_splitOff_141 : decode cX2_splitOff 141 = .ok (.if_icmp .ge 25, 3) := by decide +kernel
theorem dX2_splitOff_144 : decode cX2_splitOff 144 = .ok (.aload_n 0, 1) := by decide +kernel
theorem dX2_splitOff_145 : decode cX2_splitOff 145 = .ok (.getfield 9, 3) := by decide +kernel
theorem dX2_splitOff_148 : decode cX2_splitOff 148 = .ok (.getfield 46, 3) := by decide +kernel
theorem dX2_splitOff_151 : decode cX2_splitOff 151 = .ok (.aload_n 0, 1) := by decide +kernel
theorem dX2_splitOff_152 : decode cX2_splitOff 152 = .ok (.getfield 22, 3) := by decide +kernel
theorem dX2_splitOff_155 : decode cX2_splitOff 155 = .ok (.iload 7, 2) := by decide +kernel
theorem dX2_splitOff_157 : decode cX2_splitOff 157 = .ok (.iaload, 1) := by decide +kernel
theorem dX2_splitOff_158 : decode cX2_splitOff 158 = .ok (.iconst (-1), 1) := by decide +kernel
theorem dX2_splitOff_159 : decode cX2_splitOff 159 = .ok (.iastore, 1) := by decide +kernel
theorem dX2_splitOff_160 : decode cX2_splitOff 160 = .ok (.iinc 7 1, 3) := by decide +kernel
theorem dX2_splitOff_163 : decode cX2_splitOff 163 = .ok (.goto (-26), 3) := by decide +kernel
theorem dX2_splitOff_166 : decode cX2_splitOff 166 = .ok (.aload_n 0, 1) := by decide +kernel
theorem dX2_splitOff_167 : decode cX2_splitOff 167 = .ok (.getfield 9, 3) := by decide +kernel
theorem dX2_splitOff_170 : decode cX2_splitOff 170 = .ok (.getfield 39, 3) := by decide +kernel
theorem dX2_splitOff_173 : decode cX2_splitOff 173 = .ok (.iload_n 1, 1) := by decide +kernel
theorem dX2_splitOff_174 : decode cX2_splitOff 174 = .ok (.aload_n 0, 1) := by decide +kernel
theorem dX2_splitOff_175 : decode cX2_splitOff 175 = .ok (.iload 6, 2) := by decide +kernel
theorem dX2_splitOff_177 : decode cX2_splitOff 177 = .ok (.invokevirtual 110, 3) := by decide +kernel
theorem dX2_splitOff_180 : decode cX2_splitOff 180 = .ok (.iastore, 1) := by decide +kernel
theorem dX2_splitOff_181 : decode cX2_splitOff 181 = .ok (.aload_n 0, 1) := by decide +kernel
theorem dX2_splitOff_182 : decode cX2_splitOff 182 = .ok (.aload_n 0, 1) := by decide +kernel
theorem dX2_splitOff_183 : decode cX2_splitOff 183 = .ok (.getfield 19, 3) := by decide +kernel
theorem dX2_splitOff_186 : decode cX2_splitOff 186 = .ok (.iload 5, 2) := by decide +kernel
theorem dX2_splitOff_188 : decode cX2_splitOff 188 = .ok (.invokevirtual 72, 3) := by decide +kernel
theorem dX2_splitOff_191 : decode cX2_splitOff 191 = .ok (.iconst 0, 1) := by decide +kernel
theorem dX2_splitOff_192 : decode cX2_splitOff 192 = .ok (.istore 7, 2) := by decide +kernel
theorem dX2_splitOff_194 : decode cX2_splitOff 194 = .ok (.iload 7, 2) := by decide +kernel
theorem dX2_splitOff_196 : decode cX2_splitOff 196 = .ok (.iload 5, 2) := by decide +kernel
theorem dX2_splitOff_198 : decode cX2_splitOff 198 = .ok (.if_icmp .ge 24, 3) := by decide +kernel
theorem dX2_splitOff_201 : decode cX2_splitOff 201 = .ok (.aload_n 0, 1) := by decide +kernel
theorem dX2_splitOff_202 : decode cX2_splitOff 202 = .ok (.getfield 9, 3) := by decide +kernel
theorem dX2_splitOff_205 : decode cX2_splitOff 205 = .ok (.aload_n 0, 1) := by decide +kernel
theorem dX2_splitOff_206 : decode cX2_splitOff 206 = .ok (.getfield 19, 3) := by decide +kernel
theorem dX2_splitOff_209 : decode cX2_splitOff 209 = .ok (.iload 7, 2) := by decide +kernel
theorem dX2_splitOff_211 : decode cX2_splitOff 211 = .ok (.iaload, 1) := by decide +kernel
theorem dX2_splitOff_212 : decode cX2_splitOff 212 = .ok (.iload_n 2, 1) := by decide +kernel
theorem dX2_splitOff_213 : decode cX2_splitOff 213 = .ok (.invokevirtual 117, 3) := by decide +kernel
theorem dX2_splitOff_216 : decode cX2_splitOff 216 = .ok (.iinc 7 1, 3) := by decide +kernel
theorem dX2_splitOff_219 : decode cX2_splitOff 219 = .ok (.goto (-25), 3) := by decide +kernel
theorem dX2_splitOff_222 : decode cX2_splitOff 222 = .ok (.iload 5, 2) := by decide +kernel
theorem dX2_splitOff_224 : decode cX2_splitOff 224 = .ok (.ireturn, 1) := by decide +kernel
set_option maxRecDepth 20000 in
theorem ggX2_evenDesks_X0_plainIn : GoodIn wsX2_evenDesks wsX0_plainIn := goodIn_r _ [7, 8, 9, 10, 11, 6, 12, 13, 14, 61, 62, 63, 64, 65, 66, 67, 68, 69, 70, 71, 72, 73, 74, 75, 76, 77] (by decide +kernel) (by decide +kernel)
set_option maxRecDepth 20000 in
theorem gX2_evenDesks_X0_plainIn : GoodIn wsX2_evenDesks (wsV RX2 120 RX0 yX0_plainIn wsX0_plainIn) := goodIn_app (goodIn_of _ (by decide +kernel)) ggX2_evenDesks_X0_plainIn
set_option maxRecDepth 20000 in
theorem ggX2_evenDesks_X0_moveLeast : GoodIn wsX2_evenDesks wsX0_moveLeast := goodIn_r _ [18, 19, 20, 21, 6, 22, 23, 24, 25, 13, 26, 27, 28, 29, 30, 31, 32, 33, 34, 35, 36, 37, 38, 39, 40, 41, 42, 43, 44, 45, 46, 47, 48, 49, 14, 50, 51, 52, 53, 54, 61, 62, 63, 64, 65, 66, 67, 68, 69, 70, 71, 72, 73, 74, 75, 76, 77] (by decide +kernel) (by decide +kernel)
set_option maxRecDepth 20000 in
theorem gX2_evenDesks_X0_moveLeast : GoodIn wsX2_evenDesks (wsV RX2 123 RX0 yX0_moveLeast wsX0_moveLeast) := goodIn_app (goodIn_of _ (by decide +kernel)) ggX2_evenDesks_X0_moveLeast
theorem dX2_evenDesks_0 : decode cX2_evenDesks 0 = .ok (.iconst 0, 1) := by decide +kernel
theorem dX2_evenDesks_1 : decode cX2_evenDesks 1 = .ok (.istore_n 1, 1) := by decide +kernel
theorem dX2_evenDesks_2 : decode cX2_evenDesks 2 = .ok (.iload_n 1, 1) := by decide +kernel
theorem dX2_evenDesks_3 : decode cX2_evenDesks 3 = .ok (.bipush 6, 2) := by decide +kernel
theorem dX2_evenDesks_5 : decode cX2_evenDesks 5 = .ok (.if_icmp .ge 23, 3) := by decide +kernel
theorem dX2_evenDesks_8 : decode cX2_evenDesks 8 = .ok (.aload_n 0, 1) := by decide +kernel
theorem dX2_evenDesks_9 : decode cX2_evenDesks 9 = .ok (.getfield 25, 3) := by decide +kernel
theorem dX2_evenDesks_12 : decode cX2_evenDesks 12 = .ok (.iload_n 1, 1) := by decide +kernel
theorem dX2_evenDesks_13 : decode cX2_evenDesks 13 = .ok (.aload_n 0, 1) := by decide +kernel
theorem dX2_evenDesks_14 : decode cX2_evenDesks 14 = .ok (.getfield 9, 3) := by decide +kernel
theorem dX2_evenDesks_17 : decode cX2_evenDesks 17 = .ok (.iload_n 1, 1) := by decide +kernel
theorem dX2_evenDesks_18 : decode cX2_evenDesks 18 = .ok (.invokevirtual 120, 3) := by decide +kernel
theorem dX2_evenDesks_21 : decode cX2_evenDesks 21 = .ok (.iastore, 1) := by decide +kernel
theorem dX2_evenDesks_22 : decode cX2_evenDesks 22 = .ok (.iinc 1 1, 3) := by decide +kernel
theorem dX2_evenDesks_25 : decode cX2_evenDesks 25 = .ok (.goto (-23), 3) := by decide +kernel
theorem dX2_evenDesks_28 : decode cX2_evenDesks 28 = .ok (.iconst 0, 1) := by decide +kernel
theorem dX2_evenDesks_29 : decode cX2_evenDesks 29 = .ok (.istore_n 1, 1) := by decide +kernel
theorem dX2_evenDesks_30 : decode cX2_evenDesks 30 = .ok (.iload_n 1, 1) := by decide +kernel
theorem dX2_evenDesks_31 : decode cX2_evenDesks 31 = .ok (.sipush 300, 3) := by decide +kernel
theorem dX2_evenDesks_34 : decode cX2_evenDesks 34 = .ok (.if_icmp .ge 124, 3) := by decide +kernel
theorem dX2_evenDesks_37 : decode cX2_evenDesks 37 = .ok (.iconst 0, 1) := by decide +kernel
theorem dX2_evenDesks_38 : decode cX2_evenDesks 38 = .ok (.istore_n 2, 1) := by decide +kernel
theorem dX2_evenDesks_39 : decode cX2_evenDesks 39 = .ok (.iconst 0, 1) := by decide +kernel
theorem dX2_evenDesks_40 : decode cX2_evenDesks 40 = .ok (.istore_n 3, 1) := by decide +kernel
theorem dX2_evenDesks_41 : decode cX2_evenDesks 41 = .ok (.iconst 1, 1) := by decide +kernel
theorem dX2_evenDesks_42 : decode cX2_evenDesks 42 = .ok (.istore 4, 2) := by decide +kernel
theorem dX2_evenDesks_44 : decode cX2_evenDesks 44 = .ok (.iload 4, 2) := by decide +kernel
theorem dX2_evenDesks_46 : decode cX2_evenDesks 46 = .ok (.bipush 6, 2) := by decide +kernel
theorem dX2_evenDesks_48 : decode cX2_evenDesks 48 = .ok (.if_icmp .ge 55, 3) := by decide +kernel
theorem dX2_evenDesks_51 : decode cX2_evenDesks 51 = .ok (.aload_n 0, 1) := by decide +kernel
theorem dX2_evenDesks_52 : decode cX2_evenDesks 52 = .ok (.getfield 25, 3) := by decide +kernel
theorem dX2_evenDesks_55 : decode cX2_evenDesks 55 = .ok (.iload 4, 2) := by decide +kernel
theorem dX2_evenDesks_57 : decode cX2_evenDesks 57 = .ok (.iaload, 1) := by decide +kernel
theorem dX2_evenDesks_58 : decode cX2_evenDesks 58 = .ok (.aload_n 0, 1) := by decide +kernel
theorem dX2_evenDesks_59 : decode cX2_evenDesks 59 = .ok (.getfield 25, 3) := by decide +kernel
theorem dX2_evenDesks_62 : decode cX2_evenDesks 62 = .ok (.iload_n 2, 1) := by decide +kernel
theorem dX2_evenDesks_63 : decode cX2_evenDesks 63 = .ok (.iaload, 1) := by decide +kernel
theorem dX2_evenDesks_64 : decode cX2_evenDesks 64 = .ok (.if_icmp .le 8, 3) := by decide +kernel
theorem dX2_evenDesks_67 : decode cX2_evenDesks 67 = .ok (.iload 4, 2) := by decide +kernel
theorem dX2_evenDesks_69 : decode cX2_evenDesks 69 = .ok (.goto 4, 3) := by decide +kernel
theorem dX2_evenDesks_72 : decode cX2_evenDesks 72 = .ok (.iload_n 2, 1) := by decide +kernel
theorem dX2_evenDesks_73 : decode cX2_evenDesks 73 = .ok (.istore_n 2, 1) := by decide +kernel
theorem dX2_evenDesks_74 : decode cX2_evenDesks 74 = .ok (.aload_n 0, 1) := by decide +kernel
theorem dX2_evenDesks_75 : decode cX2_evenDesks 75 = .ok (.getfield 25, 3) := by decide +kernel
theorem dX2_evenDesks_78 : decode cX2_evenDesks 78 = .ok (.iload 4, 2) := by decide +kernel
theorem dX2_evenDesks_80 : decode cX2_evenDesks 80 = .ok (.iaload, 1) := by decide +kernel
theorem dX2_evenDesks_81 : decode cX2_evenDesks 81 = .ok (.aload_n 0, 1) := by decide +kernel
theorem dX2_evenDesks_82 : decode cX2_evenDesks 82 = .ok (.getfield 25, 3) := by decide +kernel
theorem dX2_evenDesks_85 : decode cX2_evenDesks 85 = .ok (.iload_n 3, 1) := by decide +kernel
theorem dX2_evenDesks_86 : decode cX2_evenDesks 86 = .ok (.iaload, 1) := by decide +kernel
theorem dX2_evenDesks_87 : decode cX2_evenDesks 87 = .ok (.if_icmp .ge 8, 3) := by decide +kernel
theorem dX2_evenDesks_90 : decode cX2_evenDesks 90 = .ok (.iload 4, 2) := by decide +kernel
theorem dX2_evenDesks_92 : decode cX2_evenDesks 92 = .ok (.goto 4, 3) := by decide +kernel
theorem dX2_evenDesks_95 : decode cX2_evenDesks 95 = .ok (.iload_n 3, 1) := by decide +kernel
theorem dX2_evenDesks_96 : decode cX2_evenDesks 96 = .ok (.istore_n 3, 1) := by decide +kernel
theorem dX2_evenDesks_97 : decode cX2_evenDesks 97 = .ok (.iinc 4 1, 3) := by decide +kernel
theorem dX2_evenDesks_100 : decode cX2_evenDesks 100 = .ok (.goto (-56), 3) := by decide +kernel
theorem dX2_evenDesks_103 : decode cX2_evenDesks 103 = .ok (.aload_n 0, 1) := by decide +kernel
theorem dX2_evenDesks_104 : decode cX2_evenDesks 104 = .ok (.getfield 25, 3) := by decide +kernel
theorem dX2_evenDesks_107 : decode cX2_evenDesks 107 = .ok (.iload_n 2, 1) := by decide +kernel
theorem dX2_evenDesks_108 : decode cX2_evenDesks 108 = .ok (.iaload, 1) := by decide +kernel
theorem dX2_evenDesks_109 : decode cX2_evenDesks 109 = .ok (.aload_n 0, 1) := by decide +kernel
theorem dX2_evenDesks_110 : decode cX2_evenDesks 110 = .ok (.getfield 25, 3) := by decide +kernel
theorem dX2_evenDesks_113 : decode cX2_evenDesks 113 = .ok (.iload_n 3, 1) := by decide +kernel
theorem dX2_evenDesks_114 : decode cX2_evenDesks 114 = .ok (.iaload, 1) := by decide +kernel
theorem dX2_evenDesks_115 : decode cX2_evenDesks 115 = .ok (.isub, 1) := by decide +kernel
theorem dX2_evenDesks_116 : decode cX2_evenDesks 116 = .ok (.iconst 2, 1) := by decide +kernel
theorem dX2_evenDesks_117 : decode cX2_evenDesks 117 = .ok (.if_icmp .ge 5, 3) := by decide +kernel
theorem dX2_evenDesks_120 : decode cX2_evenDesks 120 = .ok (.iload_n 1, 1) := by decide +kernel
theorem dX2_evenDesks_121 : decode cX2_evenDesks 121 = .ok (.ireturn, 1) := by decide +kernel
theorem dX2_evenDesks_122 : decode cX2_evenDesks 122 = .ok (.aload_n 0, 1) := by decide +kernel
theorem dX2_evenDesks_123 : decode cX2_evenDesks 123 = .ok (.getfield 9, 3) := by decide +kernel
theorem dX2_evenDesks_126 : decode cX2_evenDesks 126 = .ok (.iload_n 2, 1) := by decide +kernel
theorem dX2_evenDesks_127 : decode cX2_evenDesks 127 = .ok (.iload_n 3, 1) := by decide +kernel
theorem dX2_evenDesks_128 : decode cX2_evenDesks 128 = .ok (.invokevirtual 123, 3) := by decide +kernel
theorem dX2_evenDesks_131 : decode cX2_evenDesks 131 = .ok (.pop, 1) := by decide +kernel
theorem dX2_evenDesks_132 : decode cX2_evenDesks 132 = .ok (.aload_n 0, 1) := by decide +kernel
theorem dX2_evenDesks_133 : decode cX2_evenDesks 133 = .ok (.getfield 25, 3) := by decide +kernel
theorem dX2_evenDesks_136 : decode cX2_evenDesks 136 = .ok (.iload_n 2, 1) := by decide +kernel
theorem dX2_evenDesks_137 : decode cX2_evenDesks 137 = .ok (.dup2, 1) := by decide +kernel
theorem dX2_evenDesks_138 : decode cX2_evenDesks 138 = .ok (.iaload, 1) := by decide +kernel
theorem dX2_evenDesks_139 : decode cX2_evenDesks 139 = .ok (.iconst 1, 1) := by decide +kernel
theorem dX2_evenDesks_140 : decode cX2_evenDesks 140 = .ok (.isub, 1) := by decide +kernel
theorem dX2_evenDesks_141 : decode cX2_evenDesks 141 = .ok (.iastore, 1) := by decide +kernel
theorem dX2_evenDesks_142 : decode cX2_evenDesks 142 = .ok (.aload_n 0, 1) := by decide +kernel
theorem dX2_evenDesks_143 : decode cX2_evenDesks 143 = .ok (.getfield 25, 3) := by decide +kernel
theorem dX2_evenDesks_146 : decode cX2_evenDesks 146 = .ok (.iload_n 3, 1) := by decide +kernel
theorem dX2_evenDesks_147 : decode cX2_evenDesks 147 = .ok (.dup2, 1) := by decide +kernel
theorem dX2_evenDesks_148 : decode cX2_evenDesks 148 = .ok (.iaload, 1) := by decide +kernel
theorem dX2_evenDesks_149 : decode cX2_evenDesks 149 = .ok (.iconst 1, 1) := by decide +kernel
theorem dX2_evenDesks_150 : decode cX2_evenDesks 150 = .ok (.iadd, 1) := by decide +kernel
theorem dX2_evenDesks_151 : decode cX2_evenDesks 151 = .ok (.iastore, 1) := by decide +kernel
theorem dX2_evenDesks_152 : decode cX2_evenDesks 152 = .ok (.iinc 1 1, 3) := by decide +kernel
theorem dX2_evenDesks_155 : decode cX2_evenDesks 155 = .ok (.goto (-125), 3) := by decide +kernel
theorem dX2_evenDesks_158 : decode cX2_evenDesks 158 = .ok (.iload_n 1, 1) := by decide +kernel
theorem dX2_evenDesks_159 : decode cX2_evenDesks 159 = .ok (.ireturn, 1) := by decide +kernel
theorem dX3_init_0 : decode cX3_init 0 = .ok (.aload_n 0, 1) := by decide +kernel
theorem dX3_init_1 : decode cX3_init 1 = .ok (.invokespecial 3, 3) := by decide +kernel
theorem dX3_init_4 : decode cX3_init 4 = .ok (.aload_n 0, 1) := by decide +kernel
theorem dX3_init_5 : decode cX3_init 5 = .ok (.aload_n 1, 1) := by decide +kernel
theorem dX3_init_6 : decode cX3_init 6 = .ok (.putfield 9, 3) := by decide +kernel
theorem dX3_init_9 : decode cX3_init 9 = .ok (.aload_n 0, 1) := by decide +kernel
theorem dX3_init_10 : decode cX3_init 10 = .ok (.bipush 8, 2) := by decide +kernel
theorem dX3_init_12 : decode cX3_init 12 = .ok (.newarray .int, 2) := by decide +kernel
theorem dX3_init_14 : decode cX3_init 14 = .ok (.putfield 15, 3) := by decide +kernel
theorem dX3_init_17 : decode cX3_init 17 = .ok (.return_, 1) := by decide +kernel
set_option maxRecDepth 20000 in
theorem ggX3_seek_J7_fill_53178 : GoodIn wsX3_seek wsJ7_fill_53178 := goodIn_r _ [11] (by decide +kernel) (by decide +kernel)
set_option maxRecDepth 20000 in
theorem gX3_seek_J7_fill_53178 : GoodIn wsX3_seek (va_wsS RX3 38 yJ7_fill_53178 wsJ7_fill_53178) := goodIn_app (goodIn_of _ (by decide +kernel)) ggX3_seek_J7_fill_53178
set_option maxRecDepth 20000 in
theorem ggX3_seek_X3_findReach : GoodIn wsX3_seek wsX3_findReach := goodIn_r _ [16, 1, 17, 2, 18, 19, 20, 21, 22, 23, 15, 24, 46, 47, 48, 49, 50, 51, 52, 53, 54, 55, 56] (by decide +kernel) (by decide +kernel)
set_option maxRecDepth 20000 in
theorem gX3_seek_X3_findReach : GoodIn wsX3_seek (wsV RX3 44 RX3 yX3_findReach wsX3_findReach) := goodIn_app (goodIn_of _ (by decide +kernel)) ggX3_seek_X3_findReach
set_option maxRecDepth 20000 in
theorem ggX3_seek_X3_choose : GoodIn wsX3_seek wsX3_choose := goodIn_r _ [28, 6, 1, 7, 29, 30, 31, 15, 32, 5, 21, 22, 23, 24, 17, 25, 26, 27, 33, 34, 35, 36, 18, 19, 20, 2, 3, 37, 38, 39, 40, 41, 42, 43, 44, 45, 46, 47, 48, 49, 50, 51, 52, 53, 54, 55, 56] (by decide +kernel) (by decide +kernel)
set_option maxRecDepth 20000 in
theorem gX3_seek_X3_choose : GoodIn wsX3_seek (wsV RX3 47 RX3 yX3_choose wsX3_choose) := goodIn_app (goodIn_of _ (by decide +kernel)) ggX3_seek_X3_choose
theorem dX3_seek_0 : decode cX3_seek 0 = .ok (.aload_n 0, 1) := by decide +kernel
theorem dX3_seek_1 : decode cX3_seek 1 = .ok (.iload_n 1, 1) := by decide +kernel
theorem dX3_seek_2 : decode cX3_seek 2 = .ok (.putfield 19, 3) := by decide +kernel
theorem dX3_seek_5 : decode cX3_seek 5 = .ok (.aload_n 0, 1) := by decide +kernel
theorem dX3_seek_6 : decode cX3_seek 6 = .ok (.iload_n 2, 1) := by decide +kernel
theorem dX3_seek_7 : decode cX3_seek 7 = .ok (.putfield 23, 3) := by decide +kernel
theorem dX3_seek_10 : decode cX3_seek 10 = .ok (.aload_n 0, 1) := by decide +kernel
theorem dX3_seek_11 : decode cX3_seek 11 = .ok (.iload_n 3, 1) := by decide +kernel
theorem dX3_seek_12 : decode cX3_seek 12 = .ok (.putfield 26, 3) := by decide +kernel
theorem dX3_seek_15 : decode cX3_seek 15 = .ok (.aload_n 0, 1) := by decide +kernel
theorem dX3_seek_16 : decode cX3_seek 16 = .ok (.ldc2_w 29, 3) := by decide +kernel
theorem dX3_seek_19 : decode cX3_seek 19 = .ok (.putfield 31, 3) := by decide +kernel
theorem dX3_seek_22 : decode cX3_seek 22 = .ok (.aload_n 0, 1) := by decide +kernel
theorem dX3_seek_23 : decode cX3_seek 23 = .ok (.ldc2_w 29, 3) := by decide +kernel
theorem dX3_seek_26 : decode cX3_seek 26 = .ok (.putfield 35, 3) := by decide +kernel
theorem dX3_seek_29 : decode cX3_seek 29 = .ok (.aload_n 0, 1) := by decide +kernel
theorem dX3_seek_30 : decode cX3_seek 30 = .ok (.getfield 15, 3) := by decide +kernel
theorem dX3_seek_33 : decode cX3_seek 33 = .ok (.iconst (-1), 1) := by decide +kernel
theorem dX3_seek_34 : decode cX3_seek 34 = .ok (.invokestatic 38, 3) := by decide +kernel
theorem dX3_seek_37 : decode cX3_seek 37 = .ok (.aload_n 0, 1) := by decide +kernel
theorem dX3_seek_38 : decode cX3_seek 38 = .ok (.invokevirtual 44, 3) := by decide +kernel
theorem dX3_seek_41 : decode cX3_seek 41 = .ok (.aload_n 0, 1) := by decide +kernel
theorem dX3_seek_42 : decode cX3_seek 42 = .ok (.iconst 0, 1) := by decide +kernel
theorem dX3_seek_43 : decode cX3_seek 43 = .ok (.lconst 0, 1) := by decide +kernel
theorem dX3_seek_44 : decode cX3_seek 44 = .ok (.invokevirtual 47, 3) := by decide +kernel
theorem dX3_seek_47 : decode cX3_seek 47 = .ok (.return_, 1) := by decide +kernel
set_option maxRecDepth 20000 in
theorem ggX3_findReach_X3_isReached : GoodIn wsX3_findReach wsX3_isReached := goodIn_r _ [11, 2, 12, 13, 14, 15, 16, 17, 18, 19] (by decide +kernel) (by decide +kernel)
set_option maxRecDepth 20000 in
theorem gX3_findReach_X3_isReached : GoodIn wsX3_findReach (wsV RX3 59 RX3 yX3_isReached wsX3_isReached) := goodIn_app (goodIn_of _ (by decide +kernel)) ggX3_findReach_X3_isReached
theorem dX3_findReach_0 : decode cX3_findReach 0 = .ok (.aload_n 0, 1) := by decide +kernel
theorem dX3_findReach_1 : decode cX3_findReach 1 = .ok (.iconst 1, 1) := by decide +kernel
theorem dX3_findReach_2 : decode cX3_findReach 2 = .ok (.aload_n 0, 1) := by decide +kernel
theorem dX3_findReach_3 : decode cX3_findReach 3 = .ok (.getfield 19, 3) := by decide +kernel
theorem dX3_findReach_6 : decode cX3_findReach 6 = .ok (.ishl, 1) := by decide +kernel
theorem dX3_findReach_7 : decode cX3_findReach 7 = .ok (.putfield 51, 3) := by decide +kernel
theorem dX3_findReach_10 : decode cX3_findReach 10 = .ok (.iconst 0, 1) := by decide +kernel
theorem dX3_findReach_11 : decode cX3_findReach 11 = .ok (.istore_n 1, 1) := by decide +kernel
theorem dX3_findReach_12 : decode cX3_findReach 12 = .ok (.iload_n 1, 1) := by decide +kernel
theorem dX3_findReach_13 : decode cX3_findReach 13 = .ok (.bipush 8, 2) := by decide +kernel
theorem dX3_findReach_15 : decode cX3_findReach 15 = .ok (.if_icmp .ge 80, 3) := by decide +kernel
theorem dX3_findReach_18 : decode cX3_findReach 18 = .ok (.iconst 0, 1) := by decide +kernel
theorem dX3_findReach_19 : decode cX3_findReach 19 = .ok (.istore_n 2, 1) := by decide +kernel
theorem dX3_findReach_20 : decode cX3_findReach 20 = .ok (.iload_n 2, 1) := by decide +kernel
theorem dX3_findReach_21 : decode cX3_findReach 21 = .ok (.bipush 20, 2) := by decide +kernel
theorem dX3_findReach_23 : decode cX3_findReach 23 = .ok (.if_icmp .ge 66, 3) := by decide +kernel
theorem dX3_findReach_26 : decode cX3_findReach 26 = .ok (.iload_n 2, 1) := by decide +kernel
theorem dX3_findReach_27 : decode cX3_findReach 27 = .ok (.aload_n 0, 1) := by decide +kernel
theorem dX3_findReach_28 : decode cX3_findReach 28 = .ok (.getfield 23, 3) := by decide +kernel
theorem dX3_findReach_31 : decode cX3_findReach 31 = .ok (.if_icmp .eq 52, 3) := by decide +kernel
theorem dX3_findReach_34 : decode cX3_findReach 34 = .ok (.aload_n 0, 1) := by decide +kernel
theorem dX3_findReach_35 : decode cX3_findReach 35 = .ok (.getfield 9, 3) := by decide +kernel
theorem dX3_findReach_38 : decode cX3_findReach 38 = .ok (.getfield 54, 3) := by decide +kernel
theorem dX3_findReach_41 : decode cX3_findReach 41 = .ok (.iload_n 2, 1) := by decide +kernel
theorem dX3_findReach_42 : decode cX3_findReach 42 = .ok (.iaload, 1) := by decide +kernel
theorem dX3_findReach_43 : decode cX3_findReach 43 = .ok (.iconst (-1), 1) := by decide +kernel
theorem dX3_findReach_44 : decode cX3_findReach 44 = .ok (.if_icmp .eq 39, 3) := by decide +kernel
theorem dX3_findReach_47 : decode cX3_findReach 47 = .ok (.aload_n 0, 1) := by decide +kernel
theorem dX3_findReach_48 : decode cX3_findReach 48 = .ok (.aload_n 0, 1) := by decide +kernel
theorem dX3_findReach_49 : decode cX3_findReach 49 = .ok (.getfield 9, 3) := by decide +kernel
theorem dX3_findReach_52 : decode cX3_findReach 52 = .ok (.getfield 54, 3) := by decide +kernel
theorem dX3_findReach_55 : decode cX3_findReach 55 = .ok (.iload_n 2, 1) := by decide +kernel
theorem dX3_findReach_56 : decode cX3_findReach 56 = .ok (.iaload, 1) := by decide +kernel
theorem dX3_findReach_57 : decode cX3_findReach 57 = .ok (.invokevirtual 59, 3) := by decide +kernel
theorem dX3_findReach_60 : decode cX3_findReach 60 = .ok (.ifCond .eq 23, 3) := by decide +kernel
theorem dX3_findReach_63 : decode cX3_findReach 63 = .ok (.aload_n 0, 1) := by decide +kernel
theorem dX3_findReach_64 : decode cX3_findReach 64 = .ok (.dup, 1) := by decide +kernel
theorem dX3_findReach_65 : decode cX3_findReach 65 = .ok (.getfield 51, 3) := by decide +kernel
theorem dX3_findReach_68 : decode cX3_findReach 68 = .ok (.iconst 1, 1) := by decide +kernel
theorem dX3_findReach_69 : decode cX3_findReach 69 = .ok (.aload_n 0, 1) := by decide +kernel
theorem dX3_findReach_70 : decode cX3_findReach 70 = .ok (.getfield 9, 3) := by decide +kernel
theorem dX3_findReach_73 : decode cX3_findReach 73 = .ok (.getfield 63, 3) := by decide +kernel
theorem dX3_findReach_76 : decode cX3_findReach 76 = .ok (.iload_n 2, 1) := by decide +kernel
theorem dX3_findReach_77 : decode cX3_findReach 77 = .ok (.iaload, 1) := by decide +kernel
theorem dX3_findReach_78 : decode cX3_findReach 78 = .ok (.ishl, 1) := by decide +kernel
theorem dX3_findReach_79 : decode cX3_findReach 79 = .ok (.ior, 1) := by decide +kernel
theorem dX3_findReach_80 : decode cX3_findReach 80 = .ok (.putfield 51, 3) := by decide +kernel
theorem dX3_findReach_83 : decode cX3_findReach 83 = .ok (.iinc 2 1, 3) := by decide +kernel
theorem dX3_findReach_86 : decode cX3_findReach 86 = .ok (.goto (-66), 3) := by decide +kernel
theorem dX3_findReach_89 : decode cX3_findReach 89 = .ok (.iinc 1 1, 3) := by decide +kernel
theorem dX3_findReach_92 : decode cX3_findReach 92 = .ok (.goto (-80), 3) := by decide +kernel
theorem dX3_findReach_95 : decode cX3_findReach 95 = .ok (.return_, 1) := by decide +kernel
theorem dX3_isReached_0 : decode cX3_isReached 0 = .ok (.aload_n 0, 1) := by decide +kernel
theorem dX3_isReached_1 : decode cX3_isReached 1 = .ok (.getfield 51, 3) := by decide +kernel
theorem dX3_isReached_4 : decode cX3_isReached 4 = .ok (.iload_n 1, 1) := by decide +kernel
theorem dX3_isReached_5 : decode cX3_isReached 5 = .ok (.ishr, 1) := by decide +kernel
theorem dX3_isReached_6 : decode cX3_isReached 6 = .ok (.iconst 1, 1) := by decide +kernel
theorem dX3_isReached_7 : decode cX3_isReached 7 = .ok (.iand, 1) := by decide +kernel
theorem dX3_isReached_8 : decode cX3_isReached 8 = .ok (.iconst 1, 1) := by decide +kernel
theorem dX3_isReached_9 : decode cX3_isReached 9 = .ok (.if_icmp .ne 7, 3) := by decide +kernel
theorem dX3_isReached_12 : decode cX3_isReached 12 = .ok (.iconst 1, 1) := by decide +kernel
theorem dX3_isReached_13 : decode cX3_isReached 13 = .ok (.goto 4, 3) := by decide +kernel
theorem dX3_isReached_16 : decode cX3_isReached 16 = .ok (.iconst 0, 1) := by decide +kernel
theorem dX3_isReached_17 : decode cX3_isReached 17 = .ok (.ireturn, 1) := by decide +kernel
set_option maxRecDepth 20000 in
theorem ggX3_choose_X3_noteTree : GoodIn wsX3_choose wsX3_noteTree := goodIn_r _ [8, 9, 1, 36, 37, 38, 39, 40, 41, 42, 43] (by decide +kernel) (by decide +kernel)
set_option maxRecDepth 20000 in
theorem gX3_choose_X3_noteTree : GoodIn wsX3_choose (wsV RX3 66 RX3 yX3_noteTree wsX3_noteTree) := goodIn_app (goodIn_of _ (by decide +kernel)) ggX3_choose_X3_noteTree
set_option maxRecDepth 20000 in
theorem ggX3_choose_X3_isReached : GoodIn wsX3_choose wsX3_isReached := goodIn_r _ [13, 14, 36, 37, 38, 39, 40, 41, 42, 43] (by decide +kernel) (by decide +kernel)
set_option maxRecDepth 20000 in
theorem gX3_choose_X3_isReached : GoodIn wsX3_choose (wsV RX3 59 RX3 yX3_isReached wsX3_isReached) := goodIn_app (goodIn_of _ (by decide +kernel)) ggX3_choose_X3_isReached
set_option maxRecDepth 20000 in
theorem ggX3_choose_X3_choose : GoodIn wsX3_choose wsX3_choose := goodIn_r _ [0, 1, 2, 3, 4, 5, 6, 7, 8, 9, 10, 11, 12, 13, 14, 15, 16, 17, 18, 19, 20, 21, 22, 23, 24, 25, 26, 27, 28, 29, 30, 31, 32, 33, 34, 35, 36, 37, 38, 39, 40, 41, 42, 43, 44, 45, 46] (by decide +kernel) (by decide +kernel)
set_option maxRecDepth 20000 in
theorem gX3_choose_X3_choose : GoodIn wsX3_choose (wsV RX3 47 RX3 yX3_choose wsX3_choose) := goodIn_app (goodIn_of _ (by decide +kernel)) ggX3_choose_X3_choose
set_option maxRecDepth 20000 in
theorem ggX3_choose_X3_mayLead : GoodIn wsX3_choose wsX3_mayLead := goodIn_r _ [21, 22, 23, 24, 25, 26, 10, 11, 12, 7, 13, 14, 27, 28, 29, 30, 3, 36, 37, 38, 39, 40, 41, 42, 43, 44, 45, 46] (by decide +kernel) (by decide +kernel)
set_option maxRecDepth 20000 in
theorem gX3_choose_X3_mayLead : GoodIn wsX3_choose (wsV RX3 70 RX3 yX3_mayLead wsX3_mayLead) := goodIn_app (goodIn_of _ (by decide +kernel)) ggX3_choose_X3_mayLead
set_option maxRecDepth 20000 in
theorem ggX3_choose_X3_weightOf : GoodIn wsX3_choose wsX3_weightOf := goodIn_r _ [34, 22, 35, 36, 37, 38, 39, 40, 41, 42, 43, 44, 45, 46] (by decide +kernel) (by decide +kernel)
set_option maxRecDepth 20000 in
theorem gX3_choose_X3_weightOf : GoodIn wsX3_choose (wsV RX3 74 RX3 yX3_weightOf wsX3_weightOf) := goodIn_app (goodIn_of _ (by decide +kernel)) ggX3_choose_X3_weightOf
theorem dX3_choose_0 : decode cX3_choose 0 = .ok (.lload_n 2, 1) := by decide +kernel
theorem dX3_choose_1 : decode cX3_choose 1 = .ok (.aload_n 0, 1) := by decide +kernel
theorem dX3_choose_2 : decode cX3_choose 2 = .ok (.getfield 35, 3) := by decide +kernel
theorem dX3_choose_5 : decode cX3_choose 5 = .ok (.lcmp, 1) := by decide +kernel
theorem dX3_choose_6 : decode cX3_choose 6 = .ok (.ifCond .lt 4, 3) := by decide +kernel
theorem dX3_choose_9 : decode cX3_choose 9 = .ok (.return_, 1) := by decide +kernel
theorem dX3_choose_10 : decode cX3_choose 10 = .ok (.iload_n 1, 1) := by decide +kernel
theorem dX3_choose_11 : decode cX3_choose 11 = .ok (.bipush 8, 2) := by decide +kernel
theorem dX3_choose_13 : decode cX3_choose 13 = .ok (.if_icmp .lt 9, 3) := by decide +kernel
theorem dX3_choose_16 : decode cX3_choose 16 = .ok (.aload_n 0, 1) := by decide +kernel
theorem dX3_choose_17 : decode cX3_choose 17 = .ok (.lload_n 2, 1) := by decide +kernel
theorem dX3_choose_18 : decode cX3_choose 18 = .ok (.invokevirtual 66, 3) := by decide +kernel
theorem dX3_choose_21 : decode cX3_choose 21 = .ok (.return_, 1) := by decide +kernel
theorem dX3_choose_22 : decode cX3_choose 22 = .ok (.iload_n 1, 1) := by decide +kernel
theorem dX3_choose_23 : decode cX3_choose 23 = .ok (.aload_n 0, 1) := by decide +kernel
theorem dX3_choose_24 : decode cX3_choose 24 = .ok (.getfield 19, 3) := by decide +kernel
theorem dX3_choose_27 : decode cX3_choose 27 = .ok (.if_icmp .eq 11, 3) := by decide +kernel
theorem dX3_choose_30 : decode cX3_choose 30 = .ok (.aload_n 0, 1) := by decide +kernel
theorem dX3_choose_31 : decode cX3_choose 31 = .ok (.iload_n 1, 1) := by decide +kernel
theorem dX3_choose_32 : decode cX3_choose 32 = .ok (.invokevirtual 59, 3) := by decide +kernel
theorem dX3_choose_35 : decode cX3_choose 35 = .ok (.ifCond .ne 12, 3) := by decide +kernel
theorem dX3_choose_38 : decode cX3_choose 38 = .ok (.aload_n 0, 1) := by decide +kernel
theorem dX3_choose_39 : decode cX3_choose 39 = .ok (.iload_n 1, 1) := by decide +kernel
theorem dX3_choose_40 : decode cX3_choose 40 = .ok (.iconst 1, 1) := by decide +kernel
theorem dX3_choose_41 : decode cX3_choose 41 = .ok (.iadd, 1) := by decide +kernel
theorem dX3_choose_42 : decode cX3_choose 42 = .ok (.lload_n 2, 1) := by decide +kernel
theorem dX3_choose_43 : decode cX3_choose 43 = .ok (.invokevirtual 47, 3) := by decide +kernel
theorem dX3_choose_46 : decode cX3_choose 46 = .ok (.return_, 1) := by decide +kernel
theorem dX3_choose_47 : decode cX3_choose 47 = .ok (.iconst 0, 1) := by decide +kernel
theorem dX3_choose_48 : decode cX3_choose 48 = .ok (.istore 4, 2) := by decide +kernel
theorem dX3_choose_50 : decode cX3_choose 50 = .ok (.iload 4, 2) := by decide +kernel
theorem dX3_choose_52 : decode cX3_choose 52 = .ok (.bipush 20, 2) := by decide +kernel
theorem dX3_choose_54 : decode cX3_choose 54 = .ok (.if_icmp .ge 49, 3) := by decide +kernel
theorem dX3_choose_57 : decode cX3_choose 57 = .ok (.aload_n 0, 1) := by decide +kernel
theorem dX3_choose_58 : decode cX3_choose 58 = .ok (.iload 4, 2) := by decide +kernel
theorem dX3_choose_60 : decode cX3_choose 60 = .ok (.iload_n 1, 1) := by decide +kernel
theorem dX3_choose_61 : decode cX3_choose 61 = .ok (.invokevirtual 70, 3) := by decide +kernel
theorem dX3_choose_64 : decode cX3_choose 64 = .ok (.ifCond .eq 33, 3) := by decide +kernel
theorem dX3_choose_67 : decode cX3_choose 67 = .ok (.aload_n 0, 1) := by decide +kernel
theorem dX3_choose_68 : decode cX3_choose 68 = .ok (.getfield 15, 3) := by decide +kernel
theorem dX3_choose_71 : decode cX3_choose 71 = .ok (.iload_n 1, 1) := by decide +kernel
theorem dX3_choose_72 : decode cX3_choose 72 = .ok (.iload 4, 2) := by decide +kernel
theorem dX3_choose_74 : decode cX3_choose 74 = .ok (.iastore, 1) := by decide +kernel
theorem dX3_choose_75 : decode cX3_choose 75 = .ok (.aload_n 0, 1) := by decide +kernel
theorem dX3_choose_76 : decode cX3_choose 76 = .ok (.iload_n 1, 1) := by decide +kernel
theorem dX3_choose_77 : decode cX3_choose 77 = .ok (.iconst 1, 1) := by decide +kernel
theorem dX3_choose_78 : decode cX3_choose 78 = .ok (.iadd, 1) := by decide +kernel
theorem dX3_choose_79 : decode cX3_choose 79 = .ok (.lload_n 2, 1) := by decide +kernel
theorem dX3_choose_80 : decode cX3_choose 80 = .ok (.aload_n 0, 1) := by decide +kernel
theorem dX3_choose_81 : decode cX3_choose 81 = .ok (.iload 4, 2) := by decide +kernel
theorem dX3_choose_83 : decode cX3_choose 83 = .ok (.invokevirtual 74, 3) := by decide +kernel
theorem dX3_choose_86 : decode cX3_choose 86 = .ok (.ladd, 1) := by decide +kernel
theorem dX3_choose_87 : decode cX3_choose 87 = .ok (.invokevirtual 47, 3) := by decide +kernel
theorem dX3_choose_90 : decode cX3_choose 90 = .ok (.aload_n 0, 1) := by decide +kernel
theorem dX3_choose_91 : decode cX3_choose 91 = .ok (.getfield 15, 3) := by decide +kernel
theorem dX3_choose_94 : decode cX3_choose 94 = .ok (.iload_n 1, 1) := by decide +kernel
theorem dX3_choose_95 : decode cX3_choose 95 = .ok (.iconst (-1), 1) := by decide +kernel
theorem dX3_choose_96 : decode cX3_choose 96 = .ok (.iastore, 1) := by decide +kernel
theorem dX3_choose_97 : decode cX3_choose 97 = .ok (.iinc 4 1, 3) := by decide +kernel
theorem dX3_choose_100 : decode cX3_choose 100 = .ok (.goto (-50), 3) := by decide +kernel
theorem dX3_choose_103 : decode cX3_choose 103 = .ok (.return_, 1) := by decide +kernel
theorem dX3_noteTree_0 : decode cX3_noteTree 0 = .ok (.lload_n 1, 1) := by decide +kernel
theorem dX3_noteTree_1 : decode cX3_noteTree 1 = .ok (.aload_n 0, 1) := by decide +kernel
theorem dX3_noteTree_2 : decode cX3_noteTree 2 = .ok (.getfield 31, 3) := by decide +kernel
theorem dX3_noteTree_5 : decode cX3_noteTree 5 = .ok (.lcmp, 1) := by decide +kernel
theorem dX3_noteTree_6 : decode cX3_noteTree 6 = .ok (.ifCond .ge 19, 3) := by decide +kernel
theorem dX3_noteTree_9 : decode cX3_noteTree 9 = .ok (.aload_n 0, 1) := by decide +kernel
theorem dX3_noteTree_10 : decode cX3_noteTree 10 = .ok (.aload_n 0, 1) := by decide +kernel
theorem dX3_noteTree_11 : decode cX3_noteTree 11 = .ok (.getfield 31, 3) := by decide +kernel
theorem dX3_noteTree_14 : decode cX3_noteTree 14 = .ok (.putfield 35, 3) := by decide +kernel
theorem dX3_noteTree_17 : decode cX3_noteTree 17 = .ok (.aload_n 0, 1) := by decide +kernel
theorem dX3_noteTree_18 : decode cX3_noteTree 18 = .ok (.lload_n 1, 1) := by decide +kernel
theorem dX3_noteTree_19 : decode cX3_noteTree 19 = .ok (.putfield 31, 3) := by decide +kernel
theorem dX3_noteTree_22 : decode cX3_noteTree 22 = .ok (.goto 8, 3) := by decide +kernel
theorem dX3_noteTree_25 : decode cX3_noteTree 25 = .ok (.aload_n 0, 1) := by decide +kernel
theorem dX3_noteTree_26 : decode cX3_noteTree 26 = .ok (.lload_n 1, 1) := by decide +kernel
theorem dX3_noteTree_27 : decode cX3_noteTree 27 = .ok (.putfield 35, 3) := by decide +kernel
theorem dX3_noteTree_30 : decode cX3_noteTree 30 = .ok (.return_, 1) := by decide +kernel
set_option maxRecDepth 20000 in
theorem ggX3_mayLead_X3_isReached : GoodIn wsX3_mayLead wsX3_isReached := goodIn_r _ [10, 11, 17, 18, 19, 20, 21, 22, 23, 24] (by decide +kernel) (by decide +kernel)
set_option maxRecDepth 20000 in
theorem gX3_mayLead_X3_isReached : GoodIn wsX3_mayLead (wsV RX3 59 RX3 yX3_isReached wsX3_isReached) := goodIn_app (goodIn_of _ (by decide +kernel)) ggX3_mayLead_X3_isReached
set_option maxRecDepth 20000 in
theorem ggX3_mayLead_X3_closesRing : GoodIn wsX3_mayLead wsX3_closesRing := goodIn_r _ [15, 16, 1, 2, 17, 18, 19, 20, 21, 22, 23, 24, 25, 26, 27] (by decide +kernel) (by decide +kernel)
set_option maxRecDepth 20000 in
theorem gX3_mayLead_X3_closesRing : GoodIn wsX3_mayLead (wsV RX3 78 RX3 yX3_closesRing wsX3_closesRing) := goodIn_app (goodIn_of _ (by decide +kernel)) ggX3_mayLead_X3_closesRing
theorem dX3_mayLead_0 : decode cX3_mayLead 0 = .ok (.aload_n 0, 1) := by decide +kernel
theorem dX3_mayLead_1 : decode cX3_mayLead 1 = .ok (.getfield 9, 3) := by decide +kernel
theorem dX3_mayLead_4 : decode cX3_mayLead 4 = .ok (.getfield 54, 3) := by decide +kernel
theorem dX3_mayLead_7 : decode cX3_mayLead 7 = .ok (.iload_n 1, 1) := by decide +kernel
theorem dX3_mayLead_8 : decode cX3_mayLead 8 = .ok (.iaload, 1) := by decide +kernel
theorem dX3_mayLead_9 : decode cX3_mayLead 9 = .ok (.iconst (-1), 1) := by decide +kernel
theorem dX3_mayLead_10 : decode cX3_mayLead 10 = .ok (.if_icmp .eq 40, 3) := by decide +kernel
theorem dX3_mayLead_13 : decode cX3_mayLead 13 = .ok (.aload_n 0, 1) := by decide +kernel
theorem dX3_mayLead_14 : decode cX3_mayLead 14 = .ok (.getfield 9, 3) := by decide +kernel
theorem dX3_mayLead_17 : decode cX3_mayLead 17 = .ok (.getfield 63, 3) := by decide +kernel
theorem dX3_mayLead_20 : decode cX3_mayLead 20 = .ok (.iload_n 1, 1) := by decide +kernel
theorem dX3_mayLead_21 : decode cX3_mayLead 21 = .ok (.iaload, 1) := by decide +kernel
theorem dX3_mayLead_22 : decode cX3_mayLead 22 = .ok (.iload_n 2, 1) := by decide +kernel
theorem dX3_mayLead_23 : decode cX3_mayLead 23 = .ok (.if_icmp .ne 27, 3) := by decide +kernel
theorem dX3_mayLead_26 : decode cX3_mayLead 26 = .ok (.iload_n 1, 1) := by decide +kernel
theorem dX3_mayLead_27 : decode cX3_mayLead 27 = .ok (.aload_n 0, 1) := by decide +kernel
theorem dX3_mayLead_28 : decode cX3_mayLead 28 = .ok (.getfield 23, 3) := by decide +kernel
theorem dX3_mayLead_31 : decode cX3_mayLead 31 = .ok (.if_icmp .eq 19, 3) := by decide +kernel
theorem dX3_mayLead_34 : decode cX3_mayLead 34 = .ok (.aload_n 0, 1) := by decide +kernel
theorem dX3_mayLead_35 : decode cX3_mayLead 35 = .ok (.aload_n 0, 1) := by decide +kernel
theorem dX3_mayLead_36 : decode cX3_mayLead 36 = .ok (.getfield 9, 3) := by decide +kernel
theorem dX3_mayLead_39 : decode cX3_mayLead 39 = .ok (.getfield 54, 3) := by decide +kernel
theorem dX3_mayLead_42 : decode cX3_mayLead 42 = .ok (.iload_n 1, 1) := by decide +kernel
theorem dX3_mayLead_43 : decode cX3_mayLead 43 = .ok (.iaload, 1) := by decide +kernel
theorem dX3_mayLead_44 : decode cX3_mayLead 44 = .ok (.invokevirtual 59, 3) := by decide +kernel
theorem dX3_mayLead_47 : decode cX3_mayLead 47 = .ok (.ifCond .ne 5, 3) := by decide +kernel
theorem dX3_mayLead_50 : decode cX3_mayLead 50 = .ok (.iconst 0, 1) := by decide +kernel
theorem dX3_mayLead_51 : decode cX3_mayLead 51 = .ok (.ireturn, 1) := by decide +kernel
theorem dX3_mayLead_52 : decode cX3_mayLead 52 = .ok (.aload_n 0, 1) := by decide +kernel
theorem dX3_mayLead_53 : decode cX3_mayLead 53 = .ok (.getfield 26, 3) := by decide +kernel
theorem dX3_mayLead_56 : decode cX3_mayLead 56 = .ok (.iconst (-1), 1) := by decide +kernel
theorem dX3_mayLead_57 : decode cX3_mayLead 57 = .ok (.if_icmp .eq 29, 3) := by decide +kernel
theorem dX3_mayLead_60 : decode cX3_mayLead 60 = .ok (.aload_n 0, 1) := by decide +kernel
theorem dX3_mayLead_61 : decode cX3_mayLead 61 = .ok (.getfield 9, 3) := by decide +kernel
theorem dX3_mayLead_64 : decode cX3_mayLead 64 = .ok (.getfield 63, 3) := by decide +kernel
theorem dX3_mayLead_67 : decode cX3_mayLead 67 = .ok (.aload_n 0, 1) := by decide +kernel
theorem dX3_mayLead_68 : decode cX3_mayLead 68 = .ok (.getfield 26, 3) := by decide +kernel
theorem dX3_mayLead_71 : decode cX3_mayLead 71 = .ok (.iaload, 1) := by decide +kernel
theorem dX3_mayLead_72 : decode cX3_mayLead 72 = .ok (.iload_n 2, 1) := by decide +kernel
theorem dX3_mayLead_73 : decode cX3_mayLead 73 = .ok (.if_icmp .ne 13, 3) := by decide +kernel
theorem dX3_mayLead_76 : decode cX3_mayLead 76 = .ok (.iload_n 1, 1) := by decide +kernel
theorem dX3_mayLead_77 : decode cX3_mayLead 77 = .ok (.aload_n 0, 1) := by decide +kernel
theorem dX3_mayLead_78 : decode cX3_mayLead 78 = .ok (.getfield 26, 3) := by decide +kernel
theorem dX3_mayLead_81 : decode cX3_mayLead 81 = .ok (.if_icmp .eq 5, 3) := by decide +kernel
theorem dX3_mayLead_84 : decode cX3_mayLead 84 = .ok (.iconst 0, 1) := by decide +kernel
theorem dX3_mayLead_85 : decode cX3_mayLead 85 = .ok (.ireturn, 1) := by decide +kernel
theorem dX3_mayLead_86 : decode cX3_mayLead 86 = .ok (.aload_n 0, 1) := by decide +kernel
theorem dX3_mayLead_87 : decode cX3_mayLead 87 = .ok (.aload_n 0, 1) := by decide +kernel
theorem dX3_mayLead_88 : decode cX3_mayLead 88 = .ok (.getfield 9, 3) := by decide +kernel
theorem dX3_mayLead_91 : decode cX3_mayLead 91 = .ok (.getfield 54, 3) := by decide +kernel
theorem dX3_mayLead_94 : decode cX3_mayLead 94 = .ok (.iload_n 1, 1) := by decide +kernel
theorem dX3_mayLead_95 : decode cX3_mayLead 95 = .ok (.iaload, 1) := by decide +kernel
theorem dX3_mayLead_96 : decode cX3_mayLead 96 = .ok (.iload_n 2, 1) := by decide +kernel
theorem dX3_mayLead_97 : decode cX3_mayLead 97 = .ok (.invokevirtual 78, 3) := by decide +kernel
theorem dX3_mayLead_100 : decode cX3_mayLead 100 = .ok (.ifCond .ne 7, 3) := by decide +kernel
theorem dX3_mayLead_103 : decode cX3_mayLead 103 = .ok (.iconst 1, 1) := by decide +kernel
theorem dX3_mayLead_104 : decode cX3_mayLead 104 = .ok (.goto 4, 3) := by decide +kernel
theorem dX3_mayLead_107 : decode cX3_mayLead 107 = .ok (.iconst 0, 1) := by decide +kernel
theorem dX3_mayLead_108 : decode cX3_mayLead 108 = .ok (.ireturn, 1) := by decide +kernel
theorem dX3_closesRing_0 : decode cX3_closesRing 0 = .ok (.iload_n 1, 1) := by decide +kernel
theorem dX3_closesRing_1 : decode cX3_closesRing 1 = .ok (.istore_n 3, 1) := by decide +kernel
theorem dX3_closesRing_2 : decode cX3_closesRing 2 = .ok (.iconst 0, 1) := by decide +kernel
theorem dX3_closesRing_3 : decode cX3_closesRing 3 = .ok (.istore 4, 2) := by decide +kernel
theorem dX3_closesRing_5 : decode cX3_closesRing 5 = .ok (.iload 4, 2) := by decide +kernel
theorem dX3_closesRing_7 : decode cX3_closesRing 7 = .ok (.bipush 8, 2) := by decide +kernel
theorem dX3_closesRing_9 : decode cX3_closesRing 9 = .ok (.if_icmp .ge 39, 3) := by decide +kernel
theorem dX3_closesRing_12 : decode cX3_closesRing 12 = .ok (.iload_n 3, 1) := by decide +kernel
theorem dX3_closesRing_13 : decode cX3_closesRing 13 = .ok (.iload_n 2, 1) := by decide +kernel
theorem dX3_closesRing_14 : decode cX3_closesRing 14 = .ok (.if_icmp .eq 34, 3) := by decide +kernel
theorem dX3_closesRing_17 : decode cX3_closesRing 17 = .ok (.aload_n 0, 1) := by decide +kernel
theorem dX3_closesRing_18 : decode cX3_closesRing 18 = .ok (.getfield 15, 3) := by decide +kernel
theorem dX3_closesRing_21 : decode cX3_closesRing 21 = .ok (.iload_n 3, 1) := by decide +kernel
theorem dX3_closesRing_22 : decode cX3_closesRing 22 = .ok (.iaload, 1) := by decide +kernel
theorem dX3_closesRing_23 : decode cX3_closesRing 23 = .ok (.iconst (-1), 1) := by decide +kernel
theorem dX3_closesRing_24 : decode cX3_closesRing 24 = .ok (.if_icmp .eq 24, 3) := by decide +kernel
theorem dX3_closesRing_27 : decode cX3_closesRing 27 = .ok (.aload_n 0, 1) := by decide +kernel
theorem dX3_closesRing_28 : decode cX3_closesRing 28 = .ok (.getfield 9, 3) := by decide +kernel
theorem dX3_closesRing_31 : decode cX3_closesRing 31 = .ok (.getfield 54, 3) := by decide +kernel
theorem dX3_closesRing_34 : decode cX3_closesRing 34 = .ok (.aload_n 0, 1) := by decide +kernel
theorem dX3_closesRing_35 : decode cX3_closesRing 35 = .ok (.getfield 15, 3) := by decide +kernel
theorem dX3_closesRing_38 : decode cX3_closesRing 38 = .ok (.iload_n 3, 1) := by decide +kernel
theorem dX3_closesRing_39 : decode cX3_closesRing 39 = .ok (.iaload, 1) := by decide +kernel
theorem dX3_closesRing_40 : decode cX3_closesRing 40 = .ok (.iaload, 1) := by decide +kernel
theorem dX3_closesRing_41 : decode cX3_closesRing 41 = .ok (.istore_n 3, 1) := by decide +kernel
theorem dX3_closesRing_42 : decode cX3_closesRing 42 = .ok (.iinc 4 1, 3) := by decide +kernel
theorem dX3_closesRing_45 : decode cX3_closesRing 45 = .ok (.goto (-40), 3) := by decide +kernel
theorem dX3_closesRing_48 : decode cX3_closesRing 48 = .ok (.iload_n 3, 1) := by decide +kernel
theorem dX3_closesRing_49 : decode cX3_closesRing 49 = .ok (.iload_n 2, 1) := by decide +kernel
theorem dX3_closesRing_50 : decode cX3_closesRing 50 = .ok (.if_icmp .ne 7, 3) := by decide +kernel
theorem dX3_closesRing_53 : decode cX3_closesRing 53 = .ok (.iconst 1, 1) := by decide +kernel
theorem dX3_closesRing_54 : decode cX3_closesRing 54 = .ok (.goto 4, 3) := by decide +kernel
theorem dX3_closesRing_57 : decode cX3_closesRing 57 = .ok (.iconst 0, 1) := by decide +kernel
theorem dX3_closesRing_58 : decode cX3_closesRing 58 = .ok (.ireturn, 1) := by decide +kernel
theorem dX3_weightOf_0 : decode cX3_weightOf 0 = .ok (.aload_n 0, 1) := by decide +kernel
theorem dX3_weightOf_1 : decode cX3_weightOf 1 = .ok (.getfield 9, 3) := by decide +kernel
theorem dX3_weightOf_4 : decode cX3_weightOf 4 = .ok (.getfield 81, 3) := by decide +kernel
theorem dX3_weightOf_7 : decode cX3_weightOf 7 = .ok (.iload_n 1, 1) := by decide +kernel
theorem dX3_weightOf_8 : decode cX3_weightOf 8 = .ok (.iaload, 1) := by decide +kernel
theorem dX3_weightOf_9 : decode cX3_weightOf 9 = .ok (.i2l, 1) := by decide +kernel
theorem dX3_weightOf_10 : decode cX3_weightOf 10 = .ok (.bipush 20, 2) := by decide +kernel
theorem dX3_weightOf_12 : decode cX3_weightOf 12 = .ok (.lshl, 1) := by decide +kernel
theorem dX3_weightOf_13 : decode cX3_weightOf 13 = .ok (.lconst 1, 1) := by decide +kernel
theorem dX3_weightOf_14 : decode cX3_weightOf 14 = .ok (.iload_n 1, 1) := by decide +kernel
theorem dX3_weightOf_15 : decode cX3_weightOf 15 = .ok (.lshl, 1) := by decide +kernel
theorem dX3_weightOf_16 : decode cX3_weightOf 16 = .ok (.ladd, 1) := by decide +kernel
theorem dX3_weightOf_17 : decode cX3_weightOf 17 = .ok (.lreturn, 1) := by decide +kernel
theorem dX3_costOf_0 : decode cX3_costOf 0 = .ok (.lload_n 1, 1) := by decide +kernel
theorem dX3_costOf_1 : decode cX3_costOf 1 = .ok (.bipush 20, 2) := by decide +kernel
theorem dX3_costOf_3 : decode cX3_costOf 3 = .ok (.lshr, 1) := by decide +kernel
theorem dX3_costOf_4 : decode cX3_costOf 4 = .ok (.l2i, 1) := by decide +kernel
theorem dX3_costOf_5 : decode cX3_costOf 5 = .ok (.ireturn, 1) := by decide +kernel
theorem dX3_bitsOf_0 : decode cX3_bitsOf 0 = .ok (.lload_n 1, 1) := by decide +kernel
theorem dX3_bitsOf_1 : decode cX3_bitsOf 1 = .ok (.ldc2_w 84, 3) := by decide +kernel
theorem dX3_bitsOf_4 : decode cX3_bitsOf 4 = .ok (.land, 1) := by decide +kernel
theorem dX3_bitsOf_5 : decode cX3_bitsOf 5 = .ok (.l2i, 1) := by decide +kernel
theorem dX3_bitsOf_6 : decode cX3_bitsOf 6 = .ok (.ireturn, 1) := by decide +kernel
theorem dX3_firstHas_0 : decode cX3_firstHas 0 = .ok (.aload_n 0, 1) := by decide +kernel
theorem dX3_firstHas_1 : decode cX3_firstHas 1 = .ok (.getfield 31, 3) := by decide +kernel
theorem dX3_firstHas_4 : decode cX3_firstHas 4 = .ok (.ldc2_w 29, 3) := by decide +kernel
theorem dX3_firstHas_7 : decode cX3_firstHas 7 = .ok (.lcmp, 1) := by decide +kernel
theorem dX3_firstHas_8 : decode cX3_firstHas 8 = .ok (.ifCond .eq 20, 3) := by decide +kernel
theorem dX3_firstHas_11 : decode cX3_firstHas 11 = .ok (.aload_n 0, 1) := by decide +kernel
theorem dX3_firstHas_12 : decode cX3_firstHas 12 = .ok (.getfield 31, 3) := by decide +kernel
theorem dX3_firstHas_15 : decode cX3_firstHas 15 = .ok (.iload_n 1, 1) := by decide +kernel
theorem dX3_firstHas_16 : decode cX3_firstHas 16 = .ok (.lshr, 1) := by decide +kernel
theorem dX3_firstHas_17 : decode cX3_firstHas 17 = .ok (.lconst 1, 1) := by decide +kernel
theorem dX3_firstHas_18 : decode cX3_firstHas 18 = .ok (.land, 1) := by decide +kernel
theorem dX3_firstHas_19 : decode cX3_firstHas 19 = .ok (.lconst 1, 1) := by decide +kernel
theorem dX3_firstHas_20 : decode cX3_firstHas 20 = .ok (.lcmp, 1) := by decide +kernel
theorem dX3_firstHas_21 : decode cX3_firstHas 21 = .ok (.ifCond .ne 7, 3) := by decide +kernel
theorem dX3_firstHas_24 : decode cX3_firstHas 24 = .ok (.iconst 1, 1) := by decide +kernel
theorem dX3_firstHas_25 : decode cX3_firstHas 25 = .ok (.goto 4, 3) := by decide +kernel
theorem dX3_firstHas_28 : decode cX3_firstHas 28 = .ok (.iconst 0, 1) := by decide +kernel
theorem dX3_firstHas_29 : decode cX3_firstHas 29 = .ok (.ireturn, 1) := by decide +kernel
set_option maxRecDepth 20000 in
theorem ggX3_arcInto_X3_firstHas : GoodIn wsX3_arcInto wsX3_firstHas := goodIn_r _ [7, 8, 9, 10, 11, 12, 13, 14, 15, 16, 17] (by decide +kernel) (by decide +kernel)
set_option maxRecDepth 20000 in
theorem gX3_arcInto_X3_firstHas : GoodIn wsX3_arcInto (wsV RX3 86 RX3 yX3_firstHas wsX3_firstHas) := goodIn_app (goodIn_of _ (by decide +kernel)) ggX3_arcInto_X3_firstHas
theorem dX3_arcInto_0 : decode cX3_arcInto 0 = .ok (.iconst 0, 1) := by decide +kernel
theorem dX3_arcInto_1 : decode cX3_arcInto 1 = .ok (.istore_n 2, 1) := by decide +kernel
theorem dX3_arcInto_2 : decode cX3_arcInto 2 = .ok (.iload_n 2, 1) := by decide +kernel
theorem dX3_arcInto_3 : decode cX3_arcInto 3 = .ok (.bipush 20, 2) := by decide +kernel
theorem dX3_arcInto_5 : decode cX3_arcInto 5 = .ok (.if_icmp .ge 32, 3) := by decide +kernel
theorem dX3_arcInto_8 : decode cX3_arcInto 8 = .ok (.aload_n 0, 1) := by decide +kernel
theorem dX3_arcInto_9 : decode cX3_arcInto 9 = .ok (.iload_n 2, 1) := by decide +kernel
theorem dX3_arcInto_10 : decode cX3_arcInto 10 = .ok (.invokevirtual 86, 3) := by decide +kernel
theorem dX3_arcInto_13 : decode cX3_arcInto 13 = .ok (.ifCond .eq 18, 3) := by decide +kernel
theorem dX3_arcInto_16 : decode cX3_arcInto 16 = .ok (.aload_n 0, 1) := by decide +kernel
theorem dX3_arcInto_17 : decode cX3_arcInto 17 = .ok (.getfield 9, 3) := by decide +kernel
theorem dX3_arcInto_20 : decode cX3_arcInto 20 = .ok (.getfield 63, 3) := by decide +kernel
theorem dX3_arcInto_23 : decode cX3_arcInto 23 = .ok (.iload_n 2, 1) := by decide +kernel
theorem dX3_arcInto_24 : decode cX3_arcInto 24 = .ok (.iaload, 1) := by decide +kernel
theorem dX3_arcInto_25 : decode cX3_arcInto 25 = .ok (.iload_n 1, 1) := by decide +kernel
theorem dX3_arcInto_26 : decode cX3_arcInto 26 = .ok (.if_icmp .ne 5, 3) := by decide +kernel
theorem dX3_arcInto_29 : decode cX3_arcInto 29 = .ok (.iload_n 2, 1) := by decide +kernel
theorem dX3_arcInto_30 : decode cX3_arcInto 30 = .ok (.ireturn, 1) := by decide +kernel
theorem dX3_arcInto_31 : decode cX3_arcInto 31 = .ok (.iinc 2 1, 3) := by decide +kernel
theorem dX3_arcInto_34 : decode cX3_arcInto 34 = .ok (.goto (-32), 3) := by decide +kernel
theorem dX3_arcInto_37 : decode cX3_arcInto 37 = .ok (.iconst (-1), 1) := by decide +kernel
theorem dX3_arcInto_38 : decode cX3_arcInto 38 = .ok (.ireturn, 1) := by decide +kernel
theorem dX3_mostStillBelow_0 : decode cX3_mostStillBelow 0 = .ok (.lload_n 3, 1) := by decide +kernel
theorem dX3_mostStillBelow_1 : decode cX3_mostStillBelow 1 = .ok (.lload_n 1, 1) := by decide +kernel
theorem dX3_mostStillBelow_2 : decode cX3_mostStillBelow 2 = .ok (.lsub, 1) := by decide +kernel
theorem dX3_mostStillBelow_3 : decode cX3_mostStillBelow 3 = .ok (.lconst 1, 1) := by decide +kernel
theorem dX3_mostStillBelow_4 : decode cX3_mostStillBelow 4 = .ok (.lsub, 1) := by decide +kernel
theorem dX3_mostStillBelow_5 : decode cX3_mostStillBelow 5 = .ok (.bipush 20, 2) := by decide +kernel
theorem dX3_mostStillBelow_7 : decode cX3_mostStillBelow 7 = .ok (.lshr, 1) := by decide +kernel
theorem dX3_mostStillBelow_8 : decode cX3_mostStillBelow 8 = .ok (.l2i, 1) := by decide +kernel
theorem dX3_mostStillBelow_9 : decode cX3_mostStillBelow 9 = .ok (.ireturn, 1) := by decide +kernel
theorem dX3_leastToPass_0 : decode cX3_leastToPass 0 = .ok (.lload_n 1, 1) := by decide +kernel
theorem dX3_leastToPass_1 : decode cX3_leastToPass 1 = .ok (.lload_n 3, 1) := by decide +kernel
theorem dX3_leastToPass_2 : decode cX3_leastToPass 2 = .ok (.lsub, 1) := by decide +kernel
theorem dX3_leastToPass_3 : decode cX3_leastToPass 3 = .ok (.bipush 20, 2) := by decide +kernel
theorem dX3_leastToPass_5 : decode cX3_leastToPass 5 = .ok (.lshr, 1) := by decide +kernel
theorem dX3_leastToPass_6 : decode cX3_leastToPass 6 = .ok (.l2i, 1) := by decide +kernel
theorem dX3_leastToPass_7 : decode cX3_leastToPass 7 = .ok (.iconst 1, 1) := by decide +kernel
theorem dX3_leastToPass_8 : decode cX3_leastToPass 8 = .ok (.iadd, 1) := by decide +kernel
theorem dX3_leastToPass_9 : decode cX3_leastToPass 9 = .ok (.ireturn, 1) := by decide +kernel
set_option maxRecDepth 20000 in
theorem ggX4_init_X0_init : GoodIn wsX4_init wsX0_init := goodIn_r _ [26, 27, 2, 3, 14, 28, 29, 30, 31, 32, 33, 34, 35, 36, 37, 38, 39, 40, 41, 42, 43, 44, 69, 70, 71, 72, 73, 74, 75, 76, 77, 78, 79, 80, 81, 82, 83, 84, 85] (by decide +kernel) (by decide +kernel)
set_option maxRecDepth 20000 in
theorem gX4_init_X0_init : GoodIn wsX4_init (wsX0_init) := ggX4_init_X0_init
set_option maxRecDepth 20000 in
theorem ggX4_init_X1_init : GoodIn wsX4_init wsX1_init := goodIn_r _ [47, 48, 2, 3, 14, 49, 50, 51, 52, 42, 43, 44, 94, 95, 96] (by decide +kernel) (by decide +kernel)
set_option maxRecDepth 20000 in
theorem gX4_init_X1_init : GoodIn wsX4_init (wsX1_init) := ggX4_init_X1_init
set_option maxRecDepth 20000 in
theorem ggX4_init_X2_init : GoodIn wsX4_init wsX2_init := goodIn_r _ [55, 56, 2, 3, 57, 14, 58, 59, 60, 61, 62, 97, 98, 99, 100, 101, 102] (by decide +kernel) (by decide +kernel)
set_option maxRecDepth 20000 in
theorem gX4_init_X2_init : GoodIn wsX4_init (wsX2_init) := ggX4_init_X2_init
set_option maxRecDepth 20000 in
theorem ggX4_init_X3_init : GoodIn wsX4_init wsX3_init := goodIn_r _ [65, 66, 2, 3, 67, 14, 68, 103, 104, 105, 106, 107, 108, 109, 110] (by decide +kernel) (by decide +kernel)
set_option maxRecDepth 20000 in
theorem gX4_init_X3_init : GoodIn wsX4_init (wsX3_init) := ggX4_init_X3_init
theorem dX4_init_0 : decode cX4_init 0 = .ok (.aload_n 0, 1) := by decide +kernel
theorem dX4_init_1 : decode cX4_init 1 = .ok (.invokespecial 3, 3) := by decide +kernel
theorem dX4_init_4 : decode cX4_init 4 = .ok (.aload_n 0, 1) := by decide +kernel
theorem dX4_init_5 : decode cX4_init 5 = .ok (.new 9, 3) := by decide +kernel
theorem dX4_init_8 : decode cX4_init 8 = .ok (.dup, 1) := by decide +kernel
theorem dX4_init_9 : decode cX4_init 9 = .ok (.invokespecial 11, 3) := by decide +kernel
theorem dX4_init_12 : decode cX4_init 12 = .ok (.putfield 12, 3) := by decide +kernel
theorem dX4_init_15 : decode cX4_init 15 = .ok (.aload_n 0, 1) := by decide +kernel
theorem dX4_init_16 : decode cX4_init 16 = .ok (.iconst 2, 1) := by decide +kernel
theorem dX4_init_17 : decode cX4_init 17 = .ok (.anewarray 9, 3) := by decide +kernel
theorem dX4_init_20 : decode cX4_init 20 = .ok (.putfield 18, 3) := by decide +kernel
theorem dX4_init_23 : decode cX4_init 23 = .ok (.aload_n 0, 1) := by decide +kernel
theorem dX4_init_24 : decode cX4_init 24 = .ok (.new 22, 3) := by decide +kernel
theorem dX4_init_27 : decode cX4_init 27 = .ok (.dup, 1) := by decide +kernel
theorem dX4_init_28 : decode cX4_init 28 = .ok (.invokespecial 24, 3) := by decide +kernel
theorem dX4_init_31 : decode cX4_init 31 = .ok (.putfield 25, 3) := by decide +kernel
theorem dX4_init_34 : decode cX4_init 34 = .ok (.aload_n 0, 1) := by decide +kernel
theorem dX4_init_35 : decode cX4_init 35 = .ok (.iconst 2, 1) := by decide +kernel
theorem dX4_init_36 : decode cX4_init 36 = .ok (.anewarray 22, 3) := by decide +kernel
theorem dX4_init_39 : decode cX4_init 39 = .ok (.putfield 29, 3) := by decide +kernel
theorem dX4_init_42 : decode cX4_init 42 = .ok (.aload_n 0, 1) := by decide +kernel
theorem dX4_init_43 : decode cX4_init 43 = .ok (.iconst 5, 1) := by decide +kernel
theorem dX4_init_44 : decode cX4_init 44 = .ok (.newarray .int, 2) := by decide +kernel
theorem dX4_init_46 : decode cX4_init 46 = .ok (.putfield 33, 3) := by decide +kernel
theorem dX4_init_49 : decode cX4_init 49 = .ok (.aload_n 0, 1) := by decide +kernel
theorem dX4_init_50 : decode cX4_init 50 = .ok (.new 37, 3) := by decide +kernel
theorem dX4_init_53 : decode cX4_init 53 = .ok (.dup, 1) := by decide +kernel
theorem dX4_init_54 : decode cX4_init 54 = .ok (.aload_n 0, 1) := by decide +kernel
theorem dX4_init_55 : decode cX4_init 55 = .ok (.getfield 12, 3) := by decide +kernel
theorem dX4_init_58 : decode cX4_init 58 = .ok (.invokespecial 39, 3) := by decide +kernel
theorem dX4_init_61 : decode cX4_init 61 = .ok (.putfield 42, 3) := by decide +kernel
theorem dX4_init_64 : decode cX4_init 64 = .ok (.aload_n 0, 1) := by decide +kernel
theorem dX4_init_65 : decode cX4_init 65 = .ok (.new 46, 3) := by decide +kernel
theorem dX4_init_68 : decode cX4_init 68 = .ok (.dup, 1) := by decide +kernel
theorem dX4_init_69 : decode cX4_init 69 = .ok (.aload_n 0, 1) := by decide +kernel
theorem dX4_init_70 : decode cX4_init 70 = .ok (.getfield 25, 3) := by decide +kernel
theorem dX4_init_73 : decode cX4_init 73 = .ok (.invokespecial 48, 3) := by decide +kernel
theorem dX4_init_76 : decode cX4_init 76 = .ok (.putfield 51, 3) := by decide +kernel
theorem dX4_init_79 : decode cX4_init 79 = .ok (.return_, 1) := by decide +kernel
set_option maxRecDepth 20000 in
theorem ggX4_enter_X4_isDesk : GoodIn wsX4_enter wsX4_isDesk := goodIn_r _ [6] (by decide +kernel) (by decide +kernel)
set_option maxRecDepth 20000 in
theorem gX4_enter_X4_isDesk : GoodIn wsX4_enter (va_wsS RX4 55 yX4_isDesk wsX4_isDesk) := goodIn_app (goodIn_of _ (by decide +kernel)) ggX4_enter_X4_isDesk
set_option maxRecDepth 20000 in
theorem ggX4_enter_X4_isKey : GoodIn wsX4_enter wsX4_isKey := goodIn_r _ [9, 10, 11] (by decide +kernel) (by decide +kernel)
set_option maxRecDepth 20000 in
theorem gX4_enter_X4_isKey : GoodIn wsX4_enter (va_wsS RX4 59 yX4_isKey wsX4_isKey) := goodIn_app (goodIn_of _ (by decide +kernel)) ggX4_enter_X4_isKey
set_option maxRecDepth 20000 in
theorem ggX4_enter_X4_isTag : GoodIn wsX4_enter wsX4_isTag := goodIn_r _ [14] (by decide +kernel) (by decide +kernel)
set_option maxRecDepth 20000 in
theorem gX4_enter_X4_isTag : GoodIn wsX4_enter (va_wsS RX4 62 yX4_isTag wsX4_isTag) := goodIn_app (goodIn_of _ (by decide +kernel)) ggX4_enter_X4_isTag
set_option maxRecDepth 20000 in
theorem ggX4_enter_X4_refuse : GoodIn wsX4_enter wsX4_refuse := goodIn_r _ [18, 19, 65, 66, 67, 68, 69, 70, 71, 72] (by decide +kernel) (by decide +kernel)
set_option maxRecDepth 20000 in
theorem gX4_enter_X4_refuse : GoodIn wsX4_enter (wsV RX4 65 RX4 yX4_refuse wsX4_refuse) := goodIn_app (goodIn_of _ (by decide +kernel)) ggX4_enter_X4_refuse
set_option maxRecDepth 20000 in
theorem ggX4_enter_X0_newItem : GoodIn wsX4_enter wsX0_newItem := goodIn_r _ [24, 25, 26, 27, 28, 29, 73, 74, 75, 76, 77, 78, 79, 80, 81, 82, 83, 84, 85, 86, 87, 88, 89] (by decide +kernel) (by decide +kernel)
set_option maxRecDepth 20000 in
theorem gX4_enter_X0_newItem : GoodIn wsX4_enter (wsV RX4 73 RX0 yX0_newItem wsX0_newItem) := goodIn_app (goodIn_of _ (by decide +kernel)) ggX4_enter_X0_newItem
set_option maxRecDepth 20000 in
theorem ggX4_enter_X0_place : GoodIn wsX4_enter wsX0_place := goodIn_r _ [33, 34, 35, 36, 37, 29, 38, 39, 40, 41, 23, 42, 43, 44, 45, 46, 47, 26, 48, 49, 50, 51, 52, 53, 54, 55, 73, 74, 75, 76, 77, 78, 79, 80, 81, 82, 83, 84, 85, 86, 87, 88, 89] (by decide +kernel) (by decide +kernel)
set_option maxRecDepth 20000 in
theorem gX4_enter_X0_place : GoodIn wsX4_enter (wsV RX4 77 RX0 yX0_place wsX0_place) := goodIn_app (goodIn_of _ (by decide +kernel)) ggX4_enter_X0_place
set_option maxRecDepth 20000 in
theorem ggX4_enter_X0_sweep : GoodIn wsX4_enter wsX0_sweep := goodIn_r _ [59, 38, 28, 60, 61, 62, 63, 23, 64, 34, 35, 29, 39, 40, 41, 42, 36, 43, 44, 45, 46, 47, 26, 48, 49, 50, 51, 37, 52, 53, 54, 55, 73, 74, 75, 76, 77, 78, 79, 80, 81, 82, 83, 84, 85, 86, 87, 88, 89] (by decide +kernel) (by decide +kernel)
set_option maxRecDepth 20000 in
theorem gX4_enter_X0_sweep : GoodIn wsX4_enter (wsV RX4 81 RX0 yX0_sweep wsX0_sweep) := goodIn_app (goodIn_of _ (by decide +kernel)) ggX4_enter_X0_sweep
theorem dX4_enter_0 : decode cX4_enter 0 = .ok (.iload_n 1, 1) := by decide +kernel
theorem dX4_enter_1 : decode cX4_enter 1 = .ok (.invokestatic 55, 3) := by decide +kernel
theorem dX4_enter_4 : decode cX4_enter 4 = .ok (.ifCond .eq 17, 3) := by decide +kernel
theorem dX4_enter_7 : decode cX4_enter 7 = .ok (.iload_n 2, 1) := by decide +kernel
theorem dX4_enter_8 : decode cX4_enter 8 = .ok (.invokestatic 59, 3) := by decide +kernel
theorem dX4_enter_11 : decode cX4_enter 11 = .ok (.ifCond .eq 10, 3) := by decide +kernel
theorem dX4_enter_14 : decode cX4_enter 14 = .ok (.iload_n 3, 1) := by decide +kernel
theorem dX4_enter_15 : decode cX4_enter 15 = .ok (.invokestatic 62, 3) := by decide +kernel
theorem dX4_enter_18 : decode cX4_enter 18 = .ok (.ifCond .ne 9, 3) := by decide +kernel
theorem dX4_enter_21 : decode cX4_enter 21 = .ok (.aload_n 0, 1) := by decide +kernel
theorem dX4_enter_22 : decode cX4_enter 22 = .ok (.iconst (-1), 1) := by decide +kernel
theorem dX4_enter_23 : decode cX4_enter 23 = .ok (.invokevirtual 65, 3) := by decide +kernel
theorem dX4_enter_26 : decode cX4_enter 26 = .ok (.ireturn, 1) := by decide +kernel
theorem dX4_enter_27 : decode cX4_enter 27 = .ok (.aload_n 0, 1) := by decide +kernel
theorem dX4_enter_28 : decode cX4_enter 28 = .ok (.getfield 12, 3) := by decide +kernel
theorem dX4_enter_31 : decode cX4_enter 31 = .ok (.getfield 69, 3) := by decide +kernel
theorem dX4_enter_34 : decode cX4_enter 34 = .ok (.sipush 300, 3) := by decide +kernel
theorem dX4_enter_37 : decode cX4_enter 37 = .ok (.if_icmp .lt 10, 3) := by decide +kernel
theorem dX4_enter_40 : decode cX4_enter 40 = .ok (.aload_n 0, 1) := by decide +kernel
theorem dX4_enter_41 : decode cX4_enter 41 = .ok (.bipush (-5), 2) := by decide +kernel
theorem dX4_enter_43 : decode cX4_enter 43 = .ok (.invokevirtual 65, 3) := by decide +kernel
theorem dX4_enter_46 : decode cX4_enter 46 = .ok (.ireturn, 1) := by decide +kernel
theorem dX4_enter_47 : decode cX4_enter 47 = .ok (.aload_n 0, 1) := by decide +kernel
theorem dX4_enter_48 : decode cX4_enter 48 = .ok (.getfield 12, 3) := by decide +kernel
theorem dX4_enter_51 : decode cX4_enter 51 = .ok (.iload_n 2, 1) := by decide +kernel
theorem dX4_enter_52 : decode cX4_enter 52 = .ok (.iload_n 3, 1) := by decide +kernel
theorem dX4_enter_53 : decode cX4_enter 53 = .ok (.invokevirtual 73, 3) := by decide +kernel
theorem dX4_enter_56 : decode cX4_enter 56 = .ok (.istore 4, 2) := by decide +kernel
theorem dX4_enter_58 : decode cX4_enter 58 = .ok (.aload_n 0, 1) := by decide +kernel
theorem dX4_enter_59 : decode cX4_enter 59 = .ok (.getfield 12, 3) := by decide +kernel
theorem dX4_enter_62 : decode cX4_enter 62 = .ok (.iload 4, 2) := by decide +kernel
theorem dX4_enter_64 : decode cX4_enter 64 = .ok (.iload_n 1, 1) := by decide +kernel
theorem dX4_enter_65 : decode cX4_enter 65 = .ok (.invokevirtual 77, 3) := by decide +kernel
theorem dX4_enter_68 : decode cX4_enter 68 = .ok (.aload_n 0, 1) := by decide +kernel
theorem dX4_enter_69 : decode cX4_enter 69 = .ok (.getfield 12, 3) := by decide +kernel
theorem dX4_enter_72 : decode cX4_enter 72 = .ok (.invokevirtual 81, 3) := by decide +kernel
theorem dX4_enter_75 : decode cX4_enter 75 = .ok (.iload 4, 2) := by decide +kernel
theorem dX4_enter_77 : decode cX4_enter 77 = .ok (.ireturn, 1) := by decide +kernel
set_option maxRecDepth 20000 in
theorem ggX4_take_X4_isDesk : GoodIn wsX4_take wsX4_isDesk := goodIn_r _ [6] (by decide +kernel) (by decide +kernel)
set_option maxRecDepth 20000 in
theorem gX4_take_X4_isDesk : GoodIn wsX4_take (va_wsS RX4 55 yX4_isDesk wsX4_isDesk) := goodIn_app (goodIn_of _ (by decide +kernel)) ggX4_take_X4_isDesk
set_option maxRecDepth 20000 in
theorem ggX4_take_X4_refuse : GoodIn wsX4_take wsX4_refuse := goodIn_r _ [10, 11, 55, 56, 57, 58, 59, 60, 61, 62] (by decide +kernel) (by decide +kernel)
set_option maxRecDepth 20000 in
theorem gX4_take_X4_refuse : GoodIn wsX4_take (wsV RX4 65 RX4 yX4_refuse wsX4_refuse) := goodIn_app (goodIn_of _ (by decide +kernel)) ggX4_take_X4_refuse
set_option maxRecDepth 20000 in
theorem ggX4_take_X0_dispatch : GoodIn wsX4_take wsX0_dispatch := goodIn_r _ [16, 17, 18, 19, 20, 21, 22, 23, 24, 15, 25, 26, 27, 28, 29, 30, 31, 32, 33, 34, 35, 36, 37, 38, 39, 40, 41, 42, 43, 44, 45, 46, 47, 48, 49, 50, 51, 52, 53, 54, 63, 64, 65, 66, 67, 68, 69, 70, 71, 72, 73, 74, 75, 76, 77, 78, 79] (by decide +kernel) (by decide +kernel)
set_option maxRecDepth 20000 in
theorem gX4_take_X0_dispatch : GoodIn wsX4_take (wsV RX4 87 RX0 yX0_dispatch wsX0_dispatch) := goodIn_app (goodIn_of _ (by decide +kernel)) ggX4_take_X0_dispatch
theorem dX4_take_0 : decode cX4_take 0 = .ok (.iload_n 1, 1) := by decide +kernel
theorem dX4_take_1 : decode cX4_take 1 = .ok (.invokestatic 55, 3) := by decide +kernel
theorem dX4_take_4 : decode cX4_take 4 = .ok (.ifCond .ne 9, 3) := by decide +kernel
theorem dX4_take_7 : decode cX4_take 7 = .ok (.aload_n 0, 1) := by decide +kernel
theorem dX4_take_8 : decode cX4_take 8 = .ok (.iconst (-1), 1) := by decide +kernel
theorem dX4_take_9 : decode cX4_take 9 = .ok (.invokevirtual 65, 3) := by decide +kernel
theorem dX4_take_12 : decode cX4_take 12 = .ok (.ireturn, 1) := by decide +kernel
theorem dX4_take_13 : decode cX4_take 13 = .ok (.aload_n 0, 1) := by decide +kernel
theorem dX4_take_14 : decode cX4_take 14 = .ok (.getfield 12, 3) := by decide +kernel
theorem dX4_take_17 : decode cX4_take 17 = .ok (.getfield 84, 3) := by decide +kernel
theorem dX4_take_20 : decode cX4_take 20 = .ok (.iload_n 1, 1) := by decide +kernel
theorem dX4_take_21 : decode cX4_take 21 = .ok (.iaload, 1) := by decide +kernel
theorem dX4_take_22 : decode cX4_take 22 = .ok (.iconst (-1), 1) := by decide +kernel
theorem dX4_take_23 : decode cX4_take 23 = .ok (.if_icmp .ne 10, 3) := by decide +kernel
theorem dX4_take_26 : decode cX4_take 26 = .ok (.aload_n 0, 1) := by decide +kernel
theorem dX4_take_27 : decode cX4_take 27 = .ok (.bipush (-3), 2) := by decide +kernel
theorem dX4_take_29 : decode cX4_take 29 = .ok (.invokevirtual 65, 3) := by decide +kernel
theorem dX4_take_32 : decode cX4_take 32 = .ok (.ireturn, 1) := by decide +kernel
theorem dX4_take_33 : decode cX4_take 33 = .ok (.aload_n 0, 1) := by decide +kernel
theorem dX4_take_34 : decode cX4_take 34 = .ok (.getfield 12, 3) := by decide +kernel
theorem dX4_take_37 : decode cX4_take 37 = .ok (.iload_n 1, 1) := by decide +kernel
theorem dX4_take_38 : decode cX4_take 38 = .ok (.invokevirtual 87, 3) := by decide +kernel
theorem dX4_take_41 : decode cX4_take 41 = .ok (.ireturn, 1) := by decide +kernel
set_option maxRecDepth 20000 in
theorem ggX4_round_X4_refuse : GoodIn wsX4_round wsX4_refuse := goodIn_r _ [6, 7, 56, 57, 58, 59, 60, 61, 62, 63] (by decide +kernel) (by decide +kernel)
set_option maxRecDepth 20000 in
theorem gX4_round_X4_refuse : GoodIn wsX4_round (wsV RX4 65 RX4 yX4_refuse wsX4_refuse) := goodIn_app (goodIn_of _ (by decide +kernel)) ggX4_round_X4_refuse
set_option maxRecDepth 20000 in
theorem ggX4_round_X0_callNext : GoodIn wsX4_round wsX0_callNext := goodIn_r _ [12, 13, 14, 15, 16, 11, 17, 18, 19, 20, 21, 22, 23, 24, 25, 26, 27, 28, 29, 30, 31, 32, 33, 34, 35, 36, 37, 38, 39, 40, 41, 42, 43, 44, 45, 46, 47, 48, 49, 50, 51, 52, 53, 54, 55, 64, 65, 66, 67, 68, 69, 70, 71, 72, 73, 74, 75, 76, 77, 78, 79, 80] (by decide +kernel) (by decide +kernel)
set_option maxRecDepth 20000 in
theorem gX4_round_X0_callNext : GoodIn wsX4_round (wsV RX4 90 RX0 yX0_callNext wsX0_callNext) := goodIn_app (goodIn_of _ (by decide +kernel)) ggX4_round_X0_callNext
theorem dX4_round_0 : decode cX4_round 0 = .ok (.iload_n 1, 1) := by decide +kernel
theorem dX4_round_1 : decode cX4_round 1 = .ok (.iconst 1, 1) := by decide +kernel
theorem dX4_round_2 : decode cX4_round 2 = .ok (.if_icmp .lt 9, 3) := by decide +kernel
theorem dX4_round_5 : decode cX4_round 5 = .ok (.iload_n 1, 1) := by decide +kernel
theorem dX4_round_6 : decode cX4_round 6 = .ok (.bipush 30, 2) := by decide +kernel
theorem dX4_round_8 : decode cX4_round 8 = .ok (.if_icmp .le 9, 3) := by decide +kernel
theorem dX4_round_11 : decode cX4_round 11 = .ok (.aload_n 0, 1) := by decide +kernel
theorem dX4_round_12 : decode cX4_round 12 = .ok (.iconst (-1), 1) := by decide +kernel
theorem dX4_round_13 : decode cX4_round 13 = .ok (.invokevirtual 65, 3) := by decide +kernel
theorem dX4_round_16 : decode cX4_round 16 = .ok (.ireturn, 1) := by decide +kernel
theorem dX4_round_17 : decode cX4_round 17 = .ok (.iconst 0, 1) := by decide +kernel
theorem dX4_round_18 : decode cX4_round 18 = .ok (.istore_n 2, 1) := by decide +kernel
theorem dX4_round_19 : decode cX4_round 19 = .ok (.iconst 0, 1) := by decide +kernel
theorem dX4_round_20 : decode cX4_round 20 = .ok (.istore_n 3, 1) := by decide +kernel
theorem dX4_round_21 : decode cX4_round 21 = .ok (.iload_n 3, 1) := by decide +kernel
theorem dX4_round_22 : decode cX4_round 22 = .ok (.iload_n 1, 1) := by decide +kernel
theorem dX4_round_23 : decode cX4_round 23 = .ok (.if_icmp .ge 23, 3) := by decide +kernel
theorem dX4_round_26 : decode cX4_round 26 = .ok (.aload_n 0, 1) := by decide +kernel
theorem dX4_round_27 : decode cX4_round 27 = .ok (.getfield 12, 3) := by decide +kernel
theorem dX4_round_30 : decode cX4_round 30 = .ok (.invokevirtual 90, 3) := by decide +kernel
theorem dX4_round_33 : decode cX4_round 33 = .ok (.iconst (-1), 1) := by decide +kernel
theorem dX4_round_34 : decode cX4_round 34 = .ok (.if_icmp .eq 6, 3) := by decide +kernel
theorem dX4_round_37 : decode cX4_round 37 = .ok (.iinc 2 1, 3) := by decide +kernel
theorem dX4_round_40 : decode cX4_round 40 = .ok (.iinc 3 1, 3) := by decide +kernel
theorem dX4_round_43 : decode cX4_round 43 = .ok (.goto (-22), 3) := by decide +kernel
theorem dX4_round_46 : decode cX4_round 46 = .ok (.iload_n 2, 1) := by decide +kernel
theorem dX4_round_47 : decode cX4_round 47 = .ok (.ireturn, 1) := by decide +kernel
set_option maxRecDepth 20000 in
theorem ggX4_cross_X4_setCrossed : GoodIn wsX4_cross wsX4_setCrossed := goodIn_r _ [5, 6, 7, 8, 9, 10, 11, 12, 13, 14, 15, 16, 17, 18, 4, 19, 20, 21, 22, 23, 24, 25, 26, 27, 28, 29, 30, 31, 32, 33, 34, 35, 36, 37, 38, 39, 40, 41, 42, 43, 44, 45, 46, 47, 48, 49, 50, 51, 52, 53, 54, 55, 56, 57, 58, 59, 60, 61, 62, 63, 64, 65, 66, 67, 68, 69, 70, 71, 72, 73, 74, 75, 76, 77, 78, 79, 80, 81, 82, 83, 84, 85, 86] (by decide +kernel) (by decide +kernel)
set_option maxRecDepth 20000 in
theorem gX4_cross_X4_setCrossed : GoodIn wsX4_cross (wsV RX4 94 RX4 yX4_setCrossed wsX4_setCrossed) := goodIn_app (goodIn_of _ (by decide +kernel)) ggX4_cross_X4_setCrossed
theorem dX4_cross_0 : decode cX4_cross 0 = .ok (.aload_n 0, 1) := by decide +kernel
theorem dX4_cross_1 : decode cX4_cross 1 = .ok (.iload_n 1, 1) := by decide +kernel
theorem dX4_cross_2 : decode cX4_cross 2 = .ok (.iconst 1, 1) := by decide +kernel
theorem dX4_cross_3 : decode cX4_cross 3 = .ok (.invokevirtual 94, 3) := by decide +kernel
theorem dX4_cross_6 : decode cX4_cross 6 = .ok (.ireturn, 1) := by decide +kernel
set_option maxRecDepth 20000 in
theorem ggX4_uncross_X4_setCrossed : GoodIn wsX4_uncross wsX4_setCrossed := goodIn_r _ [5, 6, 7, 8, 9, 10, 11, 12, 13, 14, 15, 16, 17, 18, 4, 19, 20, 21, 22, 23, 24, 25, 26, 27, 28, 29, 30, 31, 32, 33, 34, 35, 36, 37, 38, 39, 40, 41, 42, 43, 44, 45, 46, 47, 48, 49, 50, 51, 52, 53, 54, 55, 56, 57, 58, 59, 60, 61, 62, 63, 64, 65, 66, 67, 68, 69, 70, 71, 72, 73, 74, 75, 76, 77, 78, 79, 80, 81, 82, 83, 84, 85, 86] (by decide +kernel) (by decide +kernel)
set_option maxRecDepth 20000 in
theorem gX4_uncross_X4_setCrossed : GoodIn wsX4_uncross (wsV RX4 94 RX4 yX4_setCrossed wsX4_setCrossed) := goodIn_app (goodIn_of _ (by decide +kernel)) ggX4_uncross_X4_setCrossed
theorem dX4_uncross_0 : decode cX4_uncross 0 = .ok (.aload_n 0, 1) := by decide +kernel
theorem dX4_uncross_1 : decode cX4_uncross 1 = .ok (.iload_n 1, 1) := by decide +kernel
theorem dX4_uncross_2 : decode cX4_uncross 2 = .ok (.iconst 0, 1) := by decide +kernel
theorem dX4_uncross_3 : decode cX4_uncross 3 = .ok (.invokevirtual 94, 3) := by decide +kernel
theorem dX4_uncross_6 : decode cX4_uncross 6 = .ok (.ireturn, 1) := by decide +kernel
set_option maxRecDepth 20000 in
theorem ggX4_cut_X0_isThere : GoodIn wsX4_cut wsX0_isThere := goodIn_r _ [7, 8, 9, 65, 66, 67, 68, 69, 70, 71, 72, 73, 74, 75, 76, 77, 78, 79, 80, 81] (by decide +kernel) (by decide +kernel)
set_option maxRecDepth 20000 in
theorem gX4_cut_X0_isThere : GoodIn wsX4_cut (wsV RX4 97 RX0 yX0_isThere wsX0_isThere) := goodIn_app (goodIn_of _ (by decide +kernel)) ggX4_cut_X0_isThere
set_option maxRecDepth 20000 in
theorem ggX4_cut_X4_refuse : GoodIn wsX4_cut wsX4_refuse := goodIn_r _ [14, 15, 57, 58, 59, 60, 61, 62, 63, 64] (by decide +kernel) (by decide +kernel)
set_option maxRecDepth 20000 in
theorem gX4_cut_X4_refuse : GoodIn wsX4_cut (wsV RX4 65 RX4 yX4_refuse wsX4_refuse) := goodIn_app (goodIn_of _ (by decide +kernel)) ggX4_cut_X4_refuse
set_option maxRecDepth 20000 in
theorem ggX4_cut_X0_cutOut : GoodIn wsX4_cut wsX0_cutOut := goodIn_r _ [19, 20, 21, 22, 23, 9, 24, 25, 26, 6, 27, 28, 29, 30, 31, 32, 33, 34, 35, 36, 37, 38, 39, 40, 41, 42, 65, 66, 67, 68, 69, 70, 71, 72, 73, 74, 75, 76, 77, 78, 79, 80, 81] (by decide +kernel) (by decide +kernel)
set_option maxRecDepth 20000 in
theorem gX4_cut_X0_cutOut : GoodIn wsX4_cut (wsV RX4 103 RX0 yX0_cutOut wsX0_cutOut) := goodIn_app (goodIn_of _ (by decide +kernel)) ggX4_cut_X0_cutOut
set_option maxRecDepth 20000 in
theorem ggX4_cut_X0_sweep : GoodIn wsX4_cut wsX0_sweep := goodIn_r _ [46, 23, 47, 48, 49, 50, 51, 6, 52, 21, 22, 9, 24, 25, 26, 27, 20, 28, 29, 30, 31, 32, 33, 34, 35, 36, 37, 38, 39, 40, 41, 42, 65, 66, 67, 68, 69, 70, 71, 72, 73, 74, 75, 76, 77, 78, 79, 80, 81] (by decide +kernel) (by decide +kernel)
set_option maxRecDepth 20000 in
theorem gX4_cut_X0_sweep : GoodIn wsX4_cut (wsV RX4 81 RX0 yX0_sweep wsX0_sweep) := goodIn_app (goodIn_of _ (by decide +kernel)) ggX4_cut_X0_sweep
set_option maxRecDepth 20000 in
theorem ggX4_cut_X0_allIn : GoodIn wsX4_cut wsX0_allIn := goodIn_r _ [56, 8, 9, 65, 66, 67, 68, 69, 70, 71, 72, 73, 74, 75, 76, 77, 78, 79, 80, 81] (by decide +kernel) (by decide +kernel)
set_option maxRecDepth 20000 in
theorem gX4_cut_X0_allIn : GoodIn wsX4_cut (wsV RX4 107 RX0 yX0_allIn wsX0_allIn) := goodIn_app (goodIn_of _ (by decide +kernel)) ggX4_cut_X0_allIn
theorem dX4_cut_0 : decode cX4_cut 0 = .ok (.aload_n 0, 1) := by decide +kernel
theorem dX4_cut_1 : decode cX4_cut 1 = .ok (.getfield 12, 3) := by decide +kernel
theorem dX4_cut_4 : decode cX4_cut 4 = .ok (.iload_n 1, 1) := by decide +kernel
theorem dX4_cut_5 : decode cX4_cut 5 = .ok (.invokevirtual 97, 3) := by decide +kernel
theorem dX4_cut_8 : decode cX4_cut 8 = .ok (.ifCond .ne 10, 3) := by decide +kernel
theorem dX4_cut_11 : decode cX4_cut 11 = .ok (.aload_n 0, 1) := by decide +kernel
theorem dX4_cut_12 : decode cX4_cut 12 = .ok (.bipush (-2), 2) := by decide +kernel
theorem dX4_cut_14 : decode cX4_cut 14 = .ok (.invokevirtual 65, 3) := by decide +kernel
theorem dX4_cut_17 : decode cX4_cut 17 = .ok (.ireturn, 1) := by decide +kernel
theorem dX4_cut_18 : decode cX4_cut 18 = .ok (.aload_n 0, 1) := by decide +kernel
theorem dX4_cut_19 : decode cX4_cut 19 = .ok (.getfield 12, 3) := by decide +kernel
theorem dX4_cut_22 : decode cX4_cut 22 = .ok (.getfield 100, 3) := by decide +kernel
theorem dX4_cut_25 : decode cX4_cut 25 = .ok (.iload_n 1, 1) := by decide +kernel
theorem dX4_cut_26 : decode cX4_cut 26 = .ok (.iaload, 1) := by decide +kernel
theorem dX4_cut_27 : decode cX4_cut 27 = .ok (.istore_n 2, 1) := by decide +kernel
theorem dX4_cut_28 : decode cX4_cut 28 = .ok (.aload_n 0, 1) := by decide +kernel
theorem dX4_cut_29 : decode cX4_cut 29 = .ok (.getfield 12, 3) := by decide +kernel
theorem dX4_cut_32 : decode cX4_cut 32 = .ok (.iload_n 1, 1) := by decide +kernel
theorem dX4_cut_33 : decode cX4_cut 33 = .ok (.invokevirtual 103, 3) := by decide +kernel
theorem dX4_cut_36 : decode cX4_cut 36 = .ok (.aload_n 0, 1) := by decide +kernel
theorem dX4_cut_37 : decode cX4_cut 37 = .ok (.getfield 12, 3) := by decide +kernel
theorem dX4_cut_40 : decode cX4_cut 40 = .ok (.invokevirtual 81, 3) := by decide +kernel
theorem dX4_cut_43 : decode cX4_cut 43 = .ok (.aload_n 0, 1) := by decide +kernel
theorem dX4_cut_44 : decode cX4_cut 44 = .ok (.getfield 12, 3) := by decide +kernel
theorem dX4_cut_47 : decode cX4_cut 47 = .ok (.iload_n 2, 1) := by decide +kernel
theorem dX4_cut_48 : decode cX4_cut 48 = .ok (.invokevirtual 107, 3) := by decide +kernel
theorem dX4_cut_51 : decode cX4_cut 51 = .ok (.ireturn, 1) := by decide +kernel
set_option maxRecDepth 20000 in
theorem ggX4_rekey_X4_isKey : GoodIn wsX4_rekey wsX4_isKey := goodIn_r _ [7, 8, 9] (by decide +kernel) (by decide +kernel)
set_option maxRecDepth 20000 in
theorem gX4_rekey_X4_isKey : GoodIn wsX4_rekey (va_wsS RX4 59 yX4_isKey wsX4_isKey) := goodIn_app (goodIn_of _ (by decide +kernel)) ggX4_rekey_X4_isKey
set_option maxRecDepth 20000 in
theorem ggX4_rekey_X4_refuse : GoodIn wsX4_rekey wsX4_refuse := goodIn_r _ [13, 14, 71, 72, 73, 74, 75, 76, 77, 78] (by decide +kernel) (by decide +kernel)
set_option maxRecDepth 20000 in
theorem gX4_rekey_X4_refuse : GoodIn wsX4_rekey (wsV RX4 65 RX4 yX4_refuse wsX4_refuse) := goodIn_app (goodIn_of _ (by decide +kernel)) ggX4_rekey_X4_refuse
set_option maxRecDepth 20000 in
theorem ggX4_rekey_X0_isThere : GoodIn wsX4_rekey wsX0_isThere := goodIn_r _ [19, 20, 21, 79, 80, 81, 82, 83, 84, 85, 86, 87, 88, 89, 90, 91, 92, 93, 94, 95] (by decide +kernel) (by decide +kernel)
set_option maxRecDepth 20000 in
theorem gX4_rekey_X0_isThere : GoodIn wsX4_rekey (wsV RX4 97 RX0 yX0_isThere wsX0_isThere) := goodIn_app (goodIn_of _ (by decide +kernel)) ggX4_rekey_X0_isThere
set_option maxRecDepth 20000 in
theorem ggX4_rekey_X0_cutOut : GoodIn wsX4_rekey wsX0_cutOut := goodIn_r _ [25, 26, 27, 28, 29, 21, 30, 31, 32, 18, 33, 34, 35, 36, 37, 38, 39, 40, 41, 42, 43, 44, 45, 46, 47, 48, 79, 80, 81, 82, 83, 84, 85, 86, 87, 88, 89, 90, 91, 92, 93, 94, 95] (by decide +kernel) (by decide +kernel)
set_option maxRecDepth 20000 in
theorem gX4_rekey_X0_cutOut : GoodIn wsX4_rekey (wsV RX4 103 RX0 yX0_cutOut wsX0_cutOut) := goodIn_app (goodIn_of _ (by decide +kernel)) ggX4_rekey_X0_cutOut
set_option maxRecDepth 20000 in
theorem ggX4_rekey_X0_place : GoodIn wsX4_rekey wsX0_place := goodIn_r _ [52, 27, 28, 26, 44, 21, 29, 30, 31, 32, 18, 33, 34, 35, 36, 37, 38, 39, 40, 41, 42, 43, 45, 46, 47, 48, 79, 80, 81, 82, 83, 84, 85, 86, 87, 88, 89, 90, 91, 92, 93, 94, 95] (by decide +kernel) (by decide +kernel)
set_option maxRecDepth 20000 in
theorem gX4_rekey_X0_place : GoodIn wsX4_rekey (wsV RX4 77 RX0 yX0_place wsX0_place) := goodIn_app (goodIn_of _ (by decide +kernel)) ggX4_rekey_X0_place
set_option maxRecDepth 20000 in
theorem ggX4_rekey_X0_sweep : GoodIn wsX4_rekey wsX0_sweep := goodIn_r _ [56, 29, 57, 58, 59, 60, 61, 18, 62, 27, 28, 21, 30, 31, 32, 33, 26, 34, 35, 36, 37, 38, 39, 40, 41, 42, 43, 44, 45, 46, 47, 48, 79, 80, 81, 82, 83, 84, 85, 86, 87, 88, 89, 90, 91, 92, 93, 94, 95] (by decide +kernel) (by decide +kernel)
set_option maxRecDepth 20000 in
theorem gX4_rekey_X0_sweep : GoodIn wsX4_rekey (wsV RX4 81 RX0 yX0_sweep wsX0_sweep) := goodIn_app (goodIn_of _ (by decide +kernel)) ggX4_rekey_X0_sweep
set_option maxRecDepth 20000 in
theorem ggX4_rekey_X0_plainLess : GoodIn wsX4_rekey wsX0_plainLess := goodIn_r _ [66, 20, 67, 68, 69, 18, 70, 21, 57, 35, 36, 37, 38, 39, 79, 80, 81, 82, 83, 84, 85, 86, 87, 88, 89, 90, 91, 92, 93, 94, 95] (by decide +kernel) (by decide +kernel)
set_option maxRecDepth 20000 in
theorem gX4_rekey_X0_plainLess : GoodIn wsX4_rekey (wsV RX4 114 RX0 yX0_plainLess wsX0_plainLess) := goodIn_app (goodIn_of _ (by decide +kernel)) ggX4_rekey_X0_plainLess
theorem dX4_rekey_0 : decode cX4_rekey 0 = .ok (.iload_n 2, 1) := by decide +kernel
theorem dX4_rekey_1 : decode cX4_rekey 1 = .ok (.invokestatic 59, 3) := by decide +kernel
theorem dX4_rekey_4 : decode cX4_rekey 4 = .ok (.ifCond .ne 9, 3) := by decide +kernel
theorem dX4_rekey_7 : decode cX4_rekey 7 = .ok (.aload_n 0, 1) := by decide +kernel
theorem dX4_rekey_8 : decode cX4_rekey 8 = .ok (.iconst (-1), 1) := by decide +kernel
theorem dX4_rekey_9 : decode cX4_rekey 9 = .ok (.invokevirtual 65, 3) := by decide +kernel
theorem dX4_rekey_12 : decode cX4_rekey 12 = .ok (.ireturn, 1) := by decide +kernel
theorem dX4_rekey_13 : decode cX4_rekey 13 = .ok (.aload_n 0, 1) := by decide +kernel
theorem dX4_rekey_14 : decode cX4_rekey 14 = .ok (.getfield 12, 3) := by decide +kernel
theorem dX4_rekey_17 : decode cX4_rekey 17 = .ok (.iload_n 1, 1) := by decide +kernel
theorem dX4_rekey_18 : decode cX4_rekey 18 = .ok (.invokevirtual 97, 3) := by decide +kernel
theorem dX4_rekey_21 : decode cX4_rekey 21 = .ok (.ifCond .ne 10, 3) := by decide +kernel
theorem dX4_rekey_24 : decode cX4_rekey 24 = .ok (.aload_n 0, 1) := by decide +kernel
theorem dX4_rekey_25 : decode cX4_rekey 25 = .ok (.bipush (-2), 2) := by decide +kernel
theorem dX4_rekey_27 : decode cX4_rekey 27 = .ok (.invokevirtual 65, 3) := by decide +kernel
theorem dX4_rekey_30 : decode cX4_rekey 30 = .ok (.ireturn, 1) := by decide +kernel
theorem dX4_rekey_31 : decode cX4_rekey 31 = .ok (.aload_n 0, 1) := by decide +kernel
theorem dX4_rekey_32 : decode cX4_rekey 32 = .ok (.getfield 12, 3) := by decide +kernel
theorem dX4_rekey_35 : decode cX4_rekey 35 = .ok (.getfield 110, 3) := by decide +kernel
theorem dX4_rekey_38 : decode cX4_rekey 38 = .ok (.iload_n 1, 1) := by decide +kernel
theorem dX4_rekey_39 : decode cX4_rekey 39 = .ok (.laload, 1) := by decide +kernel
theorem dX4_rekey_40 : decode cX4_rekey 40 = .ok (.iload_n 2, 1) := by decide +kernel
theorem dX4_rekey_41 : decode cX4_rekey 41 = .ok (.i2l, 1) := by decide +kernel
theorem dX4_rekey_42 : decode cX4_rekey 42 = .ok (.lcmp, 1) := by decide +kernel
theorem dX4_rekey_43 : decode cX4_rekey 43 = .ok (.ifCond .ne 10, 3) := by decide +kernel
theorem dX4_rekey_46 : decode cX4_rekey 46 = .ok (.aload_n 0, 1) := by decide +kernel
theorem dX4_rekey_47 : decode cX4_rekey 47 = .ok (.bipush (-4), 2) := by decide +kernel
theorem dX4_rekey_49 : decode cX4_rekey 49 = .ok (.invokevirtual 65, 3) := by decide +kernel
theorem dX4_rekey_52 : decode cX4_rekey 52 = .ok (.ireturn, 1) := by decide +kernel
theorem dX4_rekey_53 : decode cX4_rekey 53 = .ok (.aload_n 0, 1) := by decide +kernel
theorem dX4_rekey_54 : decode cX4_rekey 54 = .ok (.getfield 12, 3) := by decide +kernel
theorem dX4_rekey_57 : decode cX4_rekey 57 = .ok (.getfield 100, 3) := by decide +kernel
theorem dX4_rekey_60 : decode cX4_rekey 60 = .ok (.iload_n 1, 1) := by decide +kernel
theorem dX4_rekey_61 : decode cX4_rekey 61 = .ok (.iaload, 1) := by decide +kernel
theorem dX4_rekey_62 : decode cX4_rekey 62 = .ok (.istore_n 3, 1) := by decide +kernel
theorem dX4_rekey_63 : decode cX4_rekey 63 = .ok (.aload_n 0, 1) := by decide +kernel
theorem dX4_rekey_64 : decode cX4_rekey 64 = .ok (.getfield 12, 3) := by decide +kernel
theorem dX4_rekey_67 : decode cX4_rekey 67 = .ok (.iload_n 1, 1) := by decide +kernel
theorem dX4_rekey_68 : decode cX4_rekey 68 = .ok (.invokevirtual 103, 3) := by decide +kernel
theorem dX4_rekey_71 : decode cX4_rekey 71 = .ok (.aload_n 0, 1) := by decide +kernel
theorem dX4_rekey_72 : decode cX4_rekey 72 = .ok (.getfield 12, 3) := by decide +kernel
theorem dX4_rekey_75 : decode cX4_rekey 75 = .ok (.getfield 110, 3) := by decide +kernel
theorem dX4_rekey_78 : decode cX4_rekey 78 = .ok (.iload_n 1, 1) := by decide +kernel
theorem dX4_rekey_79 : decode cX4_rekey 79 = .ok (.iload_n 2, 1) := by decide +kernel
theorem dX4_rekey_80 : decode cX4_rekey 80 = .ok (.i2l, 1) := by decide +kernel
theorem dX4_rekey_81 : decode cX4_rekey 81 = .ok (.lastore, 1) := by decide +kernel
theorem dX4_rekey_82 : decode cX4_rekey 82 = .ok (.aload_n 0, 1) := by decide +kernel
theorem dX4_rekey_83 : decode cX4_rekey 83 = .ok (.getfield 12, 3) := by decide +kernel
theorem dX4_rekey_86 : decode cX4_rekey 86 = .ok (.iload_n 1, 1) := by decide +kernel
theorem dX4_rekey_87 : decode cX4_rekey 87 = .ok (.iload_n 3, 1) := by decide +kernel
theorem dX4_rekey_88 : decode cX4_rekey 88 = .ok (.invokevirtual 77, 3) := by decide +kernel
theorem dX4_rekey_91 : decode cX4_rekey 91 = .ok (.aload_n 0, 1) := by decide +kernel
theorem dX4_rekey_92 : decode cX4_rekey 92 = .ok (.getfield 12, 3) := by decide +kernel
theorem dX4_rekey_95 : decode cX4_rekey 95 = .ok (.invokevirtual 81, 3) := by decide +kernel
theorem dX4_rekey_98 : decode cX4_rekey 98 = .ok (.aload_n 0, 1) := by decide +kernel
theorem dX4_rekey_99 : decode cX4_rekey 99 = .ok (.getfield 12, 3) := by decide +kernel
theorem dX4_rekey_102 : decode cX4_rekey 102 = .ok (.iload_n 3, 1) := by decide +kernel
theorem dX4_rekey_103 : decode cX4_rekey 103 = .ok (.iload_n 1, 1) := by decide +kernel
theorem dX4_rekey_104 : decode cX4_rekey 104 = .ok (.invokevirtual 114, 3) := by decide +kernel
theorem dX4_rekey_107 : decode cX4_rekey 107 = .ok (.ireturn, 1) := by decide +kernel
set_option maxRecDepth 20000 in
theorem ggX4_raise_X4_isDesk : GoodIn wsX4_raise wsX4_isDesk := goodIn_r _ [8] (by decide +kernel) (by decide +kernel)
set_option maxRecDepth 20000 in
theorem gX4_raise_X4_isDesk : GoodIn wsX4_raise (va_wsS RX4 55 yX4_isDesk wsX4_isDesk) := goodIn_app (goodIn_of _ (by decide +kernel)) ggX4_raise_X4_isDesk
set_option maxRecDepth 20000 in
theorem ggX4_raise_X4_refuse : GoodIn wsX4_raise wsX4_refuse := goodIn_r _ [12, 13, 58, 59, 60, 61, 62, 63, 64, 65] (by decide +kernel) (by decide +kernel)
set_option maxRecDepth 20000 in
theorem gX4_raise_X4_refuse : GoodIn wsX4_raise (wsV RX4 65 RX4 yX4_refuse wsX4_refuse) := goodIn_app (goodIn_of _ (by decide +kernel)) ggX4_raise_X4_refuse
set_option maxRecDepth 20000 in
theorem ggX4_raise_X0_raiseAll : GoodIn wsX4_raise wsX0_raiseAll := goodIn_r _ [18, 19, 20, 21, 66, 67, 68, 69, 70, 71, 72, 73, 74, 75, 76, 77, 78, 79, 80, 81, 82] (by decide +kernel) (by decide +kernel)
set_option maxRecDepth 20000 in
theorem gX4_raise_X0_raiseAll : GoodIn wsX4_raise (wsV RX4 119 RX0 yX0_raiseAll wsX0_raiseAll) := goodIn_app (goodIn_of _ (by decide +kernel)) ggX4_raise_X0_raiseAll
set_option maxRecDepth 20000 in
theorem ggX4_raise_X0_sweep : GoodIn wsX4_raise wsX0_sweep := goodIn_r _ [25, 26, 27, 28, 29, 30, 31, 17, 32, 33, 34, 20, 35, 36, 37, 38, 39, 40, 41, 42, 43, 44, 21, 45, 46, 47, 48, 49, 50, 51, 52, 53, 66, 67, 68, 69, 70, 71, 72, 73, 74, 75, 76, 77, 78, 79, 80, 81, 82] (by decide +kernel) (by decide +kernel)
set_option maxRecDepth 20000 in
theorem gX4_raise_X0_sweep : GoodIn wsX4_raise (wsV RX4 81 RX0 yX0_sweep wsX0_sweep) := goodIn_app (goodIn_of _ (by decide +kernel)) ggX4_raise_X0_sweep
set_option maxRecDepth 20000 in
theorem ggX4_raise_X0_allIn : GoodIn wsX4_raise wsX0_allIn := goodIn_r _ [57, 19, 20, 66, 67, 68, 69, 70, 71, 72, 73, 74, 75, 76, 77, 78, 79, 80, 81, 82] (by decide +kernel) (by decide +kernel)
