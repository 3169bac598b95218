theorem dX5_copy_5 : decode cX5_copy 5 = .ok (.sipush 2250, 3) := by decide +kernel
theorem dX5_copy_8 : decode cX5_copy 8 = .ok (.if_icmp .ge 30, 3) := by decide +kernel
theorem dX5_copy_11 : decode cX5_copy 11 = .ok (.aload_n 3, 1) := by decide +kernel
theorem dX5_copy_12 : decode cX5_copy 12 = .ok (.sipush 2250, 3) := by decide +kernel
theorem dX5_copy_15 : decode cX5_copy 15 = .ok (.iload 5, 2) := by decide +kernel
theorem dX5_copy_17 : decode cX5_copy 17 = .ok (.imul, 1) := by decide +kernel
theorem dX5_copy_18 : decode cX5_copy 18 = .ok (.iload 6, 2) := by decide +kernel
theorem dX5_copy_20 : decode cX5_copy 20 = .ok (.iadd, 1) := by decide +kernel
theorem dX5_copy_21 : decode cX5_copy 21 = .ok (.aload_n 0, 1) := by decide +kernel
theorem dX5_copy_22 : decode cX5_copy 22 = .ok (.sipush 2250, 3) := by decide +kernel
theorem dX5_copy_25 : decode cX5_copy 25 = .ok (.iload_n 2, 1) := by decide +kernel
theorem dX5_copy_26 : decode cX5_copy 26 = .ok (.imul, 1) := by decide +kernel
theorem dX5_copy_27 : decode cX5_copy 27 = .ok (.iload 6, 2) := by decide +kernel
theorem dX5_copy_29 : decode cX5_copy 29 = .ok (.iadd, 1) := by decide +kernel
theorem dX5_copy_30 : decode cX5_copy 30 = .ok (.iaload, 1) := by decide +kernel
theorem dX5_copy_31 : decode cX5_copy 31 = .ok (.iastore, 1) := by decide +kernel
theorem dX5_copy_32 : decode cX5_copy 32 = .ok (.iinc 6 1, 3) := by decide +kernel
theorem dX5_copy_35 : decode cX5_copy 35 = .ok (.goto (-32), 3) := by decide +kernel
theorem dX5_copy_38 : decode cX5_copy 38 = .ok (.iconst 0, 1) := by decide +kernel
theorem dX5_copy_39 : decode cX5_copy 39 = .ok (.istore 6, 2) := by decide +kernel
theorem dX5_copy_41 : decode cX5_copy 41 = .ok (.iload 6, 2) := by decide +kernel
theorem dX5_copy_43 : decode cX5_copy 43 = .ok (.sipush 340, 3) := by decide +kernel
theorem dX5_copy_46 : decode cX5_copy 46 = .ok (.if_icmp .ge 31, 3) := by decide +kernel
theorem dX5_copy_49 : decode cX5_copy 49 = .ok (.aload 4, 2) := by decide +kernel
theorem dX5_copy_51 : decode cX5_copy 51 = .ok (.sipush 340, 3) := by decide +kernel
theorem dX5_copy_54 : decode cX5_copy 54 = .ok (.iload 5, 2) := by decide +kernel
theorem dX5_copy_56 : decode cX5_copy 56 = .ok (.imul, 1) := by decide +kernel
theorem dX5_copy_57 : decode cX5_copy 57 = .ok (.iload 6, 2) := by decide +kernel
theorem dX5_copy_59 : decode cX5_copy 59 = .ok (.iadd, 1) := by decide +kernel
theorem dX5_copy_60 : decode cX5_copy 60 = .ok (.aload_n 1, 1) := by decide +kernel
theorem dX5_copy_61 : decode cX5_copy 61 = .ok (.sipush 340, 3) := by decide +kernel
theorem dX5_copy_64 : decode cX5_copy 64 = .ok (.iload_n 2, 1) := by decide +kernel
theorem dX5_copy_65 : decode cX5_copy 65 = .ok (.imul, 1) := by decide +kernel
theorem dX5_copy_66 : decode cX5_copy 66 = .ok (.iload 6, 2) := by decide +kernel
theorem dX5_copy_68 : decode cX5_copy 68 = .ok (.iadd, 1) := by decide +kernel
theorem dX5_copy_69 : decode cX5_copy 69 = .ok (.laload, 1) := by decide +kernel
theorem dX5_copy_70 : decode cX5_copy 70 = .ok (.lastore, 1) := by decide +kernel
theorem dX5_copy_71 : decode cX5_copy 71 = .ok (.iinc 6 1, 3) := by decide +kernel
theorem dX5_copy_74 : decode cX5_copy 74 = .ok (.goto (-33), 3) := by decide +kernel
theorem dX5_copy_77 : decode cX5_copy 77 = .ok (.return_, 1) := by decide +kernel
set_option maxRecDepth 20000 in
theorem ggX5_think_X5_copy : GoodIn wsX5_think wsX5_copy := goodIn_r _ [10] (by decide +kernel) (by decide +kernel)
set_option maxRecDepth 20000 in
theorem gX5_think_X5_copy : GoodIn wsX5_think (va_wsS RX5 67 yX5_copy wsX5_copy) := goodIn_app (goodIn_of _ (by decide +kernel)) ggX5_think_X5_copy
theorem dX5_think_0 : decode cX5_think 0 = .ok (.aload_n 0, 1) := by decide +kernel
theorem dX5_think_1 : decode cX5_think 1 = .ok (.getfield 13, 3) := by decide +kernel
theorem dX5_think_4 : decode cX5_think 4 = .ok (.aload_n 0, 1) := by decide +kernel
theorem dX5_think_5 : decode cX5_think 5 = .ok (.getfield 16, 3) := by decide +kernel
theorem dX5_think_8 : decode cX5_think 8 = .ok (.iconst 0, 1) := by decide +kernel
theorem dX5_think_9 : decode cX5_think 9 = .ok (.aload_n 0, 1) := by decide +kernel
theorem dX5_think_10 : decode cX5_think 10 = .ok (.getfield 30, 3) := by decide +kernel
theorem dX5_think_13 : decode cX5_think 13 = .ok (.aload_n 0, 1) := by decide +kernel
theorem dX5_think_14 : decode cX5_think 14 = .ok (.getfield 33, 3) := by decide +kernel
theorem dX5_think_17 : decode cX5_think 17 = .ok (.iconst 0, 1) := by decide +kernel
theorem dX5_think_18 : decode cX5_think 18 = .ok (.invokestatic 67, 3) := by decide +kernel
theorem dX5_think_21 : decode cX5_think 21 = .ok (.aload_n 0, 1) := by decide +kernel
theorem dX5_think_22 : decode cX5_think 22 = .ok (.aload_n 0, 1) := by decide +kernel
theorem dX5_think_23 : decode cX5_think 23 = .ok (.getfield 71, 3) := by decide +kernel
theorem dX5_think_26 : decode cX5_think 26 = .ok (.putfield 74, 3) := by decide +kernel
theorem dX5_think_29 : decode cX5_think 29 = .ok (.return_, 1) := by decide +kernel
set_option maxRecDepth 20000 in
theorem ggX5_endThought_X5_copy : GoodIn wsX5_endThought wsX5_copy := goodIn_r _ [10] (by decide +kernel) (by decide +kernel)
set_option maxRecDepth 20000 in
theorem gX5_endThought_X5_copy : GoodIn wsX5_endThought (va_wsS RX5 67 yX5_copy wsX5_copy) := goodIn_app (goodIn_of _ (by decide +kernel)) ggX5_endThought_X5_copy
theorem dX5_endThought_0 : decode cX5_endThought 0 = .ok (.aload_n 0, 1) := by decide +kernel
theorem dX5_endThought_1 : decode cX5_endThought 1 = .ok (.getfield 30, 3) := by decide +kernel
theorem dX5_endThought_4 : decode cX5_endThought 4 = .ok (.aload_n 0, 1) := by decide +kernel
theorem dX5_endThought_5 : decode cX5_endThought 5 = .ok (.getfield 33, 3) := by decide +kernel
theorem dX5_endThought_8 : decode cX5_endThought 8 = .ok (.iconst 0, 1) := by decide +kernel
theorem dX5_endThought_9 : decode cX5_endThought 9 = .ok (.aload_n 0, 1) := by decide +kernel
theorem dX5_endThought_10 : decode cX5_endThought 10 = .ok (.getfield 13, 3) := by decide +kernel
theorem dX5_endThought_13 : decode cX5_endThought 13 = .ok (.aload_n 0, 1) := by decide +kernel
theorem dX5_endThought_14 : decode cX5_endThought 14 = .ok (.getfield 16, 3) := by decide +kernel
theorem dX5_endThought_17 : decode cX5_endThought 17 = .ok (.iconst 0, 1) := by decide +kernel
theorem dX5_endThought_18 : decode cX5_endThought 18 = .ok (.invokestatic 67, 3) := by decide +kernel
theorem dX5_endThought_21 : decode cX5_endThought 21 = .ok (.aload_n 0, 1) := by decide +kernel
theorem dX5_endThought_22 : decode cX5_endThought 22 = .ok (.aload_n 0, 1) := by decide +kernel
theorem dX5_endThought_23 : decode cX5_endThought 23 = .ok (.getfield 74, 3) := by decide +kernel
theorem dX5_endThought_26 : decode cX5_endThought 26 = .ok (.putfield 71, 3) := by decide +kernel
theorem dX5_endThought_29 : decode cX5_endThought 29 = .ok (.return_, 1) := by decide +kernel
set_option maxRecDepth 20000 in
theorem ggX5_keep_X5_in : GoodIn wsX5_keep wsX5_in := goodIn_r _ [10] (by decide +kernel) (by decide +kernel)
set_option maxRecDepth 20000 in
theorem gX5_keep_X5_in : GoodIn wsX5_keep (va_wsS RX5 77 yX5_in wsX5_in) := goodIn_app (goodIn_of _ (by decide +kernel)) ggX5_keep_X5_in
set_option maxRecDepth 20000 in
theorem ggX5_keep_X5_copy : GoodIn wsX5_keep wsX5_copy := goodIn_r _ [13] (by decide +kernel) (by decide +kernel)
set_option maxRecDepth 20000 in
theorem gX5_keep_X5_copy : GoodIn wsX5_keep (va_wsS RX5 67 yX5_copy wsX5_copy) := goodIn_app (goodIn_of _ (by decide +kernel)) ggX5_keep_X5_copy
theorem dX5_keep_0 : decode cX5_keep 0 = .ok (.aload_n 0, 1) := by decide +kernel
theorem dX5_keep_1 : decode cX5_keep 1 = .ok (.iconst 0, 1) := by decide +kernel
theorem dX5_keep_2 : decode cX5_keep 2 = .ok (.putfield 63, 3) := by decide +kernel
theorem dX5_keep_5 : decode cX5_keep 5 = .ok (.iload_n 1, 1) := by decide +kernel
theorem dX5_keep_6 : decode cX5_keep 6 = .ok (.i2l, 1) := by decide +kernel
theorem dX5_keep_7 : decode cX5_keep 7 = .ok (.lconst 0, 1) := by decide +kernel
theorem dX5_keep_8 : decode cX5_keep 8 = .ok (.lconst 1, 1) := by decide +kernel
theorem dX5_keep_9 : decode cX5_keep 9 = .ok (.invokestatic 77, 3) := by decide +kernel
theorem dX5_keep_12 : decode cX5_keep 12 = .ok (.ifCond .ne 5, 3) := by decide +kernel
theorem dX5_keep_15 : decode cX5_keep 15 = .ok (.iconst 0, 1) := by decide +kernel
theorem dX5_keep_16 : decode cX5_keep 16 = .ok (.ireturn, 1) := by decide +kernel
theorem dX5_keep_17 : decode cX5_keep 17 = .ok (.aload_n 0, 1) := by decide +kernel
theorem dX5_keep_18 : decode cX5_keep 18 = .ok (.getfield 13, 3) := by decide +kernel
theorem dX5_keep_21 : decode cX5_keep 21 = .ok (.aload_n 0, 1) := by decide +kernel
theorem dX5_keep_22 : decode cX5_keep 22 = .ok (.getfield 16, 3) := by decide +kernel
theorem dX5_keep_25 : decode cX5_keep 25 = .ok (.iconst 0, 1) := by decide +kernel
theorem dX5_keep_26 : decode cX5_keep 26 = .ok (.aload_n 0, 1) := by decide +kernel
theorem dX5_keep_27 : decode cX5_keep 27 = .ok (.getfield 20, 3) := by decide +kernel
theorem dX5_keep_30 : decode cX5_keep 30 = .ok (.aload_n 0, 1) := by decide +kernel
theorem dX5_keep_31 : decode cX5_keep 31 = .ok (.getfield 23, 3) := by decide +kernel
theorem dX5_keep_34 : decode cX5_keep 34 = .ok (.iload_n 1, 1) := by decide +kernel
theorem dX5_keep_35 : decode cX5_keep 35 = .ok (.invokestatic 67, 3) := by decide +kernel
theorem dX5_keep_38 : decode cX5_keep 38 = .ok (.aload_n 0, 1) := by decide +kernel
theorem dX5_keep_39 : decode cX5_keep 39 = .ok (.getfield 26, 3) := by decide +kernel
theorem dX5_keep_42 : decode cX5_keep 42 = .ok (.iload_n 1, 1) := by decide +kernel
theorem dX5_keep_43 : decode cX5_keep 43 = .ok (.iconst 1, 1) := by decide +kernel
theorem dX5_keep_44 : decode cX5_keep 44 = .ok (.bastore, 1) := by decide +kernel
theorem dX5_keep_45 : decode cX5_keep 45 = .ok (.iconst 1, 1) := by decide +kernel
theorem dX5_keep_46 : decode cX5_keep 46 = .ok (.ireturn, 1) := by decide +kernel
set_option maxRecDepth 20000 in
theorem ggX5_again_X5_in : GoodIn wsX5_again wsX5_in := goodIn_r _ [10] (by decide +kernel) (by decide +kernel)
set_option maxRecDepth 20000 in
theorem gX5_again_X5_in : GoodIn wsX5_again (va_wsS RX5 77 yX5_in wsX5_in) := goodIn_app (goodIn_of _ (by decide +kernel)) ggX5_again_X5_in
set_option maxRecDepth 20000 in
theorem ggX5_again_X5_copy : GoodIn wsX5_again wsX5_copy := goodIn_r _ [13] (by decide +kernel) (by decide +kernel)
set_option maxRecDepth 20000 in
theorem gX5_again_X5_copy : GoodIn wsX5_again (va_wsS RX5 67 yX5_copy wsX5_copy) := goodIn_app (goodIn_of _ (by decide +kernel)) ggX5_again_X5_copy
theorem dX5_again_0 : decode cX5_again 0 = .ok (.aload_n 0, 1) := by decide +kernel
theorem dX5_again_1 : decode cX5_again 1 = .ok (.iconst 0, 1) := by decide +kernel
theorem dX5_again_2 : decode cX5_again 2 = .ok (.putfield 63, 3) := by decide +kernel
theorem dX5_again_5 : decode cX5_again 5 = .ok (.iload_n 1, 1) := by decide +kernel
theorem dX5_again_6 : decode cX5_again 6 = .ok (.i2l, 1) := by decide +kernel
theorem dX5_again_7 : decode cX5_again 7 = .ok (.lconst 0, 1) := by decide +kernel
theorem dX5_again_8 : decode cX5_again 8 = .ok (.lconst 1, 1) := by decide +kernel
theorem dX5_again_9 : decode cX5_again 9 = .ok (.invokestatic 77, 3) := by decide +kernel
theorem dX5_again_12 : decode cX5_again 12 = .ok (.ifCond .eq 12, 3) := by decide +kernel
theorem dX5_again_15 : decode cX5_again 15 = .ok (.aload_n 0, 1) := by decide +kernel
theorem dX5_again_16 : decode cX5_again 16 = .ok (.getfield 26, 3) := by decide +kernel
theorem dX5_again_19 : decode cX5_again 19 = .ok (.iload_n 1, 1) := by decide +kernel
theorem dX5_again_20 : decode cX5_again 20 = .ok (.baload, 1) := by decide +kernel
theorem dX5_again_21 : decode cX5_again 21 = .ok (.ifCond .ne 5, 3) := by decide +kernel
theorem dX5_again_24 : decode cX5_again 24 = .ok (.iconst 0, 1) := by decide +kernel
theorem dX5_again_25 : decode cX5_again 25 = .ok (.ireturn, 1) := by decide +kernel
theorem dX5_again_26 : decode cX5_again 26 = .ok (.aload_n 0, 1) := by decide +kernel
theorem dX5_again_27 : decode cX5_again 27 = .ok (.getfield 20, 3) := by decide +kernel
theorem dX5_again_30 : decode cX5_again 30 = .ok (.aload_n 0, 1) := by decide +kernel
theorem dX5_again_31 : decode cX5_again 31 = .ok (.getfield 23, 3) := by decide +kernel
theorem dX5_again_34 : decode cX5_again 34 = .ok (.iload_n 1, 1) := by decide +kernel
theorem dX5_again_35 : decode cX5_again 35 = .ok (.aload_n 0, 1) := by decide +kernel
theorem dX5_again_36 : decode cX5_again 36 = .ok (.getfield 13, 3) := by decide +kernel
theorem dX5_again_39 : decode cX5_again 39 = .ok (.aload_n 0, 1) := by decide +kernel
theorem dX5_again_40 : decode cX5_again 40 = .ok (.getfield 16, 3) := by decide +kernel
theorem dX5_again_43 : decode cX5_again 43 = .ok (.iconst 0, 1) := by decide +kernel
theorem dX5_again_44 : decode cX5_again 44 = .ok (.invokestatic 67, 3) := by decide +kernel
theorem dX5_again_47 : decode cX5_again 47 = .ok (.iconst 1, 1) := by decide +kernel
theorem dX5_again_48 : decode cX5_again 48 = .ok (.ireturn, 1) := by decide +kernel
theorem dX5_at_0 : decode cX5_at 0 = .ok (.sipush 150, 3) := by decide +kernel
theorem dX5_at_3 : decode cX5_at 3 = .ok (.bipush 7, 2) := by decide +kernel
theorem dX5_at_5 : decode cX5_at 5 = .ok (.iload_n 0, 1) := by decide +kernel
theorem dX5_at_6 : decode cX5_at 6 = .ok (.imul, 1) := by decide +kernel
theorem dX5_at_7 : decode cX5_at 7 = .ok (.iadd, 1) := by decide +kernel
theorem dX5_at_8 : decode cX5_at 8 = .ok (.ireturn, 1) := by decide +kernel
set_option maxRecDepth 20000 in
theorem ggX5_isDesk_X5_in : GoodIn wsX5_isDesk wsX5_in := goodIn_r _ [5] (by decide +kernel) (by decide +kernel)
set_option maxRecDepth 20000 in
theorem gX5_isDesk_X5_in : GoodIn wsX5_isDesk (va_wsS RX5 77 yX5_in wsX5_in) := goodIn_app (goodIn_of _ (by decide +kernel)) ggX5_isDesk_X5_in
theorem dX5_isDesk_0 : decode cX5_isDesk 0 = .ok (.iload_n 0, 1) := by decide +kernel
theorem dX5_isDesk_1 : decode cX5_isDesk 1 = .ok (.i2l, 1) := by decide +kernel
theorem dX5_isDesk_2 : decode cX5_isDesk 2 = .ok (.lconst 0, 1) := by decide +kernel
theorem dX5_isDesk_3 : decode cX5_isDesk 3 = .ok (.ldc2_w 81, 3) := by decide +kernel
theorem dX5_isDesk_6 : decode cX5_isDesk 6 = .ok (.invokestatic 77, 3) := by decide +kernel
theorem dX5_isDesk_9 : decode cX5_isDesk 9 = .ok (.ireturn, 1) := by decide +kernel
set_option maxRecDepth 20000 in
theorem ggX5_isItem_X5_in : GoodIn wsX5_isItem wsX5_in := goodIn_r _ [5] (by decide +kernel) (by decide +kernel)
set_option maxRecDepth 20000 in
theorem gX5_isItem_X5_in : GoodIn wsX5_isItem (va_wsS RX5 77 yX5_in wsX5_in) := goodIn_app (goodIn_of _ (by decide +kernel)) ggX5_isItem_X5_in
set_option maxRecDepth 20000 in
theorem ggX5_isItem_X5_at : GoodIn wsX5_isItem wsX5_at := goodIn_r _ [8] (by decide +kernel) (by decide +kernel)
set_option maxRecDepth 20000 in
theorem gX5_isItem_X5_at : GoodIn wsX5_isItem (va_wsS RX5 83 yX5_at wsX5_at) := goodIn_app (goodIn_of _ (by decide +kernel)) ggX5_isItem_X5_at
theorem dX5_isItem_0 : decode cX5_isItem 0 = .ok (.iload_n 1, 1) := by decide +kernel
theorem dX5_isItem_1 : decode cX5_isItem 1 = .ok (.i2l, 1) := by decide +kernel
theorem dX5_isItem_2 : decode cX5_isItem 2 = .ok (.lconst 0, 1) := by decide +kernel
theorem dX5_isItem_3 : decode cX5_isItem 3 = .ok (.aload_n 0, 1) := by decide +kernel
theorem dX5_isItem_4 : decode cX5_isItem 4 = .ok (.getfield 13, 3) := by decide +kernel
theorem dX5_isItem_7 : decode cX5_isItem 7 = .ok (.iconst 0, 1) := by decide +kernel
theorem dX5_isItem_8 : decode cX5_isItem 8 = .ok (.iaload, 1) := by decide +kernel
theorem dX5_isItem_9 : decode cX5_isItem 9 = .ok (.i2l, 1) := by decide +kernel
theorem dX5_isItem_10 : decode cX5_isItem 10 = .ok (.lconst 1, 1) := by decide +kernel
theorem dX5_isItem_11 : decode cX5_isItem 11 = .ok (.lsub, 1) := by decide +kernel
theorem dX5_isItem_12 : decode cX5_isItem 12 = .ok (.invokestatic 77, 3) := by decide +kernel
theorem dX5_isItem_15 : decode cX5_isItem 15 = .ok (.ifCond .eq 22, 3) := by decide +kernel
theorem dX5_isItem_18 : decode cX5_isItem 18 = .ok (.aload_n 0, 1) := by decide +kernel
theorem dX5_isItem_19 : decode cX5_isItem 19 = .ok (.getfield 13, 3) := by decide +kernel
theorem dX5_isItem_22 : decode cX5_isItem 22 = .ok (.iload_n 1, 1) := by decide +kernel
theorem dX5_isItem_23 : decode cX5_isItem 23 = .ok (.invokestatic 83, 3) := by decide +kernel
theorem dX5_isItem_26 : decode cX5_isItem 26 = .ok (.iconst 1, 1) := by decide +kernel
theorem dX5_isItem_27 : decode cX5_isItem 27 = .ok (.iadd, 1) := by decide +kernel
theorem dX5_isItem_28 : decode cX5_isItem 28 = .ok (.iaload, 1) := by decide +kernel
theorem dX5_isItem_29 : decode cX5_isItem 29 = .ok (.iconst (-1), 1) := by decide +kernel
theorem dX5_isItem_30 : decode cX5_isItem 30 = .ok (.if_icmp .eq 7, 3) := by decide +kernel
theorem dX5_isItem_33 : decode cX5_isItem 33 = .ok (.iconst 1, 1) := by decide +kernel
theorem dX5_isItem_34 : decode cX5_isItem 34 = .ok (.goto 4, 3) := by decide +kernel
theorem dX5_isItem_37 : decode cX5_isItem 37 = .ok (.iconst 0, 1) := by decide +kernel
theorem dX5_isItem_38 : decode cX5_isItem 38 = .ok (.ireturn, 1) := by decide +kernel
set_option maxRecDepth 20000 in
theorem ggX5_left_X5_at : GoodIn wsX5_left wsX5_at := goodIn_r _ [5] (by decide +kernel) (by decide +kernel)
set_option maxRecDepth 20000 in
theorem gX5_left_X5_at : GoodIn wsX5_left (va_wsS RX5 83 yX5_at wsX5_at) := goodIn_app (goodIn_of _ (by decide +kernel)) ggX5_left_X5_at
theorem dX5_left_0 : decode cX5_left 0 = .ok (.aload_n 0, 1) := by decide +kernel
theorem dX5_left_1 : decode cX5_left 1 = .ok (.getfield 13, 3) := by decide +kernel
theorem dX5_left_4 : decode cX5_left 4 = .ok (.iload_n 1, 1) := by decide +kernel
theorem dX5_left_5 : decode cX5_left 5 = .ok (.invokestatic 83, 3) := by decide +kernel
theorem dX5_left_8 : decode cX5_left 8 = .ok (.iconst 3, 1) := by decide +kernel
theorem dX5_left_9 : decode cX5_left 9 = .ok (.iadd, 1) := by decide +kernel
theorem dX5_left_10 : decode cX5_left 10 = .ok (.iaload, 1) := by decide +kernel
theorem dX5_left_11 : decode cX5_left 11 = .ok (.ireturn, 1) := by decide +kernel
set_option maxRecDepth 20000 in
theorem ggX5_right_X5_at : GoodIn wsX5_right wsX5_at := goodIn_r _ [5] (by decide +kernel) (by decide +kernel)
set_option maxRecDepth 20000 in
theorem gX5_right_X5_at : GoodIn wsX5_right (va_wsS RX5 83 yX5_at wsX5_at) := goodIn_app (goodIn_of _ (by decide +kernel)) ggX5_right_X5_at
theorem dX5_right_0 : decode cX5_right 0 = .ok (.aload_n 0, 1) := by decide +kernel
theorem dX5_right_1 : decode cX5_right 1 = .ok (.getfield 13, 3) := by decide +kernel
theorem dX5_right_4 : decode cX5_right 4 = .ok (.iload_n 1, 1) := by decide +kernel
theorem dX5_right_5 : decode cX5_right 5 = .ok (.invokestatic 83, 3) := by decide +kernel
theorem dX5_right_8 : decode cX5_right 8 = .ok (.iconst 4, 1) := by decide +kernel
theorem dX5_right_9 : decode cX5_right 9 = .ok (.iadd, 1) := by decide +kernel
theorem dX5_right_10 : decode cX5_right 10 = .ok (.iaload, 1) := by decide +kernel
theorem dX5_right_11 : decode cX5_right 11 = .ok (.ireturn, 1) := by decide +kernel
set_option maxRecDepth 20000 in
theorem ggX5_rank_X5_at : GoodIn wsX5_rank wsX5_at := goodIn_r _ [5] (by decide +kernel) (by decide +kernel)
set_option maxRecDepth 20000 in
theorem gX5_rank_X5_at : GoodIn wsX5_rank (va_wsS RX5 83 yX5_at wsX5_at) := goodIn_app (goodIn_of _ (by decide +kernel)) ggX5_rank_X5_at
theorem dX5_rank_0 : decode cX5_rank 0 = .ok (.iload_n 1, 1) := by decide +kernel
theorem dX5_rank_1 : decode cX5_rank 1 = .ok (.iconst (-1), 1) := by decide +kernel
theorem dX5_rank_2 : decode cX5_rank 2 = .ok (.if_icmp .ne 7, 3) := by decide +kernel
theorem dX5_rank_5 : decode cX5_rank 5 = .ok (.iconst 0, 1) := by decide +kernel
theorem dX5_rank_6 : decode cX5_rank 6 = .ok (.goto 15, 3) := by decide +kernel
theorem dX5_rank_9 : decode cX5_rank 9 = .ok (.aload_n 0, 1) := by decide +kernel
theorem dX5_rank_10 : decode cX5_rank 10 = .ok (.getfield 13, 3) := by decide +kernel
theorem dX5_rank_13 : decode cX5_rank 13 = .ok (.iload_n 1, 1) := by decide +kernel
theorem dX5_rank_14 : decode cX5_rank 14 = .ok (.invokestatic 83, 3) := by decide +kernel
theorem dX5_rank_17 : decode cX5_rank 17 = .ok (.bipush 6, 2) := by decide +kernel
theorem dX5_rank_19 : decode cX5_rank 19 = .ok (.iadd, 1) := by decide +kernel
theorem dX5_rank_20 : decode cX5_rank 20 = .ok (.iaload, 1) := by decide +kernel
theorem dX5_rank_21 : decode cX5_rank 21 = .ok (.ireturn, 1) := by decide +kernel
theorem dX5_isLess_0 : decode cX5_isLess 0 = .ok (.aload_n 0, 1) := by decide +kernel
theorem dX5_isLess_1 : decode cX5_isLess 1 = .ok (.getfield 16, 3) := by decide +kernel
theorem dX5_isLess_4 : decode cX5_isLess 4 = .ok (.iload_n 1, 1) := by decide +kernel
theorem dX5_isLess_5 : decode cX5_isLess 5 = .ok (.laload, 1) := by decide +kernel
theorem dX5_isLess_6 : decode cX5_isLess 6 = .ok (.aload_n 0, 1) := by decide +kernel
theorem dX5_isLess_7 : decode cX5_isLess 7 = .ok (.getfield 16, 3) := by decide +kernel
theorem dX5_isLess_10 : decode cX5_isLess 10 = .ok (.iload_n 2, 1) := by decide +kernel
theorem dX5_isLess_11 : decode cX5_isLess 11 = .ok (.laload, 1) := by decide +kernel
theorem dX5_isLess_12 : decode cX5_isLess 12 = .ok (.lcmp, 1) := by decide +kernel
theorem dX5_isLess_13 : decode cX5_isLess 13 = .ok (.ifCond .lt 24, 3) := by decide +kernel
theorem dX5_isLess_16 : decode cX5_isLess 16 = .ok (.aload_n 0, 1) := by decide +kernel
theorem dX5_isLess_17 : decode cX5_isLess 17 = .ok (.getfield 16, 3) := by decide +kernel
theorem dX5_isLess_20 : decode cX5_isLess 20 = .ok (.iload_n 1, 1) := by decide +kernel
theorem dX5_isLess_21 : decode cX5_isLess 21 = .ok (.laload, 1) := by decide +kernel
theorem dX5_isLess_22 : decode cX5_isLess 22 = .ok (.aload_n 0, 1) := by decide +kernel
theorem dX5_isLess_23 : decode cX5_isLess 23 = .ok (.getfield 16, 3) := by decide +kernel
theorem dX5_isLess_26 : decode cX5_isLess 26 = .ok (.iload_n 2, 1) := by decide +kernel
theorem dX5_isLess_27 : decode cX5_isLess 27 = .ok (.laload, 1) := by decide +kernel
theorem dX5_isLess_28 : decode cX5_isLess 28 = .ok (.lcmp, 1) := by decide +kernel
theorem dX5_isLess_29 : decode cX5_isLess 29 = .ok (.ifCond .ne 12, 3) := by decide +kernel
theorem dX5_isLess_32 : decode cX5_isLess 32 = .ok (.iload_n 1, 1) := by decide +kernel
theorem dX5_isLess_33 : decode cX5_isLess 33 = .ok (.iload_n 2, 1) := by decide +kernel
theorem dX5_isLess_34 : decode cX5_isLess 34 = .ok (.if_icmp .ge 7, 3) := by decide +kernel
theorem dX5_isLess_37 : decode cX5_isLess 37 = .ok (.iconst 1, 1) := by decide +kernel
theorem dX5_isLess_38 : decode cX5_isLess 38 = .ok (.goto 4, 3) := by decide +kernel
theorem dX5_isLess_41 : decode cX5_isLess 41 = .ok (.iconst 0, 1) := by decide +kernel
theorem dX5_isLess_42 : decode cX5_isLess 42 = .ok (.ireturn, 1) := by decide +kernel
set_option maxRecDepth 20000 in
theorem ggX5_setAbove_X5_at : GoodIn wsX5_setAbove wsX5_at := goodIn_r _ [5] (by decide +kernel) (by decide +kernel)
set_option maxRecDepth 20000 in
theorem gX5_setAbove_X5_at : GoodIn wsX5_setAbove (va_wsS RX5 83 yX5_at wsX5_at) := goodIn_app (goodIn_of _ (by decide +kernel)) ggX5_setAbove_X5_at
theorem dX5_setAbove_0 : decode cX5_setAbove 0 = .ok (.iload_n 1, 1) := by decide +kernel
theorem dX5_setAbove_1 : decode cX5_setAbove 1 = .ok (.iconst (-1), 1) := by decide +kernel
theorem dX5_setAbove_2 : decode cX5_setAbove 2 = .ok (.if_icmp .eq 15, 3) := by decide +kernel
theorem dX5_setAbove_5 : decode cX5_setAbove 5 = .ok (.aload_n 0, 1) := by decide +kernel
theorem dX5_setAbove_6 : decode cX5_setAbove 6 = .ok (.getfield 13, 3) := by decide +kernel
theorem dX5_setAbove_9 : decode cX5_setAbove 9 = .ok (.iload_n 1, 1) := by decide +kernel
theorem dX5_setAbove_10 : decode cX5_setAbove 10 = .ok (.invokestatic 83, 3) := by decide +kernel
theorem dX5_setAbove_13 : decode cX5_setAbove 13 = .ok (.iconst 5, 1) := by decide +kernel
theorem dX5_setAbove_14 : decode cX5_setAbove 14 = .ok (.iadd, 1) := by decide +kernel
theorem dX5_setAbove_15 : decode cX5_setAbove 15 = .ok (.iload_n 2, 1) := by decide +kernel
theorem dX5_setAbove_16 : decode cX5_setAbove 16 = .ok (.iastore, 1) := by decide +kernel
theorem dX5_setAbove_17 : decode cX5_setAbove 17 = .ok (.return_, 1) := by decide +kernel
set_option maxRecDepth 20000 in
theorem ggX5_settle_X5_at : GoodIn wsX5_settle wsX5_at := goodIn_r _ [5] (by decide +kernel) (by decide +kernel)
set_option maxRecDepth 20000 in
theorem gX5_settle_X5_at : GoodIn wsX5_settle (va_wsS RX5 83 yX5_at wsX5_at) := goodIn_app (goodIn_of _ (by decide +kernel)) ggX5_settle_X5_at
set_option maxRecDepth 20000 in
theorem ggX5_settle_X5_rank : GoodIn wsX5_settle wsX5_rank := goodIn_r _ [9, 1, 2, 3, 4, 5, 10, 11, 12, 13, 14, 15, 16, 17, 18, 19, 20, 21, 22, 23, 24, 25, 26, 27, 28, 29, 30, 31, 32, 33, 34, 35, 36] (by decide +kernel) (by decide +kernel)
set_option maxRecDepth 20000 in
theorem gX5_settle_X5_rank : GoodIn wsX5_settle (wsV RX5 87 RX5 yX5_rank wsX5_rank) := goodIn_app (goodIn_of _ (by decide +kernel)) ggX5_settle_X5_rank
theorem dX5_settle_0 : decode cX5_settle 0 = .ok (.iload_n 1, 1) := by decide +kernel
theorem dX5_settle_1 : decode cX5_settle 1 = .ok (.invokestatic 83, 3) := by decide +kernel
theorem dX5_settle_4 : decode cX5_settle 4 = .ok (.istore_n 2, 1) := by decide +kernel
theorem dX5_settle_5 : decode cX5_settle 5 = .ok (.aload_n 0, 1) := by decide +kernel
theorem dX5_settle_6 : decode cX5_settle 6 = .ok (.aload_n 0, 1) := by decide +kernel
theorem dX5_settle_7 : decode cX5_settle 7 = .ok (.getfield 13, 3) := by decide +kernel
theorem dX5_settle_10 : decode cX5_settle 10 = .ok (.iload_n 2, 1) := by decide +kernel
theorem dX5_settle_11 : decode cX5_settle 11 = .ok (.iconst 3, 1) := by decide +kernel
theorem dX5_settle_12 : decode cX5_settle 12 = .ok (.iadd, 1) := by decide +kernel
theorem dX5_settle_13 : decode cX5_settle 13 = .ok (.iaload, 1) := by decide +kernel
theorem dX5_settle_14 : decode cX5_settle 14 = .ok (.invokevirtual 87, 3) := by decide +kernel
theorem dX5_settle_17 : decode cX5_settle 17 = .ok (.aload_n 0, 1) := by decide +kernel
theorem dX5_settle_18 : decode cX5_settle 18 = .ok (.aload_n 0, 1) := by decide +kernel
theorem dX5_settle_19 : decode cX5_settle 19 = .ok (.getfield 13, 3) := by decide +kernel
theorem dX5_settle_22 : decode cX5_settle 22 = .ok (.iload_n 2, 1) := by decide +kernel
theorem dX5_settle_23 : decode cX5_settle 23 = .ok (.iconst 4, 1) := by decide +kernel
theorem dX5_settle_24 : decode cX5_settle 24 = .ok (.iadd, 1) := by decide +kernel
theorem dX5_settle_25 : decode cX5_settle 25 = .ok (.iaload, 1) := by decide +kernel
theorem dX5_settle_26 : decode cX5_settle 26 = .ok (.invokevirtual 87, 3) := by decide +kernel
theorem dX5_settle_29 : decode cX5_settle 29 = .ok (.if_icmp .ge 37, 3) := by decide +kernel
theorem dX5_settle_32 : decode cX5_settle 32 = .ok (.aload_n 0, 1) := by decide +kernel
theorem dX5_settle_33 : decode cX5_settle 33 = .ok (.getfield 13, 3) := by decide +kernel
theorem dX5_settle_36 : decode cX5_settle 36 = .ok (.iload_n 2, 1) := by decide +kernel
theorem dX5_settle_37 : decode cX5_settle 37 = .ok (.iconst 3, 1) := by decide +kernel
theorem dX5_settle_38 : decode cX5_settle 38 = .ok (.iadd, 1) := by decide +kernel
theorem dX5_settle_39 : decode cX5_settle 39 = .ok (.iaload, 1) := by decide +kernel
theorem dX5_settle_40 : decode cX5_settle 40 = .ok (.istore_n 3, 1) := by decide +kernel
theorem dX5_settle_41 : decode cX5_settle 41 = .ok (.aload_n 0, 1) := by decide +kernel
theorem dX5_settle_42 : decode cX5_settle 42 = .ok (.getfield 13, 3) := by decide +kernel
theorem dX5_settle_45 : decode cX5_settle 45 = .ok (.iload_n 2, 1) := by decide +kernel
theorem dX5_settle_46 : decode cX5_settle 46 = .ok (.iconst 3, 1) := by decide +kernel
theorem dX5_settle_47 : decode cX5_settle 47 = .ok (.iadd, 1) := by decide +kernel
theorem dX5_settle_48 : decode cX5_settle 48 = .ok (.aload_n 0, 1) := by decide +kernel
theorem dX5_settle_49 : decode cX5_settle 49 = .ok (.getfield 13, 3) := by decide +kernel
theorem dX5_settle_52 : decode cX5_settle 52 = .ok (.iload_n 2, 1) := by decide +kernel
theorem dX5_settle_53 : decode cX5_settle 53 = .ok (.iconst 4, 1) := by decide +kernel
theorem dX5_settle_54 : decode cX5_settle 54 = .ok (.iadd, 1) := by decide +kernel
theorem dX5_settle_55 : decode cX5_settle 55 = .ok (.iaload, 1) := by decide +kernel
theorem dX5_settle_56 : decode cX5_settle 56 = .ok (.iastore, 1) := by decide +kernel
theorem dX5_settle_57 : decode cX5_settle 57 = .ok (.aload_n 0, 1) := by decide +kernel
theorem dX5_settle_58 : decode cX5_settle 58 = .ok (.getfield 13, 3) := by decide +kernel
theorem dX5_settle_61 : decode cX5_settle 61 = .ok (.iload_n 2, 1) := by decide +kernel
theorem dX5_settle_62 : decode cX5_settle 62 = .ok (.iconst 4, 1) := by decide +kernel
theorem dX5_settle_63 : decode cX5_settle 63 = .ok (.iadd, 1) := by decide +kernel
theorem dX5_settle_64 : decode cX5_settle 64 = .ok (.iload_n 3, 1) := by decide +kernel
theorem dX5_settle_65 : decode cX5_settle 65 = .ok (.iastore, 1) := by decide +kernel
theorem dX5_settle_66 : decode cX5_settle 66 = .ok (.aload_n 0, 1) := by decide +kernel
theorem dX5_settle_67 : decode cX5_settle 67 = .ok (.getfield 13, 3) := by decide +kernel
theorem dX5_settle_70 : decode cX5_settle 70 = .ok (.iload_n 2, 1) := by decide +kernel
theorem dX5_settle_71 : decode cX5_settle 71 = .ok (.bipush 6, 2) := by decide +kernel
theorem dX5_settle_73 : decode cX5_settle 73 = .ok (.iadd, 1) := by decide +kernel
theorem dX5_settle_74 : decode cX5_settle 74 = .ok (.aload_n 0, 1) := by decide +kernel
theorem dX5_settle_75 : decode cX5_settle 75 = .ok (.aload_n 0, 1) := by decide +kernel
theorem dX5_settle_76 : decode cX5_settle 76 = .ok (.getfield 13, 3) := by decide +kernel
theorem dX5_settle_79 : decode cX5_settle 79 = .ok (.iload_n 2, 1) := by decide +kernel
theorem dX5_settle_80 : decode cX5_settle 80 = .ok (.iconst 4, 1) := by decide +kernel
theorem dX5_settle_81 : decode cX5_settle 81 = .ok (.iadd, 1) := by decide +kernel
theorem dX5_settle_82 : decode cX5_settle 82 = .ok (.iaload, 1) := by decide +kernel
theorem dX5_settle_83 : decode cX5_settle 83 = .ok (.invokevirtual 87, 3) := by decide +kernel
theorem dX5_settle_86 : decode cX5_settle 86 = .ok (.iconst 1, 1) := by decide +kernel
theorem dX5_settle_87 : decode cX5_settle 87 = .ok (.iadd, 1) := by decide +kernel
theorem dX5_settle_88 : decode cX5_settle 88 = .ok (.iastore, 1) := by decide +kernel
theorem dX5_settle_89 : decode cX5_settle 89 = .ok (.return_, 1) := by decide +kernel
set_option maxRecDepth 20000 in
theorem ggX5_meldTrees_X5_isLess : GoodIn wsX5_meldTrees wsX5_isLess := goodIn_r _ [8, 9, 29, 30, 31, 32, 33, 34, 35, 36, 37, 38, 39, 40, 41, 42, 43, 44, 45, 46, 47, 48, 49, 50, 51, 52, 53, 54, 55] (by decide +kernel) (by decide +kernel)
set_option maxRecDepth 20000 in
theorem gX5_meldTrees_X5_isLess : GoodIn wsX5_meldTrees (wsV RX5 90 RX5 yX5_isLess wsX5_isLess) := goodIn_app (goodIn_of _ (by decide +kernel)) ggX5_meldTrees_X5_isLess
set_option maxRecDepth 20000 in
theorem ggX5_meldTrees_X5_right : GoodIn wsX5_meldTrees wsX5_right := goodIn_r _ [13, 3, 14, 15, 7, 16, 29, 30, 31, 32, 33, 34, 35, 36, 37, 38, 39, 40, 41, 42, 43, 44, 45, 46, 47, 48, 49, 50, 51, 52, 53, 54, 55] (by decide +kernel) (by decide +kernel)
set_option maxRecDepth 20000 in
theorem gX5_meldTrees_X5_right : GoodIn wsX5_meldTrees (wsV RX5 94 RX5 yX5_right wsX5_right) := goodIn_app (goodIn_of _ (by decide +kernel)) ggX5_meldTrees_X5_right
set_option maxRecDepth 20000 in
theorem ggX5_meldTrees_X5_at : GoodIn wsX5_meldTrees wsX5_at := goodIn_r _ [16] (by decide +kernel) (by decide +kernel)
set_option maxRecDepth 20000 in
theorem gX5_meldTrees_X5_at : GoodIn wsX5_meldTrees (va_wsS RX5 83 yX5_at wsX5_at) := goodIn_app (goodIn_of _ (by decide +kernel)) ggX5_meldTrees_X5_at
set_option maxRecDepth 20000 in
theorem ggX5_meldTrees_X5_setAbove : GoodIn wsX5_meldTrees wsX5_setAbove := goodIn_r _ [20, 3, 14, 15, 7, 16, 29, 30, 31, 32, 33, 34, 35, 36, 37, 38, 39, 40, 41, 42, 43, 44, 45, 46, 47, 48, 49, 50, 51, 52, 53, 54, 55] (by decide +kernel) (by decide +kernel)
set_option maxRecDepth 20000 in
theorem gX5_meldTrees_X5_setAbove : GoodIn wsX5_meldTrees (wsV RX5 97 RX5 yX5_setAbove wsX5_setAbove) := goodIn_app (goodIn_of _ (by decide +kernel)) ggX5_meldTrees_X5_setAbove
set_option maxRecDepth 20000 in
theorem ggX5_meldTrees_X5_settle : GoodIn wsX5_meldTrees wsX5_settle := goodIn_r _ [24, 3, 14, 15, 7, 16, 25, 26, 27, 28, 29, 30, 31, 32, 33, 34, 35, 36, 37, 38, 39, 40, 41, 42, 43, 44, 45, 46, 47, 48, 49, 50, 51, 52, 53, 54, 55] (by decide +kernel) (by decide +kernel)
set_option maxRecDepth 20000 in
theorem gX5_meldTrees_X5_settle : GoodIn wsX5_meldTrees (wsV RX5 101 RX5 yX5_settle wsX5_settle) := goodIn_app (goodIn_of _ (by decide +kernel)) ggX5_meldTrees_X5_settle
theorem dX5_meldTrees_0 : decode cX5_meldTrees 0 = .ok (.iload_n 1, 1) := by decide +kernel
theorem dX5_meldTrees_1 : decode cX5_meldTrees 1 = .ok (.istore_n 3, 1) := by decide +kernel
theorem dX5_meldTrees_2 : decode cX5_meldTrees 2 = .ok (.iload_n 2, 1) := by decide +kernel
theorem dX5_meldTrees_3 : decode cX5_meldTrees 3 = .ok (.istore 4, 2) := by decide +kernel
theorem dX5_meldTrees_5 : decode cX5_meldTrees 5 = .ok (.iconst 0, 1) := by decide +kernel
theorem dX5_meldTrees_6 : decode cX5_meldTrees 6 = .ok (.istore 5, 2) := by decide +kernel
theorem dX5_meldTrees_8 : decode cX5_meldTrees 8 = .ok (.iload_n 3, 1) := by decide +kernel
theorem dX5_meldTrees_9 : decode cX5_meldTrees 9 = .ok (.iconst (-1), 1) := by decide +kernel
theorem dX5_meldTrees_10 : decode cX5_meldTrees 10 = .ok (.if_icmp .eq 67, 3) := by decide +kernel
theorem dX5_meldTrees_13 : decode cX5_meldTrees 13 = .ok (.iload 4, 2) := by decide +kernel
theorem dX5_meldTrees_15 : decode cX5_meldTrees 15 = .ok (.iconst (-1), 1) := by decide +kernel
theorem dX5_meldTrees_16 : decode cX5_meldTrees 16 = .ok (.if_icmp .eq 61, 3) := by decide +kernel
theorem dX5_meldTrees_19 : decode cX5_meldTrees 19 = .ok (.aload_n 0, 1) := by decide +kernel
theorem dX5_meldTrees_20 : decode cX5_meldTrees 20 = .ok (.iload_n 3, 1) := by decide +kernel
theorem dX5_meldTrees_21 : decode cX5_meldTrees 21 = .ok (.iload 4, 2) := by decide +kernel
theorem dX5_meldTrees_23 : decode cX5_meldTrees 23 = .ok (.invokevirtual 90, 3) := by decide +kernel
theorem dX5_meldTrees_26 : decode cX5_meldTrees 26 = .ok (.ifCond .eq 7, 3) := by decide +kernel
theorem dX5_meldTrees_29 : decode cX5_meldTrees 29 = .ok (.iload_n 3, 1) := by decide +kernel
theorem dX5_meldTrees_30 : decode cX5_meldTrees 30 = .ok (.goto 5, 3) := by decide +kernel
theorem dX5_meldTrees_33 : decode cX5_meldTrees 33 = .ok (.iload 4, 2) := by decide +kernel
theorem dX5_meldTrees_35 : decode cX5_meldTrees 35 = .ok (.istore 6, 2) := by decide +kernel
theorem dX5_meldTrees_37 : decode cX5_meldTrees 37 = .ok (.iload 6, 2) := by decide +kernel
theorem dX5_meldTrees_39 : decode cX5_meldTrees 39 = .ok (.iload_n 3, 1) := by decide +kernel
theorem dX5_meldTrees_40 : decode cX5_meldTrees 40 = .ok (.if_icmp .ne 8, 3) := by decide +kernel
theorem dX5_meldTrees_43 : decode cX5_meldTrees 43 = .ok (.iload 4, 2) := by decide +kernel
theorem dX5_meldTrees_45 : decode cX5_meldTrees 45 = .ok (.goto 4, 3) := by decide +kernel
theorem dX5_meldTrees_48 : decode cX5_meldTrees 48 = .ok (.iload_n 3, 1) := by decide +kernel
theorem dX5_meldTrees_49 : decode cX5_meldTrees 49 = .ok (.istore 7, 2) := by decide +kernel
theorem dX5_meldTrees_51 : decode cX5_meldTrees 51 = .ok (.aload_n 0, 1) := by decide +kernel
theorem dX5_meldTrees_52 : decode cX5_meldTrees 52 = .ok (.getfield 36, 3) := by decide +kernel
theorem dX5_meldTrees_55 : decode cX5_meldTrees 55 = .ok (.iload 5, 2) := by decide +kernel
theorem dX5_meldTrees_57 : decode cX5_meldTrees 57 = .ok (.iload 6, 2) := by decide +kernel
theorem dX5_meldTrees_59 : decode cX5_meldTrees 59 = .ok (.iastore, 1) := by decide +kernel
theorem dX5_meldTrees_60 : decode cX5_meldTrees 60 = .ok (.iinc 5 1, 3) := by decide +kernel
theorem dX5_meldTrees_63 : decode cX5_meldTrees 63 = .ok (.aload_n 0, 1) := by decide +kernel
theorem dX5_meldTrees_64 : decode cX5_meldTrees 64 = .ok (.iload 6, 2) := by decide +kernel
theorem dX5_meldTrees_66 : decode cX5_meldTrees 66 = .ok (.invokevirtual 94, 3) := by decide +kernel
theorem dX5_meldTrees_69 : decode cX5_meldTrees 69 = .ok (.istore_n 3, 1) := by decide +kernel
theorem dX5_meldTrees_70 : decode cX5_meldTrees 70 = .ok (.iload 7, 2) := by decide +kernel
theorem dX5_meldTrees_72 : decode cX5_meldTrees 72 = .ok (.istore 4, 2) := by decide +kernel
theorem dX5_meldTrees_74 : decode cX5_meldTrees 74 = .ok (.goto (-66), 3) := by decide +kernel
theorem dX5_meldTrees_77 : decode cX5_meldTrees 77 = .ok (.aload_n 0, 1) := by decide +kernel
theorem dX5_meldTrees_78 : decode cX5_meldTrees 78 = .ok (.dup, 1) := by decide +kernel
theorem dX5_meldTrees_79 : decode cX5_meldTrees 79 = .ok (.getfield 71, 3) := by decide +kernel
theorem dX5_meldTrees_82 : decode cX5_meldTrees 82 = .ok (.iload 5, 2) := by decide +kernel
theorem dX5_meldTrees_84 : decode cX5_meldTrees 84 = .ok (.iadd, 1) := by decide +kernel
theorem dX5_meldTrees_85 : decode cX5_meldTrees 85 = .ok (.putfield 71, 3) := by decide +kernel
theorem dX5_meldTrees_88 : decode cX5_meldTrees 88 = .ok (.iload_n 3, 1) := by decide +kernel
theorem dX5_meldTrees_89 : decode cX5_meldTrees 89 = .ok (.iconst (-1), 1) := by decide +kernel
theorem dX5_meldTrees_90 : decode cX5_meldTrees 90 = .ok (.if_icmp .ne 8, 3) := by decide +kernel
theorem dX5_meldTrees_93 : decode cX5_meldTrees 93 = .ok (.iload 4, 2) := by decide +kernel
theorem dX5_meldTrees_95 : decode cX5_meldTrees 95 = .ok (.goto 4, 3) := by decide +kernel
theorem dX5_meldTrees_98 : decode cX5_meldTrees 98 = .ok (.iload_n 3, 1) := by decide +kernel
theorem dX5_meldTrees_99 : decode cX5_meldTrees 99 = .ok (.istore 6, 2) := by decide +kernel
theorem dX5_meldTrees_101 : decode cX5_meldTrees 101 = .ok (.iload 5, 2) := by decide +kernel
theorem dX5_meldTrees_103 : decode cX5_meldTrees 103 = .ok (.iconst 1, 1) := by decide +kernel
theorem dX5_meldTrees_104 : decode cX5_meldTrees 104 = .ok (.isub, 1) := by decide +kernel
theorem dX5_meldTrees_105 : decode cX5_meldTrees 105 = .ok (.istore 7, 2) := by decide +kernel
theorem dX5_meldTrees_107 : decode cX5_meldTrees 107 = .ok (.iload 7, 2) := by decide +kernel
theorem dX5_meldTrees_109 : decode cX5_meldTrees 109 = .ok (.ifCond .lt 50, 3) := by decide +kernel
theorem dX5_meldTrees_112 : decode cX5_meldTrees 112 = .ok (.aload_n 0, 1) := by decide +kernel
theorem dX5_meldTrees_113 : decode cX5_meldTrees 113 = .ok (.getfield 36, 3) := by decide +kernel
theorem dX5_meldTrees_116 : decode cX5_meldTrees 116 = .ok (.iload 7, 2) := by decide +kernel
theorem dX5_meldTrees_118 : decode cX5_meldTrees 118 = .ok (.iaload, 1) := by decide +kernel
theorem dX5_meldTrees_119 : decode cX5_meldTrees 119 = .ok (.istore 8, 2) := by decide +kernel
theorem dX5_meldTrees_121 : decode cX5_meldTrees 121 = .ok (.aload_n 0, 1) := by decide +kernel
theorem dX5_meldTrees_122 : decode cX5_meldTrees 122 = .ok (.getfield 13, 3) := by decide +kernel
theorem dX5_meldTrees_125 : decode cX5_meldTrees 125 = .ok (.iload 8, 2) := by decide +kernel
theorem dX5_meldTrees_127 : decode cX5_meldTrees 127 = .ok (.invokestatic 83, 3) := by decide +kernel
theorem dX5_meldTrees_130 : decode cX5_meldTrees 130 = .ok (.iconst 4, 1) := by decide +kernel
theorem dX5_meldTrees_131 : decode cX5_meldTrees 131 = .ok (.iadd, 1) := by decide +kernel
theorem dX5_meldTrees_132 : decode cX5_meldTrees 132 = .ok (.iload 6, 2) := by decide +kernel
theorem dX5_meldTrees_134 : decode cX5_meldTrees 134 = .ok (.iastore, 1) := by decide +kernel
theorem dX5_meldTrees_135 : decode cX5_meldTrees 135 = .ok (.aload_n 0, 1) := by decide +kernel
theorem dX5_meldTrees_136 : decode cX5_meldTrees 136 = .ok (.iload 6, 2) := by decide +kernel
theorem dX5_meldTrees_138 : decode cX5_meldTrees 138 = .ok (.iload 8, 2) := by decide +kernel
theorem dX5_meldTrees_140 : decode cX5_meldTrees 140 = .ok (.invokevirtual 97, 3) := by decide +kernel
theorem dX5_meldTrees_143 : decode cX5_meldTrees 143 = .ok (.aload_n 0, 1) := by decide +kernel
theorem dX5_meldTrees_144 : decode cX5_meldTrees 144 = .ok (.iload 8, 2) := by decide +kernel
theorem dX5_meldTrees_146 : decode cX5_meldTrees 146 = .ok (.invokevirtual 101, 3) := by decide +kernel
theorem dX5_meldTrees_149 : decode cX5_meldTrees 149 = .ok (.iload 8, 2) := by decide +kernel
theorem dX5_meldTrees_151 : decode cX5_meldTrees 151 = .ok (.istore 6, 2) := by decide +kernel
theorem dX5_meldTrees_153 : decode cX5_meldTrees 153 = .ok (.iinc 7 (-1), 3) := by decide +kernel
theorem dX5_meldTrees_156 : decode cX5_meldTrees 156 = .ok (.goto (-49), 3) := by decide +kernel
theorem dX5_meldTrees_159 : decode cX5_meldTrees 159 = .ok (.aload_n 0, 1) := by decide +kernel
theorem dX5_meldTrees_160 : decode cX5_meldTrees 160 = .ok (.iload 6, 2) := by decide +kernel
theorem dX5_meldTrees_162 : decode cX5_meldTrees 162 = .ok (.iconst (-1), 1) := by decide +kernel
theorem dX5_meldTrees_163 : decode cX5_meldTrees 163 = .ok (.invokevirtual 97, 3) := by decide +kernel
theorem dX5_meldTrees_166 : decode cX5_meldTrees 166 = .ok (.iload 6, 2) := by decide +kernel
theorem dX5_meldTrees_168 : decode cX5_meldTrees 168 = .ok (.ireturn, 1) := by decide +kernel
set_option maxRecDepth 20000 in
theorem ggX5_lay_X5_at : GoodIn wsX5_lay wsX5_at := goodIn_r _ [5] (by decide +kernel) (by decide +kernel)
set_option maxRecDepth 20000 in
theorem gX5_lay_X5_at : GoodIn wsX5_lay (va_wsS RX5 83 yX5_at wsX5_at) := goodIn_app (goodIn_of _ (by decide +kernel)) ggX5_lay_X5_at
theorem dX5_lay_0 : decode cX5_lay 0 = .ok (.iload_n 1, 1) := by decide +kernel
theorem dX5_lay_1 : decode cX5_lay 1 = .ok (.invokestatic 83, 3) := by decide +kernel
theorem dX5_lay_4 : decode cX5_lay 4 = .ok (.istore_n 2, 1) := by decide +kernel
theorem dX5_lay_5 : decode cX5_lay 5 = .ok (.aload_n 0, 1) := by decide +kernel
theorem dX5_lay_6 : decode cX5_lay 6 = .ok (.getfield 13, 3) := by decide +kernel
theorem dX5_lay_9 : decode cX5_lay 9 = .ok (.iload_n 2, 1) := by decide +kernel
theorem dX5_lay_10 : decode cX5_lay 10 = .ok (.iconst 3, 1) := by decide +kernel
theorem dX5_lay_11 : decode cX5_lay 11 = .ok (.iadd, 1) := by decide +kernel
theorem dX5_lay_12 : decode cX5_lay 12 = .ok (.iconst (-1), 1) := by decide +kernel
theorem dX5_lay_13 : decode cX5_lay 13 = .ok (.iastore, 1) := by decide +kernel
theorem dX5_lay_14 : decode cX5_lay 14 = .ok (.aload_n 0, 1) := by decide +kernel
theorem dX5_lay_15 : decode cX5_lay 15 = .ok (.getfield 13, 3) := by decide +kernel
theorem dX5_lay_18 : decode cX5_lay 18 = .ok (.iload_n 2, 1) := by decide +kernel
theorem dX5_lay_19 : decode cX5_lay 19 = .ok (.iconst 4, 1) := by decide +kernel
theorem dX5_lay_20 : decode cX5_lay 20 = .ok (.iadd, 1) := by decide +kernel
theorem dX5_lay_21 : decode cX5_lay 21 = .ok (.iconst (-1), 1) := by decide +kernel
theorem dX5_lay_22 : decode cX5_lay 22 = .ok (.iastore, 1) := by decide +kernel
theorem dX5_lay_23 : decode cX5_lay 23 = .ok (.aload_n 0, 1) := by decide +kernel
theorem dX5_lay_24 : decode cX5_lay 24 = .ok (.getfield 13, 3) := by decide +kernel
theorem dX5_lay_27 : decode cX5_lay 27 = .ok (.iload_n 2, 1) := by decide +kernel
theorem dX5_lay_28 : decode cX5_lay 28 = .ok (.iconst 5, 1) := by decide +kernel
theorem dX5_lay_29 : decode cX5_lay 29 = .ok (.iadd, 1) := by decide +kernel
theorem dX5_lay_30 : decode cX5_lay 30 = .ok (.iconst (-1), 1) := by decide +kernel
theorem dX5_lay_31 : decode cX5_lay 31 = .ok (.iastore, 1) := by decide +kernel
theorem dX5_lay_32 : decode cX5_lay 32 = .ok (.aload_n 0, 1) := by decide +kernel
theorem dX5_lay_33 : decode cX5_lay 33 = .ok (.getfield 13, 3) := by decide +kernel
theorem dX5_lay_36 : decode cX5_lay 36 = .ok (.iload_n 2, 1) := by decide +kernel
theorem dX5_lay_37 : decode cX5_lay 37 = .ok (.bipush 6, 2) := by decide +kernel
theorem dX5_lay_39 : decode cX5_lay 39 = .ok (.iadd, 1) := by decide +kernel
theorem dX5_lay_40 : decode cX5_lay 40 = .ok (.iconst 1, 1) := by decide +kernel
theorem dX5_lay_41 : decode cX5_lay 41 = .ok (.iastore, 1) := by decide +kernel
theorem dX5_lay_42 : decode cX5_lay 42 = .ok (.return_, 1) := by decide +kernel
set_option maxRecDepth 20000 in
theorem ggX5_put_X5_lay : GoodIn wsX5_put wsX5_lay := goodIn_r _ [6, 1, 7, 8, 5, 9, 37, 38, 39, 40, 41, 42, 43, 44, 45, 46, 47, 48, 49, 50, 51, 52, 53, 54, 55, 56, 57, 58, 59, 60, 61, 62, 63] (by decide +kernel) (by decide +kernel)
set_option maxRecDepth 20000 in
theorem gX5_put_X5_lay : GoodIn wsX5_put (wsV RX5 105 RX5 yX5_lay wsX5_lay) := goodIn_app (goodIn_of _ (by decide +kernel)) ggX5_put_X5_lay
set_option maxRecDepth 20000 in
theorem ggX5_put_X5_at : GoodIn wsX5_put wsX5_at := goodIn_r _ [9] (by decide +kernel) (by decide +kernel)
set_option maxRecDepth 20000 in
theorem gX5_put_X5_at : GoodIn wsX5_put (va_wsS RX5 83 yX5_at wsX5_at) := goodIn_app (goodIn_of _ (by decide +kernel)) ggX5_put_X5_at
set_option maxRecDepth 20000 in
theorem ggX5_put_X5_meldTrees : GoodIn wsX5_put wsX5_meldTrees := goodIn_r _ [13, 14, 15, 1, 16, 17, 18, 5, 19, 20, 21, 22, 23, 24, 7, 8, 9, 25, 26, 27, 28, 29, 30, 31, 32, 33, 34, 35, 36, 37, 38, 39, 40, 41, 42, 43, 44, 45, 46, 47, 48, 49, 50, 51, 52, 53, 54, 55, 56, 57, 58, 59, 60, 61, 62, 63] (by decide +kernel) (by decide +kernel)
set_option maxRecDepth 20000 in
theorem gX5_put_X5_meldTrees : GoodIn wsX5_put (wsV RX5 108 RX5 yX5_meldTrees wsX5_meldTrees) := goodIn_app (goodIn_of _ (by decide +kernel)) ggX5_put_X5_meldTrees
theorem dX5_put_0 : decode cX5_put 0 = .ok (.aload_n 0, 1) := by decide +kernel
theorem dX5_put_1 : decode cX5_put 1 = .ok (.iload_n 1, 1) := by decide +kernel
theorem dX5_put_2 : decode cX5_put 2 = .ok (.invokevirtual 105, 3) := by decide +kernel
theorem dX5_put_5 : decode cX5_put 5 = .ok (.aload_n 0, 1) := by decide +kernel
theorem dX5_put_6 : decode cX5_put 6 = .ok (.getfield 13, 3) := by decide +kernel
theorem dX5_put_9 : decode cX5_put 9 = .ok (.iload_n 1, 1) := by decide +kernel
theorem dX5_put_10 : decode cX5_put 10 = .ok (.invokestatic 83, 3) := by decide +kernel
theorem dX5_put_13 : decode cX5_put 13 = .ok (.iconst 1, 1) := by decide +kernel
theorem dX5_put_14 : decode cX5_put 14 = .ok (.iadd, 1) := by decide +kernel
theorem dX5_put_15 : decode cX5_put 15 = .ok (.iload_n 2, 1) := by decide +kernel
theorem dX5_put_16 : decode cX5_put 16 = .ok (.iastore, 1) := by decide +kernel
theorem dX5_put_17 : decode cX5_put 17 = .ok (.aload_n 0, 1) := by decide +kernel
theorem dX5_put_18 : decode cX5_put 18 = .ok (.getfield 13, 3) := by decide +kernel
theorem dX5_put_21 : decode cX5_put 21 = .ok (.iconst 4, 1) := by decide +kernel
theorem dX5_put_22 : decode cX5_put 22 = .ok (.iload_n 2, 1) := by decide +kernel
theorem dX5_put_23 : decode cX5_put 23 = .ok (.iadd, 1) := by decide +kernel
theorem dX5_put_24 : decode cX5_put 24 = .ok (.aload_n 0, 1) := by decide +kernel
theorem dX5_put_25 : decode cX5_put 25 = .ok (.aload_n 0, 1) := by decide +kernel
theorem dX5_put_26 : decode cX5_put 26 = .ok (.getfield 13, 3) := by decide +kernel
theorem dX5_put_29 : decode cX5_put 29 = .ok (.iconst 4, 1) := by decide +kernel
theorem dX5_put_30 : decode cX5_put 30 = .ok (.iload_n 2, 1) := by decide +kernel
theorem dX5_put_31 : decode cX5_put 31 = .ok (.iadd, 1) := by decide +kernel
theorem dX5_put_32 : decode cX5_put 32 = .ok (.iaload, 1) := by decide +kernel
theorem dX5_put_33 : decode cX5_put 33 = .ok (.iload_n 1, 1) := by decide +kernel
theorem dX5_put_34 : decode cX5_put 34 = .ok (.invokevirtual 108, 3) := by decide +kernel
theorem dX5_put_37 : decode cX5_put 37 = .ok (.iastore, 1) := by decide +kernel
theorem dX5_put_38 : decode cX5_put 38 = .ok (.return_, 1) := by decide +kernel
set_option maxRecDepth 20000 in
theorem ggX5_takeRoot_X5_left : GoodIn wsX5_takeRoot wsX5_left := goodIn_r _ [6, 1, 7, 8, 5, 9, 37, 38, 39, 40, 41, 42, 43, 44, 45, 46, 47, 48, 49, 50, 51, 52, 53, 54, 55, 56, 57, 58, 59, 60, 61, 62, 63] (by decide +kernel) (by decide +kernel)
set_option maxRecDepth 20000 in
theorem gX5_takeRoot_X5_left : GoodIn wsX5_takeRoot (wsV RX5 112 RX5 yX5_left wsX5_left) := goodIn_app (goodIn_of _ (by decide +kernel)) ggX5_takeRoot_X5_left
set_option maxRecDepth 20000 in
theorem ggX5_takeRoot_X5_right : GoodIn wsX5_takeRoot wsX5_right := goodIn_r _ [13, 1, 7, 8, 5, 9, 37, 38, 39, 40, 41, 42, 43, 44, 45, 46, 47, 48, 49, 50, 51, 52, 53, 54, 55, 56, 57, 58, 59, 60, 61, 62, 63] (by decide +kernel) (by decide +kernel)
set_option maxRecDepth 20000 in
theorem gX5_takeRoot_X5_right : GoodIn wsX5_takeRoot (wsV RX5 94 RX5 yX5_right wsX5_right) := goodIn_app (goodIn_of _ (by decide +kernel)) ggX5_takeRoot_X5_right
set_option maxRecDepth 20000 in
theorem ggX5_takeRoot_X5_meldTrees : GoodIn wsX5_takeRoot wsX5_meldTrees := goodIn_r _ [17, 18, 19, 1, 20, 21, 22, 5, 23, 24, 10, 11, 12, 13, 7, 8, 9, 25, 26, 27, 28, 29, 30, 31, 32, 33, 34, 35, 36, 37, 38, 39, 40, 41, 42, 43, 44, 45, 46, 47, 48, 49, 50, 51, 52, 53, 54, 55, 56, 57, 58, 59, 60, 61, 62, 63] (by decide +kernel) (by decide +kernel)
set_option maxRecDepth 20000 in
theorem gX5_takeRoot_X5_meldTrees : GoodIn wsX5_takeRoot (wsV RX5 108 RX5 yX5_meldTrees wsX5_meldTrees) := goodIn_app (goodIn_of _ (by decide +kernel)) ggX5_takeRoot_X5_meldTrees
theorem dX5_takeRoot_0 : decode cX5_takeRoot 0 = .ok (.aload_n 0, 1) := by decide +kernel
theorem dX5_takeRoot_1 : decode cX5_takeRoot 1 = .ok (.getfield 13, 3) := by decide +kernel
theorem dX5_takeRoot_4 : decode cX5_takeRoot 4 = .ok (.iconst 4, 1) := by decide +kernel
theorem dX5_takeRoot_5 : decode cX5_takeRoot 5 = .ok (.iload_n 1, 1) := by decide +kernel
theorem dX5_takeRoot_6 : decode cX5_takeRoot 6 = .ok (.iadd, 1) := by decide +kernel
theorem dX5_takeRoot_7 : decode cX5_takeRoot 7 = .ok (.iaload, 1) := by decide +kernel
theorem dX5_takeRoot_8 : decode cX5_takeRoot 8 = .ok (.istore_n 2, 1) := by decide +kernel
theorem dX5_takeRoot_9 : decode cX5_takeRoot 9 = .ok (.aload_n 0, 1) := by decide +kernel
theorem dX5_takeRoot_10 : decode cX5_takeRoot 10 = .ok (.getfield 13, 3) := by decide +kernel
theorem dX5_takeRoot_13 : decode cX5_takeRoot 13 = .ok (.iconst 4, 1) := by decide +kernel
theorem dX5_takeRoot_14 : decode cX5_takeRoot 14 = .ok (.iload_n 1, 1) := by decide +kernel
theorem dX5_takeRoot_15 : decode cX5_takeRoot 15 = .ok (.iadd, 1) := by decide +kernel
theorem dX5_takeRoot_16 : decode cX5_takeRoot 16 = .ok (.aload_n 0, 1) := by decide +kernel
theorem dX5_takeRoot_17 : decode cX5_takeRoot 17 = .ok (.aload_n 0, 1) := by decide +kernel
theorem dX5_takeRoot_18 : decode cX5_takeRoot 18 = .ok (.iload_n 2, 1) := by decide +kernel
theorem dX5_takeRoot_19 : decode cX5_takeRoot 19 = .ok (.invokevirtual 112, 3) := by decide +kernel
theorem dX5_takeRoot_22 : decode cX5_takeRoot 22 = .ok (.aload_n 0, 1) := by decide +kernel
theorem dX5_takeRoot_23 : decode cX5_takeRoot 23 = .ok (.iload_n 2, 1) := by decide +kernel
theorem dX5_takeRoot_24 : decode cX5_takeRoot 24 = .ok (.invokevirtual 94, 3) := by decide +kernel
theorem dX5_takeRoot_27 : decode cX5_takeRoot 27 = .ok (.invokevirtual 108, 3) := by decide +kernel
theorem dX5_takeRoot_30 : decode cX5_takeRoot 30 = .ok (.iastore, 1) := by decide +kernel
theorem dX5_takeRoot_31 : decode cX5_takeRoot 31 = .ok (.iload_n 2, 1) := by decide +kernel
theorem dX5_takeRoot_32 : decode cX5_takeRoot 32 = .ok (.ireturn, 1) := by decide +kernel
set_option maxRecDepth 20000 in
theorem ggX5_goes_X5_at : GoodIn wsX5_goes wsX5_at := goodIn_r _ [5] (by decide +kernel) (by decide +kernel)
set_option maxRecDepth 20000 in
theorem gX5_goes_X5_at : GoodIn wsX5_goes (va_wsS RX5 83 yX5_at wsX5_at) := goodIn_app (goodIn_of _ (by decide +kernel)) ggX5_goes_X5_at
theorem dX5_goes_0 : decode cX5_goes 0 = .ok (.aload_n 0, 1) := by decide +kernel
theorem dX5_goes_1 : decode cX5_goes 1 = .ok (.getfield 13, 3) := by decide +kernel
theorem dX5_goes_4 : decode cX5_goes 4 = .ok (.iload_n 1, 1) := by decide +kernel
theorem dX5_goes_5 : decode cX5_goes 5 = .ok (.invokestatic 83, 3) := by decide +kernel
theorem dX5_goes_8 : decode cX5_goes 8 = .ok (.iconst 1, 1) := by decide +kernel
theorem dX5_goes_9 : decode cX5_goes 9 = .ok (.iadd, 1) := by decide +kernel
theorem dX5_goes_10 : decode cX5_goes 10 = .ok (.iconst (-1), 1) := by decide +kernel
theorem dX5_goes_11 : decode cX5_goes 11 = .ok (.iastore, 1) := by decide +kernel
theorem dX5_goes_12 : decode cX5_goes 12 = .ok (.return_, 1) := by decide +kernel
set_option maxRecDepth 20000 in
theorem ggX5_sweep_X5_at : GoodIn wsX5_sweep wsX5_at := goodIn_r _ [5] (by decide +kernel) (by decide +kernel)
set_option maxRecDepth 20000 in
theorem gX5_sweep_X5_at : GoodIn wsX5_sweep (va_wsS RX5 83 yX5_at wsX5_at) := goodIn_app (goodIn_of _ (by decide +kernel)) ggX5_sweep_X5_at
set_option maxRecDepth 20000 in
theorem ggX5_sweep_X5_takeRoot : GoodIn wsX5_sweep wsX5_takeRoot := goodIn_r _ [9, 1, 10, 11, 12, 4, 13, 2, 3, 5, 14, 15, 16, 17, 18, 19, 20, 21, 22, 23, 24, 25, 26, 27, 28, 29, 30, 31, 32, 33, 34, 35, 36, 37, 38, 39, 40, 45, 46, 47, 48, 49, 50, 51, 52, 53, 54, 55, 56, 57, 58, 59, 60, 61, 62, 63, 64, 65, 66, 67, 68, 69, 70, 71] (by decide +kernel) (by decide +kernel)
set_option maxRecDepth 20000 in
theorem gX5_sweep_X5_takeRoot : GoodIn wsX5_sweep (wsV RX5 115 RX5 yX5_takeRoot wsX5_takeRoot) := goodIn_app (goodIn_of _ (by decide +kernel)) ggX5_sweep_X5_takeRoot
set_option maxRecDepth 20000 in
theorem ggX5_sweep_X5_goes : GoodIn wsX5_sweep wsX5_goes := goodIn_r _ [44, 1, 2, 3, 4, 5, 45, 46, 47, 48, 49, 50, 51, 52, 53, 54, 55, 56, 57, 58, 59, 60, 61, 62, 63, 64, 65, 66, 67, 68, 69, 70, 71] (by decide +kernel) (by decide +kernel)
set_option maxRecDepth 20000 in
theorem gX5_sweep_X5_goes : GoodIn wsX5_sweep (wsV RX5 118 RX5 yX5_goes wsX5_goes) := goodIn_app (goodIn_of _ (by decide +kernel)) ggX5_sweep_X5_goes
theorem dX5_sweep_0 : decode cX5_sweep 0 = .ok (.iconst 0, 1) := by decide +kernel
theorem dX5_sweep_1 : decode cX5_sweep 1 = .ok (.istore_n 1, 1) := by decide +kernel
theorem dX5_sweep_2 : decode cX5_sweep 2 = .ok (.iload_n 1, 1) := by decide +kernel
theorem dX5_sweep_3 : decode cX5_sweep 3 = .ok (.bipush 6, 2) := by decide +kernel
theorem dX5_sweep_5 : decode cX5_sweep 5 = .ok (.if_icmp .ge 65, 3) := by decide +kernel
theorem dX5_sweep_8 : decode cX5_sweep 8 = .ok (.aload_n 0, 1) := by decide +kernel
theorem dX5_sweep_9 : decode cX5_sweep 9 = .ok (.getfield 13, 3) := by decide +kernel
theorem dX5_sweep_12 : decode cX5_sweep 12 = .ok (.iconst 4, 1) := by decide +kernel
theorem dX5_sweep_13 : decode cX5_sweep 13 = .ok (.iload_n 1, 1) := by decide +kernel
theorem dX5_sweep_14 : decode cX5_sweep 14 = .ok (.iadd, 1) := by decide +kernel
theorem dX5_sweep_15 : decode cX5_sweep 15 = .ok (.iaload, 1) := by decide +kernel
theorem dX5_sweep_16 : decode cX5_sweep 16 = .ok (.iconst (-1), 1) := by decide +kernel
theorem dX5_sweep_17 : decode cX5_sweep 17 = .ok (.if_icmp .eq 47, 3) := by decide +kernel
theorem dX5_sweep_20 : decode cX5_sweep 20 = .ok (.aload_n 0, 1) := by decide +kernel
theorem dX5_sweep_21 : decode cX5_sweep 21 = .ok (.getfield 13, 3) := by decide +kernel
theorem dX5_sweep_24 : decode cX5_sweep 24 = .ok (.aload_n 0, 1) := by decide +kernel
theorem dX5_sweep_25 : decode cX5_sweep 25 = .ok (.getfield 13, 3) := by decide +kernel
theorem dX5_sweep_28 : decode cX5_sweep 28 = .ok (.iconst 4, 1) := by decide +kernel
theorem dX5_sweep_29 : decode cX5_sweep 29 = .ok (.iload_n 1, 1) := by decide +kernel
theorem dX5_sweep_30 : decode cX5_sweep 30 = .ok (.iadd, 1) := by decide +kernel
theorem dX5_sweep_31 : decode cX5_sweep 31 = .ok (.iaload, 1) := by decide +kernel
theorem dX5_sweep_32 : decode cX5_sweep 32 = .ok (.invokestatic 83, 3) := by decide +kernel
theorem dX5_sweep_35 : decode cX5_sweep 35 = .ok (.iconst 2, 1) := by decide +kernel
theorem dX5_sweep_36 : decode cX5_sweep 36 = .ok (.iadd, 1) := by decide +kernel
theorem dX5_sweep_37 : decode cX5_sweep 37 = .ok (.iaload, 1) := by decide +kernel
theorem dX5_sweep_38 : decode cX5_sweep 38 = .ok (.iconst 1, 1) := by decide +kernel
theorem dX5_sweep_39 : decode cX5_sweep 39 = .ok (.if_icmp .ne 25, 3) := by decide +kernel
theorem dX5_sweep_42 : decode cX5_sweep 42 = .ok (.aload_n 0, 1) := by decide +kernel
theorem dX5_sweep_43 : decode cX5_sweep 43 = .ok (.aload_n 0, 1) := by decide +kernel
theorem dX5_sweep_44 : decode cX5_sweep 44 = .ok (.iload_n 1, 1) := by decide +kernel
theorem dX5_sweep_45 : decode cX5_sweep 45 = .ok (.invokevirtual 115, 3) := by decide +kernel
theorem dX5_sweep_48 : decode cX5_sweep 48 = .ok (.invokevirtual 118, 3) := by decide +kernel
theorem dX5_sweep_51 : decode cX5_sweep 51 = .ok (.aload_n 0, 1) := by decide +kernel
theorem dX5_sweep_52 : decode cX5_sweep 52 = .ok (.getfield 13, 3) := by decide +kernel
theorem dX5_sweep_55 : decode cX5_sweep 55 = .ok (.iconst 3, 1) := by decide +kernel
theorem dX5_sweep_56 : decode cX5_sweep 56 = .ok (.dup2, 1) := by decide +kernel
theorem dX5_sweep_57 : decode cX5_sweep 57 = .ok (.iaload, 1) := by decide +kernel
theorem dX5_sweep_58 : decode cX5_sweep 58 = .ok (.iconst 1, 1) := by decide +kernel
theorem dX5_sweep_59 : decode cX5_sweep 59 = .ok (.iadd, 1) := by decide +kernel
theorem dX5_sweep_60 : decode cX5_sweep 60 = .ok (.iastore, 1) := by decide +kernel
theorem dX5_sweep_61 : decode cX5_sweep 61 = .ok (.goto (-53), 3) := by decide +kernel
theorem dX5_sweep_64 : decode cX5_sweep 64 = .ok (.iinc 1 1, 3) := by decide +kernel
theorem dX5_sweep_67 : decode cX5_sweep 67 = .ok (.goto (-65), 3) := by decide +kernel
theorem dX5_sweep_70 : decode cX5_sweep 70 = .ok (.return_, 1) := by decide +kernel
set_option maxRecDepth 20000 in
theorem ggX5_cutOut_X5_at : GoodIn wsX5_cutOut wsX5_at := goodIn_r _ [5] (by decide +kernel) (by decide +kernel)
set_option maxRecDepth 20000 in
theorem gX5_cutOut_X5_at : GoodIn wsX5_cutOut (va_wsS RX5 83 yX5_at wsX5_at) := goodIn_app (goodIn_of _ (by decide +kernel)) ggX5_cutOut_X5_at
set_option maxRecDepth 20000 in
theorem ggX5_cutOut_X5_left : GoodIn wsX5_cutOut wsX5_left := goodIn_r _ [9, 1, 2, 3, 4, 5, 37, 38, 39, 40, 41, 42, 43, 44, 45, 46, 47, 48, 49, 50, 51, 52, 53, 54, 55, 56, 57, 58, 59, 60, 61, 62, 63] (by decide +kernel) (by decide +kernel)
set_option maxRecDepth 20000 in
theorem gX5_cutOut_X5_left : GoodIn wsX5_cutOut (wsV RX5 112 RX5 yX5_left wsX5_left) := goodIn_app (goodIn_of _ (by decide +kernel)) ggX5_cutOut_X5_left
set_option maxRecDepth 20000 in
theorem ggX5_cutOut_X5_right : GoodIn wsX5_cutOut wsX5_right := goodIn_r _ [13, 1, 2, 3, 4, 5, 37, 38, 39, 40, 41, 42, 43, 44, 45, 46, 47, 48, 49, 50, 51, 52, 53, 54, 55, 56, 57, 58, 59, 60, 61, 62, 63] (by decide +kernel) (by decide +kernel)
set_option maxRecDepth 20000 in
theorem gX5_cutOut_X5_right : GoodIn wsX5_cutOut (wsV RX5 94 RX5 yX5_right wsX5_right) := goodIn_app (goodIn_of _ (by decide +kernel)) ggX5_cutOut_X5_right
set_option maxRecDepth 20000 in
theorem ggX5_cutOut_X5_meldTrees : GoodIn wsX5_cutOut wsX5_meldTrees := goodIn_r _ [17, 18, 19, 1, 20, 21, 22, 4, 23, 24, 10, 11, 12, 13, 2, 3, 5, 25, 26, 27, 28, 29, 30, 31, 32, 33, 34, 35, 36, 37, 38, 39, 40, 41, 42, 43, 44, 45, 46, 47, 48, 49, 50, 51, 52, 53, 54, 55, 56, 57, 58, 59, 60, 61, 62, 63] (by decide +kernel) (by decide +kernel)
set_option maxRecDepth 20000 in
theorem gX5_cutOut_X5_meldTrees : GoodIn wsX5_cutOut (wsV RX5 108 RX5 yX5_meldTrees wsX5_meldTrees) := goodIn_app (goodIn_of _ (by decide +kernel)) ggX5_cutOut_X5_meldTrees
set_option maxRecDepth 20000 in
theorem ggX5_cutOut_X5_setAbove : GoodIn wsX5_cutOut wsX5_setAbove := goodIn_r _ [28, 1, 2, 3, 4, 5, 37, 38, 39, 40, 41, 42, 43, 44, 45, 46, 47, 48, 49, 50, 51, 52, 53, 54, 55, 56, 57, 58, 59, 60, 61, 62, 63] (by decide +kernel) (by decide +kernel)
set_option maxRecDepth 20000 in
theorem gX5_cutOut_X5_setAbove : GoodIn wsX5_cutOut (wsV RX5 97 RX5 yX5_setAbove wsX5_setAbove) := goodIn_app (goodIn_of _ (by decide +kernel)) ggX5_cutOut_X5_setAbove
set_option maxRecDepth 20000 in
theorem ggX5_cutOut_X5_settle : GoodIn wsX5_cutOut wsX5_settle := goodIn_r _ [32, 1, 2, 3, 4, 5, 33, 34, 35, 36, 37, 38, 39, 40, 41, 42, 43, 44, 45, 46, 47, 48, 49, 50, 51, 52, 53, 54, 55, 56, 57, 58, 59, 60, 61, 62, 63] (by decide +kernel) (by decide +kernel)
set_option maxRecDepth 20000 in
theorem gX5_cutOut_X5_settle : GoodIn wsX5_cutOut (wsV RX5 101 RX5 yX5_settle wsX5_settle) := goodIn_app (goodIn_of _ (by decide +kernel)) ggX5_cutOut_X5_settle
theorem dX5_cutOut_0 : decode cX5_cutOut 0 = .ok (.aload_n 0, 1) := by decide +kernel
theorem dX5_cutOut_1 : decode cX5_cutOut 1 = .ok (.getfield 13, 3) := by decide +kernel
theorem dX5_cutOut_4 : decode cX5_cutOut 4 = .ok (.iload_n 1, 1) := by decide +kernel
theorem dX5_cutOut_5 : decode cX5_cutOut 5 = .ok (.invokestatic 83, 3) := by decide +kernel
theorem dX5_cutOut_8 : decode cX5_cutOut 8 = .ok (.iconst 1, 1) := by decide +kernel
theorem dX5_cutOut_9 : decode cX5_cutOut 9 = .ok (.iadd, 1) := by decide +kernel
theorem dX5_cutOut_10 : decode cX5_cutOut 10 = .ok (.iaload, 1) := by decide +kernel
theorem dX5_cutOut_11 : decode cX5_cutOut 11 = .ok (.istore_n 2, 1) := by decide +kernel
theorem dX5_cutOut_12 : decode cX5_cutOut 12 = .ok (.aload_n 0, 1) := by decide +kernel
theorem dX5_cutOut_13 : decode cX5_cutOut 13 = .ok (.getfield 13, 3) := by decide +kernel
theorem dX5_cutOut_16 : decode cX5_cutOut 16 = .ok (.iload_n 1, 1) := by decide +kernel
theorem dX5_cutOut_17 : decode cX5_cutOut 17 = .ok (.invokestatic 83, 3) := by decide +kernel
theorem dX5_cutOut_20 : decode cX5_cutOut 20 = .ok (.iconst 5, 1) := by decide +kernel
theorem dX5_cutOut_21 : decode cX5_cutOut 21 = .ok (.iadd, 1) := by decide +kernel
theorem dX5_cutOut_22 : decode cX5_cutOut 22 = .ok (.iaload, 1) := by decide +kernel
theorem dX5_cutOut_23 : decode cX5_cutOut 23 = .ok (.istore_n 3, 1) := by decide +kernel
theorem dX5_cutOut_24 : decode cX5_cutOut 24 = .ok (.aload_n 0, 1) := by decide +kernel
theorem dX5_cutOut_25 : decode cX5_cutOut 25 = .ok (.aload_n 0, 1) := by decide +kernel
theorem dX5_cutOut_26 : decode cX5_cutOut 26 = .ok (.iload_n 1, 1) := by decide +kernel
theorem dX5_cutOut_27 : decode cX5_cutOut 27 = .ok (.invokevirtual 112, 3) := by decide +kernel
theorem dX5_cutOut_30 : decode cX5_cutOut 30 = .ok (.aload_n 0, 1) := by decide +kernel
theorem dX5_cutOut_31 : decode cX5_cutOut 31 = .ok (.iload_n 1, 1) := by decide +kernel
theorem dX5_cutOut_32 : decode cX5_cutOut 32 = .ok (.invokevirtual 94, 3) := by decide +kernel
theorem dX5_cutOut_35 : decode cX5_cutOut 35 = .ok (.invokevirtual 108, 3) := by decide +kernel
theorem dX5_cutOut_38 : decode cX5_cutOut 38 = .ok (.istore 4, 2) := by decide +kernel
theorem dX5_cutOut_40 : decode cX5_cutOut 40 = .ok (.iload_n 3, 1) := by decide +kernel
theorem dX5_cutOut_41 : decode cX5_cutOut 41 = .ok (.iconst (-1), 1) := by decide +kernel
theorem dX5_cutOut_42 : decode cX5_cutOut 42 = .ok (.if_icmp .ne 14, 3) := by decide +kernel
theorem dX5_cutOut_45 : decode cX5_cutOut 45 = .ok (.aload_n 0, 1) := by decide +kernel
theorem dX5_cutOut_46 : decode cX5_cutOut 46 = .ok (.getfield 13, 3) := by decide +kernel
theorem dX5_cutOut_49 : decode cX5_cutOut 49 = .ok (.iconst 4, 1) := by decide +kernel
theorem dX5_cutOut_50 : decode cX5_cutOut 50 = .ok (.iload_n 2, 1) := by decide +kernel
theorem dX5_cutOut_51 : decode cX5_cutOut 51 = .ok (.iadd, 1) := by decide +kernel
theorem dX5_cutOut_52 : decode cX5_cutOut 52 = .ok (.iload 4, 2) := by decide +kernel
theorem dX5_cutOut_54 : decode cX5_cutOut 54 = .ok (.iastore, 1) := by decide +kernel
theorem dX5_cutOut_55 : decode cX5_cutOut 55 = .ok (.return_, 1) := by decide +kernel
theorem dX5_cutOut_56 : decode cX5_cutOut 56 = .ok (.aload_n 0, 1) := by decide +kernel
theorem dX5_cutOut_57 : decode cX5_cutOut 57 = .ok (.iload_n 3, 1) := by decide +kernel
theorem dX5_cutOut_58 : decode cX5_cutOut 58 = .ok (.invokevirtual 112, 3) := by decide +kernel
theorem dX5_cutOut_61 : decode cX5_cutOut 61 = .ok (.iload_n 1, 1) := by decide +kernel
theorem dX5_cutOut_62 : decode cX5_cutOut 62 = .ok (.if_icmp .ne 19, 3) := by decide +kernel
theorem dX5_cutOut_65 : decode cX5_cutOut 65 = .ok (.aload_n 0, 1) := by decide +kernel
theorem dX5_cutOut_66 : decode cX5_cutOut 66 = .ok (.getfield 13, 3) := by decide +kernel
theorem dX5_cutOut_69 : decode cX5_cutOut 69 = .ok (.iload_n 3, 1) := by decide +kernel
theorem dX5_cutOut_70 : decode cX5_cutOut 70 = .ok (.invokestatic 83, 3) := by decide +kernel
theorem dX5_cutOut_73 : decode cX5_cutOut 73 = .ok (.iconst 3, 1) := by decide +kernel
theorem dX5_cutOut_74 : decode cX5_cutOut 74 = .ok (.iadd, 1) := by decide +kernel
theorem dX5_cutOut_75 : decode cX5_cutOut 75 = .ok (.iload 4, 2) := by decide +kernel
theorem dX5_cutOut_77 : decode cX5_cutOut 77 = .ok (.iastore, 1) := by decide +kernel
theorem dX5_cutOut_78 : decode cX5_cutOut 78 = .ok (.goto 16, 3) := by decide +kernel
theorem dX5_cutOut_81 : decode cX5_cutOut 81 = .ok (.aload_n 0, 1) := by decide +kernel
theorem dX5_cutOut_82 : decode cX5_cutOut 82 = .ok (.getfield 13, 3) := by decide +kernel
theorem dX5_cutOut_85 : decode cX5_cutOut 85 = .ok (.iload_n 3, 1) := by decide +kernel
theorem dX5_cutOut_86 : decode cX5_cutOut 86 = .ok (.invokestatic 83, 3) := by decide +kernel
theorem dX5_cutOut_89 : decode cX5_cutOut 89 = .ok (.iconst 4, 1) := by decide +kernel
theorem dX5_cutOut_90 : decode cX5_cutOut 90 = .ok (.iadd, 1) := by decide +kernel
theorem dX5_cutOut_91 : decode cX5_cutOut 91 = .ok (.iload 4, 2) := by decide +kernel
theorem dX5_cutOut_93 : decode cX5_cutOut 93 = .ok (.iastore, 1) := by decide +kernel
theorem dX5_cutOut_94 : decode cX5_cutOut 94 = .ok (.aload_n 0, 1) := by decide +kernel
theorem dX5_cutOut_95 : decode cX5_cutOut 95 = .ok (.iload 4, 2) := by decide +kernel
theorem dX5_cutOut_97 : decode cX5_cutOut 97 = .ok (.iload_n 3, 1) := by decide +kernel
theorem dX5_cutOut_98 : decode cX5_cutOut 98 = .ok (.invokevirtual 97, 3) := by decide +kernel
theorem dX5_cutOut_101 : decode cX5_cutOut 101 = .ok (.iload_n 3, 1) := by decide +kernel
theorem dX5_cutOut_102 : decode cX5_cutOut 102 = .ok (.istore 5, 2) := by decide +kernel
theorem dX5_cutOut_104 : decode cX5_cutOut 104 = .ok (.iload 5, 2) := by decide +kernel
theorem dX5_cutOut_106 : decode cX5_cutOut 106 = .ok (.iconst (-1), 1) := by decide +kernel
theorem dX5_cutOut_107 : decode cX5_cutOut 107 = .ok (.if_icmp .eq 26, 3) := by decide +kernel
theorem dX5_cutOut_110 : decode cX5_cutOut 110 = .ok (.aload_n 0, 1) := by decide +kernel
theorem dX5_cutOut_111 : decode cX5_cutOut 111 = .ok (.iload 5, 2) := by decide +kernel
theorem dX5_cutOut_113 : decode cX5_cutOut 113 = .ok (.invokevirtual 101, 3) := by decide +kernel
theorem dX5_cutOut_116 : decode cX5_cutOut 116 = .ok (.aload_n 0, 1) := by decide +kernel
theorem dX5_cutOut_117 : decode cX5_cutOut 117 = .ok (.getfield 13, 3) := by decide +kernel
theorem dX5_cutOut_120 : decode cX5_cutOut 120 = .ok (.iload 5, 2) := by decide +kernel
theorem dX5_cutOut_122 : decode cX5_cutOut 122 = .ok (.invokestatic 83, 3) := by decide +kernel
theorem dX5_cutOut_125 : decode cX5_cutOut 125 = .ok (.iconst 5, 1) := by decide +kernel
theorem dX5_cutOut_126 : decode cX5_cutOut 126 = .ok (.iadd, 1) := by decide +kernel
theorem dX5_cutOut_127 : decode cX5_cutOut 127 = .ok (.iaload, 1) := by decide +kernel
theorem dX5_cutOut_128 : decode cX5_cutOut 128 = .ok (.istore 5, 2) := by decide +kernel
theorem dX5_cutOut_130 : decode cX5_cutOut 130 = .ok (.goto (-26), 3) := by decide +kernel
theorem dX5_cutOut_133 : decode cX5_cutOut 133 = .ok (.return_, 1) := by decide +kernel
set_option maxRecDepth 20000 in
theorem ggX5_many_X5_at : GoodIn wsX5_many wsX5_at := goodIn_r _ [5] (by decide +kernel) (by decide +kernel)
set_option maxRecDepth 20000 in
theorem gX5_many_X5_at : GoodIn wsX5_many (va_wsS RX5 83 yX5_at wsX5_at) := goodIn_app (goodIn_of _ (by decide +kernel)) ggX5_many_X5_at
theorem dX5_many_0 : decode cX5_many 0 = .ok (.iconst 0, 1) := by decide +kernel
theorem dX5_many_1 : decode cX5_many 1 = .ok (.istore_n 3, 1) := by decide +kernel
theorem dX5_many_2 : decode cX5_many 2 = .ok (.iconst 0, 1) := by decide +kernel
theorem dX5_many_3 : decode cX5_many 3 = .ok (.istore 4, 2) := by decide +kernel
theorem dX5_many_5 : decode cX5_many 5 = .ok (.iload 4, 2) := by decide +kernel
theorem dX5_many_7 : decode cX5_many 7 = .ok (.aload_n 0, 1) := by decide +kernel
theorem dX5_many_8 : decode cX5_many 8 = .ok (.getfield 13, 3) := by decide +kernel
theorem dX5_many_11 : decode cX5_many 11 = .ok (.iconst 0, 1) := by decide +kernel
theorem dX5_many_12 : decode cX5_many 12 = .ok (.iaload, 1) := by decide +kernel
theorem dX5_many_13 : decode cX5_many 13 = .ok (.if_icmp .ge 52, 3) := by decide +kernel
theorem dX5_many_16 : decode cX5_many 16 = .ok (.iload_n 3, 1) := by decide +kernel
theorem dX5_many_17 : decode cX5_many 17 = .ok (.aload_n 0, 1) := by decide +kernel
theorem dX5_many_18 : decode cX5_many 18 = .ok (.getfield 13, 3) := by decide +kernel
theorem dX5_many_21 : decode cX5_many 21 = .ok (.iload 4, 2) := by decide +kernel
theorem dX5_many_23 : decode cX5_many 23 = .ok (.invokestatic 83, 3) := by decide +kernel
theorem dX5_many_26 : decode cX5_many 26 = .ok (.iconst 1, 1) := by decide +kernel
theorem dX5_many_27 : decode cX5_many 27 = .ok (.iadd, 1) := by decide +kernel
theorem dX5_many_28 : decode cX5_many 28 = .ok (.iaload, 1) := by decide +kernel
theorem dX5_many_29 : decode cX5_many 29 = .ok (.iload_n 1, 1) := by decide +kernel
theorem dX5_many_30 : decode cX5_many 30 = .ok (.if_icmp .ne 26, 3) := by decide +kernel
theorem dX5_many_33 : decode cX5_many 33 = .ok (.iload_n 2, 1) := by decide +kernel
theorem dX5_many_34 : decode cX5_many 34 = .ok (.ifCond .ne 18, 3) := by decide +kernel
theorem dX5_many_37 : decode cX5_many 37 = .ok (.aload_n 0, 1) := by decide +kernel
theorem dX5_many_38 : decode cX5_many 38 = .ok (.getfield 13, 3) := by decide +kernel
theorem dX5_many_41 : decode cX5_many 41 = .ok (.iload 4, 2) := by decide +kernel
theorem dX5_many_43 : decode cX5_many 43 = .ok (.invokestatic 83, 3) := by decide +kernel
theorem dX5_many_46 : decode cX5_many 46 = .ok (.iconst 2, 1) := by decide +kernel
theorem dX5_many_47 : decode cX5_many 47 = .ok (.iadd, 1) := by decide +kernel
theorem dX5_many_48 : decode cX5_many 48 = .ok (.iaload, 1) := by decide +kernel
theorem dX5_many_49 : decode cX5_many 49 = .ok (.ifCond .ne 7, 3) := by decide +kernel
theorem dX5_many_52 : decode cX5_many 52 = .ok (.iconst 1, 1) := by decide +kernel
theorem dX5_many_53 : decode cX5_many 53 = .ok (.goto 4, 3) := by decide +kernel
theorem dX5_many_56 : decode cX5_many 56 = .ok (.iconst 0, 1) := by decide +kernel
theorem dX5_many_57 : decode cX5_many 57 = .ok (.iadd, 1) := by decide +kernel
theorem dX5_many_58 : decode cX5_many 58 = .ok (.istore_n 3, 1) := by decide +kernel
theorem dX5_many_59 : decode cX5_many 59 = .ok (.iinc 4 1, 3) := by decide +kernel
theorem dX5_many_62 : decode cX5_many 62 = .ok (.goto (-57), 3) := by decide +kernel
theorem dX5_many_65 : decode cX5_many 65 = .ok (.iload_n 3, 1) := by decide +kernel
theorem dX5_many_66 : decode cX5_many 66 = .ok (.ireturn, 1) := by decide +kernel
set_option maxRecDepth 20000 in
theorem ggX5_isKey_X5_in : GoodIn wsX5_isKey wsX5_in := goodIn_r _ [6] (by decide +kernel) (by decide +kernel)
set_option maxRecDepth 20000 in
theorem gX5_isKey_X5_in : GoodIn wsX5_isKey (va_wsS RX5 77 yX5_in wsX5_in) := goodIn_app (goodIn_of _ (by decide +kernel)) ggX5_isKey_X5_in
theorem dX5_isKey_0 : decode cX5_isKey 0 = .ok (.lload_n 0, 1) := by decide +kernel
theorem dX5_isKey_1 : decode cX5_isKey 1 = .ok (.ldc2_w 121, 3) := by decide +kernel
theorem dX5_isKey_4 : decode cX5_isKey 4 = .ok (.ldc2_w 123, 3) := by decide +kernel
theorem dX5_isKey_7 : decode cX5_isKey 7 = .ok (.invokestatic 77, 3) := by decide +kernel
theorem dX5_isKey_10 : decode cX5_isKey 10 = .ok (.ireturn, 1) := by decide +kernel
set_option maxRecDepth 20000 in
theorem ggX5_enter_X5_isDesk : GoodIn wsX5_enter wsX5_isDesk := goodIn_r _ [8, 9, 10, 11, 7, 12] (by decide +kernel) (by decide +kernel)
set_option maxRecDepth 20000 in
theorem gX5_enter_X5_isDesk : GoodIn wsX5_enter (va_wsS RX5 125 yX5_isDesk wsX5_isDesk) := goodIn_app (goodIn_of _ (by decide +kernel)) ggX5_enter_X5_isDesk
set_option maxRecDepth 20000 in
theorem ggX5_enter_X5_isKey : GoodIn wsX5_enter wsX5_isKey := goodIn_r _ [15, 16, 17, 10, 11, 7, 12] (by decide +kernel) (by decide +kernel)
set_option maxRecDepth 20000 in
theorem gX5_enter_X5_isKey : GoodIn wsX5_enter (va_wsS RX5 129 yX5_isKey wsX5_isKey) := goodIn_app (goodIn_of _ (by decide +kernel)) ggX5_enter_X5_isKey
set_option maxRecDepth 20000 in
theorem ggX5_enter_X5_in : GoodIn wsX5_enter wsX5_in := goodIn_r _ [12] (by decide +kernel) (by decide +kernel)
set_option maxRecDepth 20000 in
theorem gX5_enter_X5_in : GoodIn wsX5_enter (va_wsS RX5 77 yX5_in wsX5_in) := goodIn_app (goodIn_of _ (by decide +kernel)) ggX5_enter_X5_in
set_option maxRecDepth 20000 in
theorem ggX5_enter_X5_refuse : GoodIn wsX5_enter wsX5_refuse := goodIn_r _ [21, 22, 76, 77, 78, 79, 80, 81, 82, 83, 84, 85, 86, 87, 88, 89, 90, 91, 92, 93, 94, 95, 96, 97, 98, 99, 100, 101, 102] (by decide +kernel) (by decide +kernel)
set_option maxRecDepth 20000 in
theorem gX5_enter_X5_refuse : GoodIn wsX5_enter (wsV RX5 135 RX5 yX5_refuse wsX5_refuse) := goodIn_app (goodIn_of _ (by decide +kernel)) ggX5_enter_X5_refuse
set_option maxRecDepth 20000 in
theorem ggX5_enter_X5_at : GoodIn wsX5_enter wsX5_at := goodIn_r _ [25] (by decide +kernel) (by decide +kernel)
set_option maxRecDepth 20000 in
theorem gX5_enter_X5_at : GoodIn wsX5_enter (va_wsS RX5 83 yX5_at wsX5_at) := goodIn_app (goodIn_of _ (by decide +kernel)) ggX5_enter_X5_at
set_option maxRecDepth 20000 in
theorem ggX5_enter_X5_put : GoodIn wsX5_enter wsX5_put := goodIn_r _ [29, 3, 30, 31, 32, 7, 33, 23, 24, 25, 34, 35, 36, 37, 38, 39, 40, 41, 42, 43, 4, 44, 45, 46, 47, 48, 49, 50, 51, 52, 53, 54, 55, 56, 57, 58, 59, 76, 77, 78, 79, 80, 81, 82, 83, 84, 85, 86, 87, 88, 89, 90, 91, 92, 93, 94, 95, 96, 97, 98, 99, 100, 101, 102] (by decide +kernel) (by decide +kernel)
set_option maxRecDepth 20000 in
theorem gX5_enter_X5_put : GoodIn wsX5_enter (wsV RX5 138 RX5 yX5_put wsX5_put) := goodIn_app (goodIn_of _ (by decide +kernel)) ggX5_enter_X5_put
set_option maxRecDepth 20000 in
theorem ggX5_enter_X5_sweep : GoodIn wsX5_enter wsX5_sweep := goodIn_r _ [63, 3, 23, 24, 7, 25, 64, 65, 66, 67, 68, 69, 70, 71, 44, 45, 46, 47, 34, 35, 36, 37, 38, 39, 40, 41, 42, 43, 4, 48, 49, 50, 51, 52, 53, 54, 55, 56, 57, 58, 59, 72, 73, 74, 75, 76, 77, 78, 79, 80, 81, 82, 83, 84, 85, 86, 87, 88, 89, 90, 91, 92, 93, 94, 95, 96, 97, 98, 99, 100, 101, 102] (by decide +kernel) (by decide +kernel)
set_option maxRecDepth 20000 in
theorem gX5_enter_X5_sweep : GoodIn wsX5_enter (wsV RX5 141 RX5 yX5_sweep wsX5_sweep) := goodIn_app (goodIn_of _ (by decide +kernel)) ggX5_enter_X5_sweep
theorem dX5_enter_0 : decode cX5_enter 0 = .ok (.aload_n 0, 1) := by decide +kernel
theorem dX5_enter_1 : decode cX5_enter 1 = .ok (.iconst 0, 1) := by decide +kernel
theorem dX5_enter_2 : decode cX5_enter 2 = .ok (.putfield 63, 3) := by decide +kernel
theorem dX5_enter_5 : decode cX5_enter 5 = .ok (.iload_n 1, 1) := by decide +kernel
theorem dX5_enter_6 : decode cX5_enter 6 = .ok (.invokestatic 125, 3) := by decide +kernel
theorem dX5_enter_9 : decode cX5_enter 9 = .ok (.ifCond .eq 23, 3) := by decide +kernel
theorem dX5_enter_12 : decode cX5_enter 12 = .ok (.iload_n 2, 1) := by decide +kernel
theorem dX5_enter_13 : decode cX5_enter 13 = .ok (.i2l, 1) := by decide +kernel
theorem dX5_enter_14 : decode cX5_enter 14 = .ok (.invokestatic 129, 3) := by decide +kernel
theorem dX5_enter_17 : decode cX5_enter 17 = .ok (.ifCond .eq 15, 3) := by decide +kernel
theorem dX5_enter_20 : decode cX5_enter 20 = .ok (.iload_n 3, 1) := by decide +kernel
theorem dX5_enter_21 : decode cX5_enter 21 = .ok (.i2l, 1) := by decide +kernel
theorem dX5_enter_22 : decode cX5_enter 22 = .ok (.lconst 0, 1) := by decide +kernel
theorem dX5_enter_23 : decode cX5_enter 23 = .ok (.ldc2_w 133, 3) := by decide +kernel
theorem dX5_enter_26 : decode cX5_enter 26 = .ok (.invokestatic 77, 3) := by decide +kernel
theorem dX5_enter_29 : decode cX5_enter 29 = .ok (.ifCond .ne 9, 3) := by decide +kernel
theorem dX5_enter_32 : decode cX5_enter 32 = .ok (.aload_n 0, 1) := by decide +kernel
theorem dX5_enter_33 : decode cX5_enter 33 = .ok (.iconst (-1), 1) := by decide +kernel
theorem dX5_enter_34 : decode cX5_enter 34 = .ok (.invokevirtual 135, 3) := by decide +kernel
theorem dX5_enter_37 : decode cX5_enter 37 = .ok (.ireturn, 1) := by decide +kernel
theorem dX5_enter_38 : decode cX5_enter 38 = .ok (.aload_n 0, 1) := by decide +kernel
theorem dX5_enter_39 : decode cX5_enter 39 = .ok (.getfield 13, 3) := by decide +kernel
theorem dX5_enter_42 : decode cX5_enter 42 = .ok (.iconst 0, 1) := by decide +kernel
theorem dX5_enter_43 : decode cX5_enter 43 = .ok (.iaload, 1) := by decide +kernel
theorem dX5_enter_44 : decode cX5_enter 44 = .ok (.istore 4, 2) := by decide +kernel
theorem dX5_enter_46 : decode cX5_enter 46 = .ok (.iload 4, 2) := by decide +kernel
theorem dX5_enter_48 : decode cX5_enter 48 = .ok (.sipush 300, 3) := by decide +kernel
theorem dX5_enter_51 : decode cX5_enter 51 = .ok (.if_icmp .ne 10, 3) := by decide +kernel
theorem dX5_enter_54 : decode cX5_enter 54 = .ok (.aload_n 0, 1) := by decide +kernel
theorem dX5_enter_55 : decode cX5_enter 55 = .ok (.bipush (-5), 2) := by decide +kernel
theorem dX5_enter_57 : decode cX5_enter 57 = .ok (.invokevirtual 135, 3) := by decide +kernel
theorem dX5_enter_60 : decode cX5_enter 60 = .ok (.ireturn, 1) := by decide +kernel
theorem dX5_enter_61 : decode cX5_enter 61 = .ok (.aload_n 0, 1) := by decide +kernel
theorem dX5_enter_62 : decode cX5_enter 62 = .ok (.getfield 13, 3) := by decide +kernel
theorem dX5_enter_65 : decode cX5_enter 65 = .ok (.iload 4, 2) := by decide +kernel
theorem dX5_enter_67 : decode cX5_enter 67 = .ok (.invokestatic 83, 3) := by decide +kernel
theorem dX5_enter_70 : decode cX5_enter 70 = .ok (.iconst 0, 1) := by decide +kernel
theorem dX5_enter_71 : decode cX5_enter 71 = .ok (.iadd, 1) := by decide +kernel
theorem dX5_enter_72 : decode cX5_enter 72 = .ok (.iload_n 3, 1) := by decide +kernel
theorem dX5_enter_73 : decode cX5_enter 73 = .ok (.iastore, 1) := by decide +kernel
theorem dX5_enter_74 : decode cX5_enter 74 = .ok (.aload_n 0, 1) := by decide +kernel
theorem dX5_enter_75 : decode cX5_enter 75 = .ok (.getfield 13, 3) := by decide +kernel
theorem dX5_enter_78 : decode cX5_enter 78 = .ok (.iload 4, 2) := by decide +kernel
theorem dX5_enter_80 : decode cX5_enter 80 = .ok (.invokestatic 83, 3) := by decide +kernel
theorem dX5_enter_83 : decode cX5_enter 83 = .ok (.iconst 2, 1) := by decide +kernel
theorem dX5_enter_84 : decode cX5_enter 84 = .ok (.iadd, 1) := by decide +kernel
theorem dX5_enter_85 : decode cX5_enter 85 = .ok (.iconst 0, 1) := by decide +kernel
theorem dX5_enter_86 : decode cX5_enter 86 = .ok (.iastore, 1) := by decide +kernel
theorem dX5_enter_87 : decode cX5_enter 87 = .ok (.aload_n 0, 1) := by decide +kernel
theorem dX5_enter_88 : decode cX5_enter 88 = .ok (.getfield 16, 3) := by decide +kernel
theorem dX5_enter_91 : decode cX5_enter 91 = .ok (.iload 4, 2) := by decide +kernel
theorem dX5_enter_93 : decode cX5_enter 93 = .ok (.iload_n 2, 1) := by decide +kernel
theorem dX5_enter_94 : decode cX5_enter 94 = .ok (.i2l, 1) := by decide +kernel
theorem dX5_enter_95 : decode cX5_enter 95 = .ok (.lastore, 1) := by decide +kernel
theorem dX5_enter_96 : decode cX5_enter 96 = .ok (.aload_n 0, 1) := by decide +kernel
theorem dX5_enter_97 : decode cX5_enter 97 = .ok (.getfield 13, 3) := by decide +kernel
theorem dX5_enter_100 : decode cX5_enter 100 = .ok (.iconst 0, 1) := by decide +kernel
theorem dX5_enter_101 : decode cX5_enter 101 = .ok (.dup2, 1) := by decide +kernel
theorem dX5_enter_102 : decode cX5_enter 102 = .ok (.iaload, 1) := by decide +kernel
theorem dX5_enter_103 : decode cX5_enter 103 = .ok (.iconst 1, 1) := by decide +kernel
theorem dX5_enter_104 : decode cX5_enter 104 = .ok (.iadd, 1) := by decide +kernel
theorem dX5_enter_105 : decode cX5_enter 105 = .ok (.iastore, 1) := by decide +kernel
theorem dX5_enter_106 : decode cX5_enter 106 = .ok (.aload_n 0, 1) := by decide +kernel
theorem dX5_enter_107 : decode cX5_enter 107 = .ok (.iload 4, 2) := by decide +kernel
theorem dX5_enter_109 : decode cX5_enter 109 = .ok (.iload_n 1, 1) := by decide +kernel
theorem dX5_enter_110 : decode cX5_enter 110 = .ok (.invokevirtual 138, 3) := by decide +kernel
theorem dX5_enter_113 : decode cX5_enter 113 = .ok (.aload_n 0, 1) := by decide +kernel
theorem dX5_enter_114 : decode cX5_enter 114 = .ok (.invokevirtual 141, 3) := by decide +kernel
theorem dX5_enter_117 : decode cX5_enter 117 = .ok (.iload 4, 2) := by decide +kernel
theorem dX5_enter_119 : decode cX5_enter 119 = .ok (.ireturn, 1) := by decide +kernel
set_option maxRecDepth 20000 in
theorem ggX5_dispatch_X5_takeRoot : GoodIn wsX5_dispatch wsX5_takeRoot := goodIn_r _ [7, 1, 8, 9, 10, 6, 11, 12, 13, 14, 15, 16, 17, 18, 19, 20, 21, 22, 23, 24, 25, 26, 27, 28, 2, 29, 30, 31, 32, 33, 34, 35, 36, 37, 38, 39, 40, 49, 50, 51, 52, 53, 54, 55, 56, 57, 58, 59, 60, 61, 62, 63, 64, 65, 66, 67, 68, 69, 70, 71, 72, 73, 74, 75] (by decide +kernel) (by decide +kernel)
set_option maxRecDepth 20000 in
theorem gX5_dispatch_X5_takeRoot : GoodIn wsX5_dispatch (wsV RX5 115 RX5 yX5_takeRoot wsX5_takeRoot) := goodIn_app (goodIn_of _ (by decide +kernel)) ggX5_dispatch_X5_takeRoot
set_option maxRecDepth 20000 in
theorem ggX5_dispatch_X5_goes : GoodIn wsX5_dispatch wsX5_goes := goodIn_r _ [44, 1, 12, 13, 6, 14, 49, 50, 51, 52, 53, 54, 55, 56, 57, 58, 59, 60, 61, 62, 63, 64, 65, 66, 67, 68, 69, 70, 71, 72, 73, 74, 75] (by decide +kernel) (by decide +kernel)
set_option maxRecDepth 20000 in
theorem gX5_dispatch_X5_goes : GoodIn wsX5_dispatch (wsV RX5 118 RX5 yX5_goes wsX5_goes) := goodIn_app (goodIn_of _ (by decide +kernel)) ggX5_dispatch_X5_goes
set_option maxRecDepth 20000 in
theorem ggX5_dispatch_X5_sweep : GoodIn wsX5_dispatch wsX5_sweep := goodIn_r _ [48, 1, 12, 13, 6, 14, 3, 4, 5, 7, 8, 9, 10, 11, 15, 16, 17, 18, 19, 20, 21, 22, 23, 24, 25, 26, 27, 28, 2, 29, 30, 31, 32, 33, 34, 35, 36, 37, 38, 39, 40, 41, 42, 43, 44, 49, 50, 51, 52, 53, 54, 55, 56, 57, 58, 59, 60, 61, 62, 63, 64, 65, 66, 67, 68, 69, 70, 71, 72, 73, 74, 75] (by decide +kernel) (by decide +kernel)
set_option maxRecDepth 20000 in
theorem gX5_dispatch_X5_sweep : GoodIn wsX5_dispatch (wsV RX5 141 RX5 yX5_sweep wsX5_sweep) := goodIn_app (goodIn_of _ (by decide +kernel)) ggX5_dispatch_X5_sweep
theorem dX5_dispatch_0 : decode cX5_dispatch 0 = .ok (.aload_n 0, 1) := by decide +kernel
theorem dX5_dispatch_1 : decode cX5_dispatch 1 = .ok (.iload_n 1, 1) := by decide +kernel
theorem dX5_dispatch_2 : decode cX5_dispatch 2 = .ok (.invokevirtual 115, 3) := by decide +kernel
theorem dX5_dispatch_5 : decode cX5_dispatch 5 = .ok (.istore_n 2, 1) := by decide +kernel
theorem dX5_dispatch_6 : decode cX5_dispatch 6 = .ok (.aload_n 0, 1) := by decide +kernel
theorem dX5_dispatch_7 : decode cX5_dispatch 7 = .ok (.getfield 13, 3) := by decide +kernel
theorem dX5_dispatch_10 : decode cX5_dispatch 10 = .ok (.iconst 2, 1) := by decide +kernel
theorem dX5_dispatch_11 : decode cX5_dispatch 11 = .ok (.iaload, 1) := by decide +kernel
theorem dX5_dispatch_12 : decode cX5_dispatch 12 = .ok (.bipush 40, 2) := by decide +kernel
theorem dX5_dispatch_14 : decode cX5_dispatch 14 = .ok (.if_icmp .ne 103, 3) := by decide +kernel
theorem dX5_dispatch_17 : decode cX5_dispatch 17 = .ok (.aload_n 0, 1) := by decide +kernel
theorem dX5_dispatch_18 : decode cX5_dispatch 18 = .ok (.getfield 13, 3) := by decide +kernel
theorem dX5_dispatch_21 : decode cX5_dispatch 21 = .ok (.iconst 2, 1) := by decide +kernel
theorem dX5_dispatch_22 : decode cX5_dispatch 22 = .ok (.dup2, 1) := by decide +kernel
theorem dX5_dispatch_23 : decode cX5_dispatch 23 = .ok (.iaload, 1) := by decide +kernel
theorem dX5_dispatch_24 : decode cX5_dispatch 24 = .ok (.iconst 1, 1) := by decide +kernel
theorem dX5_dispatch_25 : decode cX5_dispatch 25 = .ok (.isub, 1) := by decide +kernel
theorem dX5_dispatch_26 : decode cX5_dispatch 26 = .ok (.iastore, 1) := by decide +kernel
theorem dX5_dispatch_27 : decode cX5_dispatch 27 = .ok (.iconst 0, 1) := by decide +kernel
theorem dX5_dispatch_28 : decode cX5_dispatch 28 = .ok (.istore_n 3, 1) := by decide +kernel
theorem dX5_dispatch_29 : decode cX5_dispatch 29 = .ok (.iload_n 3, 1) := by decide +kernel
theorem dX5_dispatch_30 : decode cX5_dispatch 30 = .ok (.aload_n 0, 1) := by decide +kernel
theorem dX5_dispatch_31 : decode cX5_dispatch 31 = .ok (.getfield 13, 3) := by decide +kernel
theorem dX5_dispatch_34 : decode cX5_dispatch 34 = .ok (.iconst 2, 1) := by decide +kernel
theorem dX5_dispatch_35 : decode cX5_dispatch 35 = .ok (.iaload, 1) := by decide +kernel
theorem dX5_dispatch_36 : decode cX5_dispatch 36 = .ok (.if_icmp .ge 81, 3) := by decide +kernel
theorem dX5_dispatch_39 : decode cX5_dispatch 39 = .ok (.aload_n 0, 1) := by decide +kernel
theorem dX5_dispatch_40 : decode cX5_dispatch 40 = .ok (.getfield 13, 3) := by decide +kernel
theorem dX5_dispatch_43 : decode cX5_dispatch 43 = .ok (.bipush 70, 2) := by decide +kernel
theorem dX5_dispatch_45 : decode cX5_dispatch 45 = .ok (.iconst 2, 1) := by decide +kernel
theorem dX5_dispatch_46 : decode cX5_dispatch 46 = .ok (.iload_n 3, 1) := by decide +kernel
theorem dX5_dispatch_47 : decode cX5_dispatch 47 = .ok (.imul, 1) := by decide +kernel
theorem dX5_dispatch_48 : decode cX5_dispatch 48 = .ok (.iadd, 1) := by decide +kernel
theorem dX5_dispatch_49 : decode cX5_dispatch 49 = .ok (.aload_n 0, 1) := by decide +kernel
theorem dX5_dispatch_50 : decode cX5_dispatch 50 = .ok (.getfield 13, 3) := by decide +kernel
theorem dX5_dispatch_53 : decode cX5_dispatch 53 = .ok (.bipush 70, 2) := by decide +kernel
theorem dX5_dispatch_55 : decode cX5_dispatch 55 = .ok (.iconst 2, 1) := by decide +kernel
theorem dX5_dispatch_56 : decode cX5_dispatch 56 = .ok (.iload_n 3, 1) := by decide +kernel
theorem dX5_dispatch_57 : decode cX5_dispatch 57 = .ok (.imul, 1) := by decide +kernel
theorem dX5_dispatch_58 : decode cX5_dispatch 58 = .ok (.iadd, 1) := by decide +kernel
theorem dX5_dispatch_59 : decode cX5_dispatch 59 = .ok (.iconst 2, 1) := by decide +kernel
theorem dX5_dispatch_60 : decode cX5_dispatch 60 = .ok (.iadd, 1) := by decide +kernel
theorem dX5_dispatch_61 : decode cX5_dispatch 61 = .ok (.iaload, 1) := by decide +kernel
theorem dX5_dispatch_62 : decode cX5_dispatch 62 = .ok (.iastore, 1) := by decide +kernel
theorem dX5_dispatch_63 : decode cX5_dispatch 63 = .ok (.aload_n 0, 1) := by decide +kernel
theorem dX5_dispatch_64 : decode cX5_dispatch 64 = .ok (.getfield 13, 3) := by decide +kernel
theorem dX5_dispatch_67 : decode cX5_dispatch 67 = .ok (.bipush 70, 2) := by decide +kernel
theorem dX5_dispatch_69 : decode cX5_dispatch 69 = .ok (.iconst 2, 1) := by decide +kernel
theorem dX5_dispatch_70 : decode cX5_dispatch 70 = .ok (.iload_n 3, 1) := by decide +kernel
theorem dX5_dispatch_71 : decode cX5_dispatch 71 = .ok (.imul, 1) := by decide +kernel
theorem dX5_dispatch_72 : decode cX5_dispatch 72 = .ok (.iadd, 1) := by decide +kernel
theorem dX5_dispatch_73 : decode cX5_dispatch 73 = .ok (.iconst 1, 1) := by decide +kernel
theorem dX5_dispatch_74 : decode cX5_dispatch 74 = .ok (.iadd, 1) := by decide +kernel
theorem dX5_dispatch_75 : decode cX5_dispatch 75 = .ok (.aload_n 0, 1) := by decide +kernel
theorem dX5_dispatch_76 : decode cX5_dispatch 76 = .ok (.getfield 13, 3) := by decide +kernel
theorem dX5_dispatch_79 : decode cX5_dispatch 79 = .ok (.bipush 70, 2) := by decide +kernel
theorem dX5_dispatch_81 : decode cX5_dispatch 81 = .ok (.iconst 2, 1) := by decide +kernel
theorem dX5_dispatch_82 : decode cX5_dispatch 82 = .ok (.iload_n 3, 1) := by decide +kernel
theorem dX5_dispatch_83 : decode cX5_dispatch 83 = .ok (.imul, 1) := by decide +kernel
theorem dX5_dispatch_84 : decode cX5_dispatch 84 = .ok (.iadd, 1) := by decide +kernel
theorem dX5_dispatch_85 : decode cX5_dispatch 85 = .ok (.iconst 3, 1) := by decide +kernel
theorem dX5_dispatch_86 : decode cX5_dispatch 86 = .ok (.iadd, 1) := by decide +kernel
theorem dX5_dispatch_87 : decode cX5_dispatch 87 = .ok (.iaload, 1) := by decide +kernel
theorem dX5_dispatch_88 : decode cX5_dispatch 88 = .ok (.iastore, 1) := by decide +kernel
theorem dX5_dispatch_89 : decode cX5_dispatch 89 = .ok (.aload_n 0, 1) := by decide +kernel
theorem dX5_dispatch_90 : decode cX5_dispatch 90 = .ok (.getfield 16, 3) := by decide +kernel
theorem dX5_dispatch_93 : decode cX5_dispatch 93 = .ok (.sipush 300, 3) := by decide +kernel
theorem dX5_dispatch_96 : decode cX5_dispatch 96 = .ok (.iload_n 3, 1) := by decide +kernel
theorem dX5_dispatch_97 : decode cX5_dispatch 97 = .ok (.iadd, 1) := by decide +kernel
theorem dX5_dispatch_98 : decode cX5_dispatch 98 = .ok (.aload_n 0, 1) := by decide +kernel
theorem dX5_dispatch_99 : decode cX5_dispatch 99 = .ok (.getfield 16, 3) := by decide +kernel
theorem dX5_dispatch_102 : decode cX5_dispatch 102 = .ok (.sipush 300, 3) := by decide +kernel
theorem dX5_dispatch_105 : decode cX5_dispatch 105 = .ok (.iload_n 3, 1) := by decide +kernel
theorem dX5_dispatch_106 : decode cX5_dispatch 106 = .ok (.iadd, 1) := by decide +kernel
theorem dX5_dispatch_107 : decode cX5_dispatch 107 = .ok (.iconst 1, 1) := by decide +kernel
theorem dX5_dispatch_108 : decode cX5_dispatch 108 = .ok (.iadd, 1) := by decide +kernel
theorem dX5_dispatch_109 : decode cX5_dispatch 109 = .ok (.laload, 1) := by decide +kernel
theorem dX5_dispatch_110 : decode cX5_dispatch 110 = .ok (.lastore, 1) := by decide +kernel
theorem dX5_dispatch_111 : decode cX5_dispatch 111 = .ok (.iinc 3 1, 3) := by decide +kernel
theorem dX5_dispatch_114 : decode cX5_dispatch 114 = .ok (.goto (-85), 3) := by decide +kernel
theorem dX5_dispatch_117 : decode cX5_dispatch 117 = .ok (.aload_n 0, 1) := by decide +kernel
theorem dX5_dispatch_118 : decode cX5_dispatch 118 = .ok (.getfield 13, 3) := by decide +kernel
theorem dX5_dispatch_121 : decode cX5_dispatch 121 = .ok (.iconst 2, 1) := by decide +kernel
theorem dX5_dispatch_122 : decode cX5_dispatch 122 = .ok (.iaload, 1) := by decide +kernel
theorem dX5_dispatch_123 : decode cX5_dispatch 123 = .ok (.istore_n 3, 1) := by decide +kernel
theorem dX5_dispatch_124 : decode cX5_dispatch 124 = .ok (.aload_n 0, 1) := by decide +kernel
theorem dX5_dispatch_125 : decode cX5_dispatch 125 = .ok (.getfield 13, 3) := by decide +kernel
theorem dX5_dispatch_128 : decode cX5_dispatch 128 = .ok (.bipush 70, 2) := by decide +kernel
theorem dX5_dispatch_130 : decode cX5_dispatch 130 = .ok (.iconst 2, 1) := by decide +kernel
theorem dX5_dispatch_131 : decode cX5_dispatch 131 = .ok (.iload_n 3, 1) := by decide +kernel
theorem dX5_dispatch_132 : decode cX5_dispatch 132 = .ok (.imul, 1) := by decide +kernel
theorem dX5_dispatch_133 : decode cX5_dispatch 133 = .ok (.iadd, 1) := by decide +kernel
theorem dX5_dispatch_134 : decode cX5_dispatch 134 = .ok (.iload_n 2, 1) := by decide +kernel
theorem dX5_dispatch_135 : decode cX5_dispatch 135 = .ok (.iastore, 1) := by decide +kernel
theorem dX5_dispatch_136 : decode cX5_dispatch 136 = .ok (.aload_n 0, 1) := by decide +kernel
theorem dX5_dispatch_137 : decode cX5_dispatch 137 = .ok (.getfield 13, 3) := by decide +kernel
theorem dX5_dispatch_140 : decode cX5_dispatch 140 = .ok (.bipush 70, 2) := by decide +kernel
theorem dX5_dispatch_142 : decode cX5_dispatch 142 = .ok (.iconst 2, 1) := by decide +kernel
theorem dX5_dispatch_143 : decode cX5_dispatch 143 = .ok (.iload_n 3, 1) := by decide +kernel
theorem dX5_dispatch_144 : decode cX5_dispatch 144 = .ok (.imul, 1) := by decide +kernel
theorem dX5_dispatch_145 : decode cX5_dispatch 145 = .ok (.iadd, 1) := by decide +kernel
theorem dX5_dispatch_146 : decode cX5_dispatch 146 = .ok (.iconst 1, 1) := by decide +kernel
theorem dX5_dispatch_147 : decode cX5_dispatch 147 = .ok (.iadd, 1) := by decide +kernel
theorem dX5_dispatch_148 : decode cX5_dispatch 148 = .ok (.iload_n 1, 1) := by decide +kernel
theorem dX5_dispatch_149 : decode cX5_dispatch 149 = .ok (.iastore, 1) := by decide +kernel
theorem dX5_dispatch_150 : decode cX5_dispatch 150 = .ok (.aload_n 0, 1) := by decide +kernel
theorem dX5_dispatch_151 : decode cX5_dispatch 151 = .ok (.getfield 16, 3) := by decide +kernel
theorem dX5_dispatch_154 : decode cX5_dispatch 154 = .ok (.sipush 300, 3) := by decide +kernel
theorem dX5_dispatch_157 : decode cX5_dispatch 157 = .ok (.iload_n 3, 1) := by decide +kernel
theorem dX5_dispatch_158 : decode cX5_dispatch 158 = .ok (.iadd, 1) := by decide +kernel
theorem dX5_dispatch_159 : decode cX5_dispatch 159 = .ok (.aload_n 0, 1) := by decide +kernel
theorem dX5_dispatch_160 : decode cX5_dispatch 160 = .ok (.getfield 16, 3) := by decide +kernel
theorem dX5_dispatch_163 : decode cX5_dispatch 163 = .ok (.iload_n 2, 1) := by decide +kernel
theorem dX5_dispatch_164 : decode cX5_dispatch 164 = .ok (.laload, 1) := by decide +kernel
theorem dX5_dispatch_165 : decode cX5_dispatch 165 = .ok (.lastore, 1) := by decide +kernel
theorem dX5_dispatch_166 : decode cX5_dispatch 166 = .ok (.aload_n 0, 1) := by decide +kernel
theorem dX5_dispatch_167 : decode cX5_dispatch 167 = .ok (.getfield 13, 3) := by decide +kernel
theorem dX5_dispatch_170 : decode cX5_dispatch 170 = .ok (.iconst 2, 1) := by decide +kernel
theorem dX5_dispatch_171 : decode cX5_dispatch 171 = .ok (.dup2, 1) := by decide +kernel
theorem dX5_dispatch_172 : decode cX5_dispatch 172 = .ok (.iaload, 1) := by decide +kernel
theorem dX5_dispatch_173 : decode cX5_dispatch 173 = .ok (.iconst 1, 1) := by decide +kernel
theorem dX5_dispatch_174 : decode cX5_dispatch 174 = .ok (.iadd, 1) := by decide +kernel
theorem dX5_dispatch_175 : decode cX5_dispatch 175 = .ok (.iastore, 1) := by decide +kernel
theorem dX5_dispatch_176 : decode cX5_dispatch 176 = .ok (.aload_n 0, 1) := by decide +kernel
theorem dX5_dispatch_177 : decode cX5_dispatch 177 = .ok (.iload_n 2, 1) := by decide +kernel
theorem dX5_dispatch_178 : decode cX5_dispatch 178 = .ok (.invokevirtual 118, 3) := by decide +kernel
theorem dX5_dispatch_181 : decode cX5_dispatch 181 = .ok (.aload_n 0, 1) := by decide +kernel
theorem dX5_dispatch_182 : decode cX5_dispatch 182 = .ok (.invokevirtual 141, 3) := by decide +kernel
theorem dX5_dispatch_185 : decode cX5_dispatch 185 = .ok (.iload_n 2, 1) := by decide +kernel
theorem dX5_dispatch_186 : decode cX5_dispatch 186 = .ok (.ireturn, 1) := by decide +kernel
set_option maxRecDepth 20000 in
theorem ggX5_take_X5_isDesk : GoodIn wsX5_take wsX5_isDesk := goodIn_r _ [6, 7, 8, 9, 5, 10] (by decide +kernel) (by decide +kernel)
set_option maxRecDepth 20000 in
theorem gX5_take_X5_isDesk : GoodIn wsX5_take (va_wsS RX5 125 yX5_isDesk wsX5_isDesk) := goodIn_app (goodIn_of _ (by decide +kernel)) ggX5_take_X5_isDesk
set_option maxRecDepth 20000 in
theorem ggX5_take_X5_refuse : GoodIn wsX5_take wsX5_refuse := goodIn_r _ [14, 15, 66, 67, 68, 69, 70, 71, 72, 73, 74, 75, 76, 77, 78, 79, 80, 81, 82, 83, 84, 85, 86, 87, 88, 89, 90, 91, 92] (by decide +kernel) (by decide +kernel)
set_option maxRecDepth 20000 in
theorem gX5_take_X5_refuse : GoodIn wsX5_take (wsV RX5 135 RX5 yX5_refuse wsX5_refuse) := goodIn_app (goodIn_of _ (by decide +kernel)) ggX5_take_X5_refuse
set_option maxRecDepth 20000 in
theorem ggX5_take_X5_dispatch : GoodIn wsX5_take wsX5_dispatch := goodIn_r _ [19, 2, 20, 21, 22, 23, 5, 24, 25, 26, 27, 28, 29, 30, 31, 32, 33, 34, 35, 36, 37, 38, 39, 40, 41, 42, 43, 44, 45, 46, 47, 48, 49, 50, 51, 52, 53, 54, 55, 56, 57, 58, 59, 60, 61, 62, 63, 64, 65, 66, 67, 68, 69, 70, 71, 72, 73, 74, 75, 76, 77, 78, 79, 80, 81, 82, 83, 84, 85, 86, 87, 88, 89, 90, 91, 92] (by decide +kernel) (by decide +kernel)
set_option maxRecDepth 20000 in
theorem gX5_take_X5_dispatch : GoodIn wsX5_take (wsV RX5 144 RX5 yX5_dispatch wsX5_dispatch) := goodIn_app (goodIn_of _ (by decide +kernel)) ggX5_take_X5_dispatch
theorem dX5_take_0 : decode cX5_take 0 = .ok (.aload_n 0, 1) := by decide +kernel
theorem dX5_take_1 : decode cX5_take 1 = .ok (.iconst 0, 1) := by decide +kernel
theorem dX5_take_2 : decode cX5_take 2 = .ok (.putfield 63, 3) := by decide +kernel
theorem dX5_take_5 : decode cX5_take 5 = .ok (.iload_n 1, 1) := by decide +kernel
theorem dX5_take_6 : decode cX5_take 6 = .ok (.invokestatic 125, 3) := by decide +kernel
theorem dX5_take_9 : decode cX5_take 9 = .ok (.ifCond .ne 9, 3) := by decide +kernel
theorem dX5_take_12 : decode cX5_take 12 = .ok (.aload_n 0, 1) := by decide +kernel
theorem dX5_take_13 : decode cX5_take 13 = .ok (.iconst (-1), 1) := by decide +kernel
theorem dX5_take_14 : decode cX5_take 14 = .ok (.invokevirtual 135, 3) := by decide +kernel
theorem dX5_take_17 : decode cX5_take 17 = .ok (.ireturn, 1) := by decide +kernel
theorem dX5_take_18 : decode cX5_take 18 = .ok (.aload_n 0, 1) := by decide +kernel
theorem dX5_take_19 : decode cX5_take 19 = .ok (.getfield 13, 3) := by decide +kernel
theorem dX5_take_22 : decode cX5_take 22 = .ok (.iconst 4, 1) := by decide +kernel
theorem dX5_take_23 : decode cX5_take 23 = .ok (.iload_n 1, 1) := by decide +kernel
theorem dX5_take_24 : decode cX5_take 24 = .ok (.iadd, 1) := by decide +kernel
theorem dX5_take_25 : decode cX5_take 25 = .ok (.iaload, 1) := by decide +kernel
theorem dX5_take_26 : decode cX5_take 26 = .ok (.iconst (-1), 1) := by decide +kernel
theorem dX5_take_27 : decode cX5_take 27 = .ok (.if_icmp .ne 12, 3) := by decide +kernel
theorem dX5_take_30 : decode cX5_take 30 = .ok (.aload_n 0, 1) := by decide +kernel
theorem dX5_take_31 : decode cX5_take 31 = .ok (.bipush (-3), 2) := by decide +kernel
theorem dX5_take_33 : decode cX5_take 33 = .ok (.invokevirtual 135, 3) := by decide +kernel
theorem dX5_take_36 : decode cX5_take 36 = .ok (.goto 8, 3) := by decide +kernel
theorem dX5_take_39 : decode cX5_take 39 = .ok (.aload_n 0, 1) := by decide +kernel
theorem dX5_take_40 : decode cX5_take 40 = .ok (.iload_n 1, 1) := by decide +kernel
theorem dX5_take_41 : decode cX5_take 41 = .ok (.invokevirtual 144, 3) := by decide +kernel
theorem dX5_take_44 : decode cX5_take 44 = .ok (.ireturn, 1) := by decide +kernel
set_option maxRecDepth 20000 in
theorem ggX5_turns_X5_dispatch : GoodIn wsX5_turns wsX5_dispatch := goodIn_r _ [6, 1, 7, 8, 9, 10, 5, 11, 12, 13, 14, 15, 16, 17, 18, 19, 20, 21, 22, 23, 24, 25, 26, 27, 28, 29, 30, 31, 32, 33, 34, 35, 36, 37, 38, 39, 40, 41, 42, 43, 44, 45, 46, 47, 48, 49, 50, 51, 52, 53, 54, 55, 56, 57, 58, 59, 60, 61, 62, 63, 64, 65, 66, 67, 68, 69, 70, 71, 72, 73, 74, 75, 76, 77, 78, 79] (by decide +kernel) (by decide +kernel)
set_option maxRecDepth 20000 in
theorem gX5_turns_X5_dispatch : GoodIn wsX5_turns (wsV RX5 144 RX5 yX5_dispatch wsX5_dispatch) := goodIn_app (goodIn_of _ (by decide +kernel)) ggX5_turns_X5_dispatch
theorem dX5_turns_0 : decode cX5_turns 0 = .ok (.aload_n 0, 1) := by decide +kernel
theorem dX5_turns_1 : decode cX5_turns 1 = .ok (.getfield 13, 3) := by decide +kernel
theorem dX5_turns_4 : decode cX5_turns 4 = .ok (.iconst 1, 1) := by decide +kernel
theorem dX5_turns_5 : decode cX5_turns 5 = .ok (.iaload, 1) := by decide +kernel
theorem dX5_turns_6 : decode cX5_turns 6 = .ok (.istore_n 1, 1) := by decide +kernel
theorem dX5_turns_7 : decode cX5_turns 7 = .ok (.aload_n 0, 1) := by decide +kernel
theorem dX5_turns_8 : decode cX5_turns 8 = .ok (.getfield 13, 3) := by decide +kernel
theorem dX5_turns_11 : decode cX5_turns 11 = .ok (.iconst 1, 1) := by decide +kernel
theorem dX5_turns_12 : decode cX5_turns 12 = .ok (.iload_n 1, 1) := by decide +kernel
theorem dX5_turns_13 : decode cX5_turns 13 = .ok (.iconst 1, 1) := by decide +kernel
theorem dX5_turns_14 : decode cX5_turns 14 = .ok (.iadd, 1) := by decide +kernel
theorem dX5_turns_15 : decode cX5_turns 15 = .ok (.bipush 6, 2) := by decide +kernel
theorem dX5_turns_17 : decode cX5_turns 17 = .ok (.irem, 1) := by decide +kernel
theorem dX5_turns_18 : decode cX5_turns 18 = .ok (.iastore, 1) := by decide +kernel
theorem dX5_turns_19 : decode cX5_turns 19 = .ok (.aload_n 0, 1) := by decide +kernel
theorem dX5_turns_20 : decode cX5_turns 20 = .ok (.getfield 13, 3) := by decide +kernel
theorem dX5_turns_23 : decode cX5_turns 23 = .ok (.iconst 4, 1) := by decide +kernel
theorem dX5_turns_24 : decode cX5_turns 24 = .ok (.iload_n 1, 1) := by decide +kernel
theorem dX5_turns_25 : decode cX5_turns 25 = .ok (.iadd, 1) := by decide +kernel
theorem dX5_turns_26 : decode cX5_turns 26 = .ok (.iaload, 1) := by decide +kernel
theorem dX5_turns_27 : decode cX5_turns 27 = .ok (.iconst (-1), 1) := by decide +kernel
theorem dX5_turns_28 : decode cX5_turns 28 = .ok (.if_icmp .ne 7, 3) := by decide +kernel
theorem dX5_turns_31 : decode cX5_turns 31 = .ok (.iconst (-1), 1) := by decide +kernel
theorem dX5_turns_32 : decode cX5_turns 32 = .ok (.goto 8, 3) := by decide +kernel
theorem dX5_turns_35 : decode cX5_turns 35 = .ok (.aload_n 0, 1) := by decide +kernel
theorem dX5_turns_36 : decode cX5_turns 36 = .ok (.iload_n 1, 1) := by decide +kernel
theorem dX5_turns_37 : decode cX5_turns 37 = .ok (.invokevirtual 144, 3) := by decide +kernel
theorem dX5_turns_40 : decode cX5_turns 40 = .ok (.ireturn, 1) := by decide +kernel
set_option maxRecDepth 20000 in
theorem ggX5_round_X5_in : GoodIn wsX5_round wsX5_in := goodIn_r _ [6] (by decide +kernel) (by decide +kernel)
set_option maxRecDepth 20000 in
theorem gX5_round_X5_in : GoodIn wsX5_round (va_wsS RX5 77 yX5_in wsX5_in) := goodIn_app (goodIn_of _ (by decide +kernel)) ggX5_round_X5_in
set_option maxRecDepth 20000 in
theorem ggX5_round_X5_refuse : GoodIn wsX5_round wsX5_refuse := goodIn_r _ [10, 11, 67, 68, 69, 70, 71, 72, 73, 74, 75, 76, 77, 78, 79, 80, 81, 82, 83, 84, 85, 86, 87, 88, 89, 90, 91, 92, 93] (by decide +kernel) (by decide +kernel)
set_option maxRecDepth 20000 in
theorem gX5_round_X5_refuse : GoodIn wsX5_round (wsV RX5 135 RX5 yX5_refuse wsX5_refuse) := goodIn_app (goodIn_of _ (by decide +kernel)) ggX5_round_X5_refuse
set_option maxRecDepth 20000 in
theorem ggX5_round_X5_turns : GoodIn wsX5_round wsX5_turns := goodIn_r _ [15, 16, 17, 18, 19, 5, 20, 21, 22, 23, 24, 25, 26, 27, 28, 29, 30, 31, 32, 33, 34, 35, 36, 37, 38, 39, 40, 41, 42, 43, 44, 45, 46, 47, 48, 49, 50, 51, 52, 53, 54, 55, 56, 57, 58, 59, 60, 61, 62, 63, 64, 65, 66, 67, 68, 69, 70, 71, 72, 73, 74, 75, 76, 77, 78, 79, 80, 81, 82, 83, 84, 85, 86, 87, 88, 89, 90, 91, 92, 93] (by decide +kernel) (by decide +kernel)
set_option maxRecDepth 20000 in
theorem gX5_round_X5_turns : GoodIn wsX5_round (wsV RX5 149 RX5 yX5_turns wsX5_turns) := goodIn_app (goodIn_of _ (by decide +kernel)) ggX5_round_X5_turns
theorem dX5_round_0 : decode cX5_round 0 = .ok (.aload_n 0, 1) := by decide +kernel
theorem dX5_round_1 : decode cX5_round 1 = .ok (.iconst 0, 1) := by decide +kernel
theorem dX5_round_2 : decode cX5_round 2 = .ok (.putfield 63, 3) := by decide +kernel
theorem dX5_round_5 : decode cX5_round 5 = .ok (.iload_n 1, 1) := by decide +kernel
theorem dX5_round_6 : decode cX5_round 6 = .ok (.i2l, 1) := by decide +kernel
theorem dX5_round_7 : decode cX5_round 7 = .ok (.lconst 1, 1) := by decide +kernel
theorem dX5_round_8 : decode cX5_round 8 = .ok (.ldc2_w 147, 3) := by decide +kernel
theorem dX5_round_11 : decode cX5_round 11 = .ok (.invokestatic 77, 3) := by decide +kernel
theorem dX5_round_14 : decode cX5_round 14 = .ok (.ifCond .ne 9, 3) := by decide +kernel
theorem dX5_round_17 : decode cX5_round 17 = .ok (.aload_n 0, 1) := by decide +kernel
theorem dX5_round_18 : decode cX5_round 18 = .ok (.iconst (-1), 1) := by decide +kernel
theorem dX5_round_19 : decode cX5_round 19 = .ok (.invokevirtual 135, 3) := by decide +kernel
theorem dX5_round_22 : decode cX5_round 22 = .ok (.ireturn, 1) := by decide +kernel
theorem dX5_round_23 : decode cX5_round 23 = .ok (.iconst 0, 1) := by decide +kernel
theorem dX5_round_24 : decode cX5_round 24 = .ok (.istore_n 2, 1) := by decide +kernel
theorem dX5_round_25 : decode cX5_round 25 = .ok (.iconst 0, 1) := by decide +kernel
theorem dX5_round_26 : decode cX5_round 26 = .ok (.istore_n 3, 1) := by decide +kernel
theorem dX5_round_27 : decode cX5_round 27 = .ok (.iload_n 3, 1) := by decide +kernel
theorem dX5_round_28 : decode cX5_round 28 = .ok (.iload_n 1, 1) := by decide +kernel
theorem dX5_round_29 : decode cX5_round 29 = .ok (.if_icmp .ge 25, 3) := by decide +kernel
theorem dX5_round_32 : decode cX5_round 32 = .ok (.iload_n 2, 1) := by decide +kernel
theorem dX5_round_33 : decode cX5_round 33 = .ok (.aload_n 0, 1) := by decide +kernel
theorem dX5_round_34 : decode cX5_round 34 = .ok (.invokevirtual 149, 3) := by decide +kernel
theorem dX5_round_37 : decode cX5_round 37 = .ok (.iconst (-1), 1) := by decide +kernel
theorem dX5_round_38 : decode cX5_round 38 = .ok (.if_icmp .ne 7, 3) := by decide +kernel
theorem dX5_round_41 : decode cX5_round 41 = .ok (.iconst 0, 1) := by decide +kernel
theorem dX5_round_42 : decode cX5_round 42 = .ok (.goto 4, 3) := by decide +kernel
theorem dX5_round_45 : decode cX5_round 45 = .ok (.iconst 1, 1) := by decide +kernel
theorem dX5_round_46 : decode cX5_round 46 = .ok (.iadd, 1) := by decide +kernel
theorem dX5_round_47 : decode cX5_round 47 = .ok (.istore_n 2, 1) := by decide +kernel
theorem dX5_round_48 : decode cX5_round 48 = .ok (.iinc 3 1, 3) := by decide +kernel
theorem dX5_round_51 : decode cX5_round 51 = .ok (.goto (-24), 3) := by decide +kernel
theorem dX5_round_54 : decode cX5_round 54 = .ok (.iload_n 2, 1) := by decide +kernel
theorem dX5_round_55 : decode cX5_round 55 = .ok (.ireturn, 1) := by decide +kernel
set_option maxRecDepth 20000 in
theorem ggX5_crosses_X5_isItem : GoodIn wsX5_crosses wsX5_isItem := goodIn_r _ [6, 1, 7, 8, 5, 9, 10, 11, 12, 65, 66, 67, 68, 69, 70, 71, 72, 73, 74, 75, 76, 77, 78, 79, 80, 81, 82, 83, 84, 85, 86, 87, 88, 89, 90, 91] (by decide +kernel) (by decide +kernel)
set_option maxRecDepth 20000 in
theorem gX5_crosses_X5_isItem : GoodIn wsX5_crosses (wsV RX5 153 RX5 yX5_isItem wsX5_isItem) := goodIn_app (goodIn_of _ (by decide +kernel)) ggX5_crosses_X5_isItem
set_option maxRecDepth 20000 in
theorem ggX5_crosses_X5_refuse : GoodIn wsX5_crosses wsX5_refuse := goodIn_r _ [16, 17, 65, 66, 67, 68, 69, 70, 71, 72, 73, 74, 75, 76, 77, 78, 79, 80, 81, 82, 83, 84, 85, 86, 87, 88, 89, 90, 91] (by decide +kernel) (by decide +kernel)
set_option maxRecDepth 20000 in
theorem gX5_crosses_X5_refuse : GoodIn wsX5_crosses (wsV RX5 135 RX5 yX5_refuse wsX5_refuse) := goodIn_app (goodIn_of _ (by decide +kernel)) ggX5_crosses_X5_refuse
set_option maxRecDepth 20000 in
theorem ggX5_crosses_X5_at : GoodIn wsX5_crosses wsX5_at := goodIn_r _ [12] (by decide +kernel) (by decide +kernel)
set_option maxRecDepth 20000 in
theorem gX5_crosses_X5_at : GoodIn wsX5_crosses (va_wsS RX5 83 yX5_at wsX5_at) := goodIn_app (goodIn_of _ (by decide +kernel)) ggX5_crosses_X5_at
set_option maxRecDepth 20000 in
theorem ggX5_crosses_X5_sweep : GoodIn wsX5_crosses wsX5_sweep := goodIn_r _ [21, 1, 10, 11, 5, 12, 22, 23, 24, 25, 26, 27, 28, 29, 30, 31, 32, 33, 34, 35, 36, 37, 38, 39, 40, 41, 42, 43, 44, 45, 46, 47, 48, 49, 50, 51, 52, 53, 54, 55, 56, 57, 58, 59, 60, 65, 66, 67, 68, 69, 70, 71, 72, 73, 74, 75, 76, 77, 78, 79, 80, 81, 82, 83, 84, 85, 86, 87, 88, 89, 90, 91] (by decide +kernel) (by decide +kernel)
set_option maxRecDepth 20000 in
theorem gX5_crosses_X5_sweep : GoodIn wsX5_crosses (wsV RX5 141 RX5 yX5_sweep wsX5_sweep) := goodIn_app (goodIn_of _ (by decide +kernel)) ggX5_crosses_X5_sweep
set_option maxRecDepth 20000 in
theorem ggX5_crosses_X5_many : GoodIn wsX5_crosses wsX5_many := goodIn_r _ [64, 1, 10, 11, 5, 12, 65, 66, 67, 68, 69, 70, 71, 72, 73, 74, 75, 76, 77, 78, 79, 80, 81, 82, 83, 84, 85, 86, 87, 88, 89, 90, 91] (by decide +kernel) (by decide +kernel)
set_option maxRecDepth 20000 in
theorem gX5_crosses_X5_many : GoodIn wsX5_crosses (wsV RX5 156 RX5 yX5_many wsX5_many) := goodIn_app (goodIn_of _ (by decide +kernel)) ggX5_crosses_X5_many
theorem dX5_crosses_0 : decode cX5_crosses 0 = .ok (.aload_n 0, 1) := by decide +kernel
theorem dX5_crosses_1 : decode cX5_crosses 1 = .ok (.iload_n 1, 1) := by decide +kernel
theorem dX5_crosses_2 : decode cX5_crosses 2 = .ok (.invokevirtual 153, 3) := by decide +kernel
theorem dX5_crosses_5 : decode cX5_crosses 5 = .ok (.ifCond .ne 10, 3) := by decide +kernel
theorem dX5_crosses_8 : decode cX5_crosses 8 = .ok (.aload_n 0, 1) := by decide +kernel
theorem dX5_crosses_9 : decode cX5_crosses 9 = .ok (.bipush (-2), 2) := by decide +kernel
theorem dX5_crosses_11 : decode cX5_crosses 11 = .ok (.invokevirtual 135, 3) := by decide +kernel
theorem dX5_crosses_14 : decode cX5_crosses 14 = .ok (.ireturn, 1) := by decide +kernel
theorem dX5_crosses_15 : decode cX5_crosses 15 = .ok (.aload_n 0, 1) := by decide +kernel
theorem dX5_crosses_16 : decode cX5_crosses 16 = .ok (.getfield 13, 3) := by decide +kernel
theorem dX5_crosses_19 : decode cX5_crosses 19 = .ok (.iload_n 1, 1) := by decide +kernel
theorem dX5_crosses_20 : decode cX5_crosses 20 = .ok (.invokestatic 83, 3) := by decide +kernel
theorem dX5_crosses_23 : decode cX5_crosses 23 = .ok (.iconst 2, 1) := by decide +kernel
theorem dX5_crosses_24 : decode cX5_crosses 24 = .ok (.iadd, 1) := by decide +kernel
theorem dX5_crosses_25 : decode cX5_crosses 25 = .ok (.iaload, 1) := by decide +kernel
theorem dX5_crosses_26 : decode cX5_crosses 26 = .ok (.iload_n 2, 1) := by decide +kernel
theorem dX5_crosses_27 : decode cX5_crosses 27 = .ok (.if_icmp .ne 10, 3) := by decide +kernel
theorem dX5_crosses_30 : decode cX5_crosses 30 = .ok (.aload_n 0, 1) := by decide +kernel
theorem dX5_crosses_31 : decode cX5_crosses 31 = .ok (.bipush (-4), 2) := by decide +kernel
theorem dX5_crosses_33 : decode cX5_crosses 33 = .ok (.invokevirtual 135, 3) := by decide +kernel
theorem dX5_crosses_36 : decode cX5_crosses 36 = .ok (.ireturn, 1) := by decide +kernel
theorem dX5_crosses_37 : decode cX5_crosses 37 = .ok (.aload_n 0, 1) := by decide +kernel
theorem dX5_crosses_38 : decode cX5_crosses 38 = .ok (.getfield 13, 3) := by decide +kernel
theorem dX5_crosses_41 : decode cX5_crosses 41 = .ok (.iload_n 1, 1) := by decide +kernel
theorem dX5_crosses_42 : decode cX5_crosses 42 = .ok (.invokestatic 83, 3) := by decide +kernel
theorem dX5_crosses_45 : decode cX5_crosses 45 = .ok (.iconst 1, 1) := by decide +kernel
theorem dX5_crosses_46 : decode cX5_crosses 46 = .ok (.iadd, 1) := by decide +kernel
theorem dX5_crosses_47 : decode cX5_crosses 47 = .ok (.iaload, 1) := by decide +kernel
theorem dX5_crosses_48 : decode cX5_crosses 48 = .ok (.istore_n 3, 1) := by decide +kernel
theorem dX5_crosses_49 : decode cX5_crosses 49 = .ok (.aload_n 0, 1) := by decide +kernel
theorem dX5_crosses_50 : decode cX5_crosses 50 = .ok (.getfield 13, 3) := by decide +kernel
theorem dX5_crosses_53 : decode cX5_crosses 53 = .ok (.iload_n 1, 1) := by decide +kernel
theorem dX5_crosses_54 : decode cX5_crosses 54 = .ok (.invokestatic 83, 3) := by decide +kernel
theorem dX5_crosses_57 : decode cX5_crosses 57 = .ok (.iconst 2, 1) := by decide +kernel
theorem dX5_crosses_58 : decode cX5_crosses 58 = .ok (.iadd, 1) := by decide +kernel
theorem dX5_crosses_59 : decode cX5_crosses 59 = .ok (.iload_n 2, 1) := by decide +kernel
theorem dX5_crosses_60 : decode cX5_crosses 60 = .ok (.iastore, 1) := by decide +kernel
theorem dX5_crosses_61 : decode cX5_crosses 61 = .ok (.aload_n 0, 1) := by decide +kernel
theorem dX5_crosses_62 : decode cX5_crosses 62 = .ok (.invokevirtual 141, 3) := by decide +kernel
theorem dX5_crosses_65 : decode cX5_crosses 65 = .ok (.aload_n 0, 1) := by decide +kernel
theorem dX5_crosses_66 : decode cX5_crosses 66 = .ok (.iload_n 3, 1) := by decide +kernel
theorem dX5_crosses_67 : decode cX5_crosses 67 = .ok (.iconst 0, 1) := by decide +kernel
theorem dX5_crosses_68 : decode cX5_crosses 68 = .ok (.invokevirtual 156, 3) := by decide +kernel
theorem dX5_crosses_71 : decode cX5_crosses 71 = .ok (.ireturn, 1) := by decide +kernel
set_option maxRecDepth 20000 in
theorem ggX5_cross_X5_crosses : GoodIn wsX5_cross wsX5_crosses := goodIn_r _ [6, 7, 8, 9, 10, 5, 11, 12, 13, 14, 15, 16, 17, 18, 19, 20, 21, 22, 23, 24, 25, 26, 27, 28, 29, 30, 31, 32, 33, 34, 35, 36, 37, 38, 39, 40, 41, 42, 43, 44, 45, 46, 47, 48, 49, 50, 51, 52, 53, 54, 55, 56, 57, 58, 59, 60, 61, 62, 63, 64, 65, 66, 67, 68, 69, 70, 71, 72, 73, 74, 75, 76, 77, 78, 79, 80, 81, 82, 83, 84, 85, 86, 87, 88, 89, 90, 91, 92, 93, 94, 95, 96] (by decide +kernel) (by decide +kernel)
set_option maxRecDepth 20000 in
theorem gX5_cross_X5_crosses : GoodIn wsX5_cross (wsV RX5 160 RX5 yX5_crosses wsX5_crosses) := goodIn_app (goodIn_of _ (by decide +kernel)) ggX5_cross_X5_crosses
theorem dX5_cross_0 : decode cX5_cross 0 = .ok (.aload_n 0, 1) := by decide +kernel
theorem dX5_cross_1 : decode cX5_cross 1 = .ok (.iconst 0, 1) := by decide +kernel
theorem dX5_cross_2 : decode cX5_cross 2 = .ok (.putfield 63, 3) := by decide +kernel
theorem dX5_cross_5 : decode cX5_cross 5 = .ok (.aload_n 0, 1) := by decide +kernel
theorem dX5_cross_6 : decode cX5_cross 6 = .ok (.iload_n 1, 1) := by decide +kernel
theorem dX5_cross_7 : decode cX5_cross 7 = .ok (.iconst 1, 1) := by decide +kernel
theorem dX5_cross_8 : decode cX5_cross 8 = .ok (.invokevirtual 160, 3) := by decide +kernel
theorem dX5_cross_11 : decode cX5_cross 11 = .ok (.ireturn, 1) := by decide +kernel
set_option maxRecDepth 20000 in
theorem ggX5_uncross_X5_crosses : GoodIn wsX5_uncross wsX5_crosses := goodIn_r _ [6, 7, 8, 9, 10, 5, 11, 12, 13, 14, 15, 16, 17, 18, 19, 20, 21, 22, 23, 24, 25, 26, 27, 28, 29, 30, 31, 32, 33, 34, 35, 36, 37, 38, 39, 40, 41, 42, 43, 44, 45, 46, 47, 48, 49, 50, 51, 52, 53, 54, 55, 56, 57, 58, 59, 60, 61, 62, 63, 64, 65, 66, 67, 68, 69, 70, 71, 72, 73, 74, 75, 76, 77, 78, 79, 80, 81, 82, 83, 84, 85, 86, 87, 88, 89, 90, 91, 92, 93, 94, 95, 96] (by decide +kernel) (by decide +kernel)
set_option maxRecDepth 20000 in
theorem gX5_uncross_X5_crosses : GoodIn wsX5_uncross (wsV RX5 160 RX5 yX5_crosses wsX5_crosses) := goodIn_app (goodIn_of _ (by decide +kernel)) ggX5_uncross_X5_crosses
theorem dX5_uncross_0 : decode cX5_uncross 0 = .ok (.aload_n 0, 1) := by decide +kernel
theorem dX5_uncross_1 : decode cX5_uncross 1 = .ok (.iconst 0, 1) := by decide +kernel
theorem dX5_uncross_2 : decode cX5_uncross 2 = .ok (.putfield 63, 3) := by decide +kernel
theorem dX5_uncross_5 : decode cX5_uncross 5 = .ok (.aload_n 0, 1) := by decide +kernel
theorem dX5_uncross_6 : decode cX5_uncross 6 = .ok (.iload_n 1, 1) := by decide +kernel
theorem dX5_uncross_7 : decode cX5_uncross 7 = .ok (.iconst 0, 1) := by decide +kernel
theorem dX5_uncross_8 : decode cX5_uncross 8 = .ok (.invokevirtual 160, 3) := by decide +kernel
theorem dX5_uncross_11 : decode cX5_uncross 11 = .ok (.ireturn, 1) := by decide +kernel
set_option maxRecDepth 20000 in
theorem ggX5_cut_X5_isItem : GoodIn wsX5_cut wsX5_isItem := goodIn_r _ [7, 2, 8, 9, 6, 10, 11, 12, 13, 70, 71, 72, 73, 74, 75, 76, 77, 78, 79, 80, 81, 82, 83, 84, 85, 86, 87, 88, 89, 90, 91, 92, 93, 94, 95, 96] (by decide +kernel) (by decide +kernel)
set_option maxRecDepth 20000 in
theorem gX5_cut_X5_isItem : GoodIn wsX5_cut (wsV RX5 153 RX5 yX5_isItem wsX5_isItem) := goodIn_app (goodIn_of _ (by decide +kernel)) ggX5_cut_X5_isItem
set_option maxRecDepth 20000 in
theorem ggX5_cut_X5_refuse : GoodIn wsX5_cut wsX5_refuse := goodIn_r _ [17, 18, 70, 71, 72, 73, 74, 75, 76, 77, 78, 79, 80, 81, 82, 83, 84, 85, 86, 87, 88, 89, 90, 91, 92, 93, 94, 95, 96] (by decide +kernel) (by decide +kernel)
set_option maxRecDepth 20000 in
theorem gX5_cut_X5_refuse : GoodIn wsX5_cut (wsV RX5 135 RX5 yX5_refuse wsX5_refuse) := goodIn_app (goodIn_of _ (by decide +kernel)) ggX5_cut_X5_refuse
set_option maxRecDepth 20000 in
theorem ggX5_cut_X5_at : GoodIn wsX5_cut wsX5_at := goodIn_r _ [13] (by decide +kernel) (by decide +kernel)
set_option maxRecDepth 20000 in
theorem gX5_cut_X5_at : GoodIn wsX5_cut (va_wsS RX5 83 yX5_at wsX5_at) := goodIn_app (goodIn_of _ (by decide +kernel)) ggX5_cut_X5_at
set_option maxRecDepth 20000 in
theorem ggX5_cut_X5_cutOut : GoodIn wsX5_cut wsX5_cutOut := goodIn_r _ [22, 2, 11, 12, 6, 13, 23, 24, 25, 26, 27, 28, 29, 30, 31, 32, 33, 34, 35, 36, 37, 38, 39, 40, 41, 42, 43, 44, 45, 46, 47, 48, 49, 50, 51, 52, 53, 70, 71, 72, 73, 74, 75, 76, 77, 78, 79, 80, 81, 82, 83, 84, 85, 86, 87, 88, 89, 90, 91, 92, 93, 94, 95, 96] (by decide +kernel) (by decide +kernel)
set_option maxRecDepth 20000 in
theorem gX5_cut_X5_cutOut : GoodIn wsX5_cut (wsV RX5 163 RX5 yX5_cutOut wsX5_cutOut) := goodIn_app (goodIn_of _ (by decide +kernel)) ggX5_cut_X5_cutOut
set_option maxRecDepth 20000 in
theorem ggX5_cut_X5_goes : GoodIn wsX5_cut wsX5_goes := goodIn_r _ [57, 2, 11, 12, 6, 13, 70, 71, 72, 73, 74, 75, 76, 77, 78, 79, 80, 81, 82, 83, 84, 85, 86, 87, 88, 89, 90, 91, 92, 93, 94, 95, 96] (by decide +kernel) (by decide +kernel)
set_option maxRecDepth 20000 in
theorem gX5_cut_X5_goes : GoodIn wsX5_cut (wsV RX5 118 RX5 yX5_goes wsX5_goes) := goodIn_app (goodIn_of _ (by decide +kernel)) ggX5_cut_X5_goes
set_option maxRecDepth 20000 in
theorem ggX5_cut_X5_sweep : GoodIn wsX5_cut wsX5_sweep := goodIn_r _ [61, 2, 11, 12, 6, 13, 62, 63, 64, 65, 23, 24, 25, 26, 27, 28, 29, 30, 31, 32, 33, 34, 35, 36, 37, 38, 39, 40, 41, 42, 43, 44, 45, 46, 47, 48, 49, 50, 51, 52, 53, 54, 55, 56, 57, 70, 71, 72, 73, 74, 75, 76, 77, 78, 79, 80, 81, 82, 83, 84, 85, 86, 87, 88, 89, 90, 91, 92, 93, 94, 95, 96] (by decide +kernel) (by decide +kernel)
set_option maxRecDepth 20000 in
theorem gX5_cut_X5_sweep : GoodIn wsX5_cut (wsV RX5 141 RX5 yX5_sweep wsX5_sweep) := goodIn_app (goodIn_of _ (by decide +kernel)) ggX5_cut_X5_sweep
set_option maxRecDepth 20000 in
theorem ggX5_cut_X5_many : GoodIn wsX5_cut wsX5_many := goodIn_r _ [69, 2, 11, 12, 6, 13, 70, 71, 72, 73, 74, 75, 76, 77, 78, 79, 80, 81, 82, 83, 84, 85, 86, 87, 88, 89, 90, 91, 92, 93, 94, 95, 96] (by decide +kernel) (by decide +kernel)
set_option maxRecDepth 20000 in
theorem gX5_cut_X5_many : GoodIn wsX5_cut (wsV RX5 156 RX5 yX5_many wsX5_many) := goodIn_app (goodIn_of _ (by decide +kernel)) ggX5_cut_X5_many
theorem dX5_cut_0 : decode cX5_cut 0 = .ok (.aload_n 0, 1) := by decide +kernel
theorem dX5_cut_1 : decode cX5_cut 1 = .ok (.iconst 0, 1) := by decide +kernel
theorem dX5_cut_2 : decode cX5_cut 2 = .ok (.putfield 63, 3) := by decide +kernel
theorem dX5_cut_5 : decode cX5_cut 5 = .ok (.aload_n 0, 1) := by decide +kernel
theorem dX5_cut_6 : decode cX5_cut 6 = .ok (.iload_n 1, 1) := by decide +kernel
theorem dX5_cut_7 : decode cX5_cut 7 = .ok (.invokevirtual 153, 3) := by decide +kernel
theorem dX5_cut_10 : decode cX5_cut 10 = .ok (.ifCond .ne 10, 3) := by decide +kernel
theorem dX5_cut_13 : decode cX5_cut 13 = .ok (.aload_n 0, 1) := by decide +kernel
theorem dX5_cut_14 : decode cX5_cut 14 = .ok (.bipush (-2), 2) := by decide +kernel
theorem dX5_cut_16 : decode cX5_cut 16 = .ok (.invokevirtual 135, 3) := by decide +kernel
theorem dX5_cut_19 : decode cX5_cut 19 = .ok (.ireturn, 1) := by decide +kernel
theorem dX5_cut_20 : decode cX5_cut 20 = .ok (.aload_n 0, 1) := by decide +kernel
theorem dX5_cut_21 : decode cX5_cut 21 = .ok (.getfield 13, 3) := by decide +kernel
theorem dX5_cut_24 : decode cX5_cut 24 = .ok (.iload_n 1, 1) := by decide +kernel
theorem dX5_cut_25 : decode cX5_cut 25 = .ok (.invokestatic 83, 3) := by decide +kernel
theorem dX5_cut_28 : decode cX5_cut 28 = .ok (.iconst 1, 1) := by decide +kernel
theorem dX5_cut_29 : decode cX5_cut 29 = .ok (.iadd, 1) := by decide +kernel
theorem dX5_cut_30 : decode cX5_cut 30 = .ok (.iaload, 1) := by decide +kernel
theorem dX5_cut_31 : decode cX5_cut 31 = .ok (.istore_n 2, 1) := by decide +kernel
theorem dX5_cut_32 : decode cX5_cut 32 = .ok (.aload_n 0, 1) := by decide +kernel
theorem dX5_cut_33 : decode cX5_cut 33 = .ok (.iload_n 1, 1) := by decide +kernel
theorem dX5_cut_34 : decode cX5_cut 34 = .ok (.invokevirtual 163, 3) := by decide +kernel
theorem dX5_cut_37 : decode cX5_cut 37 = .ok (.aload_n 0, 1) := by decide +kernel
theorem dX5_cut_38 : decode cX5_cut 38 = .ok (.iload_n 1, 1) := by decide +kernel
theorem dX5_cut_39 : decode cX5_cut 39 = .ok (.invokevirtual 118, 3) := by decide +kernel
theorem dX5_cut_42 : decode cX5_cut 42 = .ok (.aload_n 0, 1) := by decide +kernel
theorem dX5_cut_43 : decode cX5_cut 43 = .ok (.invokevirtual 141, 3) := by decide +kernel
theorem dX5_cut_46 : decode cX5_cut 46 = .ok (.aload_n 0, 1) := by decide +kernel
theorem dX5_cut_47 : decode cX5_cut 47 = .ok (.iload_n 2, 1) := by decide +kernel
theorem dX5_cut_48 : decode cX5_cut 48 = .ok (.iconst 1, 1) := by decide +kernel
theorem dX5_cut_49 : decode cX5_cut 49 = .ok (.invokevirtual 156, 3) := by decide +kernel
theorem dX5_cut_52 : decode cX5_cut 52 = .ok (.ireturn, 1) := by decide +kernel
set_option maxRecDepth 20000 in
theorem ggX5_rekey_X5_isKey : GoodIn wsX5_rekey wsX5_isKey := goodIn_r _ [7, 8, 9, 10, 11, 6, 12] (by decide +kernel) (by decide +kernel)
set_option maxRecDepth 20000 in
theorem gX5_rekey_X5_isKey : GoodIn wsX5_rekey (va_wsS RX5 129 yX5_isKey wsX5_isKey) := goodIn_app (goodIn_of _ (by decide +kernel)) ggX5_rekey_X5_isKey
set_option maxRecDepth 20000 in
theorem ggX5_rekey_X5_refuse : GoodIn wsX5_rekey wsX5_refuse := goodIn_r _ [16, 17, 79, 80, 81, 82, 83, 84, 85, 86, 87, 88, 89, 90, 91, 92, 93, 94, 95, 96, 97, 98, 99, 100, 101, 102, 103, 104, 105] (by decide +kernel) (by decide +kernel)
set_option maxRecDepth 20000 in
theorem gX5_rekey_X5_refuse : GoodIn wsX5_rekey (wsV RX5 135 RX5 yX5_refuse wsX5_refuse) := goodIn_app (goodIn_of _ (by decide +kernel)) ggX5_rekey_X5_refuse
set_option maxRecDepth 20000 in
theorem ggX5_rekey_X5_isItem : GoodIn wsX5_rekey wsX5_isItem := goodIn_r _ [21, 3, 10, 11, 6, 12, 22, 23, 24, 79, 80, 81, 82, 83, 84, 85, 86, 87, 88, 89, 90, 91, 92, 93, 94, 95, 96, 97, 98, 99, 100, 101, 102, 103, 104, 105] (by decide +kernel) (by decide +kernel)
set_option maxRecDepth 20000 in
theorem gX5_rekey_X5_isItem : GoodIn wsX5_rekey (wsV RX5 153 RX5 yX5_isItem wsX5_isItem) := goodIn_app (goodIn_of _ (by decide +kernel)) ggX5_rekey_X5_isItem
set_option maxRecDepth 20000 in
theorem ggX5_rekey_X5_at : GoodIn wsX5_rekey wsX5_at := goodIn_r _ [24] (by decide +kernel) (by decide +kernel)
set_option maxRecDepth 20000 in
theorem gX5_rekey_X5_at : GoodIn wsX5_rekey (va_wsS RX5 83 yX5_at wsX5_at) := goodIn_app (goodIn_of _ (by decide +kernel)) ggX5_rekey_X5_at
set_option maxRecDepth 20000 in
theorem ggX5_rekey_X5_cutOut : GoodIn wsX5_rekey wsX5_cutOut := goodIn_r _ [28, 3, 22, 23, 6, 24, 29, 30, 31, 32, 33, 34, 35, 36, 37, 38, 39, 40, 41, 42, 43, 44, 45, 46, 2, 47, 48, 49, 50, 51, 52, 53, 54, 55, 56, 57, 58, 79, 80, 81, 82, 83, 84, 85, 86, 87, 88, 89, 90, 91, 92, 93, 94, 95, 96, 97, 98, 99, 100, 101, 102, 103, 104, 105] (by decide +kernel) (by decide +kernel)
set_option maxRecDepth 20000 in
theorem gX5_rekey_X5_cutOut : GoodIn wsX5_rekey (wsV RX5 163 RX5 yX5_cutOut wsX5_cutOut) := goodIn_app (goodIn_of _ (by decide +kernel)) ggX5_rekey_X5_cutOut
set_option maxRecDepth 20000 in
theorem ggX5_rekey_X5_put : GoodIn wsX5_rekey wsX5_put := goodIn_r _ [62, 3, 63, 64, 65, 6, 66, 22, 23, 24, 37, 38, 39, 40, 41, 42, 43, 44, 45, 46, 2, 33, 34, 35, 36, 47, 48, 49, 50, 51, 52, 53, 54, 55, 56, 57, 58, 79, 80, 81, 82, 83, 84, 85, 86, 87, 88, 89, 90, 91, 92, 93, 94, 95, 96, 97, 98, 99, 100, 101, 102, 103, 104, 105] (by decide +kernel) (by decide +kernel)
set_option maxRecDepth 20000 in
theorem gX5_rekey_X5_put : GoodIn wsX5_rekey (wsV RX5 138 RX5 yX5_put wsX5_put) := goodIn_app (goodIn_of _ (by decide +kernel)) ggX5_rekey_X5_put
set_option maxRecDepth 20000 in
theorem ggX5_rekey_X5_sweep : GoodIn wsX5_rekey wsX5_sweep := goodIn_r _ [70, 3, 22, 23, 6, 24, 71, 72, 73, 74, 29, 30, 31, 32, 33, 34, 35, 36, 37, 38, 39, 40, 41, 42, 43, 44, 45, 46, 2, 47, 48, 49, 50, 51, 52, 53, 54, 55, 56, 57, 58, 75, 76, 77, 78, 79, 80, 81, 82, 83, 84, 85, 86, 87, 88, 89, 90, 91, 92, 93, 94, 95, 96, 97, 98, 99, 100, 101, 102, 103, 104, 105] (by decide +kernel) (by decide +kernel)
set_option maxRecDepth 20000 in
theorem gX5_rekey_X5_sweep : GoodIn wsX5_rekey (wsV RX5 141 RX5 yX5_sweep wsX5_sweep) := goodIn_app (goodIn_of _ (by decide +kernel)) ggX5_rekey_X5_sweep
set_option maxRecDepth 20000 in
theorem ggX5_rekey_X5_isLess : GoodIn wsX5_rekey wsX5_isLess := goodIn_r _ [46, 2, 79, 80, 81, 82, 83, 84, 85, 86, 87, 88, 89, 90, 91, 92, 93, 94, 95, 96, 97, 98, 99, 100, 101, 102, 103, 104, 105] (by decide +kernel) (by decide +kernel)
set_option maxRecDepth 20000 in
theorem gX5_rekey_X5_isLess : GoodIn wsX5_rekey (wsV RX5 90 RX5 yX5_isLess wsX5_isLess) := goodIn_app (goodIn_of _ (by decide +kernel)) ggX5_rekey_X5_isLess
theorem dX5_rekey_0 : decode cX5_rekey 0 = .ok (.aload_n 0, 1) := by decide +kernel
theorem dX5_rekey_1 : decode cX5_rekey 1 = .ok (.iconst 0, 1) := by decide +kernel
theorem dX5_rekey_2 : decode cX5_rekey 2 = .ok (.putfield 63, 3) := by decide +kernel
theorem dX5_rekey_5 : decode cX5_rekey 5 = .ok (.iload_n 2, 1) := by decide +kernel
theorem dX5_rekey_6 : decode cX5_rekey 6 = .ok (.i2l, 1) := by decide +kernel
theorem dX5_rekey_7 : decode cX5_rekey 7 = .ok (.invokestatic 129, 3) := by decide +kernel
theorem dX5_rekey_10 : decode cX5_rekey 10 = .ok (.ifCond .ne 9, 3) := by decide +kernel
theorem dX5_rekey_13 : decode cX5_rekey 13 = .ok (.aload_n 0, 1) := by decide +kernel
theorem dX5_rekey_14 : decode cX5_rekey 14 = .ok (.iconst (-1), 1) := by decide +kernel
theorem dX5_rekey_15 : decode cX5_rekey 15 = .ok (.invokevirtual 135, 3) := by decide +kernel
theorem dX5_rekey_18 : decode cX5_rekey 18 = .ok (.ireturn, 1) := by decide +kernel
theorem dX5_rekey_19 : decode cX5_rekey 19 = .ok (.aload_n 0, 1) := by decide +kernel
theorem dX5_rekey_20 : decode cX5_rekey 20 = .ok (.iload_n 1, 1) := by decide +kernel
theorem dX5_rekey_21 : decode cX5_rekey 21 = .ok (.invokevirtual 153, 3) := by decide +kernel
theorem dX5_rekey_24 : decode cX5_rekey 24 = .ok (.ifCond .ne 10, 3) := by decide +kernel
theorem dX5_rekey_27 : decode cX5_rekey 27 = .ok (.aload_n 0, 1) := by decide +kernel
theorem dX5_rekey_28 : decode cX5_rekey 28 = .ok (.bipush (-2), 2) := by decide +kernel
theorem dX5_rekey_30 : decode cX5_rekey 30 = .ok (.invokevirtual 135, 3) := by decide +kernel
theorem dX5_rekey_33 : decode cX5_rekey 33 = .ok (.ireturn, 1) := by decide +kernel
theorem dX5_rekey_34 : decode cX5_rekey 34 = .ok (.aload_n 0, 1) := by decide +kernel
theorem dX5_rekey_35 : decode cX5_rekey 35 = .ok (.getfield 16, 3) := by decide +kernel
theorem dX5_rekey_38 : decode cX5_rekey 38 = .ok (.iload_n 1, 1) := by decide +kernel
theorem dX5_rekey_39 : decode cX5_rekey 39 = .ok (.laload, 1) := by decide +kernel
theorem dX5_rekey_40 : decode cX5_rekey 40 = .ok (.iload_n 2, 1) := by decide +kernel
theorem dX5_rekey_41 : decode cX5_rekey 41 = .ok (.i2l, 1) := by decide +kernel
theorem dX5_rekey_42 : decode cX5_rekey 42 = .ok (.lcmp, 1) := by decide +kernel
theorem dX5_rekey_43 : decode cX5_rekey 43 = .ok (.ifCond .ne 10, 3) := by decide +kernel
theorem dX5_rekey_46 : decode cX5_rekey 46 = .ok (.aload_n 0, 1) := by decide +kernel
theorem dX5_rekey_47 : decode cX5_rekey 47 = .ok (.bipush (-4), 2) := by decide +kernel
theorem dX5_rekey_49 : decode cX5_rekey 49 = .ok (.invokevirtual 135, 3) := by decide +kernel
theorem dX5_rekey_52 : decode cX5_rekey 52 = .ok (.ireturn, 1) := by decide +kernel
theorem dX5_rekey_53 : decode cX5_rekey 53 = .ok (.aload_n 0, 1) := by decide +kernel
theorem dX5_rekey_54 : decode cX5_rekey 54 = .ok (.getfield 13, 3) := by decide +kernel
theorem dX5_rekey_57 : decode cX5_rekey 57 = .ok (.iload_n 1, 1) := by decide +kernel
theorem dX5_rekey_58 : decode cX5_rekey 58 = .ok (.invokestatic 83, 3) := by decide +kernel
theorem dX5_rekey_61 : decode cX5_rekey 61 = .ok (.iconst 1, 1) := by decide +kernel
theorem dX5_rekey_62 : decode cX5_rekey 62 = .ok (.iadd, 1) := by decide +kernel
theorem dX5_rekey_63 : decode cX5_rekey 63 = .ok (.iaload, 1) := by decide +kernel
theorem dX5_rekey_64 : decode cX5_rekey 64 = .ok (.istore_n 3, 1) := by decide +kernel
theorem dX5_rekey_65 : decode cX5_rekey 65 = .ok (.aload_n 0, 1) := by decide +kernel
theorem dX5_rekey_66 : decode cX5_rekey 66 = .ok (.iload_n 1, 1) := by decide +kernel
theorem dX5_rekey_67 : decode cX5_rekey 67 = .ok (.invokevirtual 163, 3) := by decide +kernel
theorem dX5_rekey_70 : decode cX5_rekey 70 = .ok (.aload_n 0, 1) := by decide +kernel
theorem dX5_rekey_71 : decode cX5_rekey 71 = .ok (.getfield 16, 3) := by decide +kernel
theorem dX5_rekey_74 : decode cX5_rekey 74 = .ok (.iload_n 1, 1) := by decide +kernel
theorem dX5_rekey_75 : decode cX5_rekey 75 = .ok (.iload_n 2, 1) := by decide +kernel
theorem dX5_rekey_76 : decode cX5_rekey 76 = .ok (.i2l, 1) := by decide +kernel
theorem dX5_rekey_77 : decode cX5_rekey 77 = .ok (.lastore, 1) := by decide +kernel
theorem dX5_rekey_78 : decode cX5_rekey 78 = .ok (.aload_n 0, 1) := by decide +kernel
theorem dX5_rekey_79 : decode cX5_rekey 79 = .ok (.iload_n 1, 1) := by decide +kernel
theorem dX5_rekey_80 : decode cX5_rekey 80 = .ok (.iload_n 3, 1) := by decide +kernel
theorem dX5_rekey_81 : decode cX5_rekey 81 = .ok (.invokevirtual 138, 3) := by decide +kernel
theorem dX5_rekey_84 : decode cX5_rekey 84 = .ok (.aload_n 0, 1) := by decide +kernel
theorem dX5_rekey_85 : decode cX5_rekey 85 = .ok (.invokevirtual 141, 3) := by decide +kernel
theorem dX5_rekey_88 : decode cX5_rekey 88 = .ok (.iconst 0, 1) := by decide +kernel
theorem dX5_rekey_89 : decode cX5_rekey 89 = .ok (.istore 4, 2) := by decide +kernel
theorem dX5_rekey_91 : decode cX5_rekey 91 = .ok (.iconst 0, 1) := by decide +kernel
theorem dX5_rekey_92 : decode cX5_rekey 92 = .ok (.istore 5, 2) := by decide +kernel
theorem dX5_rekey_94 : decode cX5_rekey 94 = .ok (.iload 5, 2) := by decide +kernel
theorem dX5_rekey_96 : decode cX5_rekey 96 = .ok (.aload_n 0, 1) := by decide +kernel
theorem dX5_rekey_97 : decode cX5_rekey 97 = .ok (.getfield 13, 3) := by decide +kernel
theorem dX5_rekey_100 : decode cX5_rekey 100 = .ok (.iconst 0, 1) := by decide +kernel
theorem dX5_rekey_101 : decode cX5_rekey 101 = .ok (.iaload, 1) := by decide +kernel
theorem dX5_rekey_102 : decode cX5_rekey 102 = .ok (.if_icmp .ge 60, 3) := by decide +kernel
theorem dX5_rekey_105 : decode cX5_rekey 105 = .ok (.iload 4, 2) := by decide +kernel
theorem dX5_rekey_107 : decode cX5_rekey 107 = .ok (.aload_n 0, 1) := by decide +kernel
theorem dX5_rekey_108 : decode cX5_rekey 108 = .ok (.getfield 13, 3) := by decide +kernel
theorem dX5_rekey_111 : decode cX5_rekey 111 = .ok (.iload 5, 2) := by decide +kernel
theorem dX5_rekey_113 : decode cX5_rekey 113 = .ok (.invokestatic 83, 3) := by decide +kernel
theorem dX5_rekey_116 : decode cX5_rekey 116 = .ok (.iconst 1, 1) := by decide +kernel
theorem dX5_rekey_117 : decode cX5_rekey 117 = .ok (.iadd, 1) := by decide +kernel
theorem dX5_rekey_118 : decode cX5_rekey 118 = .ok (.iaload, 1) := by decide +kernel
theorem dX5_rekey_119 : decode cX5_rekey 119 = .ok (.iload_n 3, 1) := by decide +kernel
theorem dX5_rekey_120 : decode cX5_rekey 120 = .ok (.if_icmp .ne 32, 3) := by decide +kernel
theorem dX5_rekey_123 : decode cX5_rekey 123 = .ok (.aload_n 0, 1) := by decide +kernel
theorem dX5_rekey_124 : decode cX5_rekey 124 = .ok (.getfield 13, 3) := by decide +kernel
theorem dX5_rekey_127 : decode cX5_rekey 127 = .ok (.iload 5, 2) := by decide +kernel
theorem dX5_rekey_129 : decode cX5_rekey 129 = .ok (.invokestatic 83, 3) := by decide +kernel
theorem dX5_rekey_132 : decode cX5_rekey 132 = .ok (.iconst 2, 1) := by decide +kernel
theorem dX5_rekey_133 : decode cX5_rekey 133 = .ok (.iadd, 1) := by decide +kernel
theorem dX5_rekey_134 : decode cX5_rekey 134 = .ok (.iaload, 1) := by decide +kernel
theorem dX5_rekey_135 : decode cX5_rekey 135 = .ok (.ifCond .ne 17, 3) := by decide +kernel
theorem dX5_rekey_138 : decode cX5_rekey 138 = .ok (.aload_n 0, 1) := by decide +kernel
theorem dX5_rekey_139 : decode cX5_rekey 139 = .ok (.iload 5, 2) := by decide +kernel
theorem dX5_rekey_141 : decode cX5_rekey 141 = .ok (.iload_n 1, 1) := by decide +kernel
theorem dX5_rekey_142 : decode cX5_rekey 142 = .ok (.invokevirtual 90, 3) := by decide +kernel
theorem dX5_rekey_145 : decode cX5_rekey 145 = .ok (.ifCond .eq 7, 3) := by decide +kernel
theorem dX5_rekey_148 : decode cX5_rekey 148 = .ok (.iconst 1, 1) := by decide +kernel
theorem dX5_rekey_149 : decode cX5_rekey 149 = .ok (.goto 4, 3) := by decide +kernel
theorem dX5_rekey_152 : decode cX5_rekey 152 = .ok (.iconst 0, 1) := by decide +kernel
theorem dX5_rekey_153 : decode cX5_rekey 153 = .ok (.iadd, 1) := by decide +kernel
theorem dX5_rekey_154 : decode cX5_rekey 154 = .ok (.istore 4, 2) := by decide +kernel
theorem dX5_rekey_156 : decode cX5_rekey 156 = .ok (.iinc 5 1, 3) := by decide +kernel
theorem dX5_rekey_159 : decode cX5_rekey 159 = .ok (.goto (-65), 3) := by decide +kernel
theorem dX5_rekey_162 : decode cX5_rekey 162 = .ok (.iload 4, 2) := by decide +kernel
theorem dX5_rekey_164 : decode cX5_rekey 164 = .ok (.ireturn, 1) := by decide +kernel
set_option maxRecDepth 20000 in
theorem ggX5_raise_X5_isDesk : GoodIn wsX5_raise wsX5_isDesk := goodIn_r _ [9, 10, 11, 12, 8, 13] (by decide +kernel) (by decide +kernel)
set_option maxRecDepth 20000 in
theorem gX5_raise_X5_isDesk : GoodIn wsX5_raise (va_wsS RX5 125 yX5_isDesk wsX5_isDesk) := goodIn_app (goodIn_of _ (by decide +kernel)) ggX5_raise_X5_isDesk
set_option maxRecDepth 20000 in
theorem ggX5_raise_X5_in : GoodIn wsX5_raise wsX5_in := goodIn_r _ [13] (by decide +kernel) (by decide +kernel)
set_option maxRecDepth 20000 in
theorem gX5_raise_X5_in : GoodIn wsX5_raise (va_wsS RX5 77 yX5_in wsX5_in) := goodIn_app (goodIn_of _ (by decide +kernel)) ggX5_raise_X5_in
set_option maxRecDepth 20000 in
theorem ggX5_raise_X5_refuse : GoodIn wsX5_raise wsX5_refuse := goodIn_r _ [17, 18, 26, 27, 28, 29, 30, 31, 32, 33, 34, 35, 36, 37, 38, 39, 40, 41, 42, 43, 44, 45, 46, 47, 48, 49, 50, 51, 52] (by decide +kernel) (by decide +kernel)
set_option maxRecDepth 20000 in
theorem gX5_raise_X5_refuse : GoodIn wsX5_raise (wsV RX5 135 RX5 yX5_refuse wsX5_refuse) := goodIn_app (goodIn_of _ (by decide +kernel)) ggX5_raise_X5_refuse
set_option maxRecDepth 20000 in
theorem ggX5_raise_X5_at : GoodIn wsX5_raise wsX5_at := goodIn_r _ [21] (by decide +kernel) (by decide +kernel)
set_option maxRecDepth 20000 in
theorem gX5_raise_X5_at : GoodIn wsX5_raise (va_wsS RX5 83 yX5_at wsX5_at) := goodIn_app (goodIn_of _ (by decide +kernel)) ggX5_raise_X5_at
set_option maxRecDepth 20000 in
theorem ggX5_raise_X5_many : GoodIn wsX5_raise wsX5_many := goodIn_r _ [25, 4, 19, 20, 8, 21, 26, 27, 28, 29, 30, 31, 32, 33, 34, 35, 36, 37, 38, 39, 40, 41, 42, 43, 44, 45, 46, 47, 48, 49, 50, 51, 52] (by decide +kernel) (by decide +kernel)
set_option maxRecDepth 20000 in
theorem gX5_raise_X5_many : GoodIn wsX5_raise (wsV RX5 156 RX5 yX5_many wsX5_many) := goodIn_app (goodIn_of _ (by decide +kernel)) ggX5_raise_X5_many
theorem dX5_raise_0 : decode cX5_raise 0 = .ok (.aload_n 0, 1) := by decide +kernel
theorem dX5_raise_1 : decode cX5_raise 1 = .ok (.iconst 0, 1) := by decide +kernel
theorem dX5_raise_2 : decode cX5_raise 2 = .ok (.putfield 63, 3) := by decide +kernel
theorem dX5_raise_5 : decode cX5_raise 5 = .ok (.iload_n 1, 1) := by decide +kernel
theorem dX5_raise_6 : decode cX5_raise 6 = .ok (.invokestatic 125, 3) := by decide +kernel
theorem dX5_raise_9 : decode cX5_raise 9 = .ok (.ifCond .eq 17, 3) := by decide +kernel
theorem dX5_raise_12 : decode cX5_raise 12 = .ok (.iload_n 2, 1) := by decide +kernel
theorem dX5_raise_13 : decode cX5_raise 13 = .ok (.i2l, 1) := by decide +kernel
theorem dX5_raise_14 : decode cX5_raise 14 = .ok (.ldc2_w 166, 3) := by decide +kernel
theorem dX5_raise_17 : decode cX5_raise 17 = .ok (.ldc2_w 168, 3) := by decide +kernel
theorem dX5_raise_20 : decode cX5_raise 20 = .ok (.invokestatic 77, 3) := by decide +kernel
theorem dX5_raise_23 : decode cX5_raise 23 = .ok (.ifCond .ne 9, 3) := by decide +kernel
theorem dX5_raise_26 : decode cX5_raise 26 = .ok (.aload_n 0, 1) := by decide +kernel
theorem dX5_raise_27 : decode cX5_raise 27 = .ok (.iconst (-1), 1) := by decide +kernel
theorem dX5_raise_28 : decode cX5_raise 28 = .ok (.invokevirtual 135, 3) := by decide +kernel
theorem dX5_raise_31 : decode cX5_raise 31 = .ok (.ireturn, 1) := by decide +kernel
theorem dX5_raise_32 : decode cX5_raise 32 = .ok (.aload_n 0, 1) := by decide +kernel
theorem dX5_raise_33 : decode cX5_raise 33 = .ok (.getfield 13, 3) := by decide +kernel
theorem dX5_raise_36 : decode cX5_raise 36 = .ok (.iconst 4, 1) := by decide +kernel
theorem dX5_raise_37 : decode cX5_raise 37 = .ok (.iload_n 1, 1) := by decide +kernel
theorem dX5_raise_38 : decode cX5_raise 38 = .ok (.iadd, 1) := by decide +kernel
theorem dX5_raise_39 : decode cX5_raise 39 = .ok (.iaload, 1) := by decide +kernel
theorem dX5_raise_40 : decode cX5_raise 40 = .ok (.iconst (-1), 1) := by decide +kernel
theorem dX5_raise_41 : decode cX5_raise 41 = .ok (.if_icmp .ne 10, 3) := by decide +kernel
theorem dX5_raise_44 : decode cX5_raise 44 = .ok (.aload_n 0, 1) := by decide +kernel
theorem dX5_raise_45 : decode cX5_raise 45 = .ok (.bipush (-3), 2) := by decide +kernel
theorem dX5_raise_47 : decode cX5_raise 47 = .ok (.invokevirtual 135, 3) := by decide +kernel
theorem dX5_raise_50 : decode cX5_raise 50 = .ok (.ireturn, 1) := by decide +kernel
theorem dX5_raise_51 : decode cX5_raise 51 = .ok (.iconst 0, 1) := by decide +kernel
theorem dX5_raise_52 : decode cX5_raise 52 = .ok (.istore_n 3, 1) := by decide +kernel
theorem dX5_raise_53 : decode cX5_raise 53 = .ok (.iload_n 3, 1) := by decide +kernel
theorem dX5_raise_54 : decode cX5_raise 54 = .ok (.aload_n 0, 1) := by decide +kernel
theorem dX5_raise_55 : decode cX5_raise 55 = .ok (.getfield 13, 3) := by decide +kernel
theorem dX5_raise_58 : decode cX5_raise 58 = .ok (.iconst 0, 1) := by decide +kernel
theorem dX5_raise_59 : decode cX5_raise 59 = .ok (.iaload, 1) := by decide +kernel
theorem dX5_raise_60 : decode cX5_raise 60 = .ok (.if_icmp .ge 39, 3) := by decide +kernel
theorem dX5_raise_63 : decode cX5_raise 63 = .ok (.aload_n 0, 1) := by decide +kernel
theorem dX5_raise_64 : decode cX5_raise 64 = .ok (.getfield 16, 3) := by decide +kernel
theorem dX5_raise_67 : decode cX5_raise 67 = .ok (.iload_n 3, 1) := by decide +kernel
theorem dX5_raise_68 : decode cX5_raise 68 = .ok (.dup2, 1) := by decide +kernel
theorem dX5_raise_69 : decode cX5_raise 69 = .ok (.laload, 1) := by decide +kernel
theorem dX5_raise_70 : decode cX5_raise 70 = .ok (.aload_n 0, 1) := by decide +kernel
theorem dX5_raise_71 : decode cX5_raise 71 = .ok (.getfield 13, 3) := by decide +kernel
theorem dX5_raise_74 : decode cX5_raise 74 = .ok (.iload_n 3, 1) := by decide +kernel
theorem dX5_raise_75 : decode cX5_raise 75 = .ok (.invokestatic 83, 3) := by decide +kernel
theorem dX5_raise_78 : decode cX5_raise 78 = .ok (.iconst 1, 1) := by decide +kernel
theorem dX5_raise_79 : decode cX5_raise 79 = .ok (.iadd, 1) := by decide +kernel
theorem dX5_raise_80 : decode cX5_raise 80 = .ok (.iaload, 1) := by decide +kernel
theorem dX5_raise_81 : decode cX5_raise 81 = .ok (.iload_n 1, 1) := by decide +kernel
theorem dX5_raise_82 : decode cX5_raise 82 = .ok (.if_icmp .ne 8, 3) := by decide +kernel
theorem dX5_raise_85 : decode cX5_raise 85 = .ok (.iload_n 2, 1) := by decide +kernel
theorem dX5_raise_86 : decode cX5_raise 86 = .ok (.i2l, 1) := by decide +kernel
theorem dX5_raise_87 : decode cX5_raise 87 = .ok (.goto 4, 3) := by decide +kernel
theorem dX5_raise_90 : decode cX5_raise 90 = .ok (.lconst 0, 1) := by decide +kernel
theorem dX5_raise_91 : decode cX5_raise 91 = .ok (.ladd, 1) := by decide +kernel
theorem dX5_raise_92 : decode cX5_raise 92 = .ok (.lastore, 1) := by decide +kernel
theorem dX5_raise_93 : decode cX5_raise 93 = .ok (.iinc 3 1, 3) := by decide +kernel
theorem dX5_raise_96 : decode cX5_raise 96 = .ok (.goto (-43), 3) := by decide +kernel
theorem dX5_raise_99 : decode cX5_raise 99 = .ok (.aload_n 0, 1) := by decide +kernel
theorem dX5_raise_100 : decode cX5_raise 100 = .ok (.iload_n 1, 1) := by decide +kernel
theorem dX5_raise_101 : decode cX5_raise 101 = .ok (.iconst 1, 1) := by decide +kernel
theorem dX5_raise_102 : decode cX5_raise 102 = .ok (.invokevirtual 156, 3) := by decide +kernel
theorem dX5_raise_105 : decode cX5_raise 105 = .ok (.ireturn, 1) := by decide +kernel
set_option maxRecDepth 20000 in
theorem ggX5_moveAll_X5_at : GoodIn wsX5_moveAll wsX5_at := goodIn_r _ [5] (by decide +kernel) (by decide +kernel)
set_option maxRecDepth 20000 in
theorem gX5_moveAll_X5_at : GoodIn wsX5_moveAll (va_wsS RX5 83 yX5_at wsX5_at) := goodIn_app (goodIn_of _ (by decide +kernel)) ggX5_moveAll_X5_at
theorem dX5_moveAll_0 : decode cX5_moveAll 0 = .ok (.iconst 0, 1) := by decide +kernel
theorem dX5_moveAll_1 : decode cX5_moveAll 1 = .ok (.istore_n 3, 1) := by decide +kernel
theorem dX5_moveAll_2 : decode cX5_moveAll 2 = .ok (.iload_n 3, 1) := by decide +kernel
theorem dX5_moveAll_3 : decode cX5_moveAll 3 = .ok (.aload_n 0, 1) := by decide +kernel
theorem dX5_moveAll_4 : decode cX5_moveAll 4 = .ok (.getfield 13, 3) := by decide +kernel
theorem dX5_moveAll_7 : decode cX5_moveAll 7 = .ok (.iconst 0, 1) := by decide +kernel
theorem dX5_moveAll_8 : decode cX5_moveAll 8 = .ok (.iaload, 1) := by decide +kernel
theorem dX5_moveAll_9 : decode cX5_moveAll 9 = .ok (.if_icmp .ge 50, 3) := by decide +kernel
theorem dX5_moveAll_12 : decode cX5_moveAll 12 = .ok (.aload_n 0, 1) := by decide +kernel
theorem dX5_moveAll_13 : decode cX5_moveAll 13 = .ok (.getfield 13, 3) := by decide +kernel
theorem dX5_moveAll_16 : decode cX5_moveAll 16 = .ok (.iload_n 3, 1) := by decide +kernel
theorem dX5_moveAll_17 : decode cX5_moveAll 17 = .ok (.invokestatic 83, 3) := by decide +kernel
theorem dX5_moveAll_20 : decode cX5_moveAll 20 = .ok (.iconst 1, 1) := by decide +kernel
theorem dX5_moveAll_21 : decode cX5_moveAll 21 = .ok (.iadd, 1) := by decide +kernel
theorem dX5_moveAll_22 : decode cX5_moveAll 22 = .ok (.aload_n 0, 1) := by decide +kernel
theorem dX5_moveAll_23 : decode cX5_moveAll 23 = .ok (.getfield 13, 3) := by decide +kernel
theorem dX5_moveAll_26 : decode cX5_moveAll 26 = .ok (.iload_n 3, 1) := by decide +kernel
theorem dX5_moveAll_27 : decode cX5_moveAll 27 = .ok (.invokestatic 83, 3) := by decide +kernel
theorem dX5_moveAll_30 : decode cX5_moveAll 30 = .ok (.iconst 1, 1) := by decide +kernel
theorem dX5_moveAll_31 : decode cX5_moveAll 31 = .ok (.iadd, 1) := by decide +kernel
theorem dX5_moveAll_32 : decode cX5_moveAll 32 = .ok (.iaload, 1) := by decide +kernel
theorem dX5_moveAll_33 : decode cX5_moveAll 33 = .ok (.iload_n 1, 1) := by decide +kernel
theorem dX5_moveAll_34 : decode cX5_moveAll 34 = .ok (.if_icmp .ne 7, 3) := by decide +kernel
theorem dX5_moveAll_37 : decode cX5_moveAll 37 = .ok (.iload_n 2, 1) := by decide +kernel
theorem dX5_moveAll_38 : decode cX5_moveAll 38 = .ok (.goto 14, 3) := by decide +kernel
theorem dX5_moveAll_41 : decode cX5_moveAll 41 = .ok (.aload_n 0, 1) := by decide +kernel
theorem dX5_moveAll_42 : decode cX5_moveAll 42 = .ok (.getfield 13, 3) := by decide +kernel
theorem dX5_moveAll_45 : decode cX5_moveAll 45 = .ok (.iload_n 3, 1) := by decide +kernel
theorem dX5_moveAll_46 : decode cX5_moveAll 46 = .ok (.invokestatic 83, 3) := by decide +kernel
theorem dX5_moveAll_49 : decode cX5_moveAll 49 = .ok (.iconst 1, 1) := by decide +kernel
theorem dX5_moveAll_50 : decode cX5_moveAll 50 = .ok (.iadd, 1) := by decide +kernel
theorem dX5_moveAll_51 : decode cX5_moveAll 51 = .ok (.iaload, 1) := by decide +kernel
theorem dX5_moveAll_52 : decode cX5_moveAll 52 = .ok (.iastore, 1) := by decide +kernel
theorem dX5_moveAll_53 : decode cX5_moveAll 53 = .ok (.iinc 3 1, 3) := by decide +kernel
theorem dX5_moveAll_56 : decode cX5_moveAll 56 = .ok (.goto (-54), 3) := by decide +kernel
theorem dX5_moveAll_59 : decode cX5_moveAll 59 = .ok (.return_, 1) := by decide +kernel
set_option maxRecDepth 20000 in
theorem ggX5_areTwo_X5_isDesk : GoodIn wsX5_areTwo wsX5_isDesk := goodIn_r _ [4, 5, 6, 7, 3, 8] (by decide +kernel) (by decide +kernel)
set_option maxRecDepth 20000 in
theorem gX5_areTwo_X5_isDesk : GoodIn wsX5_areTwo (va_wsS RX5 125 yX5_isDesk wsX5_isDesk) := goodIn_app (goodIn_of _ (by decide +kernel)) ggX5_areTwo_X5_isDesk
theorem dX5_areTwo_0 : decode cX5_areTwo 0 = .ok (.iload_n 0, 1) := by decide +kernel
theorem dX5_areTwo_1 : decode cX5_areTwo 1 = .ok (.invokestatic 125, 3) := by decide +kernel
