theorem dX5_layRising_106 : decode cX5_layRising 106 = .ok (.iastore, 1) := by decide +kernel
theorem dX5_layRising_107 : decode cX5_layRising 107 = .ok (.iinc 5 (-1), 3) := by decide +kernel
theorem dX5_layRising_110 : decode cX5_layRising 110 = .ok (.goto (-60), 3) := by decide +kernel
theorem dX5_layRising_113 : decode cX5_layRising 113 = .ok (.aload_n 0, 1) := by decide +kernel
theorem dX5_layRising_114 : decode cX5_layRising 114 = .ok (.getfield 51, 3) := by decide +kernel
theorem dX5_layRising_117 : decode cX5_layRising 117 = .ok (.sipush 300, 3) := by decide +kernel
theorem dX5_layRising_120 : decode cX5_layRising 120 = .ok (.iload_n 2, 1) := by decide +kernel
theorem dX5_layRising_121 : decode cX5_layRising 121 = .ok (.imul, 1) := by decide +kernel
theorem dX5_layRising_122 : decode cX5_layRising 122 = .ok (.iload 5, 2) := by decide +kernel
theorem dX5_layRising_124 : decode cX5_layRising 124 = .ok (.iadd, 1) := by decide +kernel
theorem dX5_layRising_125 : decode cX5_layRising 125 = .ok (.iload 4, 2) := by decide +kernel
theorem dX5_layRising_127 : decode cX5_layRising 127 = .ok (.iastore, 1) := by decide +kernel
theorem dX5_layRising_128 : decode cX5_layRising 128 = .ok (.iinc 3 1, 3) := by decide +kernel
theorem dX5_layRising_131 : decode cX5_layRising 131 = .ok (.iinc 4 1, 3) := by decide +kernel
theorem dX5_layRising_134 : decode cX5_layRising 134 = .ok (.goto (-129), 3) := by decide +kernel
theorem dX5_layRising_137 : decode cX5_layRising 137 = .ok (.aload_n 0, 1) := by decide +kernel
theorem dX5_layRising_138 : decode cX5_layRising 138 = .ok (.getfield 54, 3) := by decide +kernel
theorem dX5_layRising_141 : decode cX5_layRising 141 = .ok (.iload_n 2, 1) := by decide +kernel
theorem dX5_layRising_142 : decode cX5_layRising 142 = .ok (.iload_n 3, 1) := by decide +kernel
theorem dX5_layRising_143 : decode cX5_layRising 143 = .ok (.iastore, 1) := by decide +kernel
theorem dX5_layRising_144 : decode cX5_layRising 144 = .ok (.return_, 1) := by decide +kernel
set_option maxRecDepth 20000 in
theorem ggX5_least_X5_isDesk : GoodIn wsX5_least wsX5_isDesk := goodIn_r _ [7, 8, 9, 10, 6, 11] (by decide +kernel) (by decide +kernel)
set_option maxRecDepth 20000 in
theorem gX5_least_X5_isDesk : GoodIn wsX5_least (va_wsS RX5 125 yX5_isDesk wsX5_isDesk) := goodIn_app (goodIn_of _ (by decide +kernel)) ggX5_least_X5_isDesk
set_option maxRecDepth 20000 in
theorem ggX5_least_X5_layRising : GoodIn wsX5_least wsX5_layRising := goodIn_r _ [15, 16, 3, 2, 17, 18, 6, 19, 20, 21, 22, 23, 24, 25, 26, 27, 28, 29, 30, 31, 32, 33, 34, 35, 36, 37, 38, 39, 40, 41, 42, 43, 44, 45, 46, 47, 48, 49, 50, 51] (by decide +kernel) (by decide +kernel)
set_option maxRecDepth 20000 in
theorem gX5_least_X5_layRising : GoodIn wsX5_least (wsV RX5 227 RX5 yX5_layRising wsX5_layRising) := goodIn_app (goodIn_of _ (by decide +kernel)) ggX5_least_X5_layRising
set_option maxRecDepth 20000 in
theorem ggX5_least_X5_in : GoodIn wsX5_least wsX5_in := goodIn_r _ [11] (by decide +kernel) (by decide +kernel)
set_option maxRecDepth 20000 in
theorem gX5_least_X5_in : GoodIn wsX5_least (va_wsS RX5 77 yX5_in wsX5_in) := goodIn_app (goodIn_of _ (by decide +kernel)) ggX5_least_X5_in
theorem dX5_least_0 : decode cX5_least 0 = .ok (.aload_n 0, 1) := by decide +kernel
theorem dX5_least_1 : decode cX5_least 1 = .ok (.iconst 0, 1) := by decide +kernel
theorem dX5_least_2 : decode cX5_least 2 = .ok (.putfield 63, 3) := by decide +kernel
theorem dX5_least_5 : decode cX5_least 5 = .ok (.iload_n 1, 1) := by decide +kernel
theorem dX5_least_6 : decode cX5_least 6 = .ok (.invokestatic 125, 3) := by decide +kernel
theorem dX5_least_9 : decode cX5_least 9 = .ok (.ifCond .ne 5, 3) := by decide +kernel
theorem dX5_least_12 : decode cX5_least 12 = .ok (.iconst (-1), 1) := by decide +kernel
theorem dX5_least_13 : decode cX5_least 13 = .ok (.ireturn, 1) := by decide +kernel
theorem dX5_least_14 : decode cX5_least 14 = .ok (.aload_n 0, 1) := by decide +kernel
theorem dX5_least_15 : decode cX5_least 15 = .ok (.iload_n 1, 1) := by decide +kernel
theorem dX5_least_16 : decode cX5_least 16 = .ok (.iconst 0, 1) := by decide +kernel
theorem dX5_least_17 : decode cX5_least 17 = .ok (.invokevirtual 227, 3) := by decide +kernel
theorem dX5_least_20 : decode cX5_least 20 = .ok (.iload_n 2, 1) := by decide +kernel
theorem dX5_least_21 : decode cX5_least 21 = .ok (.i2l, 1) := by decide +kernel
theorem dX5_least_22 : decode cX5_least 22 = .ok (.lconst 0, 1) := by decide +kernel
theorem dX5_least_23 : decode cX5_least 23 = .ok (.aload_n 0, 1) := by decide +kernel
theorem dX5_least_24 : decode cX5_least 24 = .ok (.getfield 54, 3) := by decide +kernel
theorem dX5_least_27 : decode cX5_least 27 = .ok (.iconst 0, 1) := by decide +kernel
theorem dX5_least_28 : decode cX5_least 28 = .ok (.iaload, 1) := by decide +kernel
theorem dX5_least_29 : decode cX5_least 29 = .ok (.i2l, 1) := by decide +kernel
theorem dX5_least_30 : decode cX5_least 30 = .ok (.lconst 1, 1) := by decide +kernel
theorem dX5_least_31 : decode cX5_least 31 = .ok (.lsub, 1) := by decide +kernel
theorem dX5_least_32 : decode cX5_least 32 = .ok (.invokestatic 77, 3) := by decide +kernel
theorem dX5_least_35 : decode cX5_least 35 = .ok (.ifCond .eq 12, 3) := by decide +kernel
theorem dX5_least_38 : decode cX5_least 38 = .ok (.aload_n 0, 1) := by decide +kernel
theorem dX5_least_39 : decode cX5_least 39 = .ok (.getfield 51, 3) := by decide +kernel
theorem dX5_least_42 : decode cX5_least 42 = .ok (.iload_n 2, 1) := by decide +kernel
theorem dX5_least_43 : decode cX5_least 43 = .ok (.iaload, 1) := by decide +kernel
theorem dX5_least_44 : decode cX5_least 44 = .ok (.goto 4, 3) := by decide +kernel
theorem dX5_least_47 : decode cX5_least 47 = .ok (.iconst (-1), 1) := by decide +kernel
theorem dX5_least_48 : decode cX5_least 48 = .ok (.ireturn, 1) := by decide +kernel
set_option maxRecDepth 20000 in
theorem ggX5_below_X5_isDesk : GoodIn wsX5_below wsX5_isDesk := goodIn_r _ [7, 8, 9, 10, 6, 11] (by decide +kernel) (by decide +kernel)
set_option maxRecDepth 20000 in
theorem gX5_below_X5_isDesk : GoodIn wsX5_below (va_wsS RX5 125 yX5_isDesk wsX5_isDesk) := goodIn_app (goodIn_of _ (by decide +kernel)) ggX5_below_X5_isDesk
set_option maxRecDepth 20000 in
theorem ggX5_below_X5_at : GoodIn wsX5_below wsX5_at := goodIn_r _ [14] (by decide +kernel) (by decide +kernel)
set_option maxRecDepth 20000 in
theorem gX5_below_X5_at : GoodIn wsX5_below (va_wsS RX5 83 yX5_at wsX5_at) := goodIn_app (goodIn_of _ (by decide +kernel)) ggX5_below_X5_at
theorem dX5_below_0 : decode cX5_below 0 = .ok (.aload_n 0, 1) := by decide +kernel
theorem dX5_below_1 : decode cX5_below 1 = .ok (.iconst 0, 1) := by decide +kernel
theorem dX5_below_2 : decode cX5_below 2 = .ok (.putfield 63, 3) := by decide +kernel
theorem dX5_below_5 : decode cX5_below 5 = .ok (.iload_n 1, 1) := by decide +kernel
theorem dX5_below_6 : decode cX5_below 6 = .ok (.invokestatic 125, 3) := by decide +kernel
theorem dX5_below_9 : decode cX5_below 9 = .ok (.ifCond .ne 5, 3) := by decide +kernel
theorem dX5_below_12 : decode cX5_below 12 = .ok (.iconst (-1), 1) := by decide +kernel
theorem dX5_below_13 : decode cX5_below 13 = .ok (.ireturn, 1) := by decide +kernel
theorem dX5_below_14 : decode cX5_below 14 = .ok (.iconst 0, 1) := by decide +kernel
theorem dX5_below_15 : decode cX5_below 15 = .ok (.istore 4, 2) := by decide +kernel
theorem dX5_below_17 : decode cX5_below 17 = .ok (.iconst 0, 1) := by decide +kernel
theorem dX5_below_18 : decode cX5_below 18 = .ok (.istore 5, 2) := by decide +kernel
theorem dX5_below_20 : decode cX5_below 20 = .ok (.iload 5, 2) := by decide +kernel
theorem dX5_below_22 : decode cX5_below 22 = .ok (.aload_n 0, 1) := by decide +kernel
theorem dX5_below_23 : decode cX5_below 23 = .ok (.getfield 13, 3) := by decide +kernel
theorem dX5_below_26 : decode cX5_below 26 = .ok (.iconst 0, 1) := by decide +kernel
theorem dX5_below_27 : decode cX5_below 27 = .ok (.iaload, 1) := by decide +kernel
theorem dX5_below_28 : decode cX5_below 28 = .ok (.if_icmp .ge 62, 3) := by decide +kernel
theorem dX5_below_31 : decode cX5_below 31 = .ok (.iload 4, 2) := by decide +kernel
theorem dX5_below_33 : decode cX5_below 33 = .ok (.aload_n 0, 1) := by decide +kernel
theorem dX5_below_34 : decode cX5_below 34 = .ok (.getfield 13, 3) := by decide +kernel
theorem dX5_below_37 : decode cX5_below 37 = .ok (.iload 5, 2) := by decide +kernel
theorem dX5_below_39 : decode cX5_below 39 = .ok (.invokestatic 83, 3) := by decide +kernel
theorem dX5_below_42 : decode cX5_below 42 = .ok (.iconst 1, 1) := by decide +kernel
theorem dX5_below_43 : decode cX5_below 43 = .ok (.iadd, 1) := by decide +kernel
theorem dX5_below_44 : decode cX5_below 44 = .ok (.iaload, 1) := by decide +kernel
theorem dX5_below_45 : decode cX5_below 45 = .ok (.iload_n 1, 1) := by decide +kernel
theorem dX5_below_46 : decode cX5_below 46 = .ok (.if_icmp .ne 34, 3) := by decide +kernel
theorem dX5_below_49 : decode cX5_below 49 = .ok (.aload_n 0, 1) := by decide +kernel
theorem dX5_below_50 : decode cX5_below 50 = .ok (.getfield 13, 3) := by decide +kernel
theorem dX5_below_53 : decode cX5_below 53 = .ok (.iload 5, 2) := by decide +kernel
theorem dX5_below_55 : decode cX5_below 55 = .ok (.invokestatic 83, 3) := by decide +kernel
theorem dX5_below_58 : decode cX5_below 58 = .ok (.iconst 2, 1) := by decide +kernel
theorem dX5_below_59 : decode cX5_below 59 = .ok (.iadd, 1) := by decide +kernel
theorem dX5_below_60 : decode cX5_below 60 = .ok (.iaload, 1) := by decide +kernel
theorem dX5_below_61 : decode cX5_below 61 = .ok (.ifCond .ne 19, 3) := by decide +kernel
theorem dX5_below_64 : decode cX5_below 64 = .ok (.aload_n 0, 1) := by decide +kernel
theorem dX5_below_65 : decode cX5_below 65 = .ok (.getfield 16, 3) := by decide +kernel
theorem dX5_below_68 : decode cX5_below 68 = .ok (.iload 5, 2) := by decide +kernel
theorem dX5_below_70 : decode cX5_below 70 = .ok (.laload, 1) := by decide +kernel
theorem dX5_below_71 : decode cX5_below 71 = .ok (.lload_n 2, 1) := by decide +kernel
theorem dX5_below_72 : decode cX5_below 72 = .ok (.lcmp, 1) := by decide +kernel
theorem dX5_below_73 : decode cX5_below 73 = .ok (.ifCond .ge 7, 3) := by decide +kernel
theorem dX5_below_76 : decode cX5_below 76 = .ok (.iconst 1, 1) := by decide +kernel
theorem dX5_below_77 : decode cX5_below 77 = .ok (.goto 4, 3) := by decide +kernel
theorem dX5_below_80 : decode cX5_below 80 = .ok (.iconst 0, 1) := by decide +kernel
theorem dX5_below_81 : decode cX5_below 81 = .ok (.iadd, 1) := by decide +kernel
theorem dX5_below_82 : decode cX5_below 82 = .ok (.istore 4, 2) := by decide +kernel
theorem dX5_below_84 : decode cX5_below 84 = .ok (.iinc 5 1, 3) := by decide +kernel
theorem dX5_below_87 : decode cX5_below 87 = .ok (.goto (-67), 3) := by decide +kernel
theorem dX5_below_90 : decode cX5_below 90 = .ok (.iload 4, 2) := by decide +kernel
theorem dX5_below_92 : decode cX5_below 92 = .ok (.ireturn, 1) := by decide +kernel
set_option maxRecDepth 20000 in
theorem ggX5_keys_X5_isDesk : GoodIn wsX5_keys wsX5_isDesk := goodIn_r _ [10, 11, 12, 13, 9, 14] (by decide +kernel) (by decide +kernel)
set_option maxRecDepth 20000 in
theorem gX5_keys_X5_isDesk : GoodIn wsX5_keys (va_wsS RX5 125 yX5_isDesk wsX5_isDesk) := goodIn_app (goodIn_of _ (by decide +kernel)) ggX5_keys_X5_isDesk
set_option maxRecDepth 20000 in
theorem ggX5_keys_X5_in : GoodIn wsX5_keys wsX5_in := goodIn_r _ [14] (by decide +kernel) (by decide +kernel)
set_option maxRecDepth 20000 in
theorem gX5_keys_X5_in : GoodIn wsX5_keys (va_wsS RX5 77 yX5_in wsX5_in) := goodIn_app (goodIn_of _ (by decide +kernel)) ggX5_keys_X5_in
set_option maxRecDepth 20000 in
theorem ggX5_keys_X5_layRising : GoodIn wsX5_keys wsX5_layRising := goodIn_r _ [18, 19, 6, 4, 20, 21, 9, 22, 23, 24, 25, 26, 5, 27, 28, 29, 30, 31, 32, 33, 34, 35, 36, 37, 38, 39, 40, 41, 42, 43, 44, 45, 46, 47, 48, 49, 50, 51, 52, 53] (by decide +kernel) (by decide +kernel)
set_option maxRecDepth 20000 in
theorem gX5_keys_X5_layRising : GoodIn wsX5_keys (wsV RX5 227 RX5 yX5_layRising wsX5_layRising) := goodIn_app (goodIn_of _ (by decide +kernel)) ggX5_keys_X5_layRising
theorem dX5_keys_0 : decode cX5_keys 0 = .ok (.aload_n 0, 1) := by decide +kernel
theorem dX5_keys_1 : decode cX5_keys 1 = .ok (.iconst 0, 1) := by decide +kernel
theorem dX5_keys_2 : decode cX5_keys 2 = .ok (.putfield 63, 3) := by decide +kernel
theorem dX5_keys_5 : decode cX5_keys 5 = .ok (.iload_n 1, 1) := by decide +kernel
theorem dX5_keys_6 : decode cX5_keys 6 = .ok (.invokestatic 125, 3) := by decide +kernel
theorem dX5_keys_9 : decode cX5_keys 9 = .ok (.ifCond .eq 15, 3) := by decide +kernel
theorem dX5_keys_12 : decode cX5_keys 12 = .ok (.iload_n 2, 1) := by decide +kernel
theorem dX5_keys_13 : decode cX5_keys 13 = .ok (.i2l, 1) := by decide +kernel
theorem dX5_keys_14 : decode cX5_keys 14 = .ok (.lconst 0, 1) := by decide +kernel
theorem dX5_keys_15 : decode cX5_keys 15 = .ok (.ldc2_w 230, 3) := by decide +kernel
theorem dX5_keys_18 : decode cX5_keys 18 = .ok (.invokestatic 77, 3) := by decide +kernel
theorem dX5_keys_21 : decode cX5_keys 21 = .ok (.ifCond .ne 7, 3) := by decide +kernel
theorem dX5_keys_24 : decode cX5_keys 24 = .ok (.ldc2_w 234, 3) := by decide +kernel
theorem dX5_keys_27 : decode cX5_keys 27 = .ok (.lreturn, 1) := by decide +kernel
theorem dX5_keys_28 : decode cX5_keys 28 = .ok (.aload_n 0, 1) := by decide +kernel
theorem dX5_keys_29 : decode cX5_keys 29 = .ok (.iload_n 1, 1) := by decide +kernel
theorem dX5_keys_30 : decode cX5_keys 30 = .ok (.iconst 0, 1) := by decide +kernel
theorem dX5_keys_31 : decode cX5_keys 31 = .ok (.invokevirtual 227, 3) := by decide +kernel
theorem dX5_keys_34 : decode cX5_keys 34 = .ok (.aload_n 0, 1) := by decide +kernel
theorem dX5_keys_35 : decode cX5_keys 35 = .ok (.getfield 54, 3) := by decide +kernel
theorem dX5_keys_38 : decode cX5_keys 38 = .ok (.iconst 0, 1) := by decide +kernel
theorem dX5_keys_39 : decode cX5_keys 39 = .ok (.iaload, 1) := by decide +kernel
theorem dX5_keys_40 : decode cX5_keys 40 = .ok (.istore_n 3, 1) := by decide +kernel
theorem dX5_keys_41 : decode cX5_keys 41 = .ok (.lconst 0, 1) := by decide +kernel
theorem dX5_keys_42 : decode cX5_keys 42 = .ok (.lstore 4, 2) := by decide +kernel
theorem dX5_keys_44 : decode cX5_keys 44 = .ok (.ldc2_w 234, 3) := by decide +kernel
theorem dX5_keys_47 : decode cX5_keys 47 = .ok (.lstore 6, 2) := by decide +kernel
theorem dX5_keys_49 : decode cX5_keys 49 = .ok (.iconst 0, 1) := by decide +kernel
theorem dX5_keys_50 : decode cX5_keys 50 = .ok (.istore 8, 2) := by decide +kernel
theorem dX5_keys_52 : decode cX5_keys 52 = .ok (.iconst 0, 1) := by decide +kernel
theorem dX5_keys_53 : decode cX5_keys 53 = .ok (.istore 9, 2) := by decide +kernel
theorem dX5_keys_55 : decode cX5_keys 55 = .ok (.iload 9, 2) := by decide +kernel
theorem dX5_keys_57 : decode cX5_keys 57 = .ok (.iload_n 3, 1) := by decide +kernel
theorem dX5_keys_58 : decode cX5_keys 58 = .ok (.if_icmp .ge 103, 3) := by decide +kernel
theorem dX5_keys_61 : decode cX5_keys 61 = .ok (.iload 9, 2) := by decide +kernel
theorem dX5_keys_63 : decode cX5_keys 63 = .ok (.ifCond .ne 7, 3) := by decide +kernel
theorem dX5_keys_66 : decode cX5_keys 66 = .ok (.lconst 1, 1) := by decide +kernel
theorem dX5_keys_67 : decode cX5_keys 67 = .ok (.goto 30, 3) := by decide +kernel
theorem dX5_keys_70 : decode cX5_keys 70 = .ok (.aload_n 0, 1) := by decide +kernel
theorem dX5_keys_71 : decode cX5_keys 71 = .ok (.getfield 16, 3) := by decide +kernel
theorem dX5_keys_74 : decode cX5_keys 74 = .ok (.aload_n 0, 1) := by decide +kernel
theorem dX5_keys_75 : decode cX5_keys 75 = .ok (.getfield 51, 3) := by decide +kernel
theorem dX5_keys_78 : decode cX5_keys 78 = .ok (.iload 9, 2) := by decide +kernel
theorem dX5_keys_80 : decode cX5_keys 80 = .ok (.iaload, 1) := by decide +kernel
theorem dX5_keys_81 : decode cX5_keys 81 = .ok (.laload, 1) := by decide +kernel
theorem dX5_keys_82 : decode cX5_keys 82 = .ok (.aload_n 0, 1) := by decide +kernel
theorem dX5_keys_83 : decode cX5_keys 83 = .ok (.getfield 16, 3) := by decide +kernel
theorem dX5_keys_86 : decode cX5_keys 86 = .ok (.aload_n 0, 1) := by decide +kernel
theorem dX5_keys_87 : decode cX5_keys 87 = .ok (.getfield 51, 3) := by decide +kernel
theorem dX5_keys_90 : decode cX5_keys 90 = .ok (.iload 9, 2) := by decide +kernel
theorem dX5_keys_92 : decode cX5_keys 92 = .ok (.iconst 1, 1) := by decide +kernel
theorem dX5_keys_93 : decode cX5_keys 93 = .ok (.isub, 1) := by decide +kernel
theorem dX5_keys_94 : decode cX5_keys 94 = .ok (.iaload, 1) := by decide +kernel
theorem dX5_keys_95 : decode cX5_keys 95 = .ok (.laload, 1) := by decide +kernel
theorem dX5_keys_96 : decode cX5_keys 96 = .ok (.lsub, 1) := by decide +kernel
theorem dX5_keys_97 : decode cX5_keys 97 = .ok (.lstore 10, 2) := by decide +kernel
theorem dX5_keys_99 : decode cX5_keys 99 = .ok (.lload 4, 2) := by decide +kernel
theorem dX5_keys_101 : decode cX5_keys 101 = .ok (.aload_n 0, 1) := by decide +kernel
theorem dX5_keys_102 : decode cX5_keys 102 = .ok (.getfield 16, 3) := by decide +kernel
theorem dX5_keys_105 : decode cX5_keys 105 = .ok (.aload_n 0, 1) := by decide +kernel
theorem dX5_keys_106 : decode cX5_keys 106 = .ok (.getfield 51, 3) := by decide +kernel
theorem dX5_keys_109 : decode cX5_keys 109 = .ok (.iload 9, 2) := by decide +kernel
theorem dX5_keys_111 : decode cX5_keys 111 = .ok (.iaload, 1) := by decide +kernel
theorem dX5_keys_112 : decode cX5_keys 112 = .ok (.laload, 1) := by decide +kernel
theorem dX5_keys_113 : decode cX5_keys 113 = .ok (.ladd, 1) := by decide +kernel
theorem dX5_keys_114 : decode cX5_keys 114 = .ok (.lstore 4, 2) := by decide +kernel
theorem dX5_keys_116 : decode cX5_keys 116 = .ok (.iload 9, 2) := by decide +kernel
theorem dX5_keys_118 : decode cX5_keys 118 = .ok (.ifCond .le 16, 3) := by decide +kernel
theorem dX5_keys_121 : decode cX5_keys 121 = .ok (.lload 10, 2) := by decide +kernel
theorem dX5_keys_123 : decode cX5_keys 123 = .ok (.lload 6, 2) := by decide +kernel
theorem dX5_keys_125 : decode cX5_keys 125 = .ok (.lcmp, 1) := by decide +kernel
theorem dX5_keys_126 : decode cX5_keys 126 = .ok (.ifCond .le 8, 3) := by decide +kernel
theorem dX5_keys_129 : decode cX5_keys 129 = .ok (.lload 10, 2) := by decide +kernel
theorem dX5_keys_131 : decode cX5_keys 131 = .ok (.goto 5, 3) := by decide +kernel
theorem dX5_keys_134 : decode cX5_keys 134 = .ok (.lload 6, 2) := by decide +kernel
theorem dX5_keys_136 : decode cX5_keys 136 = .ok (.lstore 6, 2) := by decide +kernel
theorem dX5_keys_138 : decode cX5_keys 138 = .ok (.iload 8, 2) := by decide +kernel
theorem dX5_keys_140 : decode cX5_keys 140 = .ok (.lload 10, 2) := by decide +kernel
theorem dX5_keys_142 : decode cX5_keys 142 = .ok (.lconst 0, 1) := by decide +kernel
theorem dX5_keys_143 : decode cX5_keys 143 = .ok (.lcmp, 1) := by decide +kernel
theorem dX5_keys_144 : decode cX5_keys 144 = .ok (.ifCond .le 7, 3) := by decide +kernel
theorem dX5_keys_147 : decode cX5_keys 147 = .ok (.iconst 1, 1) := by decide +kernel
theorem dX5_keys_148 : decode cX5_keys 148 = .ok (.goto 4, 3) := by decide +kernel
theorem dX5_keys_151 : decode cX5_keys 151 = .ok (.iconst 0, 1) := by decide +kernel
theorem dX5_keys_152 : decode cX5_keys 152 = .ok (.iadd, 1) := by decide +kernel
theorem dX5_keys_153 : decode cX5_keys 153 = .ok (.istore 8, 2) := by decide +kernel
theorem dX5_keys_155 : decode cX5_keys 155 = .ok (.iinc 9 1, 3) := by decide +kernel
theorem dX5_keys_158 : decode cX5_keys 158 = .ok (.goto (-103), 3) := by decide +kernel
theorem dX5_keys_161 : decode cX5_keys 161 = .ok (.iload_n 2, 1) := by decide +kernel
theorem dX5_keys_162 : decode cX5_keys 162 = .ok (.ifCond .ne 8, 3) := by decide +kernel
theorem dX5_keys_165 : decode cX5_keys 165 = .ok (.lload 4, 2) := by decide +kernel
theorem dX5_keys_167 : decode cX5_keys 167 = .ok (.goto 47, 3) := by decide +kernel
theorem dX5_keys_170 : decode cX5_keys 170 = .ok (.iload_n 2, 1) := by decide +kernel
theorem dX5_keys_171 : decode cX5_keys 171 = .ok (.iconst 1, 1) := by decide +kernel
theorem dX5_keys_172 : decode cX5_keys 172 = .ok (.if_icmp .ne 29, 3) := by decide +kernel
theorem dX5_keys_175 : decode cX5_keys 175 = .ok (.iload_n 3, 1) := by decide +kernel
theorem dX5_keys_176 : decode cX5_keys 176 = .ok (.ifCond .ne 9, 3) := by decide +kernel
theorem dX5_keys_179 : decode cX5_keys 179 = .ok (.ldc2_w 234, 3) := by decide +kernel
theorem dX5_keys_182 : decode cX5_keys 182 = .ok (.goto 32, 3) := by decide +kernel
theorem dX5_keys_185 : decode cX5_keys 185 = .ok (.aload_n 0, 1) := by decide +kernel
theorem dX5_keys_186 : decode cX5_keys 186 = .ok (.getfield 16, 3) := by decide +kernel
theorem dX5_keys_189 : decode cX5_keys 189 = .ok (.aload_n 0, 1) := by decide +kernel
theorem dX5_keys_190 : decode cX5_keys 190 = .ok (.getfield 51, 3) := by decide +kernel
theorem dX5_keys_193 : decode cX5_keys 193 = .ok (.iload_n 3, 1) := by decide +kernel
theorem dX5_keys_194 : decode cX5_keys 194 = .ok (.iconst 1, 1) := by decide +kernel
theorem dX5_keys_195 : decode cX5_keys 195 = .ok (.isub, 1) := by decide +kernel
theorem dX5_keys_196 : decode cX5_keys 196 = .ok (.iaload, 1) := by decide +kernel
theorem dX5_keys_197 : decode cX5_keys 197 = .ok (.laload, 1) := by decide +kernel
theorem dX5_keys_198 : decode cX5_keys 198 = .ok (.goto 16, 3) := by decide +kernel
theorem dX5_keys_201 : decode cX5_keys 201 = .ok (.iload_n 2, 1) := by decide +kernel
theorem dX5_keys_202 : decode cX5_keys 202 = .ok (.iconst 2, 1) := by decide +kernel
theorem dX5_keys_203 : decode cX5_keys 203 = .ok (.if_icmp .ne 8, 3) := by decide +kernel
theorem dX5_keys_206 : decode cX5_keys 206 = .ok (.lload 6, 2) := by decide +kernel
theorem dX5_keys_208 : decode cX5_keys 208 = .ok (.goto 6, 3) := by decide +kernel
theorem dX5_keys_211 : decode cX5_keys 211 = .ok (.iload 8, 2) := by decide +kernel
theorem dX5_keys_213 : decode cX5_keys 213 = .ok (.i2l, 1) := by decide +kernel
theorem dX5_keys_214 : decode cX5_keys 214 = .ok (.lreturn, 1) := by decide +kernel
set_option maxRecDepth 20000 in
theorem ggX5_pair_X5_isDesk : GoodIn wsX5_pair wsX5_isDesk := goodIn_r _ [11, 12, 13, 14, 10, 15] (by decide +kernel) (by decide +kernel)
set_option maxRecDepth 20000 in
theorem gX5_pair_X5_isDesk : GoodIn wsX5_pair (va_wsS RX5 125 yX5_isDesk wsX5_isDesk) := goodIn_app (goodIn_of _ (by decide +kernel)) ggX5_pair_X5_isDesk
set_option maxRecDepth 20000 in
theorem ggX5_pair_X5_in : GoodIn wsX5_pair wsX5_in := goodIn_r _ [15] (by decide +kernel) (by decide +kernel)
set_option maxRecDepth 20000 in
theorem gX5_pair_X5_in : GoodIn wsX5_pair (va_wsS RX5 77 yX5_in wsX5_in) := goodIn_app (goodIn_of _ (by decide +kernel)) ggX5_pair_X5_in
set_option maxRecDepth 20000 in
theorem ggX5_pair_X5_layRising : GoodIn wsX5_pair wsX5_layRising := goodIn_r _ [19, 20, 7, 5, 21, 22, 10, 23, 24, 25, 26, 27, 28, 33, 34, 35, 36, 37, 38, 39, 40, 41, 42, 43, 44, 45, 46, 47, 48, 49, 50, 51, 52, 53, 54, 55, 56, 57, 58, 59] (by decide +kernel) (by decide +kernel)
set_option maxRecDepth 20000 in
theorem gX5_pair_X5_layRising : GoodIn wsX5_pair (wsV RX5 227 RX5 yX5_layRising wsX5_layRising) := goodIn_app (goodIn_of _ (by decide +kernel)) ggX5_pair_X5_layRising
set_option maxRecDepth 20000 in
theorem ggX5_pair_X5_sumOf : GoodIn wsX5_pair wsX5_sumOf := goodIn_r _ [32, 28, 7, 6, 33, 34, 35, 36, 37, 38, 39, 40, 41, 42, 43, 44, 45, 46, 47, 48, 49, 50, 51, 52, 53, 54, 55, 56, 57, 58, 59] (by decide +kernel) (by decide +kernel)
set_option maxRecDepth 20000 in
theorem gX5_pair_X5_sumOf : GoodIn wsX5_pair (wsV RX5 240 RX5 yX5_sumOf wsX5_sumOf) := goodIn_app (goodIn_of _ (by decide +kernel)) ggX5_pair_X5_sumOf
theorem dX5_pair_0 : decode cX5_pair 0 = .ok (.aload_n 0, 1) := by decide +kernel
theorem dX5_pair_1 : decode cX5_pair 1 = .ok (.iconst 0, 1) := by decide +kernel
theorem dX5_pair_2 : decode cX5_pair 2 = .ok (.putfield 63, 3) := by decide +kernel
theorem dX5_pair_5 : decode cX5_pair 5 = .ok (.iload_n 1, 1) := by decide +kernel
theorem dX5_pair_6 : decode cX5_pair 6 = .ok (.invokestatic 125, 3) := by decide +kernel
theorem dX5_pair_9 : decode cX5_pair 9 = .ok (.ifCond .eq 35, 3) := by decide +kernel
theorem dX5_pair_12 : decode cX5_pair 12 = .ok (.iload_n 2, 1) := by decide +kernel
theorem dX5_pair_13 : decode cX5_pair 13 = .ok (.invokestatic 125, 3) := by decide +kernel
theorem dX5_pair_16 : decode cX5_pair 16 = .ok (.ifCond .eq 28, 3) := by decide +kernel
theorem dX5_pair_19 : decode cX5_pair 19 = .ok (.iload_n 3, 1) := by decide +kernel
theorem dX5_pair_20 : decode cX5_pair 20 = .ok (.i2l, 1) := by decide +kernel
theorem dX5_pair_21 : decode cX5_pair 21 = .ok (.lconst 0, 1) := by decide +kernel
theorem dX5_pair_22 : decode cX5_pair 22 = .ok (.ldc2_w 236, 3) := by decide +kernel
theorem dX5_pair_25 : decode cX5_pair 25 = .ok (.invokestatic 77, 3) := by decide +kernel
theorem dX5_pair_28 : decode cX5_pair 28 = .ok (.ifCond .eq 16, 3) := by decide +kernel
theorem dX5_pair_31 : decode cX5_pair 31 = .ok (.iload 4, 2) := by decide +kernel
theorem dX5_pair_33 : decode cX5_pair 33 = .ok (.i2l, 1) := by decide +kernel
theorem dX5_pair_34 : decode cX5_pair 34 = .ok (.lconst 0, 1) := by decide +kernel
theorem dX5_pair_35 : decode cX5_pair 35 = .ok (.ldc2_w 238, 3) := by decide +kernel
theorem dX5_pair_38 : decode cX5_pair 38 = .ok (.invokestatic 77, 3) := by decide +kernel
theorem dX5_pair_41 : decode cX5_pair 41 = .ok (.ifCond .ne 7, 3) := by decide +kernel
theorem dX5_pair_44 : decode cX5_pair 44 = .ok (.ldc2_w 234, 3) := by decide +kernel
theorem dX5_pair_47 : decode cX5_pair 47 = .ok (.lreturn, 1) := by decide +kernel
theorem dX5_pair_48 : decode cX5_pair 48 = .ok (.aload_n 0, 1) := by decide +kernel
theorem dX5_pair_49 : decode cX5_pair 49 = .ok (.iload_n 1, 1) := by decide +kernel
theorem dX5_pair_50 : decode cX5_pair 50 = .ok (.iconst 0, 1) := by decide +kernel
theorem dX5_pair_51 : decode cX5_pair 51 = .ok (.invokevirtual 227, 3) := by decide +kernel
theorem dX5_pair_54 : decode cX5_pair 54 = .ok (.aload_n 0, 1) := by decide +kernel
theorem dX5_pair_55 : decode cX5_pair 55 = .ok (.iload_n 2, 1) := by decide +kernel
theorem dX5_pair_56 : decode cX5_pair 56 = .ok (.iconst 1, 1) := by decide +kernel
theorem dX5_pair_57 : decode cX5_pair 57 = .ok (.invokevirtual 227, 3) := by decide +kernel
theorem dX5_pair_60 : decode cX5_pair 60 = .ok (.aload_n 0, 1) := by decide +kernel
theorem dX5_pair_61 : decode cX5_pair 61 = .ok (.getfield 54, 3) := by decide +kernel
theorem dX5_pair_64 : decode cX5_pair 64 = .ok (.iconst 0, 1) := by decide +kernel
theorem dX5_pair_65 : decode cX5_pair 65 = .ok (.iaload, 1) := by decide +kernel
theorem dX5_pair_66 : decode cX5_pair 66 = .ok (.bipush 40, 2) := by decide +kernel
theorem dX5_pair_68 : decode cX5_pair 68 = .ok (.if_icmp .ge 12, 3) := by decide +kernel
theorem dX5_pair_71 : decode cX5_pair 71 = .ok (.aload_n 0, 1) := by decide +kernel
theorem dX5_pair_72 : decode cX5_pair 72 = .ok (.getfield 54, 3) := by decide +kernel
theorem dX5_pair_75 : decode cX5_pair 75 = .ok (.iconst 0, 1) := by decide +kernel
theorem dX5_pair_76 : decode cX5_pair 76 = .ok (.iaload, 1) := by decide +kernel
theorem dX5_pair_77 : decode cX5_pair 77 = .ok (.goto 5, 3) := by decide +kernel
theorem dX5_pair_80 : decode cX5_pair 80 = .ok (.bipush 40, 2) := by decide +kernel
theorem dX5_pair_82 : decode cX5_pair 82 = .ok (.istore 5, 2) := by decide +kernel
theorem dX5_pair_84 : decode cX5_pair 84 = .ok (.iconst 0, 1) := by decide +kernel
theorem dX5_pair_85 : decode cX5_pair 85 = .ok (.istore 6, 2) := by decide +kernel
theorem dX5_pair_87 : decode cX5_pair 87 = .ok (.iload 6, 2) := by decide +kernel
theorem dX5_pair_89 : decode cX5_pair 89 = .ok (.iload 5, 2) := by decide +kernel
theorem dX5_pair_91 : decode cX5_pair 91 = .ok (.if_icmp .ge 17, 3) := by decide +kernel
theorem dX5_pair_94 : decode cX5_pair 94 = .ok (.aload_n 0, 1) := by decide +kernel
theorem dX5_pair_95 : decode cX5_pair 95 = .ok (.getfield 57, 3) := by decide +kernel
theorem dX5_pair_98 : decode cX5_pair 98 = .ok (.iload 6, 2) := by decide +kernel
theorem dX5_pair_100 : decode cX5_pair 100 = .ok (.iconst 0, 1) := by decide +kernel
theorem dX5_pair_101 : decode cX5_pair 101 = .ok (.iastore, 1) := by decide +kernel
theorem dX5_pair_102 : decode cX5_pair 102 = .ok (.iinc 6 1, 3) := by decide +kernel
theorem dX5_pair_105 : decode cX5_pair 105 = .ok (.goto (-18), 3) := by decide +kernel
theorem dX5_pair_108 : decode cX5_pair 108 = .ok (.iconst (-1), 1) := by decide +kernel
theorem dX5_pair_109 : decode cX5_pair 109 = .ok (.istore 6, 2) := by decide +kernel
theorem dX5_pair_111 : decode cX5_pair 111 = .ok (.iconst 0, 1) := by decide +kernel
theorem dX5_pair_112 : decode cX5_pair 112 = .ok (.istore 7, 2) := by decide +kernel
theorem dX5_pair_114 : decode cX5_pair 114 = .ok (.iload 7, 2) := by decide +kernel
theorem dX5_pair_116 : decode cX5_pair 116 = .ok (.iload_n 3, 1) := by decide +kernel
theorem dX5_pair_117 : decode cX5_pair 117 = .ok (.if_icmp .gt 97, 3) := by decide +kernel
theorem dX5_pair_120 : decode cX5_pair 120 = .ok (.iload 6, 2) := by decide +kernel
theorem dX5_pair_122 : decode cX5_pair 122 = .ok (.iconst (-1), 1) := by decide +kernel
theorem dX5_pair_123 : decode cX5_pair 123 = .ok (.if_icmp .eq 14, 3) := by decide +kernel
theorem dX5_pair_126 : decode cX5_pair 126 = .ok (.aload_n 0, 1) := by decide +kernel
theorem dX5_pair_127 : decode cX5_pair 127 = .ok (.getfield 57, 3) := by decide +kernel
theorem dX5_pair_130 : decode cX5_pair 130 = .ok (.iload 6, 2) := by decide +kernel
theorem dX5_pair_132 : decode cX5_pair 132 = .ok (.dup2, 1) := by decide +kernel
theorem dX5_pair_133 : decode cX5_pair 133 = .ok (.iaload, 1) := by decide +kernel
theorem dX5_pair_134 : decode cX5_pair 134 = .ok (.iconst 1, 1) := by decide +kernel
theorem dX5_pair_135 : decode cX5_pair 135 = .ok (.iadd, 1) := by decide +kernel
theorem dX5_pair_136 : decode cX5_pair 136 = .ok (.iastore, 1) := by decide +kernel
theorem dX5_pair_137 : decode cX5_pair 137 = .ok (.iconst (-1), 1) := by decide +kernel
theorem dX5_pair_138 : decode cX5_pair 138 = .ok (.istore 6, 2) := by decide +kernel
theorem dX5_pair_140 : decode cX5_pair 140 = .ok (.iconst 0, 1) := by decide +kernel
theorem dX5_pair_141 : decode cX5_pair 141 = .ok (.istore 8, 2) := by decide +kernel
theorem dX5_pair_143 : decode cX5_pair 143 = .ok (.iload 8, 2) := by decide +kernel
theorem dX5_pair_145 : decode cX5_pair 145 = .ok (.iload 5, 2) := by decide +kernel
theorem dX5_pair_147 : decode cX5_pair 147 = .ok (.if_icmp .ge 51, 3) := by decide +kernel
theorem dX5_pair_150 : decode cX5_pair 150 = .ok (.aload_n 0, 1) := by decide +kernel
theorem dX5_pair_151 : decode cX5_pair 151 = .ok (.getfield 57, 3) := by decide +kernel
theorem dX5_pair_154 : decode cX5_pair 154 = .ok (.iload 8, 2) := by decide +kernel
theorem dX5_pair_156 : decode cX5_pair 156 = .ok (.iaload, 1) := by decide +kernel
theorem dX5_pair_157 : decode cX5_pair 157 = .ok (.aload_n 0, 1) := by decide +kernel
theorem dX5_pair_158 : decode cX5_pair 158 = .ok (.getfield 54, 3) := by decide +kernel
theorem dX5_pair_161 : decode cX5_pair 161 = .ok (.iconst 1, 1) := by decide +kernel
theorem dX5_pair_162 : decode cX5_pair 162 = .ok (.iaload, 1) := by decide +kernel
theorem dX5_pair_163 : decode cX5_pair 163 = .ok (.if_icmp .ge 29, 3) := by decide +kernel
theorem dX5_pair_166 : decode cX5_pair 166 = .ok (.iload 6, 2) := by decide +kernel
theorem dX5_pair_168 : decode cX5_pair 168 = .ok (.iconst (-1), 1) := by decide +kernel
theorem dX5_pair_169 : decode cX5_pair 169 = .ok (.if_icmp .eq 19, 3) := by decide +kernel
theorem dX5_pair_172 : decode cX5_pair 172 = .ok (.aload_n 0, 1) := by decide +kernel
theorem dX5_pair_173 : decode cX5_pair 173 = .ok (.iload 8, 2) := by decide +kernel
theorem dX5_pair_175 : decode cX5_pair 175 = .ok (.invokevirtual 240, 3) := by decide +kernel
theorem dX5_pair_178 : decode cX5_pair 178 = .ok (.aload_n 0, 1) := by decide +kernel
theorem dX5_pair_179 : decode cX5_pair 179 = .ok (.iload 6, 2) := by decide +kernel
theorem dX5_pair_181 : decode cX5_pair 181 = .ok (.invokevirtual 240, 3) := by decide +kernel
theorem dX5_pair_184 : decode cX5_pair 184 = .ok (.lcmp, 1) := by decide +kernel
theorem dX5_pair_185 : decode cX5_pair 185 = .ok (.ifCond .ge 7, 3) := by decide +kernel
theorem dX5_pair_188 : decode cX5_pair 188 = .ok (.iload 8, 2) := by decide +kernel
theorem dX5_pair_190 : decode cX5_pair 190 = .ok (.istore 6, 2) := by decide +kernel
theorem dX5_pair_192 : decode cX5_pair 192 = .ok (.iinc 8 1, 3) := by decide +kernel
theorem dX5_pair_195 : decode cX5_pair 195 = .ok (.goto (-52), 3) := by decide +kernel
theorem dX5_pair_198 : decode cX5_pair 198 = .ok (.iload 6, 2) := by decide +kernel
theorem dX5_pair_200 : decode cX5_pair 200 = .ok (.iconst (-1), 1) := by decide +kernel
theorem dX5_pair_201 : decode cX5_pair 201 = .ok (.if_icmp .ne 7, 3) := by decide +kernel
theorem dX5_pair_204 : decode cX5_pair 204 = .ok (.ldc2_w 234, 3) := by decide +kernel
theorem dX5_pair_207 : decode cX5_pair 207 = .ok (.lreturn, 1) := by decide +kernel
theorem dX5_pair_208 : decode cX5_pair 208 = .ok (.iinc 7 1, 3) := by decide +kernel
theorem dX5_pair_211 : decode cX5_pair 211 = .ok (.goto (-97), 3) := by decide +kernel
theorem dX5_pair_214 : decode cX5_pair 214 = .ok (.iload 4, 2) := by decide +kernel
theorem dX5_pair_216 : decode cX5_pair 216 = .ok (.ifCond .ne 12, 3) := by decide +kernel
theorem dX5_pair_219 : decode cX5_pair 219 = .ok (.aload_n 0, 1) := by decide +kernel
theorem dX5_pair_220 : decode cX5_pair 220 = .ok (.iload 6, 2) := by decide +kernel
theorem dX5_pair_222 : decode cX5_pair 222 = .ok (.invokevirtual 240, 3) := by decide +kernel
theorem dX5_pair_225 : decode cX5_pair 225 = .ok (.goto 37, 3) := by decide +kernel
theorem dX5_pair_228 : decode cX5_pair 228 = .ok (.iload 4, 2) := by decide +kernel
theorem dX5_pair_230 : decode cX5_pair 230 = .ok (.iconst 1, 1) := by decide +kernel
theorem dX5_pair_231 : decode cX5_pair 231 = .ok (.if_icmp .ne 14, 3) := by decide +kernel
theorem dX5_pair_234 : decode cX5_pair 234 = .ok (.aload_n 0, 1) := by decide +kernel
theorem dX5_pair_235 : decode cX5_pair 235 = .ok (.getfield 51, 3) := by decide +kernel
theorem dX5_pair_238 : decode cX5_pair 238 = .ok (.iload 6, 2) := by decide +kernel
theorem dX5_pair_240 : decode cX5_pair 240 = .ok (.iaload, 1) := by decide +kernel
theorem dX5_pair_241 : decode cX5_pair 241 = .ok (.i2l, 1) := by decide +kernel
theorem dX5_pair_242 : decode cX5_pair 242 = .ok (.goto 20, 3) := by decide +kernel
theorem dX5_pair_245 : decode cX5_pair 245 = .ok (.aload_n 0, 1) := by decide +kernel
theorem dX5_pair_246 : decode cX5_pair 246 = .ok (.getfield 51, 3) := by decide +kernel
theorem dX5_pair_249 : decode cX5_pair 249 = .ok (.sipush 300, 3) := by decide +kernel
theorem dX5_pair_252 : decode cX5_pair 252 = .ok (.aload_n 0, 1) := by decide +kernel
theorem dX5_pair_253 : decode cX5_pair 253 = .ok (.getfield 57, 3) := by decide +kernel
theorem dX5_pair_256 : decode cX5_pair 256 = .ok (.iload 6, 2) := by decide +kernel
theorem dX5_pair_258 : decode cX5_pair 258 = .ok (.iaload, 1) := by decide +kernel
theorem dX5_pair_259 : decode cX5_pair 259 = .ok (.iadd, 1) := by decide +kernel
theorem dX5_pair_260 : decode cX5_pair 260 = .ok (.iaload, 1) := by decide +kernel
theorem dX5_pair_261 : decode cX5_pair 261 = .ok (.i2l, 1) := by decide +kernel
theorem dX5_pair_262 : decode cX5_pair 262 = .ok (.lreturn, 1) := by decide +kernel
theorem dX5_sumOf_0 : decode cX5_sumOf 0 = .ok (.aload_n 0, 1) := by decide +kernel
theorem dX5_sumOf_1 : decode cX5_sumOf 1 = .ok (.getfield 16, 3) := by decide +kernel
theorem dX5_sumOf_4 : decode cX5_sumOf 4 = .ok (.aload_n 0, 1) := by decide +kernel
theorem dX5_sumOf_5 : decode cX5_sumOf 5 = .ok (.getfield 51, 3) := by decide +kernel
theorem dX5_sumOf_8 : decode cX5_sumOf 8 = .ok (.iload_n 1, 1) := by decide +kernel
theorem dX5_sumOf_9 : decode cX5_sumOf 9 = .ok (.iaload, 1) := by decide +kernel
theorem dX5_sumOf_10 : decode cX5_sumOf 10 = .ok (.laload, 1) := by decide +kernel
theorem dX5_sumOf_11 : decode cX5_sumOf 11 = .ok (.aload_n 0, 1) := by decide +kernel
theorem dX5_sumOf_12 : decode cX5_sumOf 12 = .ok (.getfield 16, 3) := by decide +kernel
theorem dX5_sumOf_15 : decode cX5_sumOf 15 = .ok (.aload_n 0, 1) := by decide +kernel
theorem dX5_sumOf_16 : decode cX5_sumOf 16 = .ok (.getfield 51, 3) := by decide +kernel
theorem dX5_sumOf_19 : decode cX5_sumOf 19 = .ok (.sipush 300, 3) := by decide +kernel
theorem dX5_sumOf_22 : decode cX5_sumOf 22 = .ok (.aload_n 0, 1) := by decide +kernel
theorem dX5_sumOf_23 : decode cX5_sumOf 23 = .ok (.getfield 57, 3) := by decide +kernel
theorem dX5_sumOf_26 : decode cX5_sumOf 26 = .ok (.iload_n 1, 1) := by decide +kernel
theorem dX5_sumOf_27 : decode cX5_sumOf 27 = .ok (.iaload, 1) := by decide +kernel
theorem dX5_sumOf_28 : decode cX5_sumOf 28 = .ok (.iadd, 1) := by decide +kernel
theorem dX5_sumOf_29 : decode cX5_sumOf 29 = .ok (.iaload, 1) := by decide +kernel
theorem dX5_sumOf_30 : decode cX5_sumOf 30 = .ok (.laload, 1) := by decide +kernel
theorem dX5_sumOf_31 : decode cX5_sumOf 31 = .ok (.ladd, 1) := by decide +kernel
theorem dX5_sumOf_32 : decode cX5_sumOf 32 = .ok (.lreturn, 1) := by decide +kernel
set_option maxRecDepth 20000 in
theorem ggX5_above_X5_isThere : GoodIn wsX5_above wsX5_isThere := goodIn_r _ [6, 7, 8, 9, 10, 5, 11, 1, 12, 13, 14, 15, 16, 17, 18, 19, 20, 21, 22, 23, 24, 25, 26, 27, 28, 29, 30, 31, 32, 33, 34, 35, 36, 37, 38, 39, 40, 41, 42, 43, 44] (by decide +kernel) (by decide +kernel)
set_option maxRecDepth 20000 in
theorem gX5_above_X5_isThere : GoodIn wsX5_above (wsV RX5 203 RX5 yX5_isThere wsX5_isThere) := goodIn_app (goodIn_of _ (by decide +kernel)) ggX5_above_X5_isThere
set_option maxRecDepth 20000 in
theorem ggX5_above_X5_isItem : GoodIn wsX5_above wsX5_isItem := goodIn_r _ [11, 1, 12, 13, 5, 14, 15, 16, 17, 18, 19, 20, 21, 22, 23, 24, 25, 26, 27, 28, 29, 30, 31, 32, 33, 34, 35, 36, 37, 38, 39, 40, 41, 42, 43, 44] (by decide +kernel) (by decide +kernel)
set_option maxRecDepth 20000 in
theorem gX5_above_X5_isItem : GoodIn wsX5_above (wsV RX5 153 RX5 yX5_isItem wsX5_isItem) := goodIn_app (goodIn_of _ (by decide +kernel)) ggX5_above_X5_isItem
set_option maxRecDepth 20000 in
theorem ggX5_above_X5_at : GoodIn wsX5_above wsX5_at := goodIn_r _ [17] (by decide +kernel) (by decide +kernel)
set_option maxRecDepth 20000 in
theorem gX5_above_X5_at : GoodIn wsX5_above (va_wsS RX5 83 yX5_at wsX5_at) := goodIn_app (goodIn_of _ (by decide +kernel)) ggX5_above_X5_at
theorem dX5_above_0 : decode cX5_above 0 = .ok (.aload_n 0, 1) := by decide +kernel
theorem dX5_above_1 : decode cX5_above 1 = .ok (.iload_n 1, 1) := by decide +kernel
theorem dX5_above_2 : decode cX5_above 2 = .ok (.invokevirtual 203, 3) := by decide +kernel
theorem dX5_above_5 : decode cX5_above 5 = .ok (.ifCond .eq 7, 3) := by decide +kernel
theorem dX5_above_8 : decode cX5_above 8 = .ok (.iload_n 2, 1) := by decide +kernel
theorem dX5_above_9 : decode cX5_above 9 = .ok (.ifCond .ge 17, 3) := by decide +kernel
theorem dX5_above_12 : decode cX5_above 12 = .ok (.aload_n 0, 1) := by decide +kernel
theorem dX5_above_13 : decode cX5_above 13 = .ok (.iload_n 1, 1) := by decide +kernel
theorem dX5_above_14 : decode cX5_above 14 = .ok (.invokevirtual 153, 3) := by decide +kernel
theorem dX5_above_17 : decode cX5_above 17 = .ok (.ifCond .eq 7, 3) := by decide +kernel
theorem dX5_above_20 : decode cX5_above 20 = .ok (.iconst (-1), 1) := by decide +kernel
theorem dX5_above_21 : decode cX5_above 21 = .ok (.goto 4, 3) := by decide +kernel
theorem dX5_above_24 : decode cX5_above 24 = .ok (.iconst 0, 1) := by decide +kernel
theorem dX5_above_25 : decode cX5_above 25 = .ok (.ireturn, 1) := by decide +kernel
theorem dX5_above_26 : decode cX5_above 26 = .ok (.aload_n 0, 1) := by decide +kernel
theorem dX5_above_27 : decode cX5_above 27 = .ok (.getfield 13, 3) := by decide +kernel
theorem dX5_above_30 : decode cX5_above 30 = .ok (.iload_n 1, 1) := by decide +kernel
theorem dX5_above_31 : decode cX5_above 31 = .ok (.invokestatic 83, 3) := by decide +kernel
theorem dX5_above_34 : decode cX5_above 34 = .ok (.iconst 5, 1) := by decide +kernel
theorem dX5_above_35 : decode cX5_above 35 = .ok (.iadd, 1) := by decide +kernel
theorem dX5_above_36 : decode cX5_above 36 = .ok (.iaload, 1) := by decide +kernel
theorem dX5_above_37 : decode cX5_above 37 = .ok (.istore_n 3, 1) := by decide +kernel
theorem dX5_above_38 : decode cX5_above 38 = .ok (.iconst 0, 1) := by decide +kernel
theorem dX5_above_39 : decode cX5_above 39 = .ok (.istore 4, 2) := by decide +kernel
theorem dX5_above_41 : decode cX5_above 41 = .ok (.iload 4, 2) := by decide +kernel
theorem dX5_above_43 : decode cX5_above 43 = .ok (.iload_n 2, 1) := by decide +kernel
theorem dX5_above_44 : decode cX5_above 44 = .ok (.if_icmp .ge 26, 3) := by decide +kernel
theorem dX5_above_47 : decode cX5_above 47 = .ok (.iload_n 3, 1) := by decide +kernel
theorem dX5_above_48 : decode cX5_above 48 = .ok (.iconst (-1), 1) := by decide +kernel
theorem dX5_above_49 : decode cX5_above 49 = .ok (.if_icmp .eq 21, 3) := by decide +kernel
theorem dX5_above_52 : decode cX5_above 52 = .ok (.aload_n 0, 1) := by decide +kernel
theorem dX5_above_53 : decode cX5_above 53 = .ok (.getfield 13, 3) := by decide +kernel
theorem dX5_above_56 : decode cX5_above 56 = .ok (.iload_n 3, 1) := by decide +kernel
theorem dX5_above_57 : decode cX5_above 57 = .ok (.invokestatic 83, 3) := by decide +kernel
theorem dX5_above_60 : decode cX5_above 60 = .ok (.iconst 5, 1) := by decide +kernel
theorem dX5_above_61 : decode cX5_above 61 = .ok (.iadd, 1) := by decide +kernel
theorem dX5_above_62 : decode cX5_above 62 = .ok (.iaload, 1) := by decide +kernel
theorem dX5_above_63 : decode cX5_above 63 = .ok (.istore_n 3, 1) := by decide +kernel
theorem dX5_above_64 : decode cX5_above 64 = .ok (.iinc 4 1, 3) := by decide +kernel
theorem dX5_above_67 : decode cX5_above 67 = .ok (.goto (-26), 3) := by decide +kernel
theorem dX5_above_70 : decode cX5_above 70 = .ok (.iload_n 3, 1) := by decide +kernel
theorem dX5_above_71 : decode cX5_above 71 = .ok (.ireturn, 1) := by decide +kernel
set_option maxRecDepth 20000 in
theorem ggX5_melding_X5_areTwo : GoodIn wsX5_melding wsX5_areTwo := goodIn_r _ [8, 9, 10, 7, 11, 12, 13, 14, 15] (by decide +kernel) (by decide +kernel)
set_option maxRecDepth 20000 in
theorem gX5_melding_X5_areTwo : GoodIn wsX5_melding (va_wsS RX5 170 yX5_areTwo wsX5_areTwo) := goodIn_app (goodIn_of _ (by decide +kernel)) ggX5_melding_X5_areTwo
set_option maxRecDepth 20000 in
theorem ggX5_melding_X5_in : GoodIn wsX5_melding wsX5_in := goodIn_r _ [15] (by decide +kernel) (by decide +kernel)
set_option maxRecDepth 20000 in
theorem gX5_melding_X5_in : GoodIn wsX5_melding (va_wsS RX5 77 yX5_in wsX5_in) := goodIn_app (goodIn_of _ (by decide +kernel)) ggX5_melding_X5_in
set_option maxRecDepth 20000 in
theorem ggX5_melding_X5_think : GoodIn wsX5_melding wsX5_think := goodIn_r _ [19, 2, 20, 21, 22, 3, 4, 23, 24, 7, 25, 58, 59, 60, 61, 62, 63, 64, 65, 66, 67, 68, 69, 70, 71, 72, 73, 74, 75, 76, 77, 78, 79, 80, 81, 82, 83, 84] (by decide +kernel) (by decide +kernel)
set_option maxRecDepth 20000 in
theorem gX5_melding_X5_think : GoodIn wsX5_melding (wsV RX5 244 RX5 yX5_think wsX5_think) := goodIn_app (goodIn_of _ (by decide +kernel)) ggX5_melding_X5_think
set_option maxRecDepth 20000 in
theorem ggX5_melding_X5_meldTrees : GoodIn wsX5_melding wsX5_meldTrees := goodIn_r _ [29, 30, 3, 2, 31, 32, 33, 7, 34, 20, 35, 36, 37, 38, 39, 40, 41, 42, 43, 44, 45, 46, 47, 48, 49, 50, 51, 52, 53, 58, 59, 60, 61, 62, 63, 64, 65, 66, 67, 68, 69, 70, 71, 72, 73, 74, 75, 76, 77, 78, 79, 80, 81, 82, 83, 84] (by decide +kernel) (by decide +kernel)
set_option maxRecDepth 20000 in
theorem gX5_melding_X5_meldTrees : GoodIn wsX5_melding (wsV RX5 108 RX5 yX5_meldTrees wsX5_meldTrees) := goodIn_app (goodIn_of _ (by decide +kernel)) ggX5_melding_X5_meldTrees
set_option maxRecDepth 20000 in
theorem ggX5_melding_X5_rank : GoodIn wsX5_melding wsX5_rank := goodIn_r _ [53, 2, 39, 40, 7, 41, 58, 59, 60, 61, 62, 63, 64, 65, 66, 67, 68, 69, 70, 71, 72, 73, 74, 75, 76, 77, 78, 79, 80, 81, 82, 83, 84] (by decide +kernel) (by decide +kernel)
set_option maxRecDepth 20000 in
theorem gX5_melding_X5_rank : GoodIn wsX5_melding (wsV RX5 87 RX5 yX5_rank wsX5_rank) := goodIn_app (goodIn_of _ (by decide +kernel)) ggX5_melding_X5_rank
set_option maxRecDepth 20000 in
theorem ggX5_melding_X5_endThought : GoodIn wsX5_melding wsX5_endThought := goodIn_r _ [57, 21, 22, 2, 20, 4, 3, 23, 24, 7, 25, 58, 59, 60, 61, 62, 63, 64, 65, 66, 67, 68, 69, 70, 71, 72, 73, 74, 75, 76, 77, 78, 79, 80, 81, 82, 83, 84] (by decide +kernel) (by decide +kernel)
set_option maxRecDepth 20000 in
theorem gX5_melding_X5_endThought : GoodIn wsX5_melding (wsV RX5 247 RX5 yX5_endThought wsX5_endThought) := goodIn_app (goodIn_of _ (by decide +kernel)) ggX5_melding_X5_endThought
theorem dX5_melding_0 : decode cX5_melding 0 = .ok (.aload_n 0, 1) := by decide +kernel
theorem dX5_melding_1 : decode cX5_melding 1 = .ok (.iconst 0, 1) := by decide +kernel
theorem dX5_melding_2 : decode cX5_melding 2 = .ok (.putfield 63, 3) := by decide +kernel
theorem dX5_melding_5 : decode cX5_melding 5 = .ok (.iload_n 1, 1) := by decide +kernel
theorem dX5_melding_6 : decode cX5_melding 6 = .ok (.iload_n 2, 1) := by decide +kernel
theorem dX5_melding_7 : decode cX5_melding 7 = .ok (.invokestatic 170, 3) := by decide +kernel
theorem dX5_melding_10 : decode cX5_melding 10 = .ok (.ifCond .eq 25, 3) := by decide +kernel
theorem dX5_melding_13 : decode cX5_melding 13 = .ok (.iload_n 3, 1) := by decide +kernel
theorem dX5_melding_14 : decode cX5_melding 14 = .ok (.i2l, 1) := by decide +kernel
theorem dX5_melding_15 : decode cX5_melding 15 = .ok (.lconst 0, 1) := by decide +kernel
theorem dX5_melding_16 : decode cX5_melding 16 = .ok (.lconst 1, 1) := by decide +kernel
theorem dX5_melding_17 : decode cX5_melding 17 = .ok (.invokestatic 77, 3) := by decide +kernel
theorem dX5_melding_20 : decode cX5_melding 20 = .ok (.ifCond .eq 15, 3) := by decide +kernel
theorem dX5_melding_23 : decode cX5_melding 23 = .ok (.aload_n 0, 1) := by decide +kernel
theorem dX5_melding_24 : decode cX5_melding 24 = .ok (.getfield 13, 3) := by decide +kernel
theorem dX5_melding_27 : decode cX5_melding 27 = .ok (.iconst 4, 1) := by decide +kernel
theorem dX5_melding_28 : decode cX5_melding 28 = .ok (.iload_n 2, 1) := by decide +kernel
theorem dX5_melding_29 : decode cX5_melding 29 = .ok (.iadd, 1) := by decide +kernel
theorem dX5_melding_30 : decode cX5_melding 30 = .ok (.iaload, 1) := by decide +kernel
theorem dX5_melding_31 : decode cX5_melding 31 = .ok (.iconst (-1), 1) := by decide +kernel
theorem dX5_melding_32 : decode cX5_melding 32 = .ok (.if_icmp .ne 5, 3) := by decide +kernel
theorem dX5_melding_35 : decode cX5_melding 35 = .ok (.iconst (-1), 1) := by decide +kernel
theorem dX5_melding_36 : decode cX5_melding 36 = .ok (.ireturn, 1) := by decide +kernel
theorem dX5_melding_37 : decode cX5_melding 37 = .ok (.aload_n 0, 1) := by decide +kernel
theorem dX5_melding_38 : decode cX5_melding 38 = .ok (.invokevirtual 244, 3) := by decide +kernel
theorem dX5_melding_41 : decode cX5_melding 41 = .ok (.aload_n 0, 1) := by decide +kernel
theorem dX5_melding_42 : decode cX5_melding 42 = .ok (.aload_n 0, 1) := by decide +kernel
theorem dX5_melding_43 : decode cX5_melding 43 = .ok (.getfield 13, 3) := by decide +kernel
theorem dX5_melding_46 : decode cX5_melding 46 = .ok (.iconst 4, 1) := by decide +kernel
theorem dX5_melding_47 : decode cX5_melding 47 = .ok (.iload_n 1, 1) := by decide +kernel
theorem dX5_melding_48 : decode cX5_melding 48 = .ok (.iadd, 1) := by decide +kernel
theorem dX5_melding_49 : decode cX5_melding 49 = .ok (.iaload, 1) := by decide +kernel
theorem dX5_melding_50 : decode cX5_melding 50 = .ok (.aload_n 0, 1) := by decide +kernel
theorem dX5_melding_51 : decode cX5_melding 51 = .ok (.getfield 13, 3) := by decide +kernel
theorem dX5_melding_54 : decode cX5_melding 54 = .ok (.iconst 4, 1) := by decide +kernel
theorem dX5_melding_55 : decode cX5_melding 55 = .ok (.iload_n 2, 1) := by decide +kernel
theorem dX5_melding_56 : decode cX5_melding 56 = .ok (.iadd, 1) := by decide +kernel
theorem dX5_melding_57 : decode cX5_melding 57 = .ok (.iaload, 1) := by decide +kernel
theorem dX5_melding_58 : decode cX5_melding 58 = .ok (.invokevirtual 108, 3) := by decide +kernel
theorem dX5_melding_61 : decode cX5_melding 61 = .ok (.istore 4, 2) := by decide +kernel
theorem dX5_melding_63 : decode cX5_melding 63 = .ok (.iload_n 3, 1) := by decide +kernel
theorem dX5_melding_64 : decode cX5_melding 64 = .ok (.ifCond .ne 15, 3) := by decide +kernel
theorem dX5_melding_67 : decode cX5_melding 67 = .ok (.aload_n 0, 1) := by decide +kernel
theorem dX5_melding_68 : decode cX5_melding 68 = .ok (.getfield 71, 3) := by decide +kernel
theorem dX5_melding_71 : decode cX5_melding 71 = .ok (.aload_n 0, 1) := by decide +kernel
theorem dX5_melding_72 : decode cX5_melding 72 = .ok (.getfield 74, 3) := by decide +kernel
theorem dX5_melding_75 : decode cX5_melding 75 = .ok (.isub, 1) := by decide +kernel
theorem dX5_melding_76 : decode cX5_melding 76 = .ok (.goto 9, 3) := by decide +kernel
theorem dX5_melding_79 : decode cX5_melding 79 = .ok (.aload_n 0, 1) := by decide +kernel
theorem dX5_melding_80 : decode cX5_melding 80 = .ok (.iload 4, 2) := by decide +kernel
theorem dX5_melding_82 : decode cX5_melding 82 = .ok (.invokevirtual 87, 3) := by decide +kernel
theorem dX5_melding_85 : decode cX5_melding 85 = .ok (.istore 5, 2) := by decide +kernel
theorem dX5_melding_87 : decode cX5_melding 87 = .ok (.aload_n 0, 1) := by decide +kernel
theorem dX5_melding_88 : decode cX5_melding 88 = .ok (.invokevirtual 247, 3) := by decide +kernel
theorem dX5_melding_91 : decode cX5_melding 91 = .ok (.iload 5, 2) := by decide +kernel
theorem dX5_melding_93 : decode cX5_melding 93 = .ok (.ireturn, 1) := by decide +kernel
set_option maxRecDepth 20000 in
theorem ggX5_taking_X5_isDesk : GoodIn wsX5_taking wsX5_isDesk := goodIn_r _ [8, 9, 10, 11, 7, 12] (by decide +kernel) (by decide +kernel)
set_option maxRecDepth 20000 in
theorem gX5_taking_X5_isDesk : GoodIn wsX5_taking (va_wsS RX5 125 yX5_isDesk wsX5_isDesk) := goodIn_app (goodIn_of _ (by decide +kernel)) ggX5_taking_X5_isDesk
set_option maxRecDepth 20000 in
theorem ggX5_taking_X5_think : GoodIn wsX5_taking wsX5_think := goodIn_r _ [16, 2, 17, 18, 19, 3, 4, 20, 21, 7, 22, 71, 72, 73, 74, 75, 76, 77, 78, 79, 80, 81, 82, 83, 84, 85, 86, 87, 88, 89, 90, 91, 92, 93, 94, 95, 96, 97] (by decide +kernel) (by decide +kernel)
set_option maxRecDepth 20000 in
theorem gX5_taking_X5_think : GoodIn wsX5_taking (wsV RX5 244 RX5 yX5_think wsX5_think) := goodIn_app (goodIn_of _ (by decide +kernel)) ggX5_taking_X5_think
set_option maxRecDepth 20000 in
theorem ggX5_taking_X5_takeRoot : GoodIn wsX5_taking wsX5_takeRoot := goodIn_r _ [26, 2, 27, 28, 29, 7, 30, 31, 32, 33, 34, 35, 36, 37, 38, 39, 40, 41, 42, 3, 43, 44, 45, 46, 17, 47, 48, 49, 50, 51, 52, 53, 54, 55, 56, 57, 58, 71, 72, 73, 74, 75, 76, 77, 78, 79, 80, 81, 82, 83, 84, 85, 86, 87, 88, 89, 90, 91, 92, 93, 94, 95, 96, 97] (by decide +kernel) (by decide +kernel)
set_option maxRecDepth 20000 in
theorem gX5_taking_X5_takeRoot : GoodIn wsX5_taking (wsV RX5 115 RX5 yX5_takeRoot wsX5_takeRoot) := goodIn_app (goodIn_of _ (by decide +kernel)) ggX5_taking_X5_takeRoot
set_option maxRecDepth 20000 in
theorem ggX5_taking_X5_goes : GoodIn wsX5_taking wsX5_goes := goodIn_r _ [62, 2, 31, 32, 7, 33, 71, 72, 73, 74, 75, 76, 77, 78, 79, 80, 81, 82, 83, 84, 85, 86, 87, 88, 89, 90, 91, 92, 93, 94, 95, 96, 97] (by decide +kernel) (by decide +kernel)
set_option maxRecDepth 20000 in
theorem gX5_taking_X5_goes : GoodIn wsX5_taking (wsV RX5 118 RX5 yX5_goes wsX5_goes) := goodIn_app (goodIn_of _ (by decide +kernel)) ggX5_taking_X5_goes
set_option maxRecDepth 20000 in
theorem ggX5_taking_X5_sweep : GoodIn wsX5_taking wsX5_sweep := goodIn_r _ [66, 2, 31, 32, 7, 33, 23, 24, 25, 26, 27, 28, 29, 30, 34, 35, 36, 37, 38, 39, 40, 41, 42, 3, 43, 44, 45, 46, 17, 47, 48, 49, 50, 51, 52, 53, 54, 55, 56, 57, 58, 59, 60, 61, 62, 71, 72, 73, 74, 75, 76, 77, 78, 79, 80, 81, 82, 83, 84, 85, 86, 87, 88, 89, 90, 91, 92, 93, 94, 95, 96, 97] (by decide +kernel) (by decide +kernel)
set_option maxRecDepth 20000 in
theorem gX5_taking_X5_sweep : GoodIn wsX5_taking (wsV RX5 141 RX5 yX5_sweep wsX5_sweep) := goodIn_app (goodIn_of _ (by decide +kernel)) ggX5_taking_X5_sweep
set_option maxRecDepth 20000 in
theorem ggX5_taking_X5_endThought : GoodIn wsX5_taking wsX5_endThought := goodIn_r _ [70, 18, 19, 2, 17, 4, 3, 20, 21, 7, 22, 71, 72, 73, 74, 75, 76, 77, 78, 79, 80, 81, 82, 83, 84, 85, 86, 87, 88, 89, 90, 91, 92, 93, 94, 95, 96, 97] (by decide +kernel) (by decide +kernel)
set_option maxRecDepth 20000 in
theorem gX5_taking_X5_endThought : GoodIn wsX5_taking (wsV RX5 247 RX5 yX5_endThought wsX5_endThought) := goodIn_app (goodIn_of _ (by decide +kernel)) ggX5_taking_X5_endThought
theorem dX5_taking_0 : decode cX5_taking 0 = .ok (.aload_n 0, 1) := by decide +kernel
theorem dX5_taking_1 : decode cX5_taking 1 = .ok (.iconst 0, 1) := by decide +kernel
theorem dX5_taking_2 : decode cX5_taking 2 = .ok (.putfield 63, 3) := by decide +kernel
theorem dX5_taking_5 : decode cX5_taking 5 = .ok (.iload_n 1, 1) := by decide +kernel
theorem dX5_taking_6 : decode cX5_taking 6 = .ok (.invokestatic 125, 3) := by decide +kernel
theorem dX5_taking_9 : decode cX5_taking 9 = .ok (.ifCond .eq 15, 3) := by decide +kernel
theorem dX5_taking_12 : decode cX5_taking 12 = .ok (.aload_n 0, 1) := by decide +kernel
theorem dX5_taking_13 : decode cX5_taking 13 = .ok (.getfield 13, 3) := by decide +kernel
theorem dX5_taking_16 : decode cX5_taking 16 = .ok (.iconst 4, 1) := by decide +kernel
theorem dX5_taking_17 : decode cX5_taking 17 = .ok (.iload_n 1, 1) := by decide +kernel
theorem dX5_taking_18 : decode cX5_taking 18 = .ok (.iadd, 1) := by decide +kernel
theorem dX5_taking_19 : decode cX5_taking 19 = .ok (.iaload, 1) := by decide +kernel
theorem dX5_taking_20 : decode cX5_taking 20 = .ok (.iconst (-1), 1) := by decide +kernel
theorem dX5_taking_21 : decode cX5_taking 21 = .ok (.if_icmp .ne 5, 3) := by decide +kernel
theorem dX5_taking_24 : decode cX5_taking 24 = .ok (.iconst (-1), 1) := by decide +kernel
theorem dX5_taking_25 : decode cX5_taking 25 = .ok (.ireturn, 1) := by decide +kernel
theorem dX5_taking_26 : decode cX5_taking 26 = .ok (.aload_n 0, 1) := by decide +kernel
theorem dX5_taking_27 : decode cX5_taking 27 = .ok (.invokevirtual 244, 3) := by decide +kernel
theorem dX5_taking_30 : decode cX5_taking 30 = .ok (.aload_n 0, 1) := by decide +kernel
theorem dX5_taking_31 : decode cX5_taking 31 = .ok (.aload_n 0, 1) := by decide +kernel
theorem dX5_taking_32 : decode cX5_taking 32 = .ok (.iload_n 1, 1) := by decide +kernel
theorem dX5_taking_33 : decode cX5_taking 33 = .ok (.invokevirtual 115, 3) := by decide +kernel
theorem dX5_taking_36 : decode cX5_taking 36 = .ok (.invokevirtual 118, 3) := by decide +kernel
theorem dX5_taking_39 : decode cX5_taking 39 = .ok (.aload_n 0, 1) := by decide +kernel
theorem dX5_taking_40 : decode cX5_taking 40 = .ok (.invokevirtual 141, 3) := by decide +kernel
theorem dX5_taking_43 : decode cX5_taking 43 = .ok (.aload_n 0, 1) := by decide +kernel
theorem dX5_taking_44 : decode cX5_taking 44 = .ok (.getfield 71, 3) := by decide +kernel
theorem dX5_taking_47 : decode cX5_taking 47 = .ok (.aload_n 0, 1) := by decide +kernel
theorem dX5_taking_48 : decode cX5_taking 48 = .ok (.getfield 74, 3) := by decide +kernel
theorem dX5_taking_51 : decode cX5_taking 51 = .ok (.isub, 1) := by decide +kernel
theorem dX5_taking_52 : decode cX5_taking 52 = .ok (.istore_n 2, 1) := by decide +kernel
theorem dX5_taking_53 : decode cX5_taking 53 = .ok (.aload_n 0, 1) := by decide +kernel
theorem dX5_taking_54 : decode cX5_taking 54 = .ok (.invokevirtual 247, 3) := by decide +kernel
theorem dX5_taking_57 : decode cX5_taking 57 = .ok (.iload_n 2, 1) := by decide +kernel
theorem dX5_taking_58 : decode cX5_taking 58 = .ok (.ireturn, 1) := by decide +kernel
set_option maxRecDepth 20000 in
theorem ggX5_coming_X5_in : GoodIn wsX5_coming wsX5_in := goodIn_r _ [6] (by decide +kernel) (by decide +kernel)
set_option maxRecDepth 20000 in
theorem gX5_coming_X5_in : GoodIn wsX5_coming (va_wsS RX5 77 yX5_in wsX5_in) := goodIn_app (goodIn_of _ (by decide +kernel)) ggX5_coming_X5_in
set_option maxRecDepth 20000 in
theorem ggX5_coming_X5_think : GoodIn wsX5_coming wsX5_think := goodIn_r _ [10, 11, 12, 13, 14, 15, 16, 17, 18, 5, 19, 76, 77, 78, 79, 80, 81, 82, 83, 84, 85, 86, 87, 88, 89, 90, 91, 92, 93, 94, 95, 96, 97, 98, 99, 100, 101, 102] (by decide +kernel) (by decide +kernel)
set_option maxRecDepth 20000 in
theorem gX5_coming_X5_think : GoodIn wsX5_coming (wsV RX5 244 RX5 yX5_think wsX5_think) := goodIn_app (goodIn_of _ (by decide +kernel)) ggX5_coming_X5_think
set_option maxRecDepth 20000 in
theorem ggX5_coming_X5_turns : GoodIn wsX5_coming wsX5_turns := goodIn_r _ [23, 11, 24, 25, 26, 5, 27, 12, 28, 29, 30, 31, 32, 33, 34, 35, 36, 37, 38, 39, 40, 41, 42, 43, 44, 45, 46, 47, 15, 48, 49, 50, 51, 52, 53, 54, 55, 56, 57, 58, 59, 60, 61, 62, 63, 64, 65, 66, 67, 68, 69, 70, 71, 76, 77, 78, 79, 80, 81, 82, 83, 84, 85, 86, 87, 88, 89, 90, 91, 92, 93, 94, 95, 96, 97, 98, 99, 100, 101, 102] (by decide +kernel) (by decide +kernel)
set_option maxRecDepth 20000 in
theorem gX5_coming_X5_turns : GoodIn wsX5_coming (wsV RX5 149 RX5 yX5_turns wsX5_turns) := goodIn_app (goodIn_of _ (by decide +kernel)) ggX5_coming_X5_turns
set_option maxRecDepth 20000 in
theorem ggX5_coming_X5_endThought : GoodIn wsX5_coming wsX5_endThought := goodIn_r _ [75, 13, 14, 11, 12, 16, 15, 17, 18, 5, 19, 76, 77, 78, 79, 80, 81, 82, 83, 84, 85, 86, 87, 88, 89, 90, 91, 92, 93, 94, 95, 96, 97, 98, 99, 100, 101, 102] (by decide +kernel) (by decide +kernel)
set_option maxRecDepth 20000 in
theorem gX5_coming_X5_endThought : GoodIn wsX5_coming (wsV RX5 247 RX5 yX5_endThought wsX5_endThought) := goodIn_app (goodIn_of _ (by decide +kernel)) ggX5_coming_X5_endThought
theorem dX5_coming_0 : decode cX5_coming 0 = .ok (.aload_n 0, 1) := by decide +kernel
theorem dX5_coming_1 : decode cX5_coming 1 = .ok (.iconst 0, 1) := by decide +kernel
theorem dX5_coming_2 : decode cX5_coming 2 = .ok (.putfield 63, 3) := by decide +kernel
theorem dX5_coming_5 : decode cX5_coming 5 = .ok (.iload_n 1, 1) := by decide +kernel
theorem dX5_coming_6 : decode cX5_coming 6 = .ok (.i2l, 1) := by decide +kernel
theorem dX5_coming_7 : decode cX5_coming 7 = .ok (.lconst 0, 1) := by decide +kernel
theorem dX5_coming_8 : decode cX5_coming 8 = .ok (.ldc2_w 250, 3) := by decide +kernel
theorem dX5_coming_11 : decode cX5_coming 11 = .ok (.invokestatic 77, 3) := by decide +kernel
theorem dX5_coming_14 : decode cX5_coming 14 = .ok (.ifCond .ne 5, 3) := by decide +kernel
theorem dX5_coming_17 : decode cX5_coming 17 = .ok (.iconst (-1), 1) := by decide +kernel
theorem dX5_coming_18 : decode cX5_coming 18 = .ok (.ireturn, 1) := by decide +kernel
theorem dX5_coming_19 : decode cX5_coming 19 = .ok (.aload_n 0, 1) := by decide +kernel
theorem dX5_coming_20 : decode cX5_coming 20 = .ok (.invokevirtual 244, 3) := by decide +kernel
theorem dX5_coming_23 : decode cX5_coming 23 = .ok (.iconst 0, 1) := by decide +kernel
theorem dX5_coming_24 : decode cX5_coming 24 = .ok (.istore_n 2, 1) := by decide +kernel
theorem dX5_coming_25 : decode cX5_coming 25 = .ok (.iconst (-1), 1) := by decide +kernel
theorem dX5_coming_26 : decode cX5_coming 26 = .ok (.istore_n 3, 1) := by decide +kernel
theorem dX5_coming_27 : decode cX5_coming 27 = .ok (.iconst 0, 1) := by decide +kernel
theorem dX5_coming_28 : decode cX5_coming 28 = .ok (.istore 4, 2) := by decide +kernel
theorem dX5_coming_30 : decode cX5_coming 30 = .ok (.iload 4, 2) := by decide +kernel
theorem dX5_coming_32 : decode cX5_coming 32 = .ok (.bipush 60, 2) := by decide +kernel
theorem dX5_coming_34 : decode cX5_coming 34 = .ok (.if_icmp .ge 41, 3) := by decide +kernel
theorem dX5_coming_37 : decode cX5_coming 37 = .ok (.iload_n 3, 1) := by decide +kernel
theorem dX5_coming_38 : decode cX5_coming 38 = .ok (.iconst (-1), 1) := by decide +kernel
theorem dX5_coming_39 : decode cX5_coming 39 = .ok (.if_icmp .ne 36, 3) := by decide +kernel
theorem dX5_coming_42 : decode cX5_coming 42 = .ok (.aload_n 0, 1) := by decide +kernel
theorem dX5_coming_43 : decode cX5_coming 43 = .ok (.invokevirtual 149, 3) := by decide +kernel
theorem dX5_coming_46 : decode cX5_coming 46 = .ok (.istore 5, 2) := by decide +kernel
theorem dX5_coming_48 : decode cX5_coming 48 = .ok (.iload 5, 2) := by decide +kernel
theorem dX5_coming_50 : decode cX5_coming 50 = .ok (.iconst (-1), 1) := by decide +kernel
theorem dX5_coming_51 : decode cX5_coming 51 = .ok (.if_icmp .eq 18, 3) := by decide +kernel
theorem dX5_coming_54 : decode cX5_coming 54 = .ok (.iload_n 2, 1) := by decide +kernel
theorem dX5_coming_55 : decode cX5_coming 55 = .ok (.iload_n 1, 1) := by decide +kernel
theorem dX5_coming_56 : decode cX5_coming 56 = .ok (.if_icmp .ne 8, 3) := by decide +kernel
theorem dX5_coming_59 : decode cX5_coming 59 = .ok (.iload 5, 2) := by decide +kernel
theorem dX5_coming_61 : decode cX5_coming 61 = .ok (.goto 4, 3) := by decide +kernel
theorem dX5_coming_64 : decode cX5_coming 64 = .ok (.iconst (-1), 1) := by decide +kernel
theorem dX5_coming_65 : decode cX5_coming 65 = .ok (.istore_n 3, 1) := by decide +kernel
theorem dX5_coming_66 : decode cX5_coming 66 = .ok (.iinc 2 1, 3) := by decide +kernel
theorem dX5_coming_69 : decode cX5_coming 69 = .ok (.iinc 4 1, 3) := by decide +kernel
theorem dX5_coming_72 : decode cX5_coming 72 = .ok (.goto (-42), 3) := by decide +kernel
theorem dX5_coming_75 : decode cX5_coming 75 = .ok (.aload_n 0, 1) := by decide +kernel
theorem dX5_coming_76 : decode cX5_coming 76 = .ok (.invokevirtual 247, 3) := by decide +kernel
theorem dX5_coming_79 : decode cX5_coming 79 = .ok (.iload_n 3, 1) := by decide +kernel
theorem dX5_coming_80 : decode cX5_coming 80 = .ok (.ireturn, 1) := by decide +kernel
set_option maxRecDepth 20000 in
theorem ggX5_tagged_X5_in : GoodIn wsX5_tagged wsX5_in := goodIn_r _ [7] (by decide +kernel) (by decide +kernel)
set_option maxRecDepth 20000 in
theorem gX5_tagged_X5_in : GoodIn wsX5_tagged (va_wsS RX5 77 yX5_in wsX5_in) := goodIn_app (goodIn_of _ (by decide +kernel)) ggX5_tagged_X5_in
set_option maxRecDepth 20000 in
theorem ggX5_tagged_X5_at : GoodIn wsX5_tagged wsX5_at := goodIn_r _ [10] (by decide +kernel) (by decide +kernel)
set_option maxRecDepth 20000 in
theorem gX5_tagged_X5_at : GoodIn wsX5_tagged (va_wsS RX5 83 yX5_at wsX5_at) := goodIn_app (goodIn_of _ (by decide +kernel)) ggX5_tagged_X5_at
theorem dX5_tagged_0 : decode cX5_tagged 0 = .ok (.aload_n 0, 1) := by decide +kernel
theorem dX5_tagged_1 : decode cX5_tagged 1 = .ok (.iconst 0, 1) := by decide +kernel
theorem dX5_tagged_2 : decode cX5_tagged 2 = .ok (.putfield 63, 3) := by decide +kernel
theorem dX5_tagged_5 : decode cX5_tagged 5 = .ok (.iload_n 1, 1) := by decide +kernel
theorem dX5_tagged_6 : decode cX5_tagged 6 = .ok (.i2l, 1) := by decide +kernel
theorem dX5_tagged_7 : decode cX5_tagged 7 = .ok (.lconst 0, 1) := by decide +kernel
theorem dX5_tagged_8 : decode cX5_tagged 8 = .ok (.ldc2_w 133, 3) := by decide +kernel
theorem dX5_tagged_11 : decode cX5_tagged 11 = .ok (.invokestatic 77, 3) := by decide +kernel
theorem dX5_tagged_14 : decode cX5_tagged 14 = .ok (.ifCond .eq 13, 3) := by decide +kernel
theorem dX5_tagged_17 : decode cX5_tagged 17 = .ok (.iload_n 2, 1) := by decide +kernel
theorem dX5_tagged_18 : decode cX5_tagged 18 = .ok (.i2l, 1) := by decide +kernel
theorem dX5_tagged_19 : decode cX5_tagged 19 = .ok (.lconst 0, 1) := by decide +kernel
theorem dX5_tagged_20 : decode cX5_tagged 20 = .ok (.lconst 1, 1) := by decide +kernel
theorem dX5_tagged_21 : decode cX5_tagged 21 = .ok (.invokestatic 77, 3) := by decide +kernel
theorem dX5_tagged_24 : decode cX5_tagged 24 = .ok (.ifCond .ne 5, 3) := by decide +kernel
theorem dX5_tagged_27 : decode cX5_tagged 27 = .ok (.iconst (-1), 1) := by decide +kernel
theorem dX5_tagged_28 : decode cX5_tagged 28 = .ok (.ireturn, 1) := by decide +kernel
theorem dX5_tagged_29 : decode cX5_tagged 29 = .ok (.iconst (-1), 1) := by decide +kernel
theorem dX5_tagged_30 : decode cX5_tagged 30 = .ok (.istore_n 3, 1) := by decide +kernel
theorem dX5_tagged_31 : decode cX5_tagged 31 = .ok (.iconst 0, 1) := by decide +kernel
theorem dX5_tagged_32 : decode cX5_tagged 32 = .ok (.istore 4, 2) := by decide +kernel
theorem dX5_tagged_34 : decode cX5_tagged 34 = .ok (.iconst 0, 1) := by decide +kernel
theorem dX5_tagged_35 : decode cX5_tagged 35 = .ok (.istore 5, 2) := by decide +kernel
theorem dX5_tagged_37 : decode cX5_tagged 37 = .ok (.iload 5, 2) := by decide +kernel
theorem dX5_tagged_39 : decode cX5_tagged 39 = .ok (.bipush 6, 2) := by decide +kernel
theorem dX5_tagged_41 : decode cX5_tagged 41 = .ok (.if_icmp .ge 120, 3) := by decide +kernel
theorem dX5_tagged_44 : decode cX5_tagged 44 = .ok (.iconst 0, 1) := by decide +kernel
theorem dX5_tagged_45 : decode cX5_tagged 45 = .ok (.istore 6, 2) := by decide +kernel
theorem dX5_tagged_47 : decode cX5_tagged 47 = .ok (.iconst 0, 1) := by decide +kernel
theorem dX5_tagged_48 : decode cX5_tagged 48 = .ok (.istore 7, 2) := by decide +kernel
theorem dX5_tagged_50 : decode cX5_tagged 50 = .ok (.iload 7, 2) := by decide +kernel
theorem dX5_tagged_52 : decode cX5_tagged 52 = .ok (.aload_n 0, 1) := by decide +kernel
theorem dX5_tagged_53 : decode cX5_tagged 53 = .ok (.getfield 13, 3) := by decide +kernel
theorem dX5_tagged_56 : decode cX5_tagged 56 = .ok (.iconst 0, 1) := by decide +kernel
theorem dX5_tagged_57 : decode cX5_tagged 57 = .ok (.iaload, 1) := by decide +kernel
theorem dX5_tagged_58 : decode cX5_tagged 58 = .ok (.if_icmp .ge 67, 3) := by decide +kernel
theorem dX5_tagged_61 : decode cX5_tagged 61 = .ok (.iload 6, 2) := by decide +kernel
theorem dX5_tagged_63 : decode cX5_tagged 63 = .ok (.aload_n 0, 1) := by decide +kernel
theorem dX5_tagged_64 : decode cX5_tagged 64 = .ok (.getfield 13, 3) := by decide +kernel
theorem dX5_tagged_67 : decode cX5_tagged 67 = .ok (.iload 7, 2) := by decide +kernel
theorem dX5_tagged_69 : decode cX5_tagged 69 = .ok (.invokestatic 83, 3) := by decide +kernel
theorem dX5_tagged_72 : decode cX5_tagged 72 = .ok (.iconst 1, 1) := by decide +kernel
theorem dX5_tagged_73 : decode cX5_tagged 73 = .ok (.iadd, 1) := by decide +kernel
theorem dX5_tagged_74 : decode cX5_tagged 74 = .ok (.iaload, 1) := by decide +kernel
theorem dX5_tagged_75 : decode cX5_tagged 75 = .ok (.iload 5, 2) := by decide +kernel
theorem dX5_tagged_77 : decode cX5_tagged 77 = .ok (.if_icmp .ne 38, 3) := by decide +kernel
theorem dX5_tagged_80 : decode cX5_tagged 80 = .ok (.aload_n 0, 1) := by decide +kernel
theorem dX5_tagged_81 : decode cX5_tagged 81 = .ok (.getfield 13, 3) := by decide +kernel
theorem dX5_tagged_84 : decode cX5_tagged 84 = .ok (.iload 7, 2) := by decide +kernel
theorem dX5_tagged_86 : decode cX5_tagged 86 = .ok (.invokestatic 83, 3) := by decide +kernel
theorem dX5_tagged_89 : decode cX5_tagged 89 = .ok (.iconst 2, 1) := by decide +kernel
theorem dX5_tagged_90 : decode cX5_tagged 90 = .ok (.iadd, 1) := by decide +kernel
theorem dX5_tagged_91 : decode cX5_tagged 91 = .ok (.iaload, 1) := by decide +kernel
theorem dX5_tagged_92 : decode cX5_tagged 92 = .ok (.ifCond .ne 23, 3) := by decide +kernel
theorem dX5_tagged_95 : decode cX5_tagged 95 = .ok (.aload_n 0, 1) := by decide +kernel
theorem dX5_tagged_96 : decode cX5_tagged 96 = .ok (.getfield 13, 3) := by decide +kernel
theorem dX5_tagged_99 : decode cX5_tagged 99 = .ok (.iload 7, 2) := by decide +kernel
theorem dX5_tagged_101 : decode cX5_tagged 101 = .ok (.invokestatic 83, 3) := by decide +kernel
theorem dX5_tagged_104 : decode cX5_tagged 104 = .ok (.iconst 0, 1) := by decide +kernel
theorem dX5_tagged_105 : decode cX5_tagged 105 = .ok (.iadd, 1) := by decide +kernel
theorem dX5_tagged_106 : decode cX5_tagged 106 = .ok (.iaload, 1) := by decide +kernel
theorem dX5_tagged_107 : decode cX5_tagged 107 = .ok (.iload_n 1, 1) := by decide +kernel
theorem dX5_tagged_108 : decode cX5_tagged 108 = .ok (.if_icmp .ne 7, 3) := by decide +kernel
theorem dX5_tagged_111 : decode cX5_tagged 111 = .ok (.iconst 1, 1) := by decide +kernel
theorem dX5_tagged_112 : decode cX5_tagged 112 = .ok (.goto 4, 3) := by decide +kernel
theorem dX5_tagged_115 : decode cX5_tagged 115 = .ok (.iconst 0, 1) := by decide +kernel
theorem dX5_tagged_116 : decode cX5_tagged 116 = .ok (.iadd, 1) := by decide +kernel
theorem dX5_tagged_117 : decode cX5_tagged 117 = .ok (.istore 6, 2) := by decide +kernel
theorem dX5_tagged_119 : decode cX5_tagged 119 = .ok (.iinc 7 1, 3) := by decide +kernel
theorem dX5_tagged_122 : decode cX5_tagged 122 = .ok (.goto (-72), 3) := by decide +kernel
theorem dX5_tagged_125 : decode cX5_tagged 125 = .ok (.iload 6, 2) := by decide +kernel
theorem dX5_tagged_127 : decode cX5_tagged 127 = .ok (.iload 4, 2) := by decide +kernel
theorem dX5_tagged_129 : decode cX5_tagged 129 = .ok (.if_icmp .le 8, 3) := by decide +kernel
theorem dX5_tagged_132 : decode cX5_tagged 132 = .ok (.iload 5, 2) := by decide +kernel
theorem dX5_tagged_134 : decode cX5_tagged 134 = .ok (.goto 4, 3) := by decide +kernel
theorem dX5_tagged_137 : decode cX5_tagged 137 = .ok (.iload_n 3, 1) := by decide +kernel
theorem dX5_tagged_138 : decode cX5_tagged 138 = .ok (.istore_n 3, 1) := by decide +kernel
theorem dX5_tagged_139 : decode cX5_tagged 139 = .ok (.iload 6, 2) := by decide +kernel
theorem dX5_tagged_141 : decode cX5_tagged 141 = .ok (.iload 4, 2) := by decide +kernel
theorem dX5_tagged_143 : decode cX5_tagged 143 = .ok (.if_icmp .le 8, 3) := by decide +kernel
theorem dX5_tagged_146 : decode cX5_tagged 146 = .ok (.iload 6, 2) := by decide +kernel
theorem dX5_tagged_148 : decode cX5_tagged 148 = .ok (.goto 5, 3) := by decide +kernel
theorem dX5_tagged_151 : decode cX5_tagged 151 = .ok (.iload 4, 2) := by decide +kernel
theorem dX5_tagged_153 : decode cX5_tagged 153 = .ok (.istore 4, 2) := by decide +kernel
theorem dX5_tagged_155 : decode cX5_tagged 155 = .ok (.iinc 5 1, 3) := by decide +kernel
theorem dX5_tagged_158 : decode cX5_tagged 158 = .ok (.goto (-121), 3) := by decide +kernel
theorem dX5_tagged_161 : decode cX5_tagged 161 = .ok (.iload_n 3, 1) := by decide +kernel
theorem dX5_tagged_162 : decode cX5_tagged 162 = .ok (.iconst (-1), 1) := by decide +kernel
theorem dX5_tagged_163 : decode cX5_tagged 163 = .ok (.if_icmp .eq 7, 3) := by decide +kernel
theorem dX5_tagged_166 : decode cX5_tagged 166 = .ok (.iload_n 2, 1) := by decide +kernel
theorem dX5_tagged_167 : decode cX5_tagged 167 = .ok (.ifCond .ne 7, 3) := by decide +kernel
theorem dX5_tagged_170 : decode cX5_tagged 170 = .ok (.iload_n 3, 1) := by decide +kernel
theorem dX5_tagged_171 : decode cX5_tagged 171 = .ok (.goto 5, 3) := by decide +kernel
theorem dX5_tagged_174 : decode cX5_tagged 174 = .ok (.iload 4, 2) := by decide +kernel
theorem dX5_tagged_176 : decode cX5_tagged 176 = .ok (.ireturn, 1) := by decide +kernel
set_option maxRecDepth 20000 in
theorem ggX5_log_X5_in : GoodIn wsX5_log wsX5_in := goodIn_r _ [9] (by decide +kernel) (by decide +kernel)
set_option maxRecDepth 20000 in
theorem gX5_log_X5_in : GoodIn wsX5_log (va_wsS RX5 77 yX5_in wsX5_in) := goodIn_app (goodIn_of _ (by decide +kernel)) ggX5_log_X5_in
theorem dX5_log_0 : decode cX5_log 0 = .ok (.aload_n 0, 1) := by decide +kernel
theorem dX5_log_1 : decode cX5_log 1 = .ok (.iconst 0, 1) := by decide +kernel
theorem dX5_log_2 : decode cX5_log 2 = .ok (.putfield 63, 3) := by decide +kernel
theorem dX5_log_5 : decode cX5_log 5 = .ok (.iload_n 1, 1) := by decide +kernel
theorem dX5_log_6 : decode cX5_log 6 = .ok (.i2l, 1) := by decide +kernel
theorem dX5_log_7 : decode cX5_log 7 = .ok (.lconst 0, 1) := by decide +kernel
theorem dX5_log_8 : decode cX5_log 8 = .ok (.aload_n 0, 1) := by decide +kernel
theorem dX5_log_9 : decode cX5_log 9 = .ok (.getfield 13, 3) := by decide +kernel
theorem dX5_log_12 : decode cX5_log 12 = .ok (.iconst 2, 1) := by decide +kernel
theorem dX5_log_13 : decode cX5_log 13 = .ok (.iaload, 1) := by decide +kernel
theorem dX5_log_14 : decode cX5_log 14 = .ok (.i2l, 1) := by decide +kernel
theorem dX5_log_15 : decode cX5_log 15 = .ok (.lconst 1, 1) := by decide +kernel
theorem dX5_log_16 : decode cX5_log 16 = .ok (.lsub, 1) := by decide +kernel
theorem dX5_log_17 : decode cX5_log 17 = .ok (.invokestatic 77, 3) := by decide +kernel
theorem dX5_log_20 : decode cX5_log 20 = .ok (.ifCond .eq 15, 3) := by decide +kernel
theorem dX5_log_23 : decode cX5_log 23 = .ok (.iload_n 2, 1) := by decide +kernel
theorem dX5_log_24 : decode cX5_log 24 = .ok (.i2l, 1) := by decide +kernel
theorem dX5_log_25 : decode cX5_log 25 = .ok (.lconst 0, 1) := by decide +kernel
theorem dX5_log_26 : decode cX5_log 26 = .ok (.ldc2_w 238, 3) := by decide +kernel
theorem dX5_log_29 : decode cX5_log 29 = .ok (.invokestatic 77, 3) := by decide +kernel
theorem dX5_log_32 : decode cX5_log 32 = .ok (.ifCond .ne 7, 3) := by decide +kernel
theorem dX5_log_35 : decode cX5_log 35 = .ok (.ldc2_w 234, 3) := by decide +kernel
theorem dX5_log_38 : decode cX5_log 38 = .ok (.lreturn, 1) := by decide +kernel
theorem dX5_log_39 : decode cX5_log 39 = .ok (.aload_n 0, 1) := by decide +kernel
theorem dX5_log_40 : decode cX5_log 40 = .ok (.getfield 13, 3) := by decide +kernel
theorem dX5_log_43 : decode cX5_log 43 = .ok (.iconst 2, 1) := by decide +kernel
theorem dX5_log_44 : decode cX5_log 44 = .ok (.iaload, 1) := by decide +kernel
theorem dX5_log_45 : decode cX5_log 45 = .ok (.iconst 1, 1) := by decide +kernel
theorem dX5_log_46 : decode cX5_log 46 = .ok (.isub, 1) := by decide +kernel
theorem dX5_log_47 : decode cX5_log 47 = .ok (.iload_n 1, 1) := by decide +kernel
theorem dX5_log_48 : decode cX5_log 48 = .ok (.isub, 1) := by decide +kernel
theorem dX5_log_49 : decode cX5_log 49 = .ok (.istore_n 3, 1) := by decide +kernel
theorem dX5_log_50 : decode cX5_log 50 = .ok (.iload_n 2, 1) := by decide +kernel
theorem dX5_log_51 : decode cX5_log 51 = .ok (.ifCond .ne 18, 3) := by decide +kernel
theorem dX5_log_54 : decode cX5_log 54 = .ok (.aload_n 0, 1) := by decide +kernel
theorem dX5_log_55 : decode cX5_log 55 = .ok (.getfield 13, 3) := by decide +kernel
theorem dX5_log_58 : decode cX5_log 58 = .ok (.bipush 70, 2) := by decide +kernel
theorem dX5_log_60 : decode cX5_log 60 = .ok (.iconst 2, 1) := by decide +kernel
theorem dX5_log_61 : decode cX5_log 61 = .ok (.iload_n 3, 1) := by decide +kernel
theorem dX5_log_62 : decode cX5_log 62 = .ok (.imul, 1) := by decide +kernel
theorem dX5_log_63 : decode cX5_log 63 = .ok (.iadd, 1) := by decide +kernel
theorem dX5_log_64 : decode cX5_log 64 = .ok (.iaload, 1) := by decide +kernel
theorem dX5_log_65 : decode cX5_log 65 = .ok (.i2l, 1) := by decide +kernel
theorem dX5_log_66 : decode cX5_log 66 = .ok (.goto 35, 3) := by decide +kernel
theorem dX5_log_69 : decode cX5_log 69 = .ok (.iload_n 2, 1) := by decide +kernel
theorem dX5_log_70 : decode cX5_log 70 = .ok (.iconst 1, 1) := by decide +kernel
theorem dX5_log_71 : decode cX5_log 71 = .ok (.if_icmp .ne 16, 3) := by decide +kernel
theorem dX5_log_74 : decode cX5_log 74 = .ok (.aload_n 0, 1) := by decide +kernel
theorem dX5_log_75 : decode cX5_log 75 = .ok (.getfield 16, 3) := by decide +kernel
theorem dX5_log_78 : decode cX5_log 78 = .ok (.sipush 300, 3) := by decide +kernel
theorem dX5_log_81 : decode cX5_log 81 = .ok (.iload_n 3, 1) := by decide +kernel
theorem dX5_log_82 : decode cX5_log 82 = .ok (.iadd, 1) := by decide +kernel
theorem dX5_log_83 : decode cX5_log 83 = .ok (.laload, 1) := by decide +kernel
theorem dX5_log_84 : decode cX5_log 84 = .ok (.goto 17, 3) := by decide +kernel
theorem dX5_log_87 : decode cX5_log 87 = .ok (.aload_n 0, 1) := by decide +kernel
theorem dX5_log_88 : decode cX5_log 88 = .ok (.getfield 13, 3) := by decide +kernel
theorem dX5_log_91 : decode cX5_log 91 = .ok (.bipush 70, 2) := by decide +kernel
theorem dX5_log_93 : decode cX5_log 93 = .ok (.iconst 2, 1) := by decide +kernel
theorem dX5_log_94 : decode cX5_log 94 = .ok (.iload_n 3, 1) := by decide +kernel
theorem dX5_log_95 : decode cX5_log 95 = .ok (.imul, 1) := by decide +kernel
theorem dX5_log_96 : decode cX5_log 96 = .ok (.iadd, 1) := by decide +kernel
theorem dX5_log_97 : decode cX5_log 97 = .ok (.iconst 1, 1) := by decide +kernel
theorem dX5_log_98 : decode cX5_log 98 = .ok (.iadd, 1) := by decide +kernel
theorem dX5_log_99 : decode cX5_log 99 = .ok (.iaload, 1) := by decide +kernel
theorem dX5_log_100 : decode cX5_log 100 = .ok (.i2l, 1) := by decide +kernel
theorem dX5_log_101 : decode cX5_log 101 = .ok (.lreturn, 1) := by decide +kernel
set_option maxRecDepth 20000 in
theorem ggX5_reach_X5_isArc : GoodIn wsX5_reach wsX5_isArc := goodIn_r _ [6, 7, 1, 8, 9, 5, 10, 11, 12, 13, 14, 15, 16, 17, 18, 19, 20, 21, 22, 23, 24, 25, 26, 27, 28, 29, 30, 31, 32, 33, 34, 35, 36, 37] (by decide +kernel) (by decide +kernel)
set_option maxRecDepth 20000 in
theorem gX5_reach_X5_isArc : GoodIn wsX5_reach (wsV RX5 197 RX5 yX5_isArc wsX5_isArc) := goodIn_app (goodIn_of _ (by decide +kernel)) ggX5_reach_X5_isArc
theorem dX5_reach_0 : decode cX5_reach 0 = .ok (.iconst 1, 1) := by decide +kernel
theorem dX5_reach_1 : decode cX5_reach 1 = .ok (.iload_n 1, 1) := by decide +kernel
theorem dX5_reach_2 : decode cX5_reach 2 = .ok (.ishl, 1) := by decide +kernel
theorem dX5_reach_3 : decode cX5_reach 3 = .ok (.istore_n 3, 1) := by decide +kernel
theorem dX5_reach_4 : decode cX5_reach 4 = .ok (.iconst 0, 1) := by decide +kernel
theorem dX5_reach_5 : decode cX5_reach 5 = .ok (.istore 4, 2) := by decide +kernel
theorem dX5_reach_7 : decode cX5_reach 7 = .ok (.iload 4, 2) := by decide +kernel
theorem dX5_reach_9 : decode cX5_reach 9 = .ok (.bipush 8, 2) := by decide +kernel
theorem dX5_reach_11 : decode cX5_reach 11 = .ok (.if_icmp .ge 79, 3) := by decide +kernel
theorem dX5_reach_14 : decode cX5_reach 14 = .ok (.iconst 0, 1) := by decide +kernel
theorem dX5_reach_15 : decode cX5_reach 15 = .ok (.istore 5, 2) := by decide +kernel
theorem dX5_reach_17 : decode cX5_reach 17 = .ok (.iload 5, 2) := by decide +kernel
theorem dX5_reach_19 : decode cX5_reach 19 = .ok (.bipush 20, 2) := by decide +kernel
theorem dX5_reach_21 : decode cX5_reach 21 = .ok (.if_icmp .ge 63, 3) := by decide +kernel
theorem dX5_reach_24 : decode cX5_reach 24 = .ok (.aload_n 0, 1) := by decide +kernel
theorem dX5_reach_25 : decode cX5_reach 25 = .ok (.iload 5, 2) := by decide +kernel
theorem dX5_reach_27 : decode cX5_reach 27 = .ok (.invokevirtual 197, 3) := by decide +kernel
theorem dX5_reach_30 : decode cX5_reach 30 = .ok (.ifCond .eq 48, 3) := by decide +kernel
theorem dX5_reach_33 : decode cX5_reach 33 = .ok (.iload 5, 2) := by decide +kernel
theorem dX5_reach_35 : decode cX5_reach 35 = .ok (.iload_n 2, 1) := by decide +kernel
theorem dX5_reach_36 : decode cX5_reach 36 = .ok (.if_icmp .eq 42, 3) := by decide +kernel
theorem dX5_reach_39 : decode cX5_reach 39 = .ok (.iload_n 3, 1) := by decide +kernel
theorem dX5_reach_40 : decode cX5_reach 40 = .ok (.aload_n 0, 1) := by decide +kernel
theorem dX5_reach_41 : decode cX5_reach 41 = .ok (.getfield 13, 3) := by decide +kernel
theorem dX5_reach_44 : decode cX5_reach 44 = .ok (.bipush 10, 2) := by decide +kernel
theorem dX5_reach_46 : decode cX5_reach 46 = .ok (.iconst 3, 1) := by decide +kernel
theorem dX5_reach_47 : decode cX5_reach 47 = .ok (.iload 5, 2) := by decide +kernel
theorem dX5_reach_49 : decode cX5_reach 49 = .ok (.imul, 1) := by decide +kernel
theorem dX5_reach_50 : decode cX5_reach 50 = .ok (.iadd, 1) := by decide +kernel
theorem dX5_reach_51 : decode cX5_reach 51 = .ok (.iaload, 1) := by decide +kernel
theorem dX5_reach_52 : decode cX5_reach 52 = .ok (.ishr, 1) := by decide +kernel
theorem dX5_reach_53 : decode cX5_reach 53 = .ok (.iconst 1, 1) := by decide +kernel
theorem dX5_reach_54 : decode cX5_reach 54 = .ok (.iand, 1) := by decide +kernel
theorem dX5_reach_55 : decode cX5_reach 55 = .ok (.iconst 1, 1) := by decide +kernel
theorem dX5_reach_56 : decode cX5_reach 56 = .ok (.if_icmp .ne 22, 3) := by decide +kernel
theorem dX5_reach_59 : decode cX5_reach 59 = .ok (.iload_n 3, 1) := by decide +kernel
theorem dX5_reach_60 : decode cX5_reach 60 = .ok (.iconst 1, 1) := by decide +kernel
theorem dX5_reach_61 : decode cX5_reach 61 = .ok (.aload_n 0, 1) := by decide +kernel
theorem dX5_reach_62 : decode cX5_reach 62 = .ok (.getfield 13, 3) := by decide +kernel
theorem dX5_reach_65 : decode cX5_reach 65 = .ok (.bipush 10, 2) := by decide +kernel
theorem dX5_reach_67 : decode cX5_reach 67 = .ok (.iconst 3, 1) := by decide +kernel
theorem dX5_reach_68 : decode cX5_reach 68 = .ok (.iload 5, 2) := by decide +kernel
theorem dX5_reach_70 : decode cX5_reach 70 = .ok (.imul, 1) := by decide +kernel
theorem dX5_reach_71 : decode cX5_reach 71 = .ok (.iadd, 1) := by decide +kernel
theorem dX5_reach_72 : decode cX5_reach 72 = .ok (.iconst 1, 1) := by decide +kernel
theorem dX5_reach_73 : decode cX5_reach 73 = .ok (.iadd, 1) := by decide +kernel
theorem dX5_reach_74 : decode cX5_reach 74 = .ok (.iaload, 1) := by decide +kernel
theorem dX5_reach_75 : decode cX5_reach 75 = .ok (.ishl, 1) := by decide +kernel
theorem dX5_reach_76 : decode cX5_reach 76 = .ok (.ior, 1) := by decide +kernel
theorem dX5_reach_77 : decode cX5_reach 77 = .ok (.istore_n 3, 1) := by decide +kernel
theorem dX5_reach_78 : decode cX5_reach 78 = .ok (.iinc 5 1, 3) := by decide +kernel
theorem dX5_reach_81 : decode cX5_reach 81 = .ok (.goto (-64), 3) := by decide +kernel
theorem dX5_reach_84 : decode cX5_reach 84 = .ok (.iinc 4 1, 3) := by decide +kernel
theorem dX5_reach_87 : decode cX5_reach 87 = .ok (.goto (-80), 3) := by decide +kernel
theorem dX5_reach_90 : decode cX5_reach 90 = .ok (.iload_n 3, 1) := by decide +kernel
theorem dX5_reach_91 : decode cX5_reach 91 = .ok (.ireturn, 1) := by decide +kernel
set_option maxRecDepth 20000 in
theorem ggX5_nextTo_X5_isArc : GoodIn wsX5_nextTo wsX5_isArc := goodIn_r _ [7, 8, 1, 9, 10, 6, 11, 12, 13, 14, 15, 16, 17, 18, 19, 20, 21, 22, 23, 24, 25, 26, 27, 28, 29, 30, 31, 32, 33, 34, 35, 36, 37, 38] (by decide +kernel) (by decide +kernel)
set_option maxRecDepth 20000 in
theorem gX5_nextTo_X5_isArc : GoodIn wsX5_nextTo (wsV RX5 197 RX5 yX5_isArc wsX5_isArc) := goodIn_app (goodIn_of _ (by decide +kernel)) ggX5_nextTo_X5_isArc
theorem dX5_nextTo_0 : decode cX5_nextTo 0 = .ok (.iload_n 2, 1) := by decide +kernel
theorem dX5_nextTo_1 : decode cX5_nextTo 1 = .ok (.iconst 1, 1) := by decide +kernel
theorem dX5_nextTo_2 : decode cX5_nextTo 2 = .ok (.iadd, 1) := by decide +kernel
theorem dX5_nextTo_3 : decode cX5_nextTo 3 = .ok (.istore 4, 2) := by decide +kernel
theorem dX5_nextTo_5 : decode cX5_nextTo 5 = .ok (.iload 4, 2) := by decide +kernel
theorem dX5_nextTo_7 : decode cX5_nextTo 7 = .ok (.bipush 20, 2) := by decide +kernel
theorem dX5_nextTo_9 : decode cX5_nextTo 9 = .ok (.if_icmp .ge 68, 3) := by decide +kernel
theorem dX5_nextTo_12 : decode cX5_nextTo 12 = .ok (.iload 4, 2) := by decide +kernel
theorem dX5_nextTo_14 : decode cX5_nextTo 14 = .ok (.iload_n 3, 1) := by decide +kernel
theorem dX5_nextTo_15 : decode cX5_nextTo 15 = .ok (.if_icmp .eq 56, 3) := by decide +kernel
theorem dX5_nextTo_18 : decode cX5_nextTo 18 = .ok (.aload_n 0, 1) := by decide +kernel
theorem dX5_nextTo_19 : decode cX5_nextTo 19 = .ok (.iload 4, 2) := by decide +kernel
theorem dX5_nextTo_21 : decode cX5_nextTo 21 = .ok (.invokevirtual 197, 3) := by decide +kernel
theorem dX5_nextTo_24 : decode cX5_nextTo 24 = .ok (.ifCond .eq 47, 3) := by decide +kernel
theorem dX5_nextTo_27 : decode cX5_nextTo 27 = .ok (.aload_n 0, 1) := by decide +kernel
theorem dX5_nextTo_28 : decode cX5_nextTo 28 = .ok (.getfield 13, 3) := by decide +kernel
theorem dX5_nextTo_31 : decode cX5_nextTo 31 = .ok (.bipush 10, 2) := by decide +kernel
theorem dX5_nextTo_33 : decode cX5_nextTo 33 = .ok (.iconst 3, 1) := by decide +kernel
theorem dX5_nextTo_34 : decode cX5_nextTo 34 = .ok (.iload 4, 2) := by decide +kernel
theorem dX5_nextTo_36 : decode cX5_nextTo 36 = .ok (.imul, 1) := by decide +kernel
theorem dX5_nextTo_37 : decode cX5_nextTo 37 = .ok (.iadd, 1) := by decide +kernel
theorem dX5_nextTo_38 : decode cX5_nextTo 38 = .ok (.iconst 1, 1) := by decide +kernel
theorem dX5_nextTo_39 : decode cX5_nextTo 39 = .ok (.iadd, 1) := by decide +kernel
theorem dX5_nextTo_40 : decode cX5_nextTo 40 = .ok (.iaload, 1) := by decide +kernel
theorem dX5_nextTo_41 : decode cX5_nextTo 41 = .ok (.iload_n 1, 1) := by decide +kernel
theorem dX5_nextTo_42 : decode cX5_nextTo 42 = .ok (.if_icmp .ne 29, 3) := by decide +kernel
theorem dX5_nextTo_45 : decode cX5_nextTo 45 = .ok (.aload_n 0, 1) := by decide +kernel
theorem dX5_nextTo_46 : decode cX5_nextTo 46 = .ok (.getfield 252, 3) := by decide +kernel
theorem dX5_nextTo_49 : decode cX5_nextTo 49 = .ok (.aload_n 0, 1) := by decide +kernel
theorem dX5_nextTo_50 : decode cX5_nextTo 50 = .ok (.getfield 13, 3) := by decide +kernel
theorem dX5_nextTo_53 : decode cX5_nextTo 53 = .ok (.bipush 10, 2) := by decide +kernel
theorem dX5_nextTo_55 : decode cX5_nextTo 55 = .ok (.iconst 3, 1) := by decide +kernel
theorem dX5_nextTo_56 : decode cX5_nextTo 56 = .ok (.iload 4, 2) := by decide +kernel
theorem dX5_nextTo_58 : decode cX5_nextTo 58 = .ok (.imul, 1) := by decide +kernel
theorem dX5_nextTo_59 : decode cX5_nextTo 59 = .ok (.iadd, 1) := by decide +kernel
theorem dX5_nextTo_60 : decode cX5_nextTo 60 = .ok (.iaload, 1) := by decide +kernel
theorem dX5_nextTo_61 : decode cX5_nextTo 61 = .ok (.ishr, 1) := by decide +kernel
theorem dX5_nextTo_62 : decode cX5_nextTo 62 = .ok (.iconst 1, 1) := by decide +kernel
theorem dX5_nextTo_63 : decode cX5_nextTo 63 = .ok (.iand, 1) := by decide +kernel
theorem dX5_nextTo_64 : decode cX5_nextTo 64 = .ok (.iconst 1, 1) := by decide +kernel
theorem dX5_nextTo_65 : decode cX5_nextTo 65 = .ok (.if_icmp .ne 6, 3) := by decide +kernel
theorem dX5_nextTo_68 : decode cX5_nextTo 68 = .ok (.iload 4, 2) := by decide +kernel
theorem dX5_nextTo_70 : decode cX5_nextTo 70 = .ok (.ireturn, 1) := by decide +kernel
theorem dX5_nextTo_71 : decode cX5_nextTo 71 = .ok (.iinc 4 1, 3) := by decide +kernel
theorem dX5_nextTo_74 : decode cX5_nextTo 74 = .ok (.goto (-69), 3) := by decide +kernel
theorem dX5_nextTo_77 : decode cX5_nextTo 77 = .ok (.iconst (-1), 1) := by decide +kernel
theorem dX5_nextTo_78 : decode cX5_nextTo 78 = .ok (.ireturn, 1) := by decide +kernel
set_option maxRecDepth 20000 in
theorem ggX5_firstChoice_X5_reach : GoodIn wsX5_firstChoice wsX5_reach := goodIn_r _ [7, 8, 9, 10, 11, 6, 12, 13, 14, 15, 16, 21, 22, 23, 24, 25, 26, 27, 28, 29, 30, 31, 32, 33, 34, 35, 36, 37, 38, 39, 40, 41, 42, 43, 44, 45, 46, 47] (by decide +kernel) (by decide +kernel)
set_option maxRecDepth 20000 in
theorem gX5_firstChoice_X5_reach : GoodIn wsX5_firstChoice (wsV RX5 255 RX5 yX5_reach wsX5_reach) := goodIn_app (goodIn_of _ (by decide +kernel)) ggX5_firstChoice_X5_reach
set_option maxRecDepth 20000 in
theorem ggX5_firstChoice_X5_nextTo : GoodIn wsX5_firstChoice wsX5_nextTo := goodIn_r _ [20, 8, 1, 9, 10, 11, 6, 12, 13, 14, 15, 16, 21, 22, 23, 24, 25, 26, 27, 28, 29, 30, 31, 32, 33, 34, 35, 36, 37, 38, 39, 40, 41, 42, 43, 44, 45, 46, 47] (by decide +kernel) (by decide +kernel)
set_option maxRecDepth 20000 in
theorem gX5_firstChoice_X5_nextTo : GoodIn wsX5_firstChoice (wsV RX5 258 RX5 yX5_nextTo wsX5_nextTo) := goodIn_app (goodIn_of _ (by decide +kernel)) ggX5_firstChoice_X5_nextTo
theorem dX5_firstChoice_0 : decode cX5_firstChoice 0 = .ok (.aload_n 0, 1) := by decide +kernel
theorem dX5_firstChoice_1 : decode cX5_firstChoice 1 = .ok (.aload_n 0, 1) := by decide +kernel
theorem dX5_firstChoice_2 : decode cX5_firstChoice 2 = .ok (.iload_n 1, 1) := by decide +kernel
theorem dX5_firstChoice_3 : decode cX5_firstChoice 3 = .ok (.iload_n 2, 1) := by decide +kernel
theorem dX5_firstChoice_4 : decode cX5_firstChoice 4 = .ok (.invokevirtual 255, 3) := by decide +kernel
theorem dX5_firstChoice_7 : decode cX5_firstChoice 7 = .ok (.putfield 252, 3) := by decide +kernel
theorem dX5_firstChoice_10 : decode cX5_firstChoice 10 = .ok (.iconst 0, 1) := by decide +kernel
theorem dX5_firstChoice_11 : decode cX5_firstChoice 11 = .ok (.istore_n 3, 1) := by decide +kernel
theorem dX5_firstChoice_12 : decode cX5_firstChoice 12 = .ok (.iload_n 3, 1) := by decide +kernel
theorem dX5_firstChoice_13 : decode cX5_firstChoice 13 = .ok (.bipush 8, 2) := by decide +kernel
theorem dX5_firstChoice_15 : decode cX5_firstChoice 15 = .ok (.if_icmp .ge 42, 3) := by decide +kernel
theorem dX5_firstChoice_18 : decode cX5_firstChoice 18 = .ok (.aload_n 0, 1) := by decide +kernel
theorem dX5_firstChoice_19 : decode cX5_firstChoice 19 = .ok (.getfield 60, 3) := by decide +kernel
theorem dX5_firstChoice_22 : decode cX5_firstChoice 22 = .ok (.iload_n 3, 1) := by decide +kernel
theorem dX5_firstChoice_23 : decode cX5_firstChoice 23 = .ok (.iload_n 3, 1) := by decide +kernel
theorem dX5_firstChoice_24 : decode cX5_firstChoice 24 = .ok (.iload_n 1, 1) := by decide +kernel
theorem dX5_firstChoice_25 : decode cX5_firstChoice 25 = .ok (.if_icmp .eq 14, 3) := by decide +kernel
theorem dX5_firstChoice_28 : decode cX5_firstChoice 28 = .ok (.aload_n 0, 1) := by decide +kernel
theorem dX5_firstChoice_29 : decode cX5_firstChoice 29 = .ok (.getfield 252, 3) := by decide +kernel
theorem dX5_firstChoice_32 : decode cX5_firstChoice 32 = .ok (.iload_n 3, 1) := by decide +kernel
theorem dX5_firstChoice_33 : decode cX5_firstChoice 33 = .ok (.ishr, 1) := by decide +kernel
theorem dX5_firstChoice_34 : decode cX5_firstChoice 34 = .ok (.iconst 1, 1) := by decide +kernel
theorem dX5_firstChoice_35 : decode cX5_firstChoice 35 = .ok (.iand, 1) := by decide +kernel
theorem dX5_firstChoice_36 : decode cX5_firstChoice 36 = .ok (.ifCond .ne 7, 3) := by decide +kernel
theorem dX5_firstChoice_39 : decode cX5_firstChoice 39 = .ok (.iconst (-1), 1) := by decide +kernel
theorem dX5_firstChoice_40 : decode cX5_firstChoice 40 = .ok (.goto 10, 3) := by decide +kernel
theorem dX5_firstChoice_43 : decode cX5_firstChoice 43 = .ok (.aload_n 0, 1) := by decide +kernel
theorem dX5_firstChoice_44 : decode cX5_firstChoice 44 = .ok (.iload_n 3, 1) := by decide +kernel
theorem dX5_firstChoice_45 : decode cX5_firstChoice 45 = .ok (.iconst (-1), 1) := by decide +kernel
theorem dX5_firstChoice_46 : decode cX5_firstChoice 46 = .ok (.iload_n 2, 1) := by decide +kernel
theorem dX5_firstChoice_47 : decode cX5_firstChoice 47 = .ok (.invokevirtual 258, 3) := by decide +kernel
theorem dX5_firstChoice_50 : decode cX5_firstChoice 50 = .ok (.iastore, 1) := by decide +kernel
theorem dX5_firstChoice_51 : decode cX5_firstChoice 51 = .ok (.iinc 3 1, 3) := by decide +kernel
theorem dX5_firstChoice_54 : decode cX5_firstChoice 54 = .ok (.goto (-42), 3) := by decide +kernel
theorem dX5_firstChoice_57 : decode cX5_firstChoice 57 = .ok (.return_, 1) := by decide +kernel
set_option maxRecDepth 20000 in
theorem ggX5_nextChoice_X5_nextTo : GoodIn wsX5_nextChoice wsX5_nextTo := goodIn_r _ [6, 7, 8, 9, 10, 11, 5, 12, 13, 14, 15, 16, 17, 18, 19, 20, 21, 22, 23, 24, 25, 26, 27, 28, 29, 30, 31, 32, 33, 34, 35, 36, 37, 38, 39, 40, 41, 42, 43] (by decide +kernel) (by decide +kernel)
set_option maxRecDepth 20000 in
theorem gX5_nextChoice_X5_nextTo : GoodIn wsX5_nextChoice (wsV RX5 258 RX5 yX5_nextTo wsX5_nextTo) := goodIn_app (goodIn_of _ (by decide +kernel)) ggX5_nextChoice_X5_nextTo
theorem dX5_nextChoice_0 : decode cX5_nextChoice 0 = .ok (.iconst 0, 1) := by decide +kernel
theorem dX5_nextChoice_1 : decode cX5_nextChoice 1 = .ok (.istore_n 3, 1) := by decide +kernel
theorem dX5_nextChoice_2 : decode cX5_nextChoice 2 = .ok (.iload_n 3, 1) := by decide +kernel
theorem dX5_nextChoice_3 : decode cX5_nextChoice 3 = .ok (.bipush 8, 2) := by decide +kernel
theorem dX5_nextChoice_5 : decode cX5_nextChoice 5 = .ok (.if_icmp .ge 65, 3) := by decide +kernel
theorem dX5_nextChoice_8 : decode cX5_nextChoice 8 = .ok (.aload_n 0, 1) := by decide +kernel
theorem dX5_nextChoice_9 : decode cX5_nextChoice 9 = .ok (.getfield 60, 3) := by decide +kernel
theorem dX5_nextChoice_12 : decode cX5_nextChoice 12 = .ok (.iload_n 3, 1) := by decide +kernel
theorem dX5_nextChoice_13 : decode cX5_nextChoice 13 = .ok (.iaload, 1) := by decide +kernel
theorem dX5_nextChoice_14 : decode cX5_nextChoice 14 = .ok (.iconst (-1), 1) := by decide +kernel
theorem dX5_nextChoice_15 : decode cX5_nextChoice 15 = .ok (.if_icmp .eq 49, 3) := by decide +kernel
theorem dX5_nextChoice_18 : decode cX5_nextChoice 18 = .ok (.aload_n 0, 1) := by decide +kernel
theorem dX5_nextChoice_19 : decode cX5_nextChoice 19 = .ok (.iload_n 3, 1) := by decide +kernel
theorem dX5_nextChoice_20 : decode cX5_nextChoice 20 = .ok (.aload_n 0, 1) := by decide +kernel
theorem dX5_nextChoice_21 : decode cX5_nextChoice 21 = .ok (.getfield 60, 3) := by decide +kernel
theorem dX5_nextChoice_24 : decode cX5_nextChoice 24 = .ok (.iload_n 3, 1) := by decide +kernel
theorem dX5_nextChoice_25 : decode cX5_nextChoice 25 = .ok (.iaload, 1) := by decide +kernel
theorem dX5_nextChoice_26 : decode cX5_nextChoice 26 = .ok (.iload_n 2, 1) := by decide +kernel
theorem dX5_nextChoice_27 : decode cX5_nextChoice 27 = .ok (.invokevirtual 258, 3) := by decide +kernel
theorem dX5_nextChoice_30 : decode cX5_nextChoice 30 = .ok (.istore 4, 2) := by decide +kernel
theorem dX5_nextChoice_32 : decode cX5_nextChoice 32 = .ok (.aload_n 0, 1) := by decide +kernel
theorem dX5_nextChoice_33 : decode cX5_nextChoice 33 = .ok (.getfield 60, 3) := by decide +kernel
theorem dX5_nextChoice_36 : decode cX5_nextChoice 36 = .ok (.iload_n 3, 1) := by decide +kernel
theorem dX5_nextChoice_37 : decode cX5_nextChoice 37 = .ok (.iload 4, 2) := by decide +kernel
theorem dX5_nextChoice_39 : decode cX5_nextChoice 39 = .ok (.iconst (-1), 1) := by decide +kernel
theorem dX5_nextChoice_40 : decode cX5_nextChoice 40 = .ok (.if_icmp .ne 13, 3) := by decide +kernel
theorem dX5_nextChoice_43 : decode cX5_nextChoice 43 = .ok (.aload_n 0, 1) := by decide +kernel
theorem dX5_nextChoice_44 : decode cX5_nextChoice 44 = .ok (.iload_n 3, 1) := by decide +kernel
theorem dX5_nextChoice_45 : decode cX5_nextChoice 45 = .ok (.iconst (-1), 1) := by decide +kernel
theorem dX5_nextChoice_46 : decode cX5_nextChoice 46 = .ok (.iload_n 2, 1) := by decide +kernel
theorem dX5_nextChoice_47 : decode cX5_nextChoice 47 = .ok (.invokevirtual 258, 3) := by decide +kernel
theorem dX5_nextChoice_50 : decode cX5_nextChoice 50 = .ok (.goto 5, 3) := by decide +kernel
theorem dX5_nextChoice_53 : decode cX5_nextChoice 53 = .ok (.iload 4, 2) := by decide +kernel
theorem dX5_nextChoice_55 : decode cX5_nextChoice 55 = .ok (.iastore, 1) := by decide +kernel
theorem dX5_nextChoice_56 : decode cX5_nextChoice 56 = .ok (.iload 4, 2) := by decide +kernel
theorem dX5_nextChoice_58 : decode cX5_nextChoice 58 = .ok (.iconst (-1), 1) := by decide +kernel
theorem dX5_nextChoice_59 : decode cX5_nextChoice 59 = .ok (.if_icmp .eq 5, 3) := by decide +kernel
theorem dX5_nextChoice_62 : decode cX5_nextChoice 62 = .ok (.iconst 1, 1) := by decide +kernel
theorem dX5_nextChoice_63 : decode cX5_nextChoice 63 = .ok (.ireturn, 1) := by decide +kernel
theorem dX5_nextChoice_64 : decode cX5_nextChoice 64 = .ok (.iinc 3 1, 3) := by decide +kernel
theorem dX5_nextChoice_67 : decode cX5_nextChoice 67 = .ok (.goto (-65), 3) := by decide +kernel
theorem dX5_nextChoice_70 : decode cX5_nextChoice 70 = .ok (.iconst 0, 1) := by decide +kernel
theorem dX5_nextChoice_71 : decode cX5_nextChoice 71 = .ok (.ireturn, 1) := by decide +kernel
theorem dX5_isTree_0 : decode cX5_isTree 0 = .ok (.aload_n 0, 1) := by decide +kernel
theorem dX5_isTree_1 : decode cX5_isTree 1 = .ok (.iconst 0, 1) := by decide +kernel
theorem dX5_isTree_2 : decode cX5_isTree 2 = .ok (.putfield 262, 3) := by decide +kernel
theorem dX5_isTree_5 : decode cX5_isTree 5 = .ok (.aload_n 0, 1) := by decide +kernel
theorem dX5_isTree_6 : decode cX5_isTree 6 = .ok (.iconst 0, 1) := by decide +kernel
theorem dX5_isTree_7 : decode cX5_isTree 7 = .ok (.putfield 265, 3) := by decide +kernel
theorem dX5_isTree_10 : decode cX5_isTree 10 = .ok (.iconst 0, 1) := by decide +kernel
theorem dX5_isTree_11 : decode cX5_isTree 11 = .ok (.istore_n 2, 1) := by decide +kernel
theorem dX5_isTree_12 : decode cX5_isTree 12 = .ok (.iload_n 2, 1) := by decide +kernel
theorem dX5_isTree_13 : decode cX5_isTree 13 = .ok (.bipush 8, 2) := by decide +kernel
theorem dX5_isTree_15 : decode cX5_isTree 15 = .ok (.if_icmp .ge 110, 3) := by decide +kernel
theorem dX5_isTree_18 : decode cX5_isTree 18 = .ok (.aload_n 0, 1) := by decide +kernel
theorem dX5_isTree_19 : decode cX5_isTree 19 = .ok (.getfield 60, 3) := by decide +kernel
theorem dX5_isTree_22 : decode cX5_isTree 22 = .ok (.iload_n 2, 1) := by decide +kernel
theorem dX5_isTree_23 : decode cX5_isTree 23 = .ok (.iaload, 1) := by decide +kernel
theorem dX5_isTree_24 : decode cX5_isTree 24 = .ok (.iconst (-1), 1) := by decide +kernel
theorem dX5_isTree_25 : decode cX5_isTree 25 = .ok (.if_icmp .eq 94, 3) := by decide +kernel
theorem dX5_isTree_28 : decode cX5_isTree 28 = .ok (.aload_n 0, 1) := by decide +kernel
theorem dX5_isTree_29 : decode cX5_isTree 29 = .ok (.dup, 1) := by decide +kernel
theorem dX5_isTree_30 : decode cX5_isTree 30 = .ok (.getfield 262, 3) := by decide +kernel
theorem dX5_isTree_33 : decode cX5_isTree 33 = .ok (.aload_n 0, 1) := by decide +kernel
theorem dX5_isTree_34 : decode cX5_isTree 34 = .ok (.getfield 13, 3) := by decide +kernel
theorem dX5_isTree_37 : decode cX5_isTree 37 = .ok (.bipush 10, 2) := by decide +kernel
theorem dX5_isTree_39 : decode cX5_isTree 39 = .ok (.iconst 3, 1) := by decide +kernel
theorem dX5_isTree_40 : decode cX5_isTree 40 = .ok (.aload_n 0, 1) := by decide +kernel
theorem dX5_isTree_41 : decode cX5_isTree 41 = .ok (.getfield 60, 3) := by decide +kernel
theorem dX5_isTree_44 : decode cX5_isTree 44 = .ok (.iload_n 2, 1) := by decide +kernel
theorem dX5_isTree_45 : decode cX5_isTree 45 = .ok (.iaload, 1) := by decide +kernel
theorem dX5_isTree_46 : decode cX5_isTree 46 = .ok (.imul, 1) := by decide +kernel
theorem dX5_isTree_47 : decode cX5_isTree 47 = .ok (.iadd, 1) := by decide +kernel
theorem dX5_isTree_48 : decode cX5_isTree 48 = .ok (.iconst 2, 1) := by decide +kernel
theorem dX5_isTree_49 : decode cX5_isTree 49 = .ok (.iadd, 1) := by decide +kernel
theorem dX5_isTree_50 : decode cX5_isTree 50 = .ok (.iaload, 1) := by decide +kernel
theorem dX5_isTree_51 : decode cX5_isTree 51 = .ok (.iadd, 1) := by decide +kernel
theorem dX5_isTree_52 : decode cX5_isTree 52 = .ok (.putfield 262, 3) := by decide +kernel
theorem dX5_isTree_55 : decode cX5_isTree 55 = .ok (.aload_n 0, 1) := by decide +kernel
theorem dX5_isTree_56 : decode cX5_isTree 56 = .ok (.dup, 1) := by decide +kernel
theorem dX5_isTree_57 : decode cX5_isTree 57 = .ok (.getfield 265, 3) := by decide +kernel
theorem dX5_isTree_60 : decode cX5_isTree 60 = .ok (.iconst 1, 1) := by decide +kernel
theorem dX5_isTree_61 : decode cX5_isTree 61 = .ok (.aload_n 0, 1) := by decide +kernel
theorem dX5_isTree_62 : decode cX5_isTree 62 = .ok (.getfield 60, 3) := by decide +kernel
theorem dX5_isTree_65 : decode cX5_isTree 65 = .ok (.iload_n 2, 1) := by decide +kernel
theorem dX5_isTree_66 : decode cX5_isTree 66 = .ok (.iaload, 1) := by decide +kernel
theorem dX5_isTree_67 : decode cX5_isTree 67 = .ok (.ishl, 1) := by decide +kernel
theorem dX5_isTree_68 : decode cX5_isTree 68 = .ok (.ior, 1) := by decide +kernel
theorem dX5_isTree_69 : decode cX5_isTree 69 = .ok (.putfield 265, 3) := by decide +kernel
theorem dX5_isTree_72 : decode cX5_isTree 72 = .ok (.iload_n 2, 1) := by decide +kernel
theorem dX5_isTree_73 : decode cX5_isTree 73 = .ok (.istore_n 3, 1) := by decide +kernel
theorem dX5_isTree_74 : decode cX5_isTree 74 = .ok (.iconst 0, 1) := by decide +kernel
theorem dX5_isTree_75 : decode cX5_isTree 75 = .ok (.istore 4, 2) := by decide +kernel
theorem dX5_isTree_77 : decode cX5_isTree 77 = .ok (.iload 4, 2) := by decide +kernel
theorem dX5_isTree_79 : decode cX5_isTree 79 = .ok (.bipush 8, 2) := by decide +kernel
theorem dX5_isTree_81 : decode cX5_isTree 81 = .ok (.if_icmp .ge 31, 3) := by decide +kernel
theorem dX5_isTree_84 : decode cX5_isTree 84 = .ok (.iload_n 3, 1) := by decide +kernel
theorem dX5_isTree_85 : decode cX5_isTree 85 = .ok (.iload_n 1, 1) := by decide +kernel
theorem dX5_isTree_86 : decode cX5_isTree 86 = .ok (.if_icmp .eq 26, 3) := by decide +kernel
theorem dX5_isTree_89 : decode cX5_isTree 89 = .ok (.aload_n 0, 1) := by decide +kernel
theorem dX5_isTree_90 : decode cX5_isTree 90 = .ok (.getfield 13, 3) := by decide +kernel
theorem dX5_isTree_93 : decode cX5_isTree 93 = .ok (.bipush 10, 2) := by decide +kernel
theorem dX5_isTree_95 : decode cX5_isTree 95 = .ok (.iconst 3, 1) := by decide +kernel
theorem dX5_isTree_96 : decode cX5_isTree 96 = .ok (.aload_n 0, 1) := by decide +kernel
theorem dX5_isTree_97 : decode cX5_isTree 97 = .ok (.getfield 60, 3) := by decide +kernel
theorem dX5_isTree_100 : decode cX5_isTree 100 = .ok (.iload_n 3, 1) := by decide +kernel
theorem dX5_isTree_101 : decode cX5_isTree 101 = .ok (.iaload, 1) := by decide +kernel
theorem dX5_isTree_102 : decode cX5_isTree 102 = .ok (.imul, 1) := by decide +kernel
theorem dX5_isTree_103 : decode cX5_isTree 103 = .ok (.iadd, 1) := by decide +kernel
theorem dX5_isTree_104 : decode cX5_isTree 104 = .ok (.iaload, 1) := by decide +kernel
theorem dX5_isTree_105 : decode cX5_isTree 105 = .ok (.istore_n 3, 1) := by decide +kernel
theorem dX5_isTree_106 : decode cX5_isTree 106 = .ok (.iinc 4 1, 3) := by decide +kernel
theorem dX5_isTree_109 : decode cX5_isTree 109 = .ok (.goto (-32), 3) := by decide +kernel
theorem dX5_isTree_112 : decode cX5_isTree 112 = .ok (.iload_n 3, 1) := by decide +kernel
theorem dX5_isTree_113 : decode cX5_isTree 113 = .ok (.iload_n 1, 1) := by decide +kernel
theorem dX5_isTree_114 : decode cX5_isTree 114 = .ok (.if_icmp .eq 5, 3) := by decide +kernel
theorem dX5_isTree_117 : decode cX5_isTree 117 = .ok (.iconst 0, 1) := by decide +kernel
theorem dX5_isTree_118 : decode cX5_isTree 118 = .ok (.ireturn, 1) := by decide +kernel
theorem dX5_isTree_119 : decode cX5_isTree 119 = .ok (.iinc 2 1, 3) := by decide +kernel
theorem dX5_isTree_122 : decode cX5_isTree 122 = .ok (.goto (-110), 3) := by decide +kernel
theorem dX5_isTree_125 : decode cX5_isTree 125 = .ok (.iconst 1, 1) := by decide +kernel
theorem dX5_isTree_126 : decode cX5_isTree 126 = .ok (.ireturn, 1) := by decide +kernel
theorem dX5_isAhead_0 : decode cX5_isAhead 0 = .ok (.aload_n 0, 1) := by decide +kernel
theorem dX5_isAhead_1 : decode cX5_isAhead 1 = .ok (.getfield 262, 3) := by decide +kernel
theorem dX5_isAhead_4 : decode cX5_isAhead 4 = .ok (.iload_n 1, 1) := by decide +kernel
theorem dX5_isAhead_5 : decode cX5_isAhead 5 = .ok (.if_icmp .lt 19, 3) := by decide +kernel
theorem dX5_isAhead_8 : decode cX5_isAhead 8 = .ok (.aload_n 0, 1) := by decide +kernel
theorem dX5_isAhead_9 : decode cX5_isAhead 9 = .ok (.getfield 262, 3) := by decide +kernel
theorem dX5_isAhead_12 : decode cX5_isAhead 12 = .ok (.iload_n 1, 1) := by decide +kernel
theorem dX5_isAhead_13 : decode cX5_isAhead 13 = .ok (.if_icmp .ne 15, 3) := by decide +kernel
theorem dX5_isAhead_16 : decode cX5_isAhead 16 = .ok (.aload_n 0, 1) := by decide +kernel
theorem dX5_isAhead_17 : decode cX5_isAhead 17 = .ok (.getfield 265, 3) := by decide +kernel
theorem dX5_isAhead_20 : decode cX5_isAhead 20 = .ok (.iload_n 2, 1) := by decide +kernel
theorem dX5_isAhead_21 : decode cX5_isAhead 21 = .ok (.if_icmp .ge 7, 3) := by decide +kernel
theorem dX5_isAhead_24 : decode cX5_isAhead 24 = .ok (.iconst 1, 1) := by decide +kernel
theorem dX5_isAhead_25 : decode cX5_isAhead 25 = .ok (.goto 4, 3) := by decide +kernel
theorem dX5_isAhead_28 : decode cX5_isAhead 28 = .ok (.iconst 0, 1) := by decide +kernel
theorem dX5_isAhead_29 : decode cX5_isAhead 29 = .ok (.ireturn, 1) := by decide +kernel
set_option maxRecDepth 20000 in
theorem ggX5_findBest_X5_firstChoice : GoodIn wsX5_findBest wsX5_firstChoice := goodIn_r _ [10, 11, 12, 13, 14, 15, 9, 16, 17, 18, 19, 20, 21, 22, 23, 24, 25, 26, 27, 28, 29, 42, 43, 44, 45, 46, 47, 48, 49, 50, 51, 52, 53, 54, 55, 56, 57, 58, 59, 60, 61, 62, 63, 64, 65, 66, 67, 68] (by decide +kernel) (by decide +kernel)
set_option maxRecDepth 20000 in
theorem gX5_findBest_X5_firstChoice : GoodIn wsX5_findBest (wsV RX5 272 RX5 yX5_firstChoice wsX5_firstChoice) := goodIn_app (goodIn_of _ (by decide +kernel)) ggX5_findBest_X5_firstChoice
set_option maxRecDepth 20000 in
theorem ggX5_findBest_X5_isTree : GoodIn wsX5_findBest wsX5_isTree := goodIn_r _ [33, 5, 2, 12, 17, 42, 43, 44, 45, 46, 47, 48, 49, 50, 51, 52, 53, 54, 55, 56, 57, 58, 59, 60, 61, 62, 63, 64, 65, 66, 67, 68] (by decide +kernel) (by decide +kernel)
set_option maxRecDepth 20000 in
theorem gX5_findBest_X5_isTree : GoodIn wsX5_findBest (wsV RX5 275 RX5 yX5_isTree wsX5_isTree) := goodIn_app (goodIn_of _ (by decide +kernel)) ggX5_findBest_X5_isTree
set_option maxRecDepth 20000 in
theorem ggX5_findBest_X5_isAhead : GoodIn wsX5_findBest wsX5_isAhead := goodIn_r _ [37, 5, 2, 42, 43, 44, 45, 46, 47, 48, 49, 50, 51, 52, 53, 54, 55, 56, 57, 58, 59, 60, 61, 62, 63, 64, 65, 66, 67, 68] (by decide +kernel) (by decide +kernel)
set_option maxRecDepth 20000 in
theorem gX5_findBest_X5_isAhead : GoodIn wsX5_findBest (wsV RX5 284 RX5 yX5_isAhead wsX5_isAhead) := goodIn_app (goodIn_of _ (by decide +kernel)) ggX5_findBest_X5_isAhead
set_option maxRecDepth 20000 in
theorem ggX5_findBest_X5_nextChoice : GoodIn wsX5_findBest wsX5_nextChoice := goodIn_r _ [41, 12, 26, 27, 28, 9, 29, 17, 11, 18, 19, 20, 21, 22, 23, 24, 25, 42, 43, 44, 45, 46, 47, 48, 49, 50, 51, 52, 53, 54, 55, 56, 57, 58, 59, 60, 61, 62, 63, 64, 65, 66, 67, 68] (by decide +kernel) (by decide +kernel)
set_option maxRecDepth 20000 in
theorem gX5_findBest_X5_nextChoice : GoodIn wsX5_findBest (wsV RX5 287 RX5 yX5_nextChoice wsX5_nextChoice) := goodIn_app (goodIn_of _ (by decide +kernel)) ggX5_findBest_X5_nextChoice
theorem dX5_findBest_0 : decode cX5_findBest 0 = .ok (.aload_n 0, 1) := by decide +kernel
theorem dX5_findBest_1 : decode cX5_findBest 1 = .ok (.iconst 0, 1) := by decide +kernel
theorem dX5_findBest_2 : decode cX5_findBest 2 = .ok (.putfield 268, 3) := by decide +kernel
theorem dX5_findBest_5 : decode cX5_findBest 5 = .ok (.aload_n 0, 1) := by decide +kernel
theorem dX5_findBest_6 : decode cX5_findBest 6 = .ok (.iload_n 1, 1) := by decide +kernel
theorem dX5_findBest_7 : decode cX5_findBest 7 = .ok (.iload_n 2, 1) := by decide +kernel
theorem dX5_findBest_8 : decode cX5_findBest 8 = .ok (.invokevirtual 272, 3) := by decide +kernel
theorem dX5_findBest_11 : decode cX5_findBest 11 = .ok (.iconst 1, 1) := by decide +kernel
theorem dX5_findBest_12 : decode cX5_findBest 12 = .ok (.istore 4, 2) := by decide +kernel
theorem dX5_findBest_14 : decode cX5_findBest 14 = .ok (.iload 4, 2) := by decide +kernel
theorem dX5_findBest_16 : decode cX5_findBest 16 = .ok (.ifCond .eq 73, 3) := by decide +kernel
theorem dX5_findBest_19 : decode cX5_findBest 19 = .ok (.aload_n 0, 1) := by decide +kernel
theorem dX5_findBest_20 : decode cX5_findBest 20 = .ok (.iload_n 1, 1) := by decide +kernel
theorem dX5_findBest_21 : decode cX5_findBest 21 = .ok (.invokevirtual 275, 3) := by decide +kernel
theorem dX5_findBest_24 : decode cX5_findBest 24 = .ok (.ifCond .eq 54, 3) := by decide +kernel
theorem dX5_findBest_27 : decode cX5_findBest 27 = .ok (.aload_n 0, 1) := by decide +kernel
theorem dX5_findBest_28 : decode cX5_findBest 28 = .ok (.getfield 265, 3) := by decide +kernel
theorem dX5_findBest_31 : decode cX5_findBest 31 = .ok (.iload_n 3, 1) := by decide +kernel
theorem dX5_findBest_32 : decode cX5_findBest 32 = .ok (.if_icmp .eq 46, 3) := by decide +kernel
theorem dX5_findBest_35 : decode cX5_findBest 35 = .ok (.aload_n 0, 1) := by decide +kernel
theorem dX5_findBest_36 : decode cX5_findBest 36 = .ok (.getfield 268, 3) := by decide +kernel
theorem dX5_findBest_39 : decode cX5_findBest 39 = .ok (.ifCond .eq 18, 3) := by decide +kernel
theorem dX5_findBest_42 : decode cX5_findBest 42 = .ok (.aload_n 0, 1) := by decide +kernel
theorem dX5_findBest_43 : decode cX5_findBest 43 = .ok (.aload_n 0, 1) := by decide +kernel
theorem dX5_findBest_44 : decode cX5_findBest 44 = .ok (.getfield 278, 3) := by decide +kernel
theorem dX5_findBest_47 : decode cX5_findBest 47 = .ok (.aload_n 0, 1) := by decide +kernel
theorem dX5_findBest_48 : decode cX5_findBest 48 = .ok (.getfield 281, 3) := by decide +kernel
theorem dX5_findBest_51 : decode cX5_findBest 51 = .ok (.invokevirtual 284, 3) := by decide +kernel
theorem dX5_findBest_54 : decode cX5_findBest 54 = .ok (.ifCond .eq 24, 3) := by decide +kernel
theorem dX5_findBest_57 : decode cX5_findBest 57 = .ok (.aload_n 0, 1) := by decide +kernel
theorem dX5_findBest_58 : decode cX5_findBest 58 = .ok (.aload_n 0, 1) := by decide +kernel
theorem dX5_findBest_59 : decode cX5_findBest 59 = .ok (.getfield 262, 3) := by decide +kernel
theorem dX5_findBest_62 : decode cX5_findBest 62 = .ok (.putfield 278, 3) := by decide +kernel
theorem dX5_findBest_65 : decode cX5_findBest 65 = .ok (.aload_n 0, 1) := by decide +kernel
theorem dX5_findBest_66 : decode cX5_findBest 66 = .ok (.aload_n 0, 1) := by decide +kernel
theorem dX5_findBest_67 : decode cX5_findBest 67 = .ok (.getfield 265, 3) := by decide +kernel
theorem dX5_findBest_70 : decode cX5_findBest 70 = .ok (.putfield 281, 3) := by decide +kernel
theorem dX5_findBest_73 : decode cX5_findBest 73 = .ok (.aload_n 0, 1) := by decide +kernel
theorem dX5_findBest_74 : decode cX5_findBest 74 = .ok (.iconst 1, 1) := by decide +kernel
theorem dX5_findBest_75 : decode cX5_findBest 75 = .ok (.putfield 268, 3) := by decide +kernel
theorem dX5_findBest_78 : decode cX5_findBest 78 = .ok (.aload_n 0, 1) := by decide +kernel
theorem dX5_findBest_79 : decode cX5_findBest 79 = .ok (.iload_n 1, 1) := by decide +kernel
theorem dX5_findBest_80 : decode cX5_findBest 80 = .ok (.iload_n 2, 1) := by decide +kernel
theorem dX5_findBest_81 : decode cX5_findBest 81 = .ok (.invokevirtual 287, 3) := by decide +kernel
theorem dX5_findBest_84 : decode cX5_findBest 84 = .ok (.istore 4, 2) := by decide +kernel
theorem dX5_findBest_86 : decode cX5_findBest 86 = .ok (.goto (-72), 3) := by decide +kernel
theorem dX5_findBest_89 : decode cX5_findBest 89 = .ok (.return_, 1) := by decide +kernel
theorem dX5_ones_0 : decode cX5_ones 0 = .ok (.iconst 0, 1) := by decide +kernel
theorem dX5_ones_1 : decode cX5_ones 1 = .ok (.istore_n 1, 1) := by decide +kernel
theorem dX5_ones_2 : decode cX5_ones 2 = .ok (.iload_n 0, 1) := by decide +kernel
theorem dX5_ones_3 : decode cX5_ones 3 = .ok (.istore_n 2, 1) := by decide +kernel
theorem dX5_ones_4 : decode cX5_ones 4 = .ok (.iload_n 2, 1) := by decide +kernel
theorem dX5_ones_5 : decode cX5_ones 5 = .ok (.ifCond .eq 15, 3) := by decide +kernel
theorem dX5_ones_8 : decode cX5_ones 8 = .ok (.iinc 1 1, 3) := by decide +kernel
theorem dX5_ones_11 : decode cX5_ones 11 = .ok (.iload_n 2, 1) := by decide +kernel
theorem dX5_ones_12 : decode cX5_ones 12 = .ok (.iload_n 2, 1) := by decide +kernel
theorem dX5_ones_13 : decode cX5_ones 13 = .ok (.iconst 1, 1) := by decide +kernel
theorem dX5_ones_14 : decode cX5_ones 14 = .ok (.isub, 1) := by decide +kernel
theorem dX5_ones_15 : decode cX5_ones 15 = .ok (.iand, 1) := by decide +kernel
theorem dX5_ones_16 : decode cX5_ones 16 = .ok (.istore_n 2, 1) := by decide +kernel
theorem dX5_ones_17 : decode cX5_ones 17 = .ok (.goto (-13), 3) := by decide +kernel
theorem dX5_ones_20 : decode cX5_ones 20 = .ok (.iload_n 1, 1) := by decide +kernel
theorem dX5_ones_21 : decode cX5_ones 21 = .ok (.ireturn, 1) := by decide +kernel
set_option maxRecDepth 20000 in
theorem ggX5_best_X5_isPlace : GoodIn wsX5_best wsX5_isPlace := goodIn_r _ [9, 10, 11, 12, 8, 13] (by decide +kernel) (by decide +kernel)
set_option maxRecDepth 20000 in
theorem gX5_best_X5_isPlace : GoodIn wsX5_best (va_wsS RX5 194 yX5_isPlace wsX5_isPlace) := goodIn_app (goodIn_of _ (by decide +kernel)) ggX5_best_X5_isPlace
set_option maxRecDepth 20000 in
theorem ggX5_best_X5_in : GoodIn wsX5_best wsX5_in := goodIn_r _ [13] (by decide +kernel) (by decide +kernel)
set_option maxRecDepth 20000 in
theorem gX5_best_X5_in : GoodIn wsX5_best (va_wsS RX5 77 yX5_in wsX5_in) := goodIn_app (goodIn_of _ (by decide +kernel)) ggX5_best_X5_in
set_option maxRecDepth 20000 in
theorem ggX5_best_X5_findBest : GoodIn wsX5_best wsX5_findBest := goodIn_r _ [17, 18, 19, 3, 4, 20, 21, 22, 23, 8, 24, 5, 25, 26, 27, 28, 29, 30, 31, 32, 33, 34, 35, 11, 12, 13, 36, 37, 38, 39, 40, 41, 42, 43, 44, 45, 46, 47, 48, 49, 50, 51, 52, 53, 54, 55, 56, 57, 58, 59, 60, 61, 62, 63, 64, 65, 66, 67, 68, 69, 70, 71, 72, 73, 74, 75, 76, 77, 78] (by decide +kernel) (by decide +kernel)
set_option maxRecDepth 20000 in
theorem gX5_best_X5_findBest : GoodIn wsX5_best (wsV RX5 290 RX5 yX5_findBest wsX5_findBest) := goodIn_app (goodIn_of _ (by decide +kernel)) ggX5_best_X5_findBest
theorem dX5_best_0 : decode cX5_best 0 = .ok (.aload_n 0, 1) := by decide +kernel
theorem dX5_best_1 : decode cX5_best 1 = .ok (.iconst 0, 1) := by decide +kernel
theorem dX5_best_2 : decode cX5_best 2 = .ok (.putfield 63, 3) := by decide +kernel
theorem dX5_best_5 : decode cX5_best 5 = .ok (.iload_n 1, 1) := by decide +kernel
theorem dX5_best_6 : decode cX5_best 6 = .ok (.invokestatic 194, 3) := by decide +kernel
theorem dX5_best_9 : decode cX5_best 9 = .ok (.ifCond .eq 15, 3) := by decide +kernel
theorem dX5_best_12 : decode cX5_best 12 = .ok (.iload_n 2, 1) := by decide +kernel
theorem dX5_best_13 : decode cX5_best 13 = .ok (.i2l, 1) := by decide +kernel
theorem dX5_best_14 : decode cX5_best 14 = .ok (.lconst 0, 1) := by decide +kernel
theorem dX5_best_15 : decode cX5_best 15 = .ok (.ldc2_w 238, 3) := by decide +kernel
theorem dX5_best_18 : decode cX5_best 18 = .ok (.invokestatic 77, 3) := by decide +kernel
theorem dX5_best_21 : decode cX5_best 21 = .ok (.ifCond .ne 6, 3) := by decide +kernel
theorem dX5_best_24 : decode cX5_best 24 = .ok (.bipush (-2), 2) := by decide +kernel
theorem dX5_best_26 : decode cX5_best 26 = .ok (.ireturn, 1) := by decide +kernel
theorem dX5_best_27 : decode cX5_best 27 = .ok (.aload_n 0, 1) := by decide +kernel
theorem dX5_best_28 : decode cX5_best 28 = .ok (.iload_n 1, 1) := by decide +kernel
theorem dX5_best_29 : decode cX5_best 29 = .ok (.iconst (-1), 1) := by decide +kernel
theorem dX5_best_30 : decode cX5_best 30 = .ok (.iconst (-1), 1) := by decide +kernel
theorem dX5_best_31 : decode cX5_best 31 = .ok (.invokevirtual 290, 3) := by decide +kernel
theorem dX5_best_34 : decode cX5_best 34 = .ok (.iload_n 2, 1) := by decide +kernel
theorem dX5_best_35 : decode cX5_best 35 = .ok (.ifCond .ne 10, 3) := by decide +kernel
theorem dX5_best_38 : decode cX5_best 38 = .ok (.aload_n 0, 1) := by decide +kernel
theorem dX5_best_39 : decode cX5_best 39 = .ok (.getfield 278, 3) := by decide +kernel
theorem dX5_best_42 : decode cX5_best 42 = .ok (.goto 19, 3) := by decide +kernel
theorem dX5_best_45 : decode cX5_best 45 = .ok (.iload_n 2, 1) := by decide +kernel
theorem dX5_best_46 : decode cX5_best 46 = .ok (.iconst 1, 1) := by decide +kernel
theorem dX5_best_47 : decode cX5_best 47 = .ok (.if_icmp .ne 10, 3) := by decide +kernel
theorem dX5_best_50 : decode cX5_best 50 = .ok (.aload_n 0, 1) := by decide +kernel
theorem dX5_best_51 : decode cX5_best 51 = .ok (.getfield 281, 3) := by decide +kernel
theorem dX5_best_54 : decode cX5_best 54 = .ok (.goto 7, 3) := by decide +kernel
theorem dX5_best_57 : decode cX5_best 57 = .ok (.aload_n 0, 1) := by decide +kernel
theorem dX5_best_58 : decode cX5_best 58 = .ok (.getfield 252, 3) := by decide +kernel
theorem dX5_best_61 : decode cX5_best 61 = .ok (.ireturn, 1) := by decide +kernel
set_option maxRecDepth 20000 in
theorem ggX5_by_X5_isPlace : GoodIn wsX5_by wsX5_isPlace := goodIn_r _ [7, 8, 9, 10, 6, 11] (by decide +kernel) (by decide +kernel)
set_option maxRecDepth 20000 in
theorem gX5_by_X5_isPlace : GoodIn wsX5_by (va_wsS RX5 194 yX5_isPlace wsX5_isPlace) := goodIn_app (goodIn_of _ (by decide +kernel)) ggX5_by_X5_isPlace
set_option maxRecDepth 20000 in
theorem ggX5_by_X5_findBest : GoodIn wsX5_by wsX5_findBest := goodIn_r _ [15, 16, 17, 18, 2, 19, 20, 21, 22, 6, 23, 24, 25, 26, 27, 28, 29, 3, 30, 31, 32, 33, 34, 9, 10, 11, 35, 36, 37, 38, 39, 40, 41, 42, 43, 44, 45, 46, 47, 48, 49, 50, 51, 52, 53, 54, 55, 56, 57, 58, 59, 60, 61, 62, 63, 64, 65, 66, 67, 68, 69, 70, 71, 72, 73, 74, 75, 76, 77] (by decide +kernel) (by decide +kernel)
set_option maxRecDepth 20000 in
theorem gX5_by_X5_findBest : GoodIn wsX5_by (wsV RX5 290 RX5 yX5_findBest wsX5_findBest) := goodIn_app (goodIn_of _ (by decide +kernel)) ggX5_by_X5_findBest
theorem dX5_by_0 : decode cX5_by 0 = .ok (.aload_n 0, 1) := by decide +kernel
theorem dX5_by_1 : decode cX5_by 1 = .ok (.iconst 0, 1) := by decide +kernel
theorem dX5_by_2 : decode cX5_by 2 = .ok (.putfield 63, 3) := by decide +kernel
theorem dX5_by_5 : decode cX5_by 5 = .ok (.iload_n 1, 1) := by decide +kernel
theorem dX5_by_6 : decode cX5_by 6 = .ok (.invokestatic 194, 3) := by decide +kernel
theorem dX5_by_9 : decode cX5_by 9 = .ok (.ifCond .eq 10, 3) := by decide +kernel
theorem dX5_by_12 : decode cX5_by 12 = .ok (.iload_n 2, 1) := by decide +kernel
theorem dX5_by_13 : decode cX5_by 13 = .ok (.invokestatic 194, 3) := by decide +kernel
theorem dX5_by_16 : decode cX5_by 16 = .ok (.ifCond .ne 5, 3) := by decide +kernel
theorem dX5_by_19 : decode cX5_by 19 = .ok (.iconst (-1), 1) := by decide +kernel
theorem dX5_by_20 : decode cX5_by 20 = .ok (.ireturn, 1) := by decide +kernel
theorem dX5_by_21 : decode cX5_by 21 = .ok (.aload_n 0, 1) := by decide +kernel
theorem dX5_by_22 : decode cX5_by 22 = .ok (.iload_n 1, 1) := by decide +kernel
theorem dX5_by_23 : decode cX5_by 23 = .ok (.iconst (-1), 1) := by decide +kernel
theorem dX5_by_24 : decode cX5_by 24 = .ok (.iconst (-1), 1) := by decide +kernel
theorem dX5_by_25 : decode cX5_by 25 = .ok (.invokevirtual 290, 3) := by decide +kernel
theorem dX5_by_28 : decode cX5_by 28 = .ok (.iconst (-1), 1) := by decide +kernel
theorem dX5_by_29 : decode cX5_by 29 = .ok (.istore_n 3, 1) := by decide +kernel
theorem dX5_by_30 : decode cX5_by 30 = .ok (.iconst 0, 1) := by decide +kernel
theorem dX5_by_31 : decode cX5_by 31 = .ok (.istore 4, 2) := by decide +kernel
theorem dX5_by_33 : decode cX5_by 33 = .ok (.iload 4, 2) := by decide +kernel
theorem dX5_by_35 : decode cX5_by 35 = .ok (.bipush 20, 2) := by decide +kernel
theorem dX5_by_37 : decode cX5_by 37 = .ok (.if_icmp .ge 47, 3) := by decide +kernel
theorem dX5_by_40 : decode cX5_by 40 = .ok (.aload_n 0, 1) := by decide +kernel
theorem dX5_by_41 : decode cX5_by 41 = .ok (.getfield 281, 3) := by decide +kernel
theorem dX5_by_44 : decode cX5_by 44 = .ok (.iload 4, 2) := by decide +kernel
theorem dX5_by_46 : decode cX5_by 46 = .ok (.ishr, 1) := by decide +kernel
theorem dX5_by_47 : decode cX5_by 47 = .ok (.iconst 1, 1) := by decide +kernel
theorem dX5_by_48 : decode cX5_by 48 = .ok (.iand, 1) := by decide +kernel
theorem dX5_by_49 : decode cX5_by 49 = .ok (.iconst 1, 1) := by decide +kernel
theorem dX5_by_50 : decode cX5_by 50 = .ok (.if_icmp .ne 26, 3) := by decide +kernel
theorem dX5_by_53 : decode cX5_by 53 = .ok (.aload_n 0, 1) := by decide +kernel
theorem dX5_by_54 : decode cX5_by 54 = .ok (.getfield 13, 3) := by decide +kernel
theorem dX5_by_57 : decode cX5_by 57 = .ok (.bipush 10, 2) := by decide +kernel
theorem dX5_by_59 : decode cX5_by 59 = .ok (.iconst 3, 1) := by decide +kernel
theorem dX5_by_60 : decode cX5_by 60 = .ok (.iload 4, 2) := by decide +kernel
theorem dX5_by_62 : decode cX5_by 62 = .ok (.imul, 1) := by decide +kernel
theorem dX5_by_63 : decode cX5_by 63 = .ok (.iadd, 1) := by decide +kernel
theorem dX5_by_64 : decode cX5_by 64 = .ok (.iconst 1, 1) := by decide +kernel
theorem dX5_by_65 : decode cX5_by 65 = .ok (.iadd, 1) := by decide +kernel
theorem dX5_by_66 : decode cX5_by 66 = .ok (.iaload, 1) := by decide +kernel
theorem dX5_by_67 : decode cX5_by 67 = .ok (.iload_n 2, 1) := by decide +kernel
theorem dX5_by_68 : decode cX5_by 68 = .ok (.if_icmp .ne 8, 3) := by decide +kernel
theorem dX5_by_71 : decode cX5_by 71 = .ok (.iload 4, 2) := by decide +kernel
theorem dX5_by_73 : decode cX5_by 73 = .ok (.goto 4, 3) := by decide +kernel
theorem dX5_by_76 : decode cX5_by 76 = .ok (.iload_n 3, 1) := by decide +kernel
theorem dX5_by_77 : decode cX5_by 77 = .ok (.istore_n 3, 1) := by decide +kernel
theorem dX5_by_78 : decode cX5_by 78 = .ok (.iinc 4 1, 3) := by decide +kernel
theorem dX5_by_81 : decode cX5_by 81 = .ok (.goto (-48), 3) := by decide +kernel
theorem dX5_by_84 : decode cX5_by 84 = .ok (.iload_n 3, 1) := by decide +kernel
theorem dX5_by_85 : decode cX5_by 85 = .ok (.ireturn, 1) := by decide +kernel
set_option maxRecDepth 20000 in
theorem ggX5_behind_X5_firstChoice : GoodIn wsX5_behind wsX5_firstChoice := goodIn_r _ [9, 10, 11, 12, 13, 14, 8, 15, 16, 17, 18, 19, 20, 21, 22, 23, 24, 25, 26, 27, 28, 37, 38, 39, 40, 41, 42, 43, 44, 45, 46, 47, 48, 49, 50, 51, 52, 53, 54, 55, 56, 57, 58, 59, 60, 61, 62, 63] (by decide +kernel) (by decide +kernel)
set_option maxRecDepth 20000 in
theorem gX5_behind_X5_firstChoice : GoodIn wsX5_behind (wsV RX5 272 RX5 yX5_firstChoice wsX5_firstChoice) := goodIn_app (goodIn_of _ (by decide +kernel)) ggX5_behind_X5_firstChoice
set_option maxRecDepth 20000 in
theorem ggX5_behind_X5_isTree : GoodIn wsX5_behind wsX5_isTree := goodIn_r _ [32, 4, 3, 11, 16, 37, 38, 39, 40, 41, 42, 43, 44, 45, 46, 47, 48, 49, 50, 51, 52, 53, 54, 55, 56, 57, 58, 59, 60, 61, 62, 63] (by decide +kernel) (by decide +kernel)
set_option maxRecDepth 20000 in
theorem gX5_behind_X5_isTree : GoodIn wsX5_behind (wsV RX5 275 RX5 yX5_isTree wsX5_isTree) := goodIn_app (goodIn_of _ (by decide +kernel)) ggX5_behind_X5_isTree
set_option maxRecDepth 20000 in
theorem ggX5_behind_X5_nextChoice : GoodIn wsX5_behind wsX5_nextChoice := goodIn_r _ [36, 11, 25, 26, 27, 8, 28, 16, 10, 17, 18, 19, 20, 21, 22, 23, 24, 37, 38, 39, 40, 41, 42, 43, 44, 45, 46, 47, 48, 49, 50, 51, 52, 53, 54, 55, 56, 57, 58, 59, 60, 61, 62, 63] (by decide +kernel) (by decide +kernel)
set_option maxRecDepth 20000 in
theorem gX5_behind_X5_nextChoice : GoodIn wsX5_behind (wsV RX5 287 RX5 yX5_nextChoice wsX5_nextChoice) := goodIn_app (goodIn_of _ (by decide +kernel)) ggX5_behind_X5_nextChoice
theorem dX5_behind_0 : decode cX5_behind 0 = .ok (.aload_n 0, 1) := by decide +kernel
theorem dX5_behind_1 : decode cX5_behind 1 = .ok (.getfield 278, 3) := by decide +kernel
theorem dX5_behind_4 : decode cX5_behind 4 = .ok (.istore 4, 2) := by decide +kernel
theorem dX5_behind_6 : decode cX5_behind 6 = .ok (.aload_n 0, 1) := by decide +kernel
theorem dX5_behind_7 : decode cX5_behind 7 = .ok (.getfield 281, 3) := by decide +kernel
theorem dX5_behind_10 : decode cX5_behind 10 = .ok (.istore 5, 2) := by decide +kernel
theorem dX5_behind_12 : decode cX5_behind 12 = .ok (.iconst (-1), 1) := by decide +kernel
theorem dX5_behind_13 : decode cX5_behind 13 = .ok (.istore 6, 2) := by decide +kernel
theorem dX5_behind_15 : decode cX5_behind 15 = .ok (.aload_n 0, 1) := by decide +kernel
theorem dX5_behind_16 : decode cX5_behind 16 = .ok (.iload_n 1, 1) := by decide +kernel
theorem dX5_behind_17 : decode cX5_behind 17 = .ok (.iconst (-1), 1) := by decide +kernel
theorem dX5_behind_18 : decode cX5_behind 18 = .ok (.invokevirtual 272, 3) := by decide +kernel
theorem dX5_behind_21 : decode cX5_behind 21 = .ok (.iconst 1, 1) := by decide +kernel
theorem dX5_behind_22 : decode cX5_behind 22 = .ok (.istore 7, 2) := by decide +kernel
theorem dX5_behind_24 : decode cX5_behind 24 = .ok (.iload 7, 2) := by decide +kernel
theorem dX5_behind_26 : decode cX5_behind 26 = .ok (.ifCond .eq 113, 3) := by decide +kernel
theorem dX5_behind_29 : decode cX5_behind 29 = .ok (.aload_n 0, 1) := by decide +kernel
theorem dX5_behind_30 : decode cX5_behind 30 = .ok (.iload_n 1, 1) := by decide +kernel
theorem dX5_behind_31 : decode cX5_behind 31 = .ok (.invokevirtual 275, 3) := by decide +kernel
theorem dX5_behind_34 : decode cX5_behind 34 = .ok (.ifCond .eq 94, 3) := by decide +kernel
theorem dX5_behind_37 : decode cX5_behind 37 = .ok (.aload_n 0, 1) := by decide +kernel
theorem dX5_behind_38 : decode cX5_behind 38 = .ok (.getfield 265, 3) := by decide +kernel
theorem dX5_behind_41 : decode cX5_behind 41 = .ok (.iload_n 2, 1) := by decide +kernel
theorem dX5_behind_42 : decode cX5_behind 42 = .ok (.ishr, 1) := by decide +kernel
theorem dX5_behind_43 : decode cX5_behind 43 = .ok (.iconst 1, 1) := by decide +kernel
theorem dX5_behind_44 : decode cX5_behind 44 = .ok (.iand, 1) := by decide +kernel
theorem dX5_behind_45 : decode cX5_behind 45 = .ok (.iload_n 3, 1) := by decide +kernel
theorem dX5_behind_46 : decode cX5_behind 46 = .ok (.ifCond .eq 7, 3) := by decide +kernel
theorem dX5_behind_49 : decode cX5_behind 49 = .ok (.iconst 1, 1) := by decide +kernel
theorem dX5_behind_50 : decode cX5_behind 50 = .ok (.goto 4, 3) := by decide +kernel
theorem dX5_behind_53 : decode cX5_behind 53 = .ok (.iconst 0, 1) := by decide +kernel
theorem dX5_behind_54 : decode cX5_behind 54 = .ok (.if_icmp .ne 74, 3) := by decide +kernel
theorem dX5_behind_57 : decode cX5_behind 57 = .ok (.aload_n 0, 1) := by decide +kernel
theorem dX5_behind_58 : decode cX5_behind 58 = .ok (.getfield 262, 3) := by decide +kernel
theorem dX5_behind_61 : decode cX5_behind 61 = .ok (.iload 4, 2) := by decide +kernel
theorem dX5_behind_63 : decode cX5_behind 63 = .ok (.isub, 1) := by decide +kernel
theorem dX5_behind_64 : decode cX5_behind 64 = .ok (.istore 8, 2) := by decide +kernel
theorem dX5_behind_66 : decode cX5_behind 66 = .ok (.iload 8, 2) := by decide +kernel
theorem dX5_behind_68 : decode cX5_behind 68 = .ok (.iload_n 3, 1) := by decide +kernel
theorem dX5_behind_69 : decode cX5_behind 69 = .ok (.ifCond .eq 20, 3) := by decide +kernel
theorem dX5_behind_72 : decode cX5_behind 72 = .ok (.aload_n 0, 1) := by decide +kernel
theorem dX5_behind_73 : decode cX5_behind 73 = .ok (.getfield 265, 3) := by decide +kernel
theorem dX5_behind_76 : decode cX5_behind 76 = .ok (.iload 5, 2) := by decide +kernel
theorem dX5_behind_78 : decode cX5_behind 78 = .ok (.if_icmp .ge 7, 3) := by decide +kernel
theorem dX5_behind_81 : decode cX5_behind 81 = .ok (.iconst 0, 1) := by decide +kernel
theorem dX5_behind_82 : decode cX5_behind 82 = .ok (.goto 21, 3) := by decide +kernel
theorem dX5_behind_85 : decode cX5_behind 85 = .ok (.iconst 1, 1) := by decide +kernel
theorem dX5_behind_86 : decode cX5_behind 86 = .ok (.goto 17, 3) := by decide +kernel
theorem dX5_behind_89 : decode cX5_behind 89 = .ok (.iload 5, 2) := by decide +kernel
theorem dX5_behind_91 : decode cX5_behind 91 = .ok (.aload_n 0, 1) := by decide +kernel
theorem dX5_behind_92 : decode cX5_behind 92 = .ok (.getfield 265, 3) := by decide +kernel
theorem dX5_behind_95 : decode cX5_behind 95 = .ok (.if_icmp .ge 7, 3) := by decide +kernel
theorem dX5_behind_98 : decode cX5_behind 98 = .ok (.iconst 0, 1) := by decide +kernel
theorem dX5_behind_99 : decode cX5_behind 99 = .ok (.goto 4, 3) := by decide +kernel
theorem dX5_behind_102 : decode cX5_behind 102 = .ok (.iconst (-1), 1) := by decide +kernel
theorem dX5_behind_103 : decode cX5_behind 103 = .ok (.iadd, 1) := by decide +kernel
theorem dX5_behind_104 : decode cX5_behind 104 = .ok (.istore 8, 2) := by decide +kernel
theorem dX5_behind_106 : decode cX5_behind 106 = .ok (.iload 6, 2) := by decide +kernel
theorem dX5_behind_108 : decode cX5_behind 108 = .ok (.iconst (-1), 1) := by decide +kernel
theorem dX5_behind_109 : decode cX5_behind 109 = .ok (.if_icmp .eq 10, 3) := by decide +kernel
theorem dX5_behind_112 : decode cX5_behind 112 = .ok (.iload 8, 2) := by decide +kernel
theorem dX5_behind_114 : decode cX5_behind 114 = .ok (.iload 6, 2) := by decide +kernel
theorem dX5_behind_116 : decode cX5_behind 116 = .ok (.if_icmp .ge 8, 3) := by decide +kernel
theorem dX5_behind_119 : decode cX5_behind 119 = .ok (.iload 8, 2) := by decide +kernel
theorem dX5_behind_121 : decode cX5_behind 121 = .ok (.goto 5, 3) := by decide +kernel
theorem dX5_behind_124 : decode cX5_behind 124 = .ok (.iload 6, 2) := by decide +kernel
theorem dX5_behind_126 : decode cX5_behind 126 = .ok (.istore 6, 2) := by decide +kernel
theorem dX5_behind_128 : decode cX5_behind 128 = .ok (.aload_n 0, 1) := by decide +kernel
theorem dX5_behind_129 : decode cX5_behind 129 = .ok (.iload_n 1, 1) := by decide +kernel
theorem dX5_behind_130 : decode cX5_behind 130 = .ok (.iconst (-1), 1) := by decide +kernel
theorem dX5_behind_131 : decode cX5_behind 131 = .ok (.invokevirtual 287, 3) := by decide +kernel
theorem dX5_behind_134 : decode cX5_behind 134 = .ok (.istore 7, 2) := by decide +kernel
theorem dX5_behind_136 : decode cX5_behind 136 = .ok (.goto (-112), 3) := by decide +kernel
theorem dX5_behind_139 : decode cX5_behind 139 = .ok (.iload 6, 2) := by decide +kernel
theorem dX5_behind_141 : decode cX5_behind 141 = .ok (.ireturn, 1) := by decide +kernel
set_option maxRecDepth 20000 in
theorem ggX5_dearer_X5_isPlace : GoodIn wsX5_dearer wsX5_isPlace := goodIn_r _ [7, 8, 9, 10, 6, 11] (by decide +kernel) (by decide +kernel)
set_option maxRecDepth 20000 in
theorem gX5_dearer_X5_isPlace : GoodIn wsX5_dearer (va_wsS RX5 194 yX5_isPlace wsX5_isPlace) := goodIn_app (goodIn_of _ (by decide +kernel)) ggX5_dearer_X5_isPlace
set_option maxRecDepth 20000 in
theorem ggX5_dearer_X5_isArc : GoodIn wsX5_dearer wsX5_isArc := goodIn_r _ [15, 16, 17, 9, 10, 6, 11, 56, 57, 58, 59, 60, 61, 62, 63, 64, 65, 66, 67, 68, 69, 70, 71, 72, 73, 74, 75, 76, 77, 78, 79, 80, 81, 82] (by decide +kernel) (by decide +kernel)
set_option maxRecDepth 20000 in
theorem gX5_dearer_X5_isArc : GoodIn wsX5_dearer (wsV RX5 197 RX5 yX5_isArc wsX5_isArc) := goodIn_app (goodIn_of _ (by decide +kernel)) ggX5_dearer_X5_isArc
set_option maxRecDepth 20000 in
theorem ggX5_dearer_X5_findBest : GoodIn wsX5_dearer wsX5_findBest := goodIn_r _ [21, 22, 23, 24, 2, 25, 26, 27, 28, 6, 29, 30, 31, 32, 33, 34, 35, 17, 12, 13, 14, 15, 16, 9, 10, 11, 36, 37, 38, 39, 40, 41, 42, 43, 44, 45, 46, 47, 48, 49, 50, 51, 56, 57, 58, 59, 60, 61, 62, 63, 64, 65, 66, 67, 68, 69, 70, 71, 72, 73, 74, 75, 76, 77, 78, 79, 80, 81, 82] (by decide +kernel) (by decide +kernel)
set_option maxRecDepth 20000 in
theorem gX5_dearer_X5_findBest : GoodIn wsX5_dearer (wsV RX5 290 RX5 yX5_findBest wsX5_findBest) := goodIn_app (goodIn_of _ (by decide +kernel)) ggX5_dearer_X5_findBest
set_option maxRecDepth 20000 in
theorem ggX5_dearer_X5_behind : GoodIn wsX5_dearer wsX5_behind := goodIn_r _ [55, 24, 2, 23, 25, 26, 27, 28, 6, 29, 30, 31, 32, 33, 34, 35, 17, 12, 13, 14, 15, 16, 9, 10, 11, 36, 37, 38, 39, 40, 41, 42, 43, 48, 49, 50, 51, 56, 57, 58, 59, 60, 61, 62, 63, 64, 65, 66, 67, 68, 69, 70, 71, 72, 73, 74, 75, 76, 77, 78, 79, 80, 81, 82] (by decide +kernel) (by decide +kernel)
set_option maxRecDepth 20000 in
theorem gX5_dearer_X5_behind : GoodIn wsX5_dearer (wsV RX5 294 RX5 yX5_behind wsX5_behind) := goodIn_app (goodIn_of _ (by decide +kernel)) ggX5_dearer_X5_behind
theorem dX5_dearer_0 : decode cX5_dearer 0 = .ok (.aload_n 0, 1) := by decide +kernel
theorem dX5_dearer_1 : decode cX5_dearer 1 = .ok (.iconst 0, 1) := by decide +kernel
theorem dX5_dearer_2 : decode cX5_dearer 2 = .ok (.putfield 63, 3) := by decide +kernel
theorem dX5_dearer_5 : decode cX5_dearer 5 = .ok (.iload_n 1, 1) := by decide +kernel
theorem dX5_dearer_6 : decode cX5_dearer 6 = .ok (.invokestatic 194, 3) := by decide +kernel
theorem dX5_dearer_9 : decode cX5_dearer 9 = .ok (.ifCond .eq 11, 3) := by decide +kernel
theorem dX5_dearer_12 : decode cX5_dearer 12 = .ok (.aload_n 0, 1) := by decide +kernel
theorem dX5_dearer_13 : decode cX5_dearer 13 = .ok (.iload_n 2, 1) := by decide +kernel
theorem dX5_dearer_14 : decode cX5_dearer 14 = .ok (.invokevirtual 197, 3) := by decide +kernel
theorem dX5_dearer_17 : decode cX5_dearer 17 = .ok (.ifCond .ne 5, 3) := by decide +kernel
theorem dX5_dearer_20 : decode cX5_dearer 20 = .ok (.iconst (-1), 1) := by decide +kernel
theorem dX5_dearer_21 : decode cX5_dearer 21 = .ok (.ireturn, 1) := by decide +kernel
theorem dX5_dearer_22 : decode cX5_dearer 22 = .ok (.aload_n 0, 1) := by decide +kernel
theorem dX5_dearer_23 : decode cX5_dearer 23 = .ok (.iload_n 1, 1) := by decide +kernel
theorem dX5_dearer_24 : decode cX5_dearer 24 = .ok (.iconst (-1), 1) := by decide +kernel
theorem dX5_dearer_25 : decode cX5_dearer 25 = .ok (.iconst (-1), 1) := by decide +kernel
theorem dX5_dearer_26 : decode cX5_dearer 26 = .ok (.invokevirtual 290, 3) := by decide +kernel
theorem dX5_dearer_29 : decode cX5_dearer 29 = .ok (.aload_n 0, 1) := by decide +kernel
theorem dX5_dearer_30 : decode cX5_dearer 30 = .ok (.getfield 281, 3) := by decide +kernel
theorem dX5_dearer_33 : decode cX5_dearer 33 = .ok (.iload_n 2, 1) := by decide +kernel
theorem dX5_dearer_34 : decode cX5_dearer 34 = .ok (.ishr, 1) := by decide +kernel
theorem dX5_dearer_35 : decode cX5_dearer 35 = .ok (.iconst 1, 1) := by decide +kernel
theorem dX5_dearer_36 : decode cX5_dearer 36 = .ok (.iand, 1) := by decide +kernel
theorem dX5_dearer_37 : decode cX5_dearer 37 = .ok (.ifCond .ne 5, 3) := by decide +kernel
theorem dX5_dearer_40 : decode cX5_dearer 40 = .ok (.iconst (-1), 1) := by decide +kernel
theorem dX5_dearer_41 : decode cX5_dearer 41 = .ok (.ireturn, 1) := by decide +kernel
theorem dX5_dearer_42 : decode cX5_dearer 42 = .ok (.aload_n 0, 1) := by decide +kernel
theorem dX5_dearer_43 : decode cX5_dearer 43 = .ok (.iload_n 1, 1) := by decide +kernel
theorem dX5_dearer_44 : decode cX5_dearer 44 = .ok (.iload_n 2, 1) := by decide +kernel
theorem dX5_dearer_45 : decode cX5_dearer 45 = .ok (.iconst 0, 1) := by decide +kernel
theorem dX5_dearer_46 : decode cX5_dearer 46 = .ok (.invokevirtual 294, 3) := by decide +kernel
theorem dX5_dearer_49 : decode cX5_dearer 49 = .ok (.istore_n 3, 1) := by decide +kernel
theorem dX5_dearer_50 : decode cX5_dearer 50 = .ok (.iload_n 3, 1) := by decide +kernel
theorem dX5_dearer_51 : decode cX5_dearer 51 = .ok (.iconst (-1), 1) := by decide +kernel
theorem dX5_dearer_52 : decode cX5_dearer 52 = .ok (.if_icmp .ne 9, 3) := by decide +kernel
theorem dX5_dearer_55 : decode cX5_dearer 55 = .ok (.ldc_w 298, 3) := by decide +kernel
theorem dX5_dearer_58 : decode cX5_dearer 58 = .ok (.goto 4, 3) := by decide +kernel
theorem dX5_dearer_61 : decode cX5_dearer 61 = .ok (.iload_n 3, 1) := by decide +kernel
theorem dX5_dearer_62 : decode cX5_dearer 62 = .ok (.ireturn, 1) := by decide +kernel
set_option maxRecDepth 20000 in
theorem ggX5_without_X5_isPlace : GoodIn wsX5_without wsX5_isPlace := goodIn_r _ [8, 9, 10, 11, 7, 12] (by decide +kernel) (by decide +kernel)
set_option maxRecDepth 20000 in
theorem gX5_without_X5_isPlace : GoodIn wsX5_without (va_wsS RX5 194 yX5_isPlace wsX5_isPlace) := goodIn_app (goodIn_of _ (by decide +kernel)) ggX5_without_X5_isPlace
set_option maxRecDepth 20000 in
theorem ggX5_without_X5_isArc : GoodIn wsX5_without wsX5_isArc := goodIn_r _ [16, 17, 18, 10, 11, 7, 12, 52, 53, 54, 55, 56, 57, 58, 59, 60, 61, 62, 63, 64, 65, 66, 67, 68, 69, 70, 71, 72, 73, 74, 75, 76, 77, 78] (by decide +kernel) (by decide +kernel)
set_option maxRecDepth 20000 in
theorem gX5_without_X5_isArc : GoodIn wsX5_without (wsV RX5 197 RX5 yX5_isArc wsX5_isArc) := goodIn_app (goodIn_of _ (by decide +kernel)) ggX5_without_X5_isArc
set_option maxRecDepth 20000 in
theorem ggX5_without_X5_findBest : GoodIn wsX5_without wsX5_findBest := goodIn_r _ [22, 23, 24, 2, 25, 26, 27, 28, 29, 7, 30, 3, 31, 32, 33, 34, 35, 18, 13, 14, 15, 16, 17, 10, 11, 12, 36, 37, 38, 39, 40, 41, 42, 43, 44, 45, 46, 47, 48, 49, 50, 51, 52, 53, 54, 55, 56, 57, 58, 59, 60, 61, 62, 63, 64, 65, 66, 67, 68, 69, 70, 71, 72, 73, 74, 75, 76, 77, 78] (by decide +kernel) (by decide +kernel)
set_option maxRecDepth 20000 in
theorem gX5_without_X5_findBest : GoodIn wsX5_without (wsV RX5 290 RX5 yX5_findBest wsX5_findBest) := goodIn_app (goodIn_of _ (by decide +kernel)) ggX5_without_X5_findBest
set_option maxRecDepth 20000 in
theorem ggX5_without_X5_reach : GoodIn wsX5_without wsX5_reach := goodIn_r _ [35, 18, 13, 14, 15, 7, 16, 17, 10, 11, 12, 52, 53, 54, 55, 56, 57, 58, 59, 60, 61, 62, 63, 64, 65, 66, 67, 68, 69, 70, 71, 72, 73, 74, 75, 76, 77, 78] (by decide +kernel) (by decide +kernel)
set_option maxRecDepth 20000 in
theorem gX5_without_X5_reach : GoodIn wsX5_without (wsV RX5 255 RX5 yX5_reach wsX5_reach) := goodIn_app (goodIn_of _ (by decide +kernel)) ggX5_without_X5_reach
theorem dX5_without_0 : decode cX5_without 0 = .ok (.aload_n 0, 1) := by decide +kernel
theorem dX5_without_1 : decode cX5_without 1 = .ok (.iconst 0, 1) := by decide +kernel
theorem dX5_without_2 : decode cX5_without 2 = .ok (.putfield 63, 3) := by decide +kernel
theorem dX5_without_5 : decode cX5_without 5 = .ok (.iload_n 1, 1) := by decide +kernel
theorem dX5_without_6 : decode cX5_without 6 = .ok (.invokestatic 194, 3) := by decide +kernel
theorem dX5_without_9 : decode cX5_without 9 = .ok (.ifCond .eq 11, 3) := by decide +kernel
theorem dX5_without_12 : decode cX5_without 12 = .ok (.aload_n 0, 1) := by decide +kernel
theorem dX5_without_13 : decode cX5_without 13 = .ok (.iload_n 2, 1) := by decide +kernel
theorem dX5_without_14 : decode cX5_without 14 = .ok (.invokevirtual 197, 3) := by decide +kernel
theorem dX5_without_17 : decode cX5_without 17 = .ok (.ifCond .ne 5, 3) := by decide +kernel
theorem dX5_without_20 : decode cX5_without 20 = .ok (.iconst (-1), 1) := by decide +kernel
theorem dX5_without_21 : decode cX5_without 21 = .ok (.ireturn, 1) := by decide +kernel
theorem dX5_without_22 : decode cX5_without 22 = .ok (.aload_n 0, 1) := by decide +kernel
theorem dX5_without_23 : decode cX5_without 23 = .ok (.iload_n 1, 1) := by decide +kernel
theorem dX5_without_24 : decode cX5_without 24 = .ok (.iconst (-1), 1) := by decide +kernel
theorem dX5_without_25 : decode cX5_without 25 = .ok (.iconst (-1), 1) := by decide +kernel
theorem dX5_without_26 : decode cX5_without 26 = .ok (.invokevirtual 290, 3) := by decide +kernel
theorem dX5_without_29 : decode cX5_without 29 = .ok (.aload_n 0, 1) := by decide +kernel
theorem dX5_without_30 : decode cX5_without 30 = .ok (.getfield 278, 3) := by decide +kernel
theorem dX5_without_33 : decode cX5_without 33 = .ok (.istore_n 3, 1) := by decide +kernel
theorem dX5_without_34 : decode cX5_without 34 = .ok (.aload_n 0, 1) := by decide +kernel
theorem dX5_without_35 : decode cX5_without 35 = .ok (.getfield 252, 3) := by decide +kernel
theorem dX5_without_38 : decode cX5_without 38 = .ok (.istore 4, 2) := by decide +kernel
theorem dX5_without_40 : decode cX5_without 40 = .ok (.aload_n 0, 1) := by decide +kernel
theorem dX5_without_41 : decode cX5_without 41 = .ok (.iload_n 1, 1) := by decide +kernel
theorem dX5_without_42 : decode cX5_without 42 = .ok (.iload_n 2, 1) := by decide +kernel
theorem dX5_without_43 : decode cX5_without 43 = .ok (.invokevirtual 255, 3) := by decide +kernel
theorem dX5_without_46 : decode cX5_without 46 = .ok (.iload 4, 2) := by decide +kernel
theorem dX5_without_48 : decode cX5_without 48 = .ok (.if_icmp .eq 7, 3) := by decide +kernel
theorem dX5_without_51 : decode cX5_without 51 = .ok (.ldc_w 298, 3) := by decide +kernel
theorem dX5_without_54 : decode cX5_without 54 = .ok (.ireturn, 1) := by decide +kernel
theorem dX5_without_55 : decode cX5_without 55 = .ok (.aload_n 0, 1) := by decide +kernel
theorem dX5_without_56 : decode cX5_without 56 = .ok (.iload_n 1, 1) := by decide +kernel
theorem dX5_without_57 : decode cX5_without 57 = .ok (.iload_n 2, 1) := by decide +kernel
theorem dX5_without_58 : decode cX5_without 58 = .ok (.iconst (-1), 1) := by decide +kernel
theorem dX5_without_59 : decode cX5_without 59 = .ok (.invokevirtual 290, 3) := by decide +kernel
theorem dX5_without_62 : decode cX5_without 62 = .ok (.aload_n 0, 1) := by decide +kernel
theorem dX5_without_63 : decode cX5_without 63 = .ok (.getfield 278, 3) := by decide +kernel
theorem dX5_without_66 : decode cX5_without 66 = .ok (.iload_n 3, 1) := by decide +kernel
theorem dX5_without_67 : decode cX5_without 67 = .ok (.isub, 1) := by decide +kernel
theorem dX5_without_68 : decode cX5_without 68 = .ok (.ireturn, 1) := by decide +kernel
set_option maxRecDepth 20000 in
theorem ggX5_cheaper_X5_isPlace : GoodIn wsX5_cheaper wsX5_isPlace := goodIn_r _ [7, 8, 9, 10, 6, 11] (by decide +kernel) (by decide +kernel)
set_option maxRecDepth 20000 in
theorem gX5_cheaper_X5_isPlace : GoodIn wsX5_cheaper (va_wsS RX5 194 yX5_isPlace wsX5_isPlace) := goodIn_app (goodIn_of _ (by decide +kernel)) ggX5_cheaper_X5_isPlace
set_option maxRecDepth 20000 in
theorem ggX5_cheaper_X5_isArc : GoodIn wsX5_cheaper wsX5_isArc := goodIn_r _ [15, 16, 17, 9, 10, 6, 11, 56, 57, 58, 59, 60, 61, 62, 63, 64, 65, 66, 67, 68, 69, 70, 71, 72, 73, 74, 75, 76, 77, 78, 79, 80, 81, 82] (by decide +kernel) (by decide +kernel)
set_option maxRecDepth 20000 in
theorem gX5_cheaper_X5_isArc : GoodIn wsX5_cheaper (wsV RX5 197 RX5 yX5_isArc wsX5_isArc) := goodIn_app (goodIn_of _ (by decide +kernel)) ggX5_cheaper_X5_isArc
set_option maxRecDepth 20000 in
theorem ggX5_cheaper_X5_findBest : GoodIn wsX5_cheaper wsX5_findBest := goodIn_r _ [21, 22, 23, 24, 2, 25, 26, 27, 28, 6, 29, 30, 31, 32, 33, 34, 35, 17, 12, 13, 14, 15, 16, 9, 10, 11, 36, 37, 38, 39, 40, 41, 42, 43, 44, 45, 46, 47, 48, 49, 50, 51, 56, 57, 58, 59, 60, 61, 62, 63, 64, 65, 66, 67, 68, 69, 70, 71, 72, 73, 74, 75, 76, 77, 78, 79, 80, 81, 82] (by decide +kernel) (by decide +kernel)
set_option maxRecDepth 20000 in
theorem gX5_cheaper_X5_findBest : GoodIn wsX5_cheaper (wsV RX5 290 RX5 yX5_findBest wsX5_findBest) := goodIn_app (goodIn_of _ (by decide +kernel)) ggX5_cheaper_X5_findBest
set_option maxRecDepth 20000 in
theorem ggX5_cheaper_X5_behind : GoodIn wsX5_cheaper wsX5_behind := goodIn_r _ [55, 24, 2, 23, 25, 26, 27, 28, 6, 29, 30, 31, 32, 33, 34, 35, 17, 12, 13, 14, 15, 16, 9, 10, 11, 36, 37, 38, 39, 40, 41, 42, 43, 48, 49, 50, 51, 56, 57, 58, 59, 60, 61, 62, 63, 64, 65, 66, 67, 68, 69, 70, 71, 72, 73, 74, 75, 76, 77, 78, 79, 80, 81, 82] (by decide +kernel) (by decide +kernel)
set_option maxRecDepth 20000 in
theorem gX5_cheaper_X5_behind : GoodIn wsX5_cheaper (wsV RX5 294 RX5 yX5_behind wsX5_behind) := goodIn_app (goodIn_of _ (by decide +kernel)) ggX5_cheaper_X5_behind
theorem dX5_cheaper_0 : decode cX5_cheaper 0 = .ok (.aload_n 0, 1) := by decide +kernel
theorem dX5_cheaper_1 : decode cX5_cheaper 1 = .ok (.iconst 0, 1) := by decide +kernel
theorem dX5_cheaper_2 : decode cX5_cheaper 2 = .ok (.putfield 63, 3) := by decide +kernel
theorem dX5_cheaper_5 : decode cX5_cheaper 5 = .ok (.iload_n 1, 1) := by decide +kernel
theorem dX5_cheaper_6 : decode cX5_cheaper 6 = .ok (.invokestatic 194, 3) := by decide +kernel
theorem dX5_cheaper_9 : decode cX5_cheaper 9 = .ok (.ifCond .eq 11, 3) := by decide +kernel
theorem dX5_cheaper_12 : decode cX5_cheaper 12 = .ok (.aload_n 0, 1) := by decide +kernel
theorem dX5_cheaper_13 : decode cX5_cheaper 13 = .ok (.iload_n 2, 1) := by decide +kernel
theorem dX5_cheaper_14 : decode cX5_cheaper 14 = .ok (.invokevirtual 197, 3) := by decide +kernel
theorem dX5_cheaper_17 : decode cX5_cheaper 17 = .ok (.ifCond .ne 5, 3) := by decide +kernel
theorem dX5_cheaper_20 : decode cX5_cheaper 20 = .ok (.iconst (-1), 1) := by decide +kernel
theorem dX5_cheaper_21 : decode cX5_cheaper 21 = .ok (.ireturn, 1) := by decide +kernel
theorem dX5_cheaper_22 : decode cX5_cheaper 22 = .ok (.aload_n 0, 1) := by decide +kernel
theorem dX5_cheaper_23 : decode cX5_cheaper 23 = .ok (.iload_n 1, 1) := by decide +kernel
theorem dX5_cheaper_24 : decode cX5_cheaper 24 = .ok (.iconst (-1), 1) := by decide +kernel
