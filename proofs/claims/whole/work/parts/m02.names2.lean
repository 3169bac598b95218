theorem dX0_join_9 : decode cX0_join 9 = .ok (.istore 6, 2) := by decide +kernel
theorem dX0_join_11 : decode cX0_join 11 = .ok (.iload 6, 2) := by decide +kernel
theorem dX0_join_13 : decode cX0_join 13 = .ok (.sipush 300, 3) := by decide +kernel
theorem dX0_join_16 : decode cX0_join 16 = .ok (.if_icmp .ge 68, 3) := by decide +kernel
theorem dX0_join_19 : decode cX0_join 19 = .ok (.iload_n 3, 1) := by decide +kernel
theorem dX0_join_20 : decode cX0_join 20 = .ok (.iconst (-1), 1) := by decide +kernel
theorem dX0_join_21 : decode cX0_join 21 = .ok (.if_icmp .eq 63, 3) := by decide +kernel
theorem dX0_join_24 : decode cX0_join 24 = .ok (.iload 4, 2) := by decide +kernel
theorem dX0_join_26 : decode cX0_join 26 = .ok (.iconst (-1), 1) := by decide +kernel
theorem dX0_join_27 : decode cX0_join 27 = .ok (.if_icmp .eq 57, 3) := by decide +kernel
theorem dX0_join_30 : decode cX0_join 30 = .ok (.aload_n 0, 1) := by decide +kernel
theorem dX0_join_31 : decode cX0_join 31 = .ok (.iload 4, 2) := by decide +kernel
theorem dX0_join_33 : decode cX0_join 33 = .ok (.iload_n 3, 1) := by decide +kernel
theorem dX0_join_34 : decode cX0_join 34 = .ok (.invokevirtual 74, 3) := by decide +kernel
theorem dX0_join_37 : decode cX0_join 37 = .ok (.ifCond .eq 13, 3) := by decide +kernel
theorem dX0_join_40 : decode cX0_join 40 = .ok (.iload_n 3, 1) := by decide +kernel
theorem dX0_join_41 : decode cX0_join 41 = .ok (.istore 7, 2) := by decide +kernel
theorem dX0_join_43 : decode cX0_join 43 = .ok (.iload 4, 2) := by decide +kernel
theorem dX0_join_45 : decode cX0_join 45 = .ok (.istore_n 3, 1) := by decide +kernel
theorem dX0_join_46 : decode cX0_join 46 = .ok (.iload 7, 2) := by decide +kernel
theorem dX0_join_48 : decode cX0_join 48 = .ok (.istore 4, 2) := by decide +kernel
theorem dX0_join_50 : decode cX0_join 50 = .ok (.aload_n 0, 1) := by decide +kernel
theorem dX0_join_51 : decode cX0_join 51 = .ok (.getfield 40, 3) := by decide +kernel
theorem dX0_join_54 : decode cX0_join 54 = .ok (.iload_n 3, 1) := by decide +kernel
theorem dX0_join_55 : decode cX0_join 55 = .ok (.iload 5, 2) := by decide +kernel
theorem dX0_join_57 : decode cX0_join 57 = .ok (.iastore, 1) := by decide +kernel
theorem dX0_join_58 : decode cX0_join 58 = .ok (.iload_n 3, 1) := by decide +kernel
theorem dX0_join_59 : decode cX0_join 59 = .ok (.istore 5, 2) := by decide +kernel
theorem dX0_join_61 : decode cX0_join 61 = .ok (.aload_n 0, 1) := by decide +kernel
theorem dX0_join_62 : decode cX0_join 62 = .ok (.getfield 37, 3) := by decide +kernel
theorem dX0_join_65 : decode cX0_join 65 = .ok (.iload_n 3, 1) := by decide +kernel
theorem dX0_join_66 : decode cX0_join 66 = .ok (.iaload, 1) := by decide +kernel
theorem dX0_join_67 : decode cX0_join 67 = .ok (.istore_n 3, 1) := by decide +kernel
theorem dX0_join_68 : decode cX0_join 68 = .ok (.aload_n 0, 1) := by decide +kernel
theorem dX0_join_69 : decode cX0_join 69 = .ok (.dup, 1) := by decide +kernel
theorem dX0_join_70 : decode cX0_join 70 = .ok (.getfield 78, 3) := by decide +kernel
theorem dX0_join_73 : decode cX0_join 73 = .ok (.iconst 1, 1) := by decide +kernel
theorem dX0_join_74 : decode cX0_join 74 = .ok (.iadd, 1) := by decide +kernel
theorem dX0_join_75 : decode cX0_join 75 = .ok (.putfield 78, 3) := by decide +kernel
theorem dX0_join_78 : decode cX0_join 78 = .ok (.iinc 6 1, 3) := by decide +kernel
theorem dX0_join_81 : decode cX0_join 81 = .ok (.goto (-70), 3) := by decide +kernel
theorem dX0_join_84 : decode cX0_join 84 = .ok (.iload_n 3, 1) := by decide +kernel
theorem dX0_join_85 : decode cX0_join 85 = .ok (.iconst (-1), 1) := by decide +kernel
theorem dX0_join_86 : decode cX0_join 86 = .ok (.if_icmp .ne 8, 3) := by decide +kernel
theorem dX0_join_89 : decode cX0_join 89 = .ok (.iload 4, 2) := by decide +kernel
theorem dX0_join_91 : decode cX0_join 91 = .ok (.goto 4, 3) := by decide +kernel
theorem dX0_join_94 : decode cX0_join 94 = .ok (.iload_n 3, 1) := by decide +kernel
theorem dX0_join_95 : decode cX0_join 95 = .ok (.istore 6, 2) := by decide +kernel
theorem dX0_join_97 : decode cX0_join 97 = .ok (.iconst 0, 1) := by decide +kernel
theorem dX0_join_98 : decode cX0_join 98 = .ok (.istore 7, 2) := by decide +kernel
theorem dX0_join_100 : decode cX0_join 100 = .ok (.iload 7, 2) := by decide +kernel
theorem dX0_join_102 : decode cX0_join 102 = .ok (.sipush 300, 3) := by decide +kernel
theorem dX0_join_105 : decode cX0_join 105 = .ok (.if_icmp .ge 62, 3) := by decide +kernel
theorem dX0_join_108 : decode cX0_join 108 = .ok (.iload 5, 2) := by decide +kernel
theorem dX0_join_110 : decode cX0_join 110 = .ok (.iconst (-1), 1) := by decide +kernel
theorem dX0_join_111 : decode cX0_join 111 = .ok (.if_icmp .eq 56, 3) := by decide +kernel
theorem dX0_join_114 : decode cX0_join 114 = .ok (.aload_n 0, 1) := by decide +kernel
theorem dX0_join_115 : decode cX0_join 115 = .ok (.getfield 40, 3) := by decide +kernel
theorem dX0_join_118 : decode cX0_join 118 = .ok (.iload 5, 2) := by decide +kernel
theorem dX0_join_120 : decode cX0_join 120 = .ok (.iaload, 1) := by decide +kernel
theorem dX0_join_121 : decode cX0_join 121 = .ok (.istore 8, 2) := by decide +kernel
theorem dX0_join_123 : decode cX0_join 123 = .ok (.aload_n 0, 1) := by decide +kernel
theorem dX0_join_124 : decode cX0_join 124 = .ok (.getfield 37, 3) := by decide +kernel
theorem dX0_join_127 : decode cX0_join 127 = .ok (.iload 5, 2) := by decide +kernel
theorem dX0_join_129 : decode cX0_join 129 = .ok (.iload 6, 2) := by decide +kernel
theorem dX0_join_131 : decode cX0_join 131 = .ok (.iastore, 1) := by decide +kernel
theorem dX0_join_132 : decode cX0_join 132 = .ok (.iload 6, 2) := by decide +kernel
theorem dX0_join_134 : decode cX0_join 134 = .ok (.iconst (-1), 1) := by decide +kernel
theorem dX0_join_135 : decode cX0_join 135 = .ok (.if_icmp .eq 12, 3) := by decide +kernel
theorem dX0_join_138 : decode cX0_join 138 = .ok (.aload_n 0, 1) := by decide +kernel
theorem dX0_join_139 : decode cX0_join 139 = .ok (.getfield 40, 3) := by decide +kernel
theorem dX0_join_142 : decode cX0_join 142 = .ok (.iload 6, 2) := by decide +kernel
theorem dX0_join_144 : decode cX0_join 144 = .ok (.iload 5, 2) := by decide +kernel
theorem dX0_join_146 : decode cX0_join 146 = .ok (.iastore, 1) := by decide +kernel
theorem dX0_join_147 : decode cX0_join 147 = .ok (.aload_n 0, 1) := by decide +kernel
theorem dX0_join_148 : decode cX0_join 148 = .ok (.iload 5, 2) := by decide +kernel
theorem dX0_join_150 : decode cX0_join 150 = .ok (.invokevirtual 81, 3) := by decide +kernel
theorem dX0_join_153 : decode cX0_join 153 = .ok (.iload 5, 2) := by decide +kernel
theorem dX0_join_155 : decode cX0_join 155 = .ok (.istore 6, 2) := by decide +kernel
theorem dX0_join_157 : decode cX0_join 157 = .ok (.iload 8, 2) := by decide +kernel
theorem dX0_join_159 : decode cX0_join 159 = .ok (.istore 5, 2) := by decide +kernel
theorem dX0_join_161 : decode cX0_join 161 = .ok (.iinc 7 1, 3) := by decide +kernel
theorem dX0_join_164 : decode cX0_join 164 = .ok (.goto (-64), 3) := by decide +kernel
theorem dX0_join_167 : decode cX0_join 167 = .ok (.iload 6, 2) := by decide +kernel
theorem dX0_join_169 : decode cX0_join 169 = .ok (.iconst (-1), 1) := by decide +kernel
theorem dX0_join_170 : decode cX0_join 170 = .ok (.if_icmp .eq 11, 3) := by decide +kernel
theorem dX0_join_173 : decode cX0_join 173 = .ok (.aload_n 0, 1) := by decide +kernel
theorem dX0_join_174 : decode cX0_join 174 = .ok (.getfield 40, 3) := by decide +kernel
theorem dX0_join_177 : decode cX0_join 177 = .ok (.iload 6, 2) := by decide +kernel
theorem dX0_join_179 : decode cX0_join 179 = .ok (.iconst (-1), 1) := by decide +kernel
theorem dX0_join_180 : decode cX0_join 180 = .ok (.iastore, 1) := by decide +kernel
theorem dX0_join_181 : decode cX0_join 181 = .ok (.iload 6, 2) := by decide +kernel
theorem dX0_join_183 : decode cX0_join 183 = .ok (.ireturn, 1) := by decide +kernel
set_option maxRecDepth 20000 in
theorem ggX0_place_X0_join : GoodIn wsX0_place wsX0_join := goodIn_r _ [11, 3, 2, 12, 13, 14, 15, 10, 16, 17, 18, 19, 20, 21, 1, 4, 22, 23, 24, 25, 26, 27, 28, 29, 30, 31, 32, 33, 34, 35, 36, 37, 38] (by decide +kernel) (by decide +kernel)
set_option maxRecDepth 20000 in
theorem gX0_place_X0_join : GoodIn wsX0_place (wsV RX0 85 RX0 yX0_join wsX0_join) := goodIn_app (goodIn_of _ (by decide +kernel)) ggX0_place_X0_join
theorem dX0_place_0 : decode cX0_place 0 = .ok (.aload_n 0, 1) := by decide +kernel
theorem dX0_place_1 : decode cX0_place 1 = .ok (.getfield 34, 3) := by decide +kernel
theorem dX0_place_4 : decode cX0_place 4 = .ok (.iload_n 1, 1) := by decide +kernel
theorem dX0_place_5 : decode cX0_place 5 = .ok (.iconst (-1), 1) := by decide +kernel
theorem dX0_place_6 : decode cX0_place 6 = .ok (.iastore, 1) := by decide +kernel
theorem dX0_place_7 : decode cX0_place 7 = .ok (.aload_n 0, 1) := by decide +kernel
theorem dX0_place_8 : decode cX0_place 8 = .ok (.getfield 37, 3) := by decide +kernel
theorem dX0_place_11 : decode cX0_place 11 = .ok (.iload_n 1, 1) := by decide +kernel
theorem dX0_place_12 : decode cX0_place 12 = .ok (.iconst (-1), 1) := by decide +kernel
theorem dX0_place_13 : decode cX0_place 13 = .ok (.iastore, 1) := by decide +kernel
theorem dX0_place_14 : decode cX0_place 14 = .ok (.aload_n 0, 1) := by decide +kernel
theorem dX0_place_15 : decode cX0_place 15 = .ok (.getfield 40, 3) := by decide +kernel
theorem dX0_place_18 : decode cX0_place 18 = .ok (.iload_n 1, 1) := by decide +kernel
theorem dX0_place_19 : decode cX0_place 19 = .ok (.iconst (-1), 1) := by decide +kernel
theorem dX0_place_20 : decode cX0_place 20 = .ok (.iastore, 1) := by decide +kernel
theorem dX0_place_21 : decode cX0_place 21 = .ok (.aload_n 0, 1) := by decide +kernel
theorem dX0_place_22 : decode cX0_place 22 = .ok (.getfield 43, 3) := by decide +kernel
theorem dX0_place_25 : decode cX0_place 25 = .ok (.iload_n 1, 1) := by decide +kernel
theorem dX0_place_26 : decode cX0_place 26 = .ok (.iconst 1, 1) := by decide +kernel
theorem dX0_place_27 : decode cX0_place 27 = .ok (.iastore, 1) := by decide +kernel
theorem dX0_place_28 : decode cX0_place 28 = .ok (.aload_n 0, 1) := by decide +kernel
theorem dX0_place_29 : decode cX0_place 29 = .ok (.getfield 28, 3) := by decide +kernel
theorem dX0_place_32 : decode cX0_place 32 = .ok (.iload_n 1, 1) := by decide +kernel
theorem dX0_place_33 : decode cX0_place 33 = .ok (.iload_n 2, 1) := by decide +kernel
theorem dX0_place_34 : decode cX0_place 34 = .ok (.iastore, 1) := by decide +kernel
theorem dX0_place_35 : decode cX0_place 35 = .ok (.aload_n 0, 1) := by decide +kernel
theorem dX0_place_36 : decode cX0_place 36 = .ok (.getfield 9, 3) := by decide +kernel
theorem dX0_place_39 : decode cX0_place 39 = .ok (.iload_n 2, 1) := by decide +kernel
theorem dX0_place_40 : decode cX0_place 40 = .ok (.aload_n 0, 1) := by decide +kernel
theorem dX0_place_41 : decode cX0_place 41 = .ok (.aload_n 0, 1) := by decide +kernel
theorem dX0_place_42 : decode cX0_place 42 = .ok (.getfield 9, 3) := by decide +kernel
theorem dX0_place_45 : decode cX0_place 45 = .ok (.iload_n 2, 1) := by decide +kernel
theorem dX0_place_46 : decode cX0_place 46 = .ok (.iaload, 1) := by decide +kernel
theorem dX0_place_47 : decode cX0_place 47 = .ok (.iload_n 1, 1) := by decide +kernel
theorem dX0_place_48 : decode cX0_place 48 = .ok (.invokevirtual 85, 3) := by decide +kernel
theorem dX0_place_51 : decode cX0_place 51 = .ok (.iastore, 1) := by decide +kernel
theorem dX0_place_52 : decode cX0_place 52 = .ok (.return_, 1) := by decide +kernel
set_option maxRecDepth 20000 in
theorem ggX0_takeRoot_X0_join : GoodIn wsX0_takeRoot wsX0_join := goodIn_r _ [9, 10, 3, 11, 12, 13, 14, 8, 15, 16, 17, 18, 19, 20, 2, 21, 22, 23, 24, 25, 26, 27, 28, 29, 30, 31, 32, 33, 34, 35, 36, 37, 38] (by decide +kernel) (by decide +kernel)
set_option maxRecDepth 20000 in
theorem gX0_takeRoot_X0_join : GoodIn wsX0_takeRoot (wsV RX0 85 RX0 yX0_join wsX0_join) := goodIn_app (goodIn_of _ (by decide +kernel)) ggX0_takeRoot_X0_join
theorem dX0_takeRoot_0 : decode cX0_takeRoot 0 = .ok (.aload_n 0, 1) := by decide +kernel
theorem dX0_takeRoot_1 : decode cX0_takeRoot 1 = .ok (.getfield 9, 3) := by decide +kernel
theorem dX0_takeRoot_4 : decode cX0_takeRoot 4 = .ok (.iload_n 1, 1) := by decide +kernel
theorem dX0_takeRoot_5 : decode cX0_takeRoot 5 = .ok (.iaload, 1) := by decide +kernel
theorem dX0_takeRoot_6 : decode cX0_takeRoot 6 = .ok (.istore_n 2, 1) := by decide +kernel
theorem dX0_takeRoot_7 : decode cX0_takeRoot 7 = .ok (.iload_n 2, 1) := by decide +kernel
theorem dX0_takeRoot_8 : decode cX0_takeRoot 8 = .ok (.iconst (-1), 1) := by decide +kernel
theorem dX0_takeRoot_9 : decode cX0_takeRoot 9 = .ok (.if_icmp .eq 32, 3) := by decide +kernel
theorem dX0_takeRoot_12 : decode cX0_takeRoot 12 = .ok (.aload_n 0, 1) := by decide +kernel
theorem dX0_takeRoot_13 : decode cX0_takeRoot 13 = .ok (.getfield 9, 3) := by decide +kernel
theorem dX0_takeRoot_16 : decode cX0_takeRoot 16 = .ok (.iload_n 1, 1) := by decide +kernel
theorem dX0_takeRoot_17 : decode cX0_takeRoot 17 = .ok (.aload_n 0, 1) := by decide +kernel
theorem dX0_takeRoot_18 : decode cX0_takeRoot 18 = .ok (.aload_n 0, 1) := by decide +kernel
theorem dX0_takeRoot_19 : decode cX0_takeRoot 19 = .ok (.getfield 34, 3) := by decide +kernel
theorem dX0_takeRoot_22 : decode cX0_takeRoot 22 = .ok (.iload_n 2, 1) := by decide +kernel
theorem dX0_takeRoot_23 : decode cX0_takeRoot 23 = .ok (.iaload, 1) := by decide +kernel
theorem dX0_takeRoot_24 : decode cX0_takeRoot 24 = .ok (.aload_n 0, 1) := by decide +kernel
theorem dX0_takeRoot_25 : decode cX0_takeRoot 25 = .ok (.getfield 37, 3) := by decide +kernel
theorem dX0_takeRoot_28 : decode cX0_takeRoot 28 = .ok (.iload_n 2, 1) := by decide +kernel
theorem dX0_takeRoot_29 : decode cX0_takeRoot 29 = .ok (.iaload, 1) := by decide +kernel
theorem dX0_takeRoot_30 : decode cX0_takeRoot 30 = .ok (.invokevirtual 85, 3) := by decide +kernel
theorem dX0_takeRoot_33 : decode cX0_takeRoot 33 = .ok (.iastore, 1) := by decide +kernel
theorem dX0_takeRoot_34 : decode cX0_takeRoot 34 = .ok (.aload_n 0, 1) := by decide +kernel
theorem dX0_takeRoot_35 : decode cX0_takeRoot 35 = .ok (.getfield 28, 3) := by decide +kernel
theorem dX0_takeRoot_38 : decode cX0_takeRoot 38 = .ok (.iload_n 2, 1) := by decide +kernel
theorem dX0_takeRoot_39 : decode cX0_takeRoot 39 = .ok (.iconst (-1), 1) := by decide +kernel
theorem dX0_takeRoot_40 : decode cX0_takeRoot 40 = .ok (.iastore, 1) := by decide +kernel
theorem dX0_takeRoot_41 : decode cX0_takeRoot 41 = .ok (.iload_n 2, 1) := by decide +kernel
theorem dX0_takeRoot_42 : decode cX0_takeRoot 42 = .ok (.ireturn, 1) := by decide +kernel
set_option maxRecDepth 20000 in
theorem ggX0_sweep_X0_takeRoot : GoodIn wsX0_sweep wsX0_takeRoot := goodIn_r _ [8, 1, 9, 10, 11, 12, 13, 14, 7, 15, 16, 17, 18, 19, 20, 21, 22, 23, 24, 25, 26, 27, 28, 29, 30, 31, 32, 33, 34, 35, 36, 37, 38, 39, 40, 41, 42, 43, 44] (by decide +kernel) (by decide +kernel)
set_option maxRecDepth 20000 in
theorem gX0_sweep_X0_takeRoot : GoodIn wsX0_sweep (wsV RX0 89 RX0 yX0_takeRoot wsX0_takeRoot) := goodIn_app (goodIn_of _ (by decide +kernel)) ggX0_sweep_X0_takeRoot
theorem dX0_sweep_0 : decode cX0_sweep 0 = .ok (.iconst 0, 1) := by decide +kernel
theorem dX0_sweep_1 : decode cX0_sweep 1 = .ok (.istore_n 1, 1) := by decide +kernel
theorem dX0_sweep_2 : decode cX0_sweep 2 = .ok (.iload_n 1, 1) := by decide +kernel
theorem dX0_sweep_3 : decode cX0_sweep 3 = .ok (.bipush 6, 2) := by decide +kernel
theorem dX0_sweep_5 : decode cX0_sweep 5 = .ok (.if_icmp .ge 65, 3) := by decide +kernel
theorem dX0_sweep_8 : decode cX0_sweep 8 = .ok (.iconst 0, 1) := by decide +kernel
theorem dX0_sweep_9 : decode cX0_sweep 9 = .ok (.istore_n 2, 1) := by decide +kernel
theorem dX0_sweep_10 : decode cX0_sweep 10 = .ok (.iload_n 2, 1) := by decide +kernel
theorem dX0_sweep_11 : decode cX0_sweep 11 = .ok (.sipush 300, 3) := by decide +kernel
theorem dX0_sweep_14 : decode cX0_sweep 14 = .ok (.if_icmp .ge 50, 3) := by decide +kernel
theorem dX0_sweep_17 : decode cX0_sweep 17 = .ok (.aload_n 0, 1) := by decide +kernel
theorem dX0_sweep_18 : decode cX0_sweep 18 = .ok (.getfield 9, 3) := by decide +kernel
theorem dX0_sweep_21 : decode cX0_sweep 21 = .ok (.iload_n 1, 1) := by decide +kernel
theorem dX0_sweep_22 : decode cX0_sweep 22 = .ok (.iaload, 1) := by decide +kernel
theorem dX0_sweep_23 : decode cX0_sweep 23 = .ok (.iconst (-1), 1) := by decide +kernel
theorem dX0_sweep_24 : decode cX0_sweep 24 = .ok (.if_icmp .eq 40, 3) := by decide +kernel
theorem dX0_sweep_27 : decode cX0_sweep 27 = .ok (.aload_n 0, 1) := by decide +kernel
theorem dX0_sweep_28 : decode cX0_sweep 28 = .ok (.getfield 31, 3) := by decide +kernel
theorem dX0_sweep_31 : decode cX0_sweep 31 = .ok (.aload_n 0, 1) := by decide +kernel
theorem dX0_sweep_32 : decode cX0_sweep 32 = .ok (.getfield 9, 3) := by decide +kernel
theorem dX0_sweep_35 : decode cX0_sweep 35 = .ok (.iload_n 1, 1) := by decide +kernel
theorem dX0_sweep_36 : decode cX0_sweep 36 = .ok (.iaload, 1) := by decide +kernel
theorem dX0_sweep_37 : decode cX0_sweep 37 = .ok (.iaload, 1) := by decide +kernel
theorem dX0_sweep_38 : decode cX0_sweep 38 = .ok (.iconst 1, 1) := by decide +kernel
theorem dX0_sweep_39 : decode cX0_sweep 39 = .ok (.if_icmp .ne 25, 3) := by decide +kernel
theorem dX0_sweep_42 : decode cX0_sweep 42 = .ok (.aload_n 0, 1) := by decide +kernel
theorem dX0_sweep_43 : decode cX0_sweep 43 = .ok (.iload_n 1, 1) := by decide +kernel
theorem dX0_sweep_44 : decode cX0_sweep 44 = .ok (.invokevirtual 89, 3) := by decide +kernel
theorem dX0_sweep_47 : decode cX0_sweep 47 = .ok (.pop, 1) := by decide +kernel
theorem dX0_sweep_48 : decode cX0_sweep 48 = .ok (.aload_n 0, 1) := by decide +kernel
theorem dX0_sweep_49 : decode cX0_sweep 49 = .ok (.dup, 1) := by decide +kernel
theorem dX0_sweep_50 : decode cX0_sweep 50 = .ok (.getfield 62, 3) := by decide +kernel
theorem dX0_sweep_53 : decode cX0_sweep 53 = .ok (.iconst 1, 1) := by decide +kernel
theorem dX0_sweep_54 : decode cX0_sweep 54 = .ok (.iadd, 1) := by decide +kernel
theorem dX0_sweep_55 : decode cX0_sweep 55 = .ok (.putfield 62, 3) := by decide +kernel
theorem dX0_sweep_58 : decode cX0_sweep 58 = .ok (.iinc 2 1, 3) := by decide +kernel
theorem dX0_sweep_61 : decode cX0_sweep 61 = .ok (.goto (-51), 3) := by decide +kernel
theorem dX0_sweep_64 : decode cX0_sweep 64 = .ok (.iinc 1 1, 3) := by decide +kernel
theorem dX0_sweep_67 : decode cX0_sweep 67 = .ok (.goto (-65), 3) := by decide +kernel
theorem dX0_sweep_70 : decode cX0_sweep 70 = .ok (.return_, 1) := by decide +kernel
set_option maxRecDepth 20000 in
theorem ggX0_dispatch_X0_takeRoot : GoodIn wsX0_dispatch wsX0_takeRoot := goodIn_r _ [10, 11, 12, 13, 14, 15, 16, 17, 9, 18, 19, 20, 21, 22, 23, 24, 4, 25, 26, 27, 28, 29, 36, 37, 38, 39, 40, 41, 42, 43, 44, 45, 46, 47, 48, 49, 50, 51, 52] (by decide +kernel) (by decide +kernel)
set_option maxRecDepth 20000 in
theorem gX0_dispatch_X0_takeRoot : GoodIn wsX0_dispatch (wsV RX0 89 RX0 yX0_takeRoot wsX0_takeRoot) := goodIn_app (goodIn_of _ (by decide +kernel)) ggX0_dispatch_X0_takeRoot
set_option maxRecDepth 20000 in
theorem ggX0_dispatch_X0_sweep : GoodIn wsX0_dispatch wsX0_sweep := goodIn_r _ [33, 11, 34, 35, 6, 7, 8, 9, 10, 12, 13, 14, 15, 16, 17, 18, 19, 20, 21, 22, 23, 24, 4, 25, 26, 27, 28, 29, 36, 37, 38, 39, 40, 41, 42, 43, 44, 45, 46, 47, 48, 49, 50, 51, 52] (by decide +kernel) (by decide +kernel)
set_option maxRecDepth 20000 in
theorem gX0_dispatch_X0_sweep : GoodIn wsX0_dispatch (wsV RX0 93 RX0 yX0_sweep wsX0_sweep) := goodIn_app (goodIn_of _ (by decide +kernel)) ggX0_dispatch_X0_sweep
theorem dX0_dispatch_0 : decode cX0_dispatch 0 = .ok (.aload_n 0, 1) := by decide +kernel
theorem dX0_dispatch_1 : decode cX0_dispatch 1 = .ok (.iload_n 1, 1) := by decide +kernel
theorem dX0_dispatch_2 : decode cX0_dispatch 2 = .ok (.invokevirtual 89, 3) := by decide +kernel
theorem dX0_dispatch_5 : decode cX0_dispatch 5 = .ok (.istore_n 2, 1) := by decide +kernel
theorem dX0_dispatch_6 : decode cX0_dispatch 6 = .ok (.iload_n 2, 1) := by decide +kernel
theorem dX0_dispatch_7 : decode cX0_dispatch 7 = .ok (.iconst (-1), 1) := by decide +kernel
theorem dX0_dispatch_8 : decode cX0_dispatch 8 = .ok (.if_icmp .eq 51, 3) := by decide +kernel
theorem dX0_dispatch_11 : decode cX0_dispatch 11 = .ok (.aload_n 0, 1) := by decide +kernel
theorem dX0_dispatch_12 : decode cX0_dispatch 12 = .ok (.getfield 65, 3) := by decide +kernel
theorem dX0_dispatch_15 : decode cX0_dispatch 15 = .ok (.bipush 40, 2) := by decide +kernel
theorem dX0_dispatch_17 : decode cX0_dispatch 17 = .ok (.irem, 1) := by decide +kernel
theorem dX0_dispatch_18 : decode cX0_dispatch 18 = .ok (.istore_n 3, 1) := by decide +kernel
theorem dX0_dispatch_19 : decode cX0_dispatch 19 = .ok (.aload_n 0, 1) := by decide +kernel
theorem dX0_dispatch_20 : decode cX0_dispatch 20 = .ok (.getfield 46, 3) := by decide +kernel
theorem dX0_dispatch_23 : decode cX0_dispatch 23 = .ok (.iload_n 3, 1) := by decide +kernel
theorem dX0_dispatch_24 : decode cX0_dispatch 24 = .ok (.iload_n 2, 1) := by decide +kernel
theorem dX0_dispatch_25 : decode cX0_dispatch 25 = .ok (.iastore, 1) := by decide +kernel
theorem dX0_dispatch_26 : decode cX0_dispatch 26 = .ok (.aload_n 0, 1) := by decide +kernel
theorem dX0_dispatch_27 : decode cX0_dispatch 27 = .ok (.getfield 49, 3) := by decide +kernel
theorem dX0_dispatch_30 : decode cX0_dispatch 30 = .ok (.iload_n 3, 1) := by decide +kernel
theorem dX0_dispatch_31 : decode cX0_dispatch 31 = .ok (.aload_n 0, 1) := by decide +kernel
theorem dX0_dispatch_32 : decode cX0_dispatch 32 = .ok (.getfield 21, 3) := by decide +kernel
theorem dX0_dispatch_35 : decode cX0_dispatch 35 = .ok (.iload_n 2, 1) := by decide +kernel
theorem dX0_dispatch_36 : decode cX0_dispatch 36 = .ok (.laload, 1) := by decide +kernel
theorem dX0_dispatch_37 : decode cX0_dispatch 37 = .ok (.lastore, 1) := by decide +kernel
theorem dX0_dispatch_38 : decode cX0_dispatch 38 = .ok (.aload_n 0, 1) := by decide +kernel
theorem dX0_dispatch_39 : decode cX0_dispatch 39 = .ok (.getfield 52, 3) := by decide +kernel
theorem dX0_dispatch_42 : decode cX0_dispatch 42 = .ok (.iload_n 3, 1) := by decide +kernel
theorem dX0_dispatch_43 : decode cX0_dispatch 43 = .ok (.iload_n 1, 1) := by decide +kernel
theorem dX0_dispatch_44 : decode cX0_dispatch 44 = .ok (.iastore, 1) := by decide +kernel
theorem dX0_dispatch_45 : decode cX0_dispatch 45 = .ok (.aload_n 0, 1) := by decide +kernel
theorem dX0_dispatch_46 : decode cX0_dispatch 46 = .ok (.dup, 1) := by decide +kernel
theorem dX0_dispatch_47 : decode cX0_dispatch 47 = .ok (.getfield 65, 3) := by decide +kernel
theorem dX0_dispatch_50 : decode cX0_dispatch 50 = .ok (.iconst 1, 1) := by decide +kernel
theorem dX0_dispatch_51 : decode cX0_dispatch 51 = .ok (.iadd, 1) := by decide +kernel
theorem dX0_dispatch_52 : decode cX0_dispatch 52 = .ok (.putfield 65, 3) := by decide +kernel
theorem dX0_dispatch_55 : decode cX0_dispatch 55 = .ok (.aload_n 0, 1) := by decide +kernel
theorem dX0_dispatch_56 : decode cX0_dispatch 56 = .ok (.invokevirtual 93, 3) := by decide +kernel
theorem dX0_dispatch_59 : decode cX0_dispatch 59 = .ok (.iload_n 2, 1) := by decide +kernel
theorem dX0_dispatch_60 : decode cX0_dispatch 60 = .ok (.ireturn, 1) := by decide +kernel
set_option maxRecDepth 20000 in
theorem ggX0_callNext_X0_dispatch : GoodIn wsX0_callNext wsX0_dispatch := goodIn_r _ [6, 7, 8, 9, 10, 11, 12, 13, 14, 5, 15, 16, 17, 18, 19, 20, 21, 22, 23, 24, 25, 26, 27, 28, 29, 30, 31, 32, 33, 34, 35, 36, 37, 38, 39, 40, 41, 42, 43, 44, 45, 46, 47, 48, 49, 50, 51, 52, 53, 54, 55, 56, 57] (by decide +kernel) (by decide +kernel)
set_option maxRecDepth 20000 in
theorem gX0_callNext_X0_dispatch : GoodIn wsX0_callNext (wsV RX0 96 RX0 yX0_dispatch wsX0_dispatch) := goodIn_app (goodIn_of _ (by decide +kernel)) ggX0_callNext_X0_dispatch
theorem dX0_callNext_0 : decode cX0_callNext 0 = .ok (.aload_n 0, 1) := by decide +kernel
theorem dX0_callNext_1 : decode cX0_callNext 1 = .ok (.getfield 59, 3) := by decide +kernel
theorem dX0_callNext_4 : decode cX0_callNext 4 = .ok (.istore_n 1, 1) := by decide +kernel
theorem dX0_callNext_5 : decode cX0_callNext 5 = .ok (.aload_n 0, 1) := by decide +kernel
theorem dX0_callNext_6 : decode cX0_callNext 6 = .ok (.iload_n 1, 1) := by decide +kernel
theorem dX0_callNext_7 : decode cX0_callNext 7 = .ok (.iconst 1, 1) := by decide +kernel
theorem dX0_callNext_8 : decode cX0_callNext 8 = .ok (.iadd, 1) := by decide +kernel
theorem dX0_callNext_9 : decode cX0_callNext 9 = .ok (.bipush 6, 2) := by decide +kernel
theorem dX0_callNext_11 : decode cX0_callNext 11 = .ok (.if_icmp .ge 9, 3) := by decide +kernel
theorem dX0_callNext_14 : decode cX0_callNext 14 = .ok (.iload_n 1, 1) := by decide +kernel
theorem dX0_callNext_15 : decode cX0_callNext 15 = .ok (.iconst 1, 1) := by decide +kernel
theorem dX0_callNext_16 : decode cX0_callNext 16 = .ok (.iadd, 1) := by decide +kernel
theorem dX0_callNext_17 : decode cX0_callNext 17 = .ok (.goto 4, 3) := by decide +kernel
theorem dX0_callNext_20 : decode cX0_callNext 20 = .ok (.iconst 0, 1) := by decide +kernel
theorem dX0_callNext_21 : decode cX0_callNext 21 = .ok (.putfield 59, 3) := by decide +kernel
theorem dX0_callNext_24 : decode cX0_callNext 24 = .ok (.aload_n 0, 1) := by decide +kernel
theorem dX0_callNext_25 : decode cX0_callNext 25 = .ok (.iload_n 1, 1) := by decide +kernel
theorem dX0_callNext_26 : decode cX0_callNext 26 = .ok (.invokevirtual 96, 3) := by decide +kernel
theorem dX0_callNext_29 : decode cX0_callNext 29 = .ok (.ireturn, 1) := by decide +kernel
set_option maxRecDepth 20000 in
theorem ggX0_moveLeast_X0_takeRoot : GoodIn wsX0_moveLeast wsX0_takeRoot := goodIn_r _ [5, 6, 7, 8, 9, 10, 11, 12, 4, 13, 14, 15, 16, 17, 18, 19, 20, 21, 22, 23, 24, 25, 36, 37, 38, 39, 40, 41, 42, 43, 44, 45, 46, 47, 48, 49, 50, 51, 52] (by decide +kernel) (by decide +kernel)
set_option maxRecDepth 20000 in
theorem gX0_moveLeast_X0_takeRoot : GoodIn wsX0_moveLeast (wsV RX0 89 RX0 yX0_takeRoot wsX0_takeRoot) := goodIn_app (goodIn_of _ (by decide +kernel)) ggX0_moveLeast_X0_takeRoot
set_option maxRecDepth 20000 in
theorem ggX0_moveLeast_X0_sweep : GoodIn wsX0_moveLeast wsX0_sweep := goodIn_r _ [29, 6, 30, 31, 1, 2, 3, 4, 5, 7, 8, 9, 10, 11, 12, 13, 14, 15, 16, 17, 18, 19, 20, 21, 22, 23, 24, 25, 36, 37, 38, 39, 40, 41, 42, 43, 44, 45, 46, 47, 48, 49, 50, 51, 52] (by decide +kernel) (by decide +kernel)
set_option maxRecDepth 20000 in
theorem gX0_moveLeast_X0_sweep : GoodIn wsX0_moveLeast (wsV RX0 93 RX0 yX0_sweep wsX0_sweep) := goodIn_app (goodIn_of _ (by decide +kernel)) ggX0_moveLeast_X0_sweep
set_option maxRecDepth 20000 in
theorem ggX0_moveLeast_X0_place : GoodIn wsX0_moveLeast wsX0_place := goodIn_r _ [35, 7, 8, 14, 25, 9, 6, 10, 11, 12, 4, 13, 15, 16, 17, 18, 19, 20, 21, 22, 23, 24, 36, 37, 38, 39, 40, 41, 42, 43, 44, 45, 46, 47, 48, 49, 50, 51, 52] (by decide +kernel) (by decide +kernel)
set_option maxRecDepth 20000 in
theorem gX0_moveLeast_X0_place : GoodIn wsX0_moveLeast (wsV RX0 99 RX0 yX0_place wsX0_place) := goodIn_app (goodIn_of _ (by decide +kernel)) ggX0_moveLeast_X0_place
theorem dX0_moveLeast_0 : decode cX0_moveLeast 0 = .ok (.aload_n 0, 1) := by decide +kernel
theorem dX0_moveLeast_1 : decode cX0_moveLeast 1 = .ok (.iload_n 1, 1) := by decide +kernel
theorem dX0_moveLeast_2 : decode cX0_moveLeast 2 = .ok (.invokevirtual 89, 3) := by decide +kernel
theorem dX0_moveLeast_5 : decode cX0_moveLeast 5 = .ok (.istore_n 3, 1) := by decide +kernel
theorem dX0_moveLeast_6 : decode cX0_moveLeast 6 = .ok (.aload_n 0, 1) := by decide +kernel
theorem dX0_moveLeast_7 : decode cX0_moveLeast 7 = .ok (.invokevirtual 93, 3) := by decide +kernel
theorem dX0_moveLeast_10 : decode cX0_moveLeast 10 = .ok (.iload_n 3, 1) := by decide +kernel
theorem dX0_moveLeast_11 : decode cX0_moveLeast 11 = .ok (.iconst (-1), 1) := by decide +kernel
theorem dX0_moveLeast_12 : decode cX0_moveLeast 12 = .ok (.if_icmp .eq 9, 3) := by decide +kernel
theorem dX0_moveLeast_15 : decode cX0_moveLeast 15 = .ok (.aload_n 0, 1) := by decide +kernel
theorem dX0_moveLeast_16 : decode cX0_moveLeast 16 = .ok (.iload_n 3, 1) := by decide +kernel
theorem dX0_moveLeast_17 : decode cX0_moveLeast 17 = .ok (.iload_n 2, 1) := by decide +kernel
theorem dX0_moveLeast_18 : decode cX0_moveLeast 18 = .ok (.invokevirtual 99, 3) := by decide +kernel
theorem dX0_moveLeast_21 : decode cX0_moveLeast 21 = .ok (.aload_n 0, 1) := by decide +kernel
theorem dX0_moveLeast_22 : decode cX0_moveLeast 22 = .ok (.invokevirtual 93, 3) := by decide +kernel
theorem dX0_moveLeast_25 : decode cX0_moveLeast 25 = .ok (.iload_n 3, 1) := by decide +kernel
theorem dX0_moveLeast_26 : decode cX0_moveLeast 26 = .ok (.ireturn, 1) := by decide +kernel
set_option maxRecDepth 20000 in
theorem ggX0_cutOut_X0_join : GoodIn wsX0_cutOut wsX0_join := goodIn_r _ [10, 1, 3, 11, 12, 13, 14, 9, 15, 16, 17, 18, 19, 20, 2, 21, 22, 23, 24, 25, 26, 27, 28, 29, 30, 31, 32, 33, 34, 35, 36, 37, 38] (by decide +kernel) (by decide +kernel)
set_option maxRecDepth 20000 in
theorem gX0_cutOut_X0_join : GoodIn wsX0_cutOut (wsV RX0 85 RX0 yX0_join wsX0_join) := goodIn_app (goodIn_of _ (by decide +kernel)) ggX0_cutOut_X0_join
set_option maxRecDepth 20000 in
theorem ggX0_cutOut_X0_settle : GoodIn wsX0_cutOut wsX0_settle := goodIn_r _ [20, 2, 21, 3, 22, 23, 24, 25, 26, 27, 28, 29, 30, 31, 32, 33, 34, 35, 36, 37, 38] (by decide +kernel) (by decide +kernel)
set_option maxRecDepth 20000 in
theorem gX0_cutOut_X0_settle : GoodIn wsX0_cutOut (wsV RX0 81 RX0 yX0_settle wsX0_settle) := goodIn_app (goodIn_of _ (by decide +kernel)) ggX0_cutOut_X0_settle
theorem dX0_cutOut_0 : decode cX0_cutOut 0 = .ok (.aload_n 0, 1) := by decide +kernel
theorem dX0_cutOut_1 : decode cX0_cutOut 1 = .ok (.getfield 40, 3) := by decide +kernel
theorem dX0_cutOut_4 : decode cX0_cutOut 4 = .ok (.iload_n 1, 1) := by decide +kernel
theorem dX0_cutOut_5 : decode cX0_cutOut 5 = .ok (.iaload, 1) := by decide +kernel
theorem dX0_cutOut_6 : decode cX0_cutOut 6 = .ok (.istore_n 2, 1) := by decide +kernel
theorem dX0_cutOut_7 : decode cX0_cutOut 7 = .ok (.aload_n 0, 1) := by decide +kernel
theorem dX0_cutOut_8 : decode cX0_cutOut 8 = .ok (.aload_n 0, 1) := by decide +kernel
theorem dX0_cutOut_9 : decode cX0_cutOut 9 = .ok (.getfield 34, 3) := by decide +kernel
theorem dX0_cutOut_12 : decode cX0_cutOut 12 = .ok (.iload_n 1, 1) := by decide +kernel
theorem dX0_cutOut_13 : decode cX0_cutOut 13 = .ok (.iaload, 1) := by decide +kernel
theorem dX0_cutOut_14 : decode cX0_cutOut 14 = .ok (.aload_n 0, 1) := by decide +kernel
theorem dX0_cutOut_15 : decode cX0_cutOut 15 = .ok (.getfield 37, 3) := by decide +kernel
theorem dX0_cutOut_18 : decode cX0_cutOut 18 = .ok (.iload_n 1, 1) := by decide +kernel
theorem dX0_cutOut_19 : decode cX0_cutOut 19 = .ok (.iaload, 1) := by decide +kernel
theorem dX0_cutOut_20 : decode cX0_cutOut 20 = .ok (.invokevirtual 85, 3) := by decide +kernel
theorem dX0_cutOut_23 : decode cX0_cutOut 23 = .ok (.istore_n 3, 1) := by decide +kernel
theorem dX0_cutOut_24 : decode cX0_cutOut 24 = .ok (.iload_n 2, 1) := by decide +kernel
theorem dX0_cutOut_25 : decode cX0_cutOut 25 = .ok (.iconst (-1), 1) := by decide +kernel
theorem dX0_cutOut_26 : decode cX0_cutOut 26 = .ok (.if_icmp .ne 18, 3) := by decide +kernel
theorem dX0_cutOut_29 : decode cX0_cutOut 29 = .ok (.aload_n 0, 1) := by decide +kernel
theorem dX0_cutOut_30 : decode cX0_cutOut 30 = .ok (.getfield 9, 3) := by decide +kernel
theorem dX0_cutOut_33 : decode cX0_cutOut 33 = .ok (.aload_n 0, 1) := by decide +kernel
theorem dX0_cutOut_34 : decode cX0_cutOut 34 = .ok (.getfield 28, 3) := by decide +kernel
theorem dX0_cutOut_37 : decode cX0_cutOut 37 = .ok (.iload_n 1, 1) := by decide +kernel
theorem dX0_cutOut_38 : decode cX0_cutOut 38 = .ok (.iaload, 1) := by decide +kernel
theorem dX0_cutOut_39 : decode cX0_cutOut 39 = .ok (.iload_n 3, 1) := by decide +kernel
theorem dX0_cutOut_40 : decode cX0_cutOut 40 = .ok (.iastore, 1) := by decide +kernel
theorem dX0_cutOut_41 : decode cX0_cutOut 41 = .ok (.goto 30, 3) := by decide +kernel
theorem dX0_cutOut_44 : decode cX0_cutOut 44 = .ok (.aload_n 0, 1) := by decide +kernel
theorem dX0_cutOut_45 : decode cX0_cutOut 45 = .ok (.getfield 34, 3) := by decide +kernel
theorem dX0_cutOut_48 : decode cX0_cutOut 48 = .ok (.iload_n 2, 1) := by decide +kernel
theorem dX0_cutOut_49 : decode cX0_cutOut 49 = .ok (.iaload, 1) := by decide +kernel
theorem dX0_cutOut_50 : decode cX0_cutOut 50 = .ok (.iload_n 1, 1) := by decide +kernel
theorem dX0_cutOut_51 : decode cX0_cutOut 51 = .ok (.if_icmp .ne 13, 3) := by decide +kernel
theorem dX0_cutOut_54 : decode cX0_cutOut 54 = .ok (.aload_n 0, 1) := by decide +kernel
theorem dX0_cutOut_55 : decode cX0_cutOut 55 = .ok (.getfield 34, 3) := by decide +kernel
theorem dX0_cutOut_58 : decode cX0_cutOut 58 = .ok (.iload_n 2, 1) := by decide +kernel
theorem dX0_cutOut_59 : decode cX0_cutOut 59 = .ok (.iload_n 3, 1) := by decide +kernel
theorem dX0_cutOut_60 : decode cX0_cutOut 60 = .ok (.iastore, 1) := by decide +kernel
theorem dX0_cutOut_61 : decode cX0_cutOut 61 = .ok (.goto 10, 3) := by decide +kernel
theorem dX0_cutOut_64 : decode cX0_cutOut 64 = .ok (.aload_n 0, 1) := by decide +kernel
theorem dX0_cutOut_65 : decode cX0_cutOut 65 = .ok (.getfield 37, 3) := by decide +kernel
theorem dX0_cutOut_68 : decode cX0_cutOut 68 = .ok (.iload_n 2, 1) := by decide +kernel
theorem dX0_cutOut_69 : decode cX0_cutOut 69 = .ok (.iload_n 3, 1) := by decide +kernel
theorem dX0_cutOut_70 : decode cX0_cutOut 70 = .ok (.iastore, 1) := by decide +kernel
theorem dX0_cutOut_71 : decode cX0_cutOut 71 = .ok (.iload_n 3, 1) := by decide +kernel
theorem dX0_cutOut_72 : decode cX0_cutOut 72 = .ok (.iconst (-1), 1) := by decide +kernel
theorem dX0_cutOut_73 : decode cX0_cutOut 73 = .ok (.if_icmp .eq 10, 3) := by decide +kernel
theorem dX0_cutOut_76 : decode cX0_cutOut 76 = .ok (.aload_n 0, 1) := by decide +kernel
theorem dX0_cutOut_77 : decode cX0_cutOut 77 = .ok (.getfield 40, 3) := by decide +kernel
theorem dX0_cutOut_80 : decode cX0_cutOut 80 = .ok (.iload_n 3, 1) := by decide +kernel
theorem dX0_cutOut_81 : decode cX0_cutOut 81 = .ok (.iload_n 2, 1) := by decide +kernel
theorem dX0_cutOut_82 : decode cX0_cutOut 82 = .ok (.iastore, 1) := by decide +kernel
theorem dX0_cutOut_83 : decode cX0_cutOut 83 = .ok (.aload_n 0, 1) := by decide +kernel
theorem dX0_cutOut_84 : decode cX0_cutOut 84 = .ok (.getfield 28, 3) := by decide +kernel
theorem dX0_cutOut_87 : decode cX0_cutOut 87 = .ok (.iload_n 1, 1) := by decide +kernel
theorem dX0_cutOut_88 : decode cX0_cutOut 88 = .ok (.iconst (-1), 1) := by decide +kernel
theorem dX0_cutOut_89 : decode cX0_cutOut 89 = .ok (.iastore, 1) := by decide +kernel
theorem dX0_cutOut_90 : decode cX0_cutOut 90 = .ok (.iconst 0, 1) := by decide +kernel
theorem dX0_cutOut_91 : decode cX0_cutOut 91 = .ok (.istore 4, 2) := by decide +kernel
theorem dX0_cutOut_93 : decode cX0_cutOut 93 = .ok (.iload 4, 2) := by decide +kernel
theorem dX0_cutOut_95 : decode cX0_cutOut 95 = .ok (.sipush 300, 3) := by decide +kernel
theorem dX0_cutOut_98 : decode cX0_cutOut 98 = .ok (.if_icmp .ge 26, 3) := by decide +kernel
theorem dX0_cutOut_101 : decode cX0_cutOut 101 = .ok (.iload_n 2, 1) := by decide +kernel
theorem dX0_cutOut_102 : decode cX0_cutOut 102 = .ok (.iconst (-1), 1) := by decide +kernel
theorem dX0_cutOut_103 : decode cX0_cutOut 103 = .ok (.if_icmp .eq 21, 3) := by decide +kernel
theorem dX0_cutOut_106 : decode cX0_cutOut 106 = .ok (.aload_n 0, 1) := by decide +kernel
theorem dX0_cutOut_107 : decode cX0_cutOut 107 = .ok (.iload_n 2, 1) := by decide +kernel
theorem dX0_cutOut_108 : decode cX0_cutOut 108 = .ok (.invokevirtual 81, 3) := by decide +kernel
theorem dX0_cutOut_111 : decode cX0_cutOut 111 = .ok (.aload_n 0, 1) := by decide +kernel
theorem dX0_cutOut_112 : decode cX0_cutOut 112 = .ok (.getfield 40, 3) := by decide +kernel
theorem dX0_cutOut_115 : decode cX0_cutOut 115 = .ok (.iload_n 2, 1) := by decide +kernel
theorem dX0_cutOut_116 : decode cX0_cutOut 116 = .ok (.iaload, 1) := by decide +kernel
theorem dX0_cutOut_117 : decode cX0_cutOut 117 = .ok (.istore_n 2, 1) := by decide +kernel
theorem dX0_cutOut_118 : decode cX0_cutOut 118 = .ok (.iinc 4 1, 3) := by decide +kernel
theorem dX0_cutOut_121 : decode cX0_cutOut 121 = .ok (.goto (-28), 3) := by decide +kernel
theorem dX0_cutOut_124 : decode cX0_cutOut 124 = .ok (.return_, 1) := by decide +kernel
theorem dX0_raiseAll_0 : decode cX0_raiseAll 0 = .ok (.iconst 0, 1) := by decide +kernel
theorem dX0_raiseAll_1 : decode cX0_raiseAll 1 = .ok (.istore_n 3, 1) := by decide +kernel
theorem dX0_raiseAll_2 : decode cX0_raiseAll 2 = .ok (.iload_n 3, 1) := by decide +kernel
theorem dX0_raiseAll_3 : decode cX0_raiseAll 3 = .ok (.aload_n 0, 1) := by decide +kernel
theorem dX0_raiseAll_4 : decode cX0_raiseAll 4 = .ok (.getfield 55, 3) := by decide +kernel
theorem dX0_raiseAll_7 : decode cX0_raiseAll 7 = .ok (.if_icmp .ge 30, 3) := by decide +kernel
theorem dX0_raiseAll_10 : decode cX0_raiseAll 10 = .ok (.aload_n 0, 1) := by decide +kernel
theorem dX0_raiseAll_11 : decode cX0_raiseAll 11 = .ok (.getfield 28, 3) := by decide +kernel
theorem dX0_raiseAll_14 : decode cX0_raiseAll 14 = .ok (.iload_n 3, 1) := by decide +kernel
theorem dX0_raiseAll_15 : decode cX0_raiseAll 15 = .ok (.iaload, 1) := by decide +kernel
theorem dX0_raiseAll_16 : decode cX0_raiseAll 16 = .ok (.iload_n 1, 1) := by decide +kernel
theorem dX0_raiseAll_17 : decode cX0_raiseAll 17 = .ok (.if_icmp .ne 14, 3) := by decide +kernel
theorem dX0_raiseAll_20 : decode cX0_raiseAll 20 = .ok (.aload_n 0, 1) := by decide +kernel
theorem dX0_raiseAll_21 : decode cX0_raiseAll 21 = .ok (.getfield 21, 3) := by decide +kernel
theorem dX0_raiseAll_24 : decode cX0_raiseAll 24 = .ok (.iload_n 3, 1) := by decide +kernel
theorem dX0_raiseAll_25 : decode cX0_raiseAll 25 = .ok (.dup2, 1) := by decide +kernel
theorem dX0_raiseAll_26 : decode cX0_raiseAll 26 = .ok (.laload, 1) := by decide +kernel
theorem dX0_raiseAll_27 : decode cX0_raiseAll 27 = .ok (.iload_n 2, 1) := by decide +kernel
theorem dX0_raiseAll_28 : decode cX0_raiseAll 28 = .ok (.i2l, 1) := by decide +kernel
theorem dX0_raiseAll_29 : decode cX0_raiseAll 29 = .ok (.ladd, 1) := by decide +kernel
theorem dX0_raiseAll_30 : decode cX0_raiseAll 30 = .ok (.lastore, 1) := by decide +kernel
theorem dX0_raiseAll_31 : decode cX0_raiseAll 31 = .ok (.iinc 3 1, 3) := by decide +kernel
theorem dX0_raiseAll_34 : decode cX0_raiseAll 34 = .ok (.goto (-32), 3) := by decide +kernel
theorem dX0_raiseAll_37 : decode cX0_raiseAll 37 = .ok (.return_, 1) := by decide +kernel
set_option maxRecDepth 20000 in
theorem ggX0_meldInto_X0_join : GoodIn wsX0_meldInto wsX0_join := goodIn_r _ [6, 7, 8, 9, 10, 11, 12, 5, 13, 14, 15, 16, 17, 18, 19, 20, 27, 28, 29, 30, 31, 32, 33, 34, 35, 36, 37, 38, 39, 40, 41, 42, 43] (by decide +kernel) (by decide +kernel)
set_option maxRecDepth 20000 in
theorem gX0_meldInto_X0_join : GoodIn wsX0_meldInto (wsV RX0 85 RX0 yX0_join wsX0_join) := goodIn_app (goodIn_of _ (by decide +kernel)) ggX0_meldInto_X0_join
set_option maxRecDepth 20000 in
theorem ggX0_meldInto_X0_relabel : GoodIn wsX0_meldInto wsX0_relabel := goodIn_r _ [24, 25, 26, 27, 28, 29, 30, 31, 32, 33, 34, 35, 36, 37, 38, 39, 40, 41, 42, 43] (by decide +kernel) (by decide +kernel)
set_option maxRecDepth 20000 in
theorem gX0_meldInto_X0_relabel : GoodIn wsX0_meldInto (wsV RX0 103 RX0 yX0_relabel wsX0_relabel) := goodIn_app (goodIn_of _ (by decide +kernel)) ggX0_meldInto_X0_relabel
theorem dX0_meldInto_0 : decode cX0_meldInto 0 = .ok (.aload_n 0, 1) := by decide +kernel
theorem dX0_meldInto_1 : decode cX0_meldInto 1 = .ok (.getfield 9, 3) := by decide +kernel
theorem dX0_meldInto_4 : decode cX0_meldInto 4 = .ok (.iload_n 1, 1) := by decide +kernel
theorem dX0_meldInto_5 : decode cX0_meldInto 5 = .ok (.aload_n 0, 1) := by decide +kernel
theorem dX0_meldInto_6 : decode cX0_meldInto 6 = .ok (.aload_n 0, 1) := by decide +kernel
theorem dX0_meldInto_7 : decode cX0_meldInto 7 = .ok (.getfield 9, 3) := by decide +kernel
theorem dX0_meldInto_10 : decode cX0_meldInto 10 = .ok (.iload_n 1, 1) := by decide +kernel
theorem dX0_meldInto_11 : decode cX0_meldInto 11 = .ok (.iaload, 1) := by decide +kernel
theorem dX0_meldInto_12 : decode cX0_meldInto 12 = .ok (.aload_n 0, 1) := by decide +kernel
theorem dX0_meldInto_13 : decode cX0_meldInto 13 = .ok (.getfield 9, 3) := by decide +kernel
theorem dX0_meldInto_16 : decode cX0_meldInto 16 = .ok (.iload_n 2, 1) := by decide +kernel
theorem dX0_meldInto_17 : decode cX0_meldInto 17 = .ok (.iaload, 1) := by decide +kernel
theorem dX0_meldInto_18 : decode cX0_meldInto 18 = .ok (.invokevirtual 85, 3) := by decide +kernel
theorem dX0_meldInto_21 : decode cX0_meldInto 21 = .ok (.iastore, 1) := by decide +kernel
theorem dX0_meldInto_22 : decode cX0_meldInto 22 = .ok (.aload_n 0, 1) := by decide +kernel
theorem dX0_meldInto_23 : decode cX0_meldInto 23 = .ok (.getfield 9, 3) := by decide +kernel
theorem dX0_meldInto_26 : decode cX0_meldInto 26 = .ok (.iload_n 2, 1) := by decide +kernel
theorem dX0_meldInto_27 : decode cX0_meldInto 27 = .ok (.iconst (-1), 1) := by decide +kernel
theorem dX0_meldInto_28 : decode cX0_meldInto 28 = .ok (.iastore, 1) := by decide +kernel
theorem dX0_meldInto_29 : decode cX0_meldInto 29 = .ok (.aload_n 0, 1) := by decide +kernel
theorem dX0_meldInto_30 : decode cX0_meldInto 30 = .ok (.iload_n 2, 1) := by decide +kernel
theorem dX0_meldInto_31 : decode cX0_meldInto 31 = .ok (.iload_n 1, 1) := by decide +kernel
theorem dX0_meldInto_32 : decode cX0_meldInto 32 = .ok (.invokevirtual 103, 3) := by decide +kernel
theorem dX0_meldInto_35 : decode cX0_meldInto 35 = .ok (.return_, 1) := by decide +kernel
theorem dX0_relabel_0 : decode cX0_relabel 0 = .ok (.iconst 0, 1) := by decide +kernel
theorem dX0_relabel_1 : decode cX0_relabel 1 = .ok (.istore_n 3, 1) := by decide +kernel
theorem dX0_relabel_2 : decode cX0_relabel 2 = .ok (.iload_n 3, 1) := by decide +kernel
theorem dX0_relabel_3 : decode cX0_relabel 3 = .ok (.aload_n 0, 1) := by decide +kernel
theorem dX0_relabel_4 : decode cX0_relabel 4 = .ok (.getfield 55, 3) := by decide +kernel
theorem dX0_relabel_7 : decode cX0_relabel 7 = .ok (.if_icmp .ge 26, 3) := by decide +kernel
theorem dX0_relabel_10 : decode cX0_relabel 10 = .ok (.aload_n 0, 1) := by decide +kernel
theorem dX0_relabel_11 : decode cX0_relabel 11 = .ok (.getfield 28, 3) := by decide +kernel
theorem dX0_relabel_14 : decode cX0_relabel 14 = .ok (.iload_n 3, 1) := by decide +kernel
theorem dX0_relabel_15 : decode cX0_relabel 15 = .ok (.iaload, 1) := by decide +kernel
theorem dX0_relabel_16 : decode cX0_relabel 16 = .ok (.iload_n 1, 1) := by decide +kernel
theorem dX0_relabel_17 : decode cX0_relabel 17 = .ok (.if_icmp .ne 10, 3) := by decide +kernel
theorem dX0_relabel_20 : decode cX0_relabel 20 = .ok (.aload_n 0, 1) := by decide +kernel
theorem dX0_relabel_21 : decode cX0_relabel 21 = .ok (.getfield 28, 3) := by decide +kernel
theorem dX0_relabel_24 : decode cX0_relabel 24 = .ok (.iload_n 3, 1) := by decide +kernel
theorem dX0_relabel_25 : decode cX0_relabel 25 = .ok (.iload_n 2, 1) := by decide +kernel
theorem dX0_relabel_26 : decode cX0_relabel 26 = .ok (.iastore, 1) := by decide +kernel
theorem dX0_relabel_27 : decode cX0_relabel 27 = .ok (.iinc 3 1, 3) := by decide +kernel
theorem dX0_relabel_30 : decode cX0_relabel 30 = .ok (.goto (-28), 3) := by decide +kernel
theorem dX0_relabel_33 : decode cX0_relabel 33 = .ok (.return_, 1) := by decide +kernel
theorem dX0_howManyAbove_0 : decode cX0_howManyAbove 0 = .ok (.iconst 0, 1) := by decide +kernel
theorem dX0_howManyAbove_1 : decode cX0_howManyAbove 1 = .ok (.istore_n 2, 1) := by decide +kernel
theorem dX0_howManyAbove_2 : decode cX0_howManyAbove 2 = .ok (.aload_n 0, 1) := by decide +kernel
theorem dX0_howManyAbove_3 : decode cX0_howManyAbove 3 = .ok (.getfield 40, 3) := by decide +kernel
theorem dX0_howManyAbove_6 : decode cX0_howManyAbove 6 = .ok (.iload_n 1, 1) := by decide +kernel
theorem dX0_howManyAbove_7 : decode cX0_howManyAbove 7 = .ok (.iaload, 1) := by decide +kernel
theorem dX0_howManyAbove_8 : decode cX0_howManyAbove 8 = .ok (.istore_n 3, 1) := by decide +kernel
theorem dX0_howManyAbove_9 : decode cX0_howManyAbove 9 = .ok (.iload_n 3, 1) := by decide +kernel
theorem dX0_howManyAbove_10 : decode cX0_howManyAbove 10 = .ok (.iconst (-1), 1) := by decide +kernel
theorem dX0_howManyAbove_11 : decode cX0_howManyAbove 11 = .ok (.if_icmp .eq 23, 3) := by decide +kernel
theorem dX0_howManyAbove_14 : decode cX0_howManyAbove 14 = .ok (.iload_n 2, 1) := by decide +kernel
theorem dX0_howManyAbove_15 : decode cX0_howManyAbove 15 = .ok (.sipush 300, 3) := by decide +kernel
theorem dX0_howManyAbove_18 : decode cX0_howManyAbove 18 = .ok (.if_icmp .ge 16, 3) := by decide +kernel
theorem dX0_howManyAbove_21 : decode cX0_howManyAbove 21 = .ok (.iinc 2 1, 3) := by decide +kernel
theorem dX0_howManyAbove_24 : decode cX0_howManyAbove 24 = .ok (.aload_n 0, 1) := by decide +kernel
theorem dX0_howManyAbove_25 : decode cX0_howManyAbove 25 = .ok (.getfield 40, 3) := by decide +kernel
theorem dX0_howManyAbove_28 : decode cX0_howManyAbove 28 = .ok (.iload_n 3, 1) := by decide +kernel
theorem dX0_howManyAbove_29 : decode cX0_howManyAbove 29 = .ok (.iaload, 1) := by decide +kernel
theorem dX0_howManyAbove_30 : decode cX0_howManyAbove 30 = .ok (.istore_n 3, 1) := by decide +kernel
theorem dX0_howManyAbove_31 : decode cX0_howManyAbove 31 = .ok (.goto (-22), 3) := by decide +kernel
theorem dX0_howManyAbove_34 : decode cX0_howManyAbove 34 = .ok (.iload_n 2, 1) := by decide +kernel
theorem dX0_howManyAbove_35 : decode cX0_howManyAbove 35 = .ok (.ireturn, 1) := by decide +kernel
theorem dX0_allIn_0 : decode cX0_allIn 0 = .ok (.iconst 0, 1) := by decide +kernel
theorem dX0_allIn_1 : decode cX0_allIn 1 = .ok (.istore_n 2, 1) := by decide +kernel
theorem dX0_allIn_2 : decode cX0_allIn 2 = .ok (.iconst 0, 1) := by decide +kernel
theorem dX0_allIn_3 : decode cX0_allIn 3 = .ok (.istore_n 3, 1) := by decide +kernel
theorem dX0_allIn_4 : decode cX0_allIn 4 = .ok (.iload_n 3, 1) := by decide +kernel
theorem dX0_allIn_5 : decode cX0_allIn 5 = .ok (.aload_n 0, 1) := by decide +kernel
theorem dX0_allIn_6 : decode cX0_allIn 6 = .ok (.getfield 55, 3) := by decide +kernel
theorem dX0_allIn_9 : decode cX0_allIn 9 = .ok (.if_icmp .ge 27, 3) := by decide +kernel
theorem dX0_allIn_12 : decode cX0_allIn 12 = .ok (.iload_n 2, 1) := by decide +kernel
theorem dX0_allIn_13 : decode cX0_allIn 13 = .ok (.aload_n 0, 1) := by decide +kernel
theorem dX0_allIn_14 : decode cX0_allIn 14 = .ok (.getfield 28, 3) := by decide +kernel
theorem dX0_allIn_17 : decode cX0_allIn 17 = .ok (.iload_n 3, 1) := by decide +kernel
theorem dX0_allIn_18 : decode cX0_allIn 18 = .ok (.iaload, 1) := by decide +kernel
theorem dX0_allIn_19 : decode cX0_allIn 19 = .ok (.iload_n 1, 1) := by decide +kernel
theorem dX0_allIn_20 : decode cX0_allIn 20 = .ok (.if_icmp .ne 7, 3) := by decide +kernel
theorem dX0_allIn_23 : decode cX0_allIn 23 = .ok (.iconst 1, 1) := by decide +kernel
theorem dX0_allIn_24 : decode cX0_allIn 24 = .ok (.goto 4, 3) := by decide +kernel
theorem dX0_allIn_27 : decode cX0_allIn 27 = .ok (.iconst 0, 1) := by decide +kernel
theorem dX0_allIn_28 : decode cX0_allIn 28 = .ok (.iadd, 1) := by decide +kernel
theorem dX0_allIn_29 : decode cX0_allIn 29 = .ok (.istore_n 2, 1) := by decide +kernel
theorem dX0_allIn_30 : decode cX0_allIn 30 = .ok (.iinc 3 1, 3) := by decide +kernel
theorem dX0_allIn_33 : decode cX0_allIn 33 = .ok (.goto (-29), 3) := by decide +kernel
theorem dX0_allIn_36 : decode cX0_allIn 36 = .ok (.iload_n 2, 1) := by decide +kernel
theorem dX0_allIn_37 : decode cX0_allIn 37 = .ok (.ireturn, 1) := by decide +kernel
set_option maxRecDepth 20000 in
theorem ggX0_plainIn_X0_isPlainIn : GoodIn wsX0_plainIn wsX0_isPlainIn := goodIn_r _ [6, 7, 8, 9, 10, 11, 12, 13, 14, 15, 16, 17, 18, 19, 20, 21, 22, 23, 24, 25] (by decide +kernel) (by decide +kernel)
set_option maxRecDepth 20000 in
theorem gX0_plainIn_X0_isPlainIn : GoodIn wsX0_plainIn (wsV RX0 106 RX0 yX0_isPlainIn wsX0_isPlainIn) := goodIn_app (goodIn_of _ (by decide +kernel)) ggX0_plainIn_X0_isPlainIn
theorem dX0_plainIn_0 : decode cX0_plainIn 0 = .ok (.iconst 0, 1) := by decide +kernel
theorem dX0_plainIn_1 : decode cX0_plainIn 1 = .ok (.istore_n 2, 1) := by decide +kernel
theorem dX0_plainIn_2 : decode cX0_plainIn 2 = .ok (.iconst 0, 1) := by decide +kernel
theorem dX0_plainIn_3 : decode cX0_plainIn 3 = .ok (.istore_n 3, 1) := by decide +kernel
theorem dX0_plainIn_4 : decode cX0_plainIn 4 = .ok (.iload_n 3, 1) := by decide +kernel
theorem dX0_plainIn_5 : decode cX0_plainIn 5 = .ok (.aload_n 0, 1) := by decide +kernel
theorem dX0_plainIn_6 : decode cX0_plainIn 6 = .ok (.getfield 55, 3) := by decide +kernel
theorem dX0_plainIn_9 : decode cX0_plainIn 9 = .ok (.if_icmp .ge 26, 3) := by decide +kernel
theorem dX0_plainIn_12 : decode cX0_plainIn 12 = .ok (.iload_n 2, 1) := by decide +kernel
theorem dX0_plainIn_13 : decode cX0_plainIn 13 = .ok (.aload_n 0, 1) := by decide +kernel
theorem dX0_plainIn_14 : decode cX0_plainIn 14 = .ok (.iload_n 3, 1) := by decide +kernel
theorem dX0_plainIn_15 : decode cX0_plainIn 15 = .ok (.iload_n 1, 1) := by decide +kernel
theorem dX0_plainIn_16 : decode cX0_plainIn 16 = .ok (.invokevirtual 106, 3) := by decide +kernel
theorem dX0_plainIn_19 : decode cX0_plainIn 19 = .ok (.ifCond .eq 7, 3) := by decide +kernel
theorem dX0_plainIn_22 : decode cX0_plainIn 22 = .ok (.iconst 1, 1) := by decide +kernel
theorem dX0_plainIn_23 : decode cX0_plainIn 23 = .ok (.goto 4, 3) := by decide +kernel
theorem dX0_plainIn_26 : decode cX0_plainIn 26 = .ok (.iconst 0, 1) := by decide +kernel
theorem dX0_plainIn_27 : decode cX0_plainIn 27 = .ok (.iadd, 1) := by decide +kernel
theorem dX0_plainIn_28 : decode cX0_plainIn 28 = .ok (.istore_n 2, 1) := by decide +kernel
theorem dX0_plainIn_29 : decode cX0_plainIn 29 = .ok (.iinc 3 1, 3) := by decide +kernel
theorem dX0_plainIn_32 : decode cX0_plainIn 32 = .ok (.goto (-28), 3) := by decide +kernel
theorem dX0_plainIn_35 : decode cX0_plainIn 35 = .ok (.iload_n 2, 1) := by decide +kernel
theorem dX0_plainIn_36 : decode cX0_plainIn 36 = .ok (.ireturn, 1) := by decide +kernel
set_option maxRecDepth 20000 in
theorem ggX0_plainLess_X0_isPlainIn : GoodIn wsX0_plainLess wsX0_isPlainIn := goodIn_r _ [6, 7, 8, 14, 15, 16, 17, 18, 19, 20, 21, 22, 23, 24, 25, 26, 27, 28, 29, 30] (by decide +kernel) (by decide +kernel)
set_option maxRecDepth 20000 in
theorem gX0_plainLess_X0_isPlainIn : GoodIn wsX0_plainLess (wsV RX0 106 RX0 yX0_isPlainIn wsX0_isPlainIn) := goodIn_app (goodIn_of _ (by decide +kernel)) ggX0_plainLess_X0_isPlainIn
set_option maxRecDepth 20000 in
theorem ggX0_plainLess_X0_isLess : GoodIn wsX0_plainLess wsX0_isLess := goodIn_r _ [12, 13, 14, 15, 16, 17, 18, 19, 20, 21, 22, 23, 24, 25, 26, 27, 28, 29, 30] (by decide +kernel) (by decide +kernel)
set_option maxRecDepth 20000 in
theorem gX0_plainLess_X0_isLess : GoodIn wsX0_plainLess (wsV RX0 74 RX0 yX0_isLess wsX0_isLess) := goodIn_app (goodIn_of _ (by decide +kernel)) ggX0_plainLess_X0_isLess
theorem dX0_plainLess_0 : decode cX0_plainLess 0 = .ok (.iconst 0, 1) := by decide +kernel
theorem dX0_plainLess_1 : decode cX0_plainLess 1 = .ok (.istore_n 3, 1) := by decide +kernel
theorem dX0_plainLess_2 : decode cX0_plainLess 2 = .ok (.iconst 0, 1) := by decide +kernel
theorem dX0_plainLess_3 : decode cX0_plainLess 3 = .ok (.istore 4, 2) := by decide +kernel
theorem dX0_plainLess_5 : decode cX0_plainLess 5 = .ok (.iload 4, 2) := by decide +kernel
theorem dX0_plainLess_7 : decode cX0_plainLess 7 = .ok (.aload_n 0, 1) := by decide +kernel
theorem dX0_plainLess_8 : decode cX0_plainLess 8 = .ok (.getfield 55, 3) := by decide +kernel
theorem dX0_plainLess_11 : decode cX0_plainLess 11 = .ok (.if_icmp .ge 37, 3) := by decide +kernel
theorem dX0_plainLess_14 : decode cX0_plainLess 14 = .ok (.iload_n 3, 1) := by decide +kernel
theorem dX0_plainLess_15 : decode cX0_plainLess 15 = .ok (.aload_n 0, 1) := by decide +kernel
theorem dX0_plainLess_16 : decode cX0_plainLess 16 = .ok (.iload 4, 2) := by decide +kernel
theorem dX0_plainLess_18 : decode cX0_plainLess 18 = .ok (.iload_n 1, 1) := by decide +kernel
theorem dX0_plainLess_19 : decode cX0_plainLess 19 = .ok (.invokevirtual 106, 3) := by decide +kernel
theorem dX0_plainLess_22 : decode cX0_plainLess 22 = .ok (.ifCond .eq 17, 3) := by decide +kernel
theorem dX0_plainLess_25 : decode cX0_plainLess 25 = .ok (.aload_n 0, 1) := by decide +kernel
theorem dX0_plainLess_26 : decode cX0_plainLess 26 = .ok (.iload 4, 2) := by decide +kernel
theorem dX0_plainLess_28 : decode cX0_plainLess 28 = .ok (.iload_n 2, 1) := by decide +kernel
theorem dX0_plainLess_29 : decode cX0_plainLess 29 = .ok (.invokevirtual 74, 3) := by decide +kernel
theorem dX0_plainLess_32 : decode cX0_plainLess 32 = .ok (.ifCond .eq 7, 3) := by decide +kernel
theorem dX0_plainLess_35 : decode cX0_plainLess 35 = .ok (.iconst 1, 1) := by decide +kernel
theorem dX0_plainLess_36 : decode cX0_plainLess 36 = .ok (.goto 4, 3) := by decide +kernel
theorem dX0_plainLess_39 : decode cX0_plainLess 39 = .ok (.iconst 0, 1) := by decide +kernel
theorem dX0_plainLess_40 : decode cX0_plainLess 40 = .ok (.iadd, 1) := by decide +kernel
theorem dX0_plainLess_41 : decode cX0_plainLess 41 = .ok (.istore_n 3, 1) := by decide +kernel
theorem dX0_plainLess_42 : decode cX0_plainLess 42 = .ok (.iinc 4 1, 3) := by decide +kernel
theorem dX0_plainLess_45 : decode cX0_plainLess 45 = .ok (.goto (-40), 3) := by decide +kernel
theorem dX0_plainLess_48 : decode cX0_plainLess 48 = .ok (.iload_n 3, 1) := by decide +kernel
theorem dX0_plainLess_49 : decode cX0_plainLess 49 = .ok (.ireturn, 1) := by decide +kernel
set_option maxRecDepth 20000 in
theorem ggX0_plainBelow_X0_isPlainIn : GoodIn wsX0_plainBelow wsX0_isPlainIn := goodIn_r _ [7, 8, 9, 10, 11, 12, 13, 14, 15, 16, 17, 18, 19, 20, 21, 22, 23, 24, 25, 26] (by decide +kernel) (by decide +kernel)
set_option maxRecDepth 20000 in
theorem gX0_plainBelow_X0_isPlainIn : GoodIn wsX0_plainBelow (wsV RX0 106 RX0 yX0_isPlainIn wsX0_isPlainIn) := goodIn_app (goodIn_of _ (by decide +kernel)) ggX0_plainBelow_X0_isPlainIn
theorem dX0_plainBelow_0 : decode cX0_plainBelow 0 = .ok (.iconst 0, 1) := by decide +kernel
theorem dX0_plainBelow_1 : decode cX0_plainBelow 1 = .ok (.istore 4, 2) := by decide +kernel
theorem dX0_plainBelow_3 : decode cX0_plainBelow 3 = .ok (.iconst 0, 1) := by decide +kernel
theorem dX0_plainBelow_4 : decode cX0_plainBelow 4 = .ok (.istore 5, 2) := by decide +kernel
theorem dX0_plainBelow_6 : decode cX0_plainBelow 6 = .ok (.iload 5, 2) := by decide +kernel
theorem dX0_plainBelow_8 : decode cX0_plainBelow 8 = .ok (.aload_n 0, 1) := by decide +kernel
theorem dX0_plainBelow_9 : decode cX0_plainBelow 9 = .ok (.getfield 55, 3) := by decide +kernel
theorem dX0_plainBelow_12 : decode cX0_plainBelow 12 = .ok (.if_icmp .ge 41, 3) := by decide +kernel
theorem dX0_plainBelow_15 : decode cX0_plainBelow 15 = .ok (.iload 4, 2) := by decide +kernel
theorem dX0_plainBelow_17 : decode cX0_plainBelow 17 = .ok (.aload_n 0, 1) := by decide +kernel
theorem dX0_plainBelow_18 : decode cX0_plainBelow 18 = .ok (.iload 5, 2) := by decide +kernel
theorem dX0_plainBelow_20 : decode cX0_plainBelow 20 = .ok (.iload_n 1, 1) := by decide +kernel
theorem dX0_plainBelow_21 : decode cX0_plainBelow 21 = .ok (.invokevirtual 106, 3) := by decide +kernel
theorem dX0_plainBelow_24 : decode cX0_plainBelow 24 = .ok (.ifCond .eq 19, 3) := by decide +kernel
theorem dX0_plainBelow_27 : decode cX0_plainBelow 27 = .ok (.aload_n 0, 1) := by decide +kernel
theorem dX0_plainBelow_28 : decode cX0_plainBelow 28 = .ok (.getfield 21, 3) := by decide +kernel
theorem dX0_plainBelow_31 : decode cX0_plainBelow 31 = .ok (.iload 5, 2) := by decide +kernel
theorem dX0_plainBelow_33 : decode cX0_plainBelow 33 = .ok (.laload, 1) := by decide +kernel
theorem dX0_plainBelow_34 : decode cX0_plainBelow 34 = .ok (.lload_n 2, 1) := by decide +kernel
theorem dX0_plainBelow_35 : decode cX0_plainBelow 35 = .ok (.lcmp, 1) := by decide +kernel
theorem dX0_plainBelow_36 : decode cX0_plainBelow 36 = .ok (.ifCond .ge 7, 3) := by decide +kernel
theorem dX0_plainBelow_39 : decode cX0_plainBelow 39 = .ok (.iconst 1, 1) := by decide +kernel
theorem dX0_plainBelow_40 : decode cX0_plainBelow 40 = .ok (.goto 4, 3) := by decide +kernel
theorem dX0_plainBelow_43 : decode cX0_plainBelow 43 = .ok (.iconst 0, 1) := by decide +kernel
theorem dX0_plainBelow_44 : decode cX0_plainBelow 44 = .ok (.iadd, 1) := by decide +kernel
theorem dX0_plainBelow_45 : decode cX0_plainBelow 45 = .ok (.istore 4, 2) := by decide +kernel
theorem dX0_plainBelow_47 : decode cX0_plainBelow 47 = .ok (.iinc 5 1, 3) := by decide +kernel
theorem dX0_plainBelow_50 : decode cX0_plainBelow 50 = .ok (.goto (-44), 3) := by decide +kernel
theorem dX0_plainBelow_53 : decode cX0_plainBelow 53 = .ok (.iload 4, 2) := by decide +kernel
theorem dX0_plainBelow_55 : decode cX0_plainBelow 55 = .ok (.ireturn, 1) := by decide +kernel
set_option maxRecDepth 20000 in
theorem ggX0_plainWithTag_X0_isPlainIn : GoodIn wsX0_plainWithTag wsX0_isPlainIn := goodIn_r _ [7, 8, 9, 10, 11, 12, 13, 14, 15, 16, 17, 18, 19, 20, 21, 22, 23, 24, 25, 26] (by decide +kernel) (by decide +kernel)
set_option maxRecDepth 20000 in
theorem gX0_plainWithTag_X0_isPlainIn : GoodIn wsX0_plainWithTag (wsV RX0 106 RX0 yX0_isPlainIn wsX0_isPlainIn) := goodIn_app (goodIn_of _ (by decide +kernel)) ggX0_plainWithTag_X0_isPlainIn
theorem dX0_plainWithTag_0 : decode cX0_plainWithTag 0 = .ok (.iconst 0, 1) := by decide +kernel
theorem dX0_plainWithTag_1 : decode cX0_plainWithTag 1 = .ok (.istore_n 3, 1) := by decide +kernel
theorem dX0_plainWithTag_2 : decode cX0_plainWithTag 2 = .ok (.iconst 0, 1) := by decide +kernel
theorem dX0_plainWithTag_3 : decode cX0_plainWithTag 3 = .ok (.istore 4, 2) := by decide +kernel
theorem dX0_plainWithTag_5 : decode cX0_plainWithTag 5 = .ok (.iload 4, 2) := by decide +kernel
theorem dX0_plainWithTag_7 : decode cX0_plainWithTag 7 = .ok (.aload_n 0, 1) := by decide +kernel
theorem dX0_plainWithTag_8 : decode cX0_plainWithTag 8 = .ok (.getfield 55, 3) := by decide +kernel
theorem dX0_plainWithTag_11 : decode cX0_plainWithTag 11 = .ok (.if_icmp .ge 38, 3) := by decide +kernel
theorem dX0_plainWithTag_14 : decode cX0_plainWithTag 14 = .ok (.iload_n 3, 1) := by decide +kernel
theorem dX0_plainWithTag_15 : decode cX0_plainWithTag 15 = .ok (.aload_n 0, 1) := by decide +kernel
theorem dX0_plainWithTag_16 : decode cX0_plainWithTag 16 = .ok (.iload 4, 2) := by decide +kernel
theorem dX0_plainWithTag_18 : decode cX0_plainWithTag 18 = .ok (.iload_n 1, 1) := by decide +kernel
theorem dX0_plainWithTag_19 : decode cX0_plainWithTag 19 = .ok (.invokevirtual 106, 3) := by decide +kernel
theorem dX0_plainWithTag_22 : decode cX0_plainWithTag 22 = .ok (.ifCond .eq 18, 3) := by decide +kernel
theorem dX0_plainWithTag_25 : decode cX0_plainWithTag 25 = .ok (.aload_n 0, 1) := by decide +kernel
theorem dX0_plainWithTag_26 : decode cX0_plainWithTag 26 = .ok (.getfield 25, 3) := by decide +kernel
theorem dX0_plainWithTag_29 : decode cX0_plainWithTag 29 = .ok (.iload 4, 2) := by decide +kernel
theorem dX0_plainWithTag_31 : decode cX0_plainWithTag 31 = .ok (.iaload, 1) := by decide +kernel
theorem dX0_plainWithTag_32 : decode cX0_plainWithTag 32 = .ok (.iload_n 2, 1) := by decide +kernel
theorem dX0_plainWithTag_33 : decode cX0_plainWithTag 33 = .ok (.if_icmp .ne 7, 3) := by decide +kernel
theorem dX0_plainWithTag_36 : decode cX0_plainWithTag 36 = .ok (.iconst 1, 1) := by decide +kernel
theorem dX0_plainWithTag_37 : decode cX0_plainWithTag 37 = .ok (.goto 4, 3) := by decide +kernel
theorem dX0_plainWithTag_40 : decode cX0_plainWithTag 40 = .ok (.iconst 0, 1) := by decide +kernel
theorem dX0_plainWithTag_41 : decode cX0_plainWithTag 41 = .ok (.iadd, 1) := by decide +kernel
theorem dX0_plainWithTag_42 : decode cX0_plainWithTag 42 = .ok (.istore_n 3, 1) := by decide +kernel
theorem dX0_plainWithTag_43 : decode cX0_plainWithTag 43 = .ok (.iinc 4 1, 3) := by decide +kernel
theorem dX0_plainWithTag_46 : decode cX0_plainWithTag 46 = .ok (.goto (-41), 3) := by decide +kernel
theorem dX0_plainWithTag_49 : decode cX0_plainWithTag 49 = .ok (.iload_n 3, 1) := by decide +kernel
theorem dX0_plainWithTag_50 : decode cX0_plainWithTag 50 = .ok (.ireturn, 1) := by decide +kernel
theorem dX0_rankedIn_0 : decode cX0_rankedIn 0 = .ok (.iconst 0, 1) := by decide +kernel
theorem dX0_rankedIn_1 : decode cX0_rankedIn 1 = .ok (.istore_n 3, 1) := by decide +kernel
theorem dX0_rankedIn_2 : decode cX0_rankedIn 2 = .ok (.iconst 0, 1) := by decide +kernel
theorem dX0_rankedIn_3 : decode cX0_rankedIn 3 = .ok (.istore 4, 2) := by decide +kernel
theorem dX0_rankedIn_5 : decode cX0_rankedIn 5 = .ok (.iload 4, 2) := by decide +kernel
theorem dX0_rankedIn_7 : decode cX0_rankedIn 7 = .ok (.aload_n 0, 1) := by decide +kernel
theorem dX0_rankedIn_8 : decode cX0_rankedIn 8 = .ok (.getfield 55, 3) := by decide +kernel
theorem dX0_rankedIn_11 : decode cX0_rankedIn 11 = .ok (.if_icmp .ge 39, 3) := by decide +kernel
theorem dX0_rankedIn_14 : decode cX0_rankedIn 14 = .ok (.iload_n 3, 1) := by decide +kernel
theorem dX0_rankedIn_15 : decode cX0_rankedIn 15 = .ok (.aload_n 0, 1) := by decide +kernel
theorem dX0_rankedIn_16 : decode cX0_rankedIn 16 = .ok (.getfield 28, 3) := by decide +kernel
theorem dX0_rankedIn_19 : decode cX0_rankedIn 19 = .ok (.iload 4, 2) := by decide +kernel
theorem dX0_rankedIn_21 : decode cX0_rankedIn 21 = .ok (.iaload, 1) := by decide +kernel
theorem dX0_rankedIn_22 : decode cX0_rankedIn 22 = .ok (.iload_n 1, 1) := by decide +kernel
theorem dX0_rankedIn_23 : decode cX0_rankedIn 23 = .ok (.if_icmp .ne 18, 3) := by decide +kernel
theorem dX0_rankedIn_26 : decode cX0_rankedIn 26 = .ok (.aload_n 0, 1) := by decide +kernel
theorem dX0_rankedIn_27 : decode cX0_rankedIn 27 = .ok (.getfield 43, 3) := by decide +kernel
theorem dX0_rankedIn_30 : decode cX0_rankedIn 30 = .ok (.iload 4, 2) := by decide +kernel
theorem dX0_rankedIn_32 : decode cX0_rankedIn 32 = .ok (.iaload, 1) := by decide +kernel
theorem dX0_rankedIn_33 : decode cX0_rankedIn 33 = .ok (.iload_n 2, 1) := by decide +kernel
theorem dX0_rankedIn_34 : decode cX0_rankedIn 34 = .ok (.if_icmp .ne 7, 3) := by decide +kernel
theorem dX0_rankedIn_37 : decode cX0_rankedIn 37 = .ok (.iconst 1, 1) := by decide +kernel
theorem dX0_rankedIn_38 : decode cX0_rankedIn 38 = .ok (.goto 4, 3) := by decide +kernel
theorem dX0_rankedIn_41 : decode cX0_rankedIn 41 = .ok (.iconst 0, 1) := by decide +kernel
theorem dX0_rankedIn_42 : decode cX0_rankedIn 42 = .ok (.iadd, 1) := by decide +kernel
theorem dX0_rankedIn_43 : decode cX0_rankedIn 43 = .ok (.istore_n 3, 1) := by decide +kernel
theorem dX0_rankedIn_44 : decode cX0_rankedIn 44 = .ok (.iinc 4 1, 3) := by decide +kernel
theorem dX0_rankedIn_47 : decode cX0_rankedIn 47 = .ok (.goto (-42), 3) := by decide +kernel
theorem dX0_rankedIn_50 : decode cX0_rankedIn 50 = .ok (.iload_n 3, 1) := by decide +kernel
theorem dX0_rankedIn_51 : decode cX0_rankedIn 51 = .ok (.ireturn, 1) := by decide +kernel
theorem dX0_allThere_0 : decode cX0_allThere 0 = .ok (.iconst 0, 1) := by decide +kernel
theorem dX0_allThere_1 : decode cX0_allThere 1 = .ok (.istore_n 1, 1) := by decide +kernel
theorem dX0_allThere_2 : decode cX0_allThere 2 = .ok (.iconst 0, 1) := by decide +kernel
theorem dX0_allThere_3 : decode cX0_allThere 3 = .ok (.istore_n 2, 1) := by decide +kernel
theorem dX0_allThere_4 : decode cX0_allThere 4 = .ok (.iload_n 2, 1) := by decide +kernel
theorem dX0_allThere_5 : decode cX0_allThere 5 = .ok (.aload_n 0, 1) := by decide +kernel
theorem dX0_allThere_6 : decode cX0_allThere 6 = .ok (.getfield 55, 3) := by decide +kernel
theorem dX0_allThere_9 : decode cX0_allThere 9 = .ok (.if_icmp .ge 27, 3) := by decide +kernel
theorem dX0_allThere_12 : decode cX0_allThere 12 = .ok (.iload_n 1, 1) := by decide +kernel
theorem dX0_allThere_13 : decode cX0_allThere 13 = .ok (.aload_n 0, 1) := by decide +kernel
theorem dX0_allThere_14 : decode cX0_allThere 14 = .ok (.getfield 28, 3) := by decide +kernel
theorem dX0_allThere_17 : decode cX0_allThere 17 = .ok (.iload_n 2, 1) := by decide +kernel
theorem dX0_allThere_18 : decode cX0_allThere 18 = .ok (.iaload, 1) := by decide +kernel
theorem dX0_allThere_19 : decode cX0_allThere 19 = .ok (.iconst (-1), 1) := by decide +kernel
theorem dX0_allThere_20 : decode cX0_allThere 20 = .ok (.if_icmp .eq 7, 3) := by decide +kernel
theorem dX0_allThere_23 : decode cX0_allThere 23 = .ok (.iconst 1, 1) := by decide +kernel
theorem dX0_allThere_24 : decode cX0_allThere 24 = .ok (.goto 4, 3) := by decide +kernel
theorem dX0_allThere_27 : decode cX0_allThere 27 = .ok (.iconst 0, 1) := by decide +kernel
theorem dX0_allThere_28 : decode cX0_allThere 28 = .ok (.iadd, 1) := by decide +kernel
theorem dX0_allThere_29 : decode cX0_allThere 29 = .ok (.istore_n 1, 1) := by decide +kernel
theorem dX0_allThere_30 : decode cX0_allThere 30 = .ok (.iinc 2 1, 3) := by decide +kernel
theorem dX0_allThere_33 : decode cX0_allThere 33 = .ok (.goto (-29), 3) := by decide +kernel
theorem dX0_allThere_36 : decode cX0_allThere 36 = .ok (.iload_n 1, 1) := by decide +kernel
theorem dX0_allThere_37 : decode cX0_allThere 37 = .ok (.ireturn, 1) := by decide +kernel
theorem dX0_plainThere_0 : decode cX0_plainThere 0 = .ok (.iconst 0, 1) := by decide +kernel
theorem dX0_plainThere_1 : decode cX0_plainThere 1 = .ok (.istore_n 1, 1) := by decide +kernel
theorem dX0_plainThere_2 : decode cX0_plainThere 2 = .ok (.iconst 0, 1) := by decide +kernel
theorem dX0_plainThere_3 : decode cX0_plainThere 3 = .ok (.istore_n 2, 1) := by decide +kernel
theorem dX0_plainThere_4 : decode cX0_plainThere 4 = .ok (.iload_n 2, 1) := by decide +kernel
theorem dX0_plainThere_5 : decode cX0_plainThere 5 = .ok (.aload_n 0, 1) := by decide +kernel
theorem dX0_plainThere_6 : decode cX0_plainThere 6 = .ok (.getfield 55, 3) := by decide +kernel
theorem dX0_plainThere_9 : decode cX0_plainThere 9 = .ok (.if_icmp .ge 36, 3) := by decide +kernel
theorem dX0_plainThere_12 : decode cX0_plainThere 12 = .ok (.iload_n 1, 1) := by decide +kernel
theorem dX0_plainThere_13 : decode cX0_plainThere 13 = .ok (.aload_n 0, 1) := by decide +kernel
theorem dX0_plainThere_14 : decode cX0_plainThere 14 = .ok (.getfield 28, 3) := by decide +kernel
theorem dX0_plainThere_17 : decode cX0_plainThere 17 = .ok (.iload_n 2, 1) := by decide +kernel
theorem dX0_plainThere_18 : decode cX0_plainThere 18 = .ok (.iaload, 1) := by decide +kernel
theorem dX0_plainThere_19 : decode cX0_plainThere 19 = .ok (.iconst (-1), 1) := by decide +kernel
theorem dX0_plainThere_20 : decode cX0_plainThere 20 = .ok (.if_icmp .eq 16, 3) := by decide +kernel
theorem dX0_plainThere_23 : decode cX0_plainThere 23 = .ok (.aload_n 0, 1) := by decide +kernel
theorem dX0_plainThere_24 : decode cX0_plainThere 24 = .ok (.getfield 31, 3) := by decide +kernel
theorem dX0_plainThere_27 : decode cX0_plainThere 27 = .ok (.iload_n 2, 1) := by decide +kernel
theorem dX0_plainThere_28 : decode cX0_plainThere 28 = .ok (.iaload, 1) := by decide +kernel
theorem dX0_plainThere_29 : decode cX0_plainThere 29 = .ok (.ifCond .ne 7, 3) := by decide +kernel
theorem dX0_plainThere_32 : decode cX0_plainThere 32 = .ok (.iconst 1, 1) := by decide +kernel
theorem dX0_plainThere_33 : decode cX0_plainThere 33 = .ok (.goto 4, 3) := by decide +kernel
theorem dX0_plainThere_36 : decode cX0_plainThere 36 = .ok (.iconst 0, 1) := by decide +kernel
theorem dX0_plainThere_37 : decode cX0_plainThere 37 = .ok (.iadd, 1) := by decide +kernel
theorem dX0_plainThere_38 : decode cX0_plainThere 38 = .ok (.istore_n 1, 1) := by decide +kernel
theorem dX0_plainThere_39 : decode cX0_plainThere 39 = .ok (.iinc 2 1, 3) := by decide +kernel
theorem dX0_plainThere_42 : decode cX0_plainThere 42 = .ok (.goto (-38), 3) := by decide +kernel
theorem dX0_plainThere_45 : decode cX0_plainThere 45 = .ok (.iload_n 1, 1) := by decide +kernel
theorem dX0_plainThere_46 : decode cX0_plainThere 46 = .ok (.ireturn, 1) := by decide +kernel
theorem dX0_logSize_0 : decode cX0_logSize 0 = .ok (.aload_n 0, 1) := by decide +kernel
theorem dX0_logSize_1 : decode cX0_logSize 1 = .ok (.getfield 65, 3) := by decide +kernel
theorem dX0_logSize_4 : decode cX0_logSize 4 = .ok (.bipush 40, 2) := by decide +kernel
theorem dX0_logSize_6 : decode cX0_logSize 6 = .ok (.invokestatic 109, 3) := by decide +kernel
theorem dX0_logSize_9 : decode cX0_logSize 9 = .ok (.ireturn, 1) := by decide +kernel
theorem dX0_logPlace_0 : decode cX0_logPlace 0 = .ok (.aload_n 0, 1) := by decide +kernel
theorem dX0_logPlace_1 : decode cX0_logPlace 1 = .ok (.getfield 65, 3) := by decide +kernel
theorem dX0_logPlace_4 : decode cX0_logPlace 4 = .ok (.iconst 1, 1) := by decide +kernel
theorem dX0_logPlace_5 : decode cX0_logPlace 5 = .ok (.isub, 1) := by decide +kernel
theorem dX0_logPlace_6 : decode cX0_logPlace 6 = .ok (.iload_n 1, 1) := by decide +kernel
theorem dX0_logPlace_7 : decode cX0_logPlace 7 = .ok (.isub, 1) := by decide +kernel
theorem dX0_logPlace_8 : decode cX0_logPlace 8 = .ok (.bipush 40, 2) := by decide +kernel
theorem dX0_logPlace_10 : decode cX0_logPlace 10 = .ok (.irem, 1) := by decide +kernel
theorem dX0_logPlace_11 : decode cX0_logPlace 11 = .ok (.ireturn, 1) := by decide +kernel
set_option maxRecDepth 20000 in
theorem ggX1_init_J7_fill_53178 : GoodIn wsX1_init wsJ7_fill_53178 := goodIn_r _ [11] (by decide +kernel) (by decide +kernel)
set_option maxRecDepth 20000 in
theorem gX1_init_J7_fill_53178 : GoodIn wsX1_init (va_wsS RX1 15 yJ7_fill_53178 wsJ7_fill_53178) := goodIn_app (goodIn_of _ (by decide +kernel)) ggX1_init_J7_fill_53178
theorem dX1_init_0 : decode cX1_init 0 = .ok (.aload_n 0, 1) := by decide +kernel
theorem dX1_init_1 : decode cX1_init 1 = .ok (.invokespecial 3, 3) := by decide +kernel
theorem dX1_init_4 : decode cX1_init 4 = .ok (.aload_n 0, 1) := by decide +kernel
theorem dX1_init_5 : decode cX1_init 5 = .ok (.bipush 20, 2) := by decide +kernel
theorem dX1_init_7 : decode cX1_init 7 = .ok (.newarray .int, 2) := by decide +kernel
theorem dX1_init_9 : decode cX1_init 9 = .ok (.putfield 9, 3) := by decide +kernel
theorem dX1_init_12 : decode cX1_init 12 = .ok (.aload_n 0, 1) := by decide +kernel
theorem dX1_init_13 : decode cX1_init 13 = .ok (.getfield 9, 3) := by decide +kernel
theorem dX1_init_16 : decode cX1_init 16 = .ok (.iconst (-1), 1) := by decide +kernel
theorem dX1_init_17 : decode cX1_init 17 = .ok (.invokestatic 15, 3) := by decide +kernel
theorem dX1_init_20 : decode cX1_init 20 = .ok (.aload_n 0, 1) := by decide +kernel
theorem dX1_init_21 : decode cX1_init 21 = .ok (.bipush 20, 2) := by decide +kernel
theorem dX1_init_23 : decode cX1_init 23 = .ok (.newarray .int, 2) := by decide +kernel
theorem dX1_init_25 : decode cX1_init 25 = .ok (.putfield 21, 3) := by decide +kernel
theorem dX1_init_28 : decode cX1_init 28 = .ok (.aload_n 0, 1) := by decide +kernel
theorem dX1_init_29 : decode cX1_init 29 = .ok (.bipush 20, 2) := by decide +kernel
theorem dX1_init_31 : decode cX1_init 31 = .ok (.newarray .int, 2) := by decide +kernel
theorem dX1_init_33 : decode cX1_init 33 = .ok (.putfield 24, 3) := by decide +kernel
theorem dX1_init_36 : decode cX1_init 36 = .ok (.return_, 1) := by decide +kernel
theorem dX1_copyFrom_0 : decode cX1_copyFrom 0 = .ok (.aload_n 1, 1) := by decide +kernel
theorem dX1_copyFrom_1 : decode cX1_copyFrom 1 = .ok (.getfield 9, 3) := by decide +kernel
theorem dX1_copyFrom_4 : decode cX1_copyFrom 4 = .ok (.iconst 0, 1) := by decide +kernel
theorem dX1_copyFrom_5 : decode cX1_copyFrom 5 = .ok (.aload_n 0, 1) := by decide +kernel
theorem dX1_copyFrom_6 : decode cX1_copyFrom 6 = .ok (.getfield 9, 3) := by decide +kernel
theorem dX1_copyFrom_9 : decode cX1_copyFrom 9 = .ok (.iconst 0, 1) := by decide +kernel
theorem dX1_copyFrom_10 : decode cX1_copyFrom 10 = .ok (.bipush 20, 2) := by decide +kernel
theorem dX1_copyFrom_12 : decode cX1_copyFrom 12 = .ok (.invokestatic 27, 3) := by decide +kernel
theorem dX1_copyFrom_15 : decode cX1_copyFrom 15 = .ok (.aload_n 1, 1) := by decide +kernel
theorem dX1_copyFrom_16 : decode cX1_copyFrom 16 = .ok (.getfield 21, 3) := by decide +kernel
theorem dX1_copyFrom_19 : decode cX1_copyFrom 19 = .ok (.iconst 0, 1) := by decide +kernel
theorem dX1_copyFrom_20 : decode cX1_copyFrom 20 = .ok (.aload_n 0, 1) := by decide +kernel
theorem dX1_copyFrom_21 : decode cX1_copyFrom 21 = .ok (.getfield 21, 3) := by decide +kernel
theorem dX1_copyFrom_24 : decode cX1_copyFrom 24 = .ok (.iconst 0, 1) := by decide +kernel
theorem dX1_copyFrom_25 : decode cX1_copyFrom 25 = .ok (.bipush 20, 2) := by decide +kernel
theorem dX1_copyFrom_27 : decode cX1_copyFrom 27 = .ok (.invokestatic 27, 3) := by decide +kernel
theorem dX1_copyFrom_30 : decode cX1_copyFrom 30 = .ok (.aload_n 1, 1) := by decide +kernel
theorem dX1_copyFrom_31 : decode cX1_copyFrom 31 = .ok (.getfield 24, 3) := by decide +kernel
theorem dX1_copyFrom_34 : decode cX1_copyFrom 34 = .ok (.iconst 0, 1) := by decide +kernel
theorem dX1_copyFrom_35 : decode cX1_copyFrom 35 = .ok (.aload_n 0, 1) := by decide +kernel
theorem dX1_copyFrom_36 : decode cX1_copyFrom 36 = .ok (.getfield 24, 3) := by decide +kernel
theorem dX1_copyFrom_39 : decode cX1_copyFrom 39 = .ok (.iconst 0, 1) := by decide +kernel
theorem dX1_copyFrom_40 : decode cX1_copyFrom 40 = .ok (.bipush 20, 2) := by decide +kernel
theorem dX1_copyFrom_42 : decode cX1_copyFrom 42 = .ok (.invokestatic 27, 3) := by decide +kernel
theorem dX1_copyFrom_45 : decode cX1_copyFrom 45 = .ok (.return_, 1) := by decide +kernel
theorem dX1_isThere_0 : decode cX1_isThere 0 = .ok (.iload_n 1, 1) := by decide +kernel
theorem dX1_isThere_1 : decode cX1_isThere 1 = .ok (.ifCond .lt 23, 3) := by decide +kernel
theorem dX1_isThere_4 : decode cX1_isThere 4 = .ok (.iload_n 1, 1) := by decide +kernel
theorem dX1_isThere_5 : decode cX1_isThere 5 = .ok (.bipush 20, 2) := by decide +kernel
theorem dX1_isThere_7 : decode cX1_isThere 7 = .ok (.if_icmp .ge 17, 3) := by decide +kernel
theorem dX1_isThere_10 : decode cX1_isThere 10 = .ok (.aload_n 0, 1) := by decide +kernel
theorem dX1_isThere_11 : decode cX1_isThere 11 = .ok (.getfield 9, 3) := by decide +kernel
theorem dX1_isThere_14 : decode cX1_isThere 14 = .ok (.iload_n 1, 1) := by decide +kernel
theorem dX1_isThere_15 : decode cX1_isThere 15 = .ok (.iaload, 1) := by decide +kernel
theorem dX1_isThere_16 : decode cX1_isThere 16 = .ok (.iconst (-1), 1) := by decide +kernel
theorem dX1_isThere_17 : decode cX1_isThere 17 = .ok (.if_icmp .eq 7, 3) := by decide +kernel
theorem dX1_isThere_20 : decode cX1_isThere 20 = .ok (.iconst 1, 1) := by decide +kernel
theorem dX1_isThere_21 : decode cX1_isThere 21 = .ok (.goto 4, 3) := by decide +kernel
theorem dX1_isThere_24 : decode cX1_isThere 24 = .ok (.iconst 0, 1) := by decide +kernel
theorem dX1_isThere_25 : decode cX1_isThere 25 = .ok (.ireturn, 1) := by decide +kernel
theorem dX1_firstFree_0 : decode cX1_firstFree 0 = .ok (.iconst 0, 1) := by decide +kernel
theorem dX1_firstFree_1 : decode cX1_firstFree 1 = .ok (.istore_n 1, 1) := by decide +kernel
theorem dX1_firstFree_2 : decode cX1_firstFree 2 = .ok (.iload_n 1, 1) := by decide +kernel
theorem dX1_firstFree_3 : decode cX1_firstFree 3 = .ok (.bipush 20, 2) := by decide +kernel
theorem dX1_firstFree_5 : decode cX1_firstFree 5 = .ok (.if_icmp .ge 21, 3) := by decide +kernel
theorem dX1_firstFree_8 : decode cX1_firstFree 8 = .ok (.aload_n 0, 1) := by decide +kernel
theorem dX1_firstFree_9 : decode cX1_firstFree 9 = .ok (.getfield 9, 3) := by decide +kernel
theorem dX1_firstFree_12 : decode cX1_firstFree 12 = .ok (.iload_n 1, 1) := by decide +kernel
theorem dX1_firstFree_13 : decode cX1_firstFree 13 = .ok (.iaload, 1) := by decide +kernel
theorem dX1_firstFree_14 : decode cX1_firstFree 14 = .ok (.iconst (-1), 1) := by decide +kernel
theorem dX1_firstFree_15 : decode cX1_firstFree 15 = .ok (.if_icmp .ne 5, 3) := by decide +kernel
theorem dX1_firstFree_18 : decode cX1_firstFree 18 = .ok (.iload_n 1, 1) := by decide +kernel
theorem dX1_firstFree_19 : decode cX1_firstFree 19 = .ok (.ireturn, 1) := by decide +kernel
theorem dX1_firstFree_20 : decode cX1_firstFree 20 = .ok (.iinc 1 1, 3) := by decide +kernel
theorem dX1_firstFree_23 : decode cX1_firstFree 23 = .ok (.goto (-21), 3) := by decide +kernel
theorem dX1_firstFree_26 : decode cX1_firstFree 26 = .ok (.iconst (-1), 1) := by decide +kernel
theorem dX1_firstFree_27 : decode cX1_firstFree 27 = .ok (.ireturn, 1) := by decide +kernel
theorem dX1_size_0 : decode cX1_size 0 = .ok (.iconst 0, 1) := by decide +kernel
theorem dX1_size_1 : decode cX1_size 1 = .ok (.istore_n 1, 1) := by decide +kernel
theorem dX1_size_2 : decode cX1_size 2 = .ok (.iconst 0, 1) := by decide +kernel
theorem dX1_size_3 : decode cX1_size 3 = .ok (.istore_n 2, 1) := by decide +kernel
theorem dX1_size_4 : decode cX1_size 4 = .ok (.iload_n 2, 1) := by decide +kernel
theorem dX1_size_5 : decode cX1_size 5 = .ok (.bipush 20, 2) := by decide +kernel
theorem dX1_size_7 : decode cX1_size 7 = .ok (.if_icmp .ge 27, 3) := by decide +kernel
theorem dX1_size_10 : decode cX1_size 10 = .ok (.iload_n 1, 1) := by decide +kernel
theorem dX1_size_11 : decode cX1_size 11 = .ok (.aload_n 0, 1) := by decide +kernel
theorem dX1_size_12 : decode cX1_size 12 = .ok (.getfield 9, 3) := by decide +kernel
theorem dX1_size_15 : decode cX1_size 15 = .ok (.iload_n 2, 1) := by decide +kernel
theorem dX1_size_16 : decode cX1_size 16 = .ok (.iaload, 1) := by decide +kernel
theorem dX1_size_17 : decode cX1_size 17 = .ok (.iconst (-1), 1) := by decide +kernel
theorem dX1_size_18 : decode cX1_size 18 = .ok (.if_icmp .eq 7, 3) := by decide +kernel
theorem dX1_size_21 : decode cX1_size 21 = .ok (.iconst 1, 1) := by decide +kernel
theorem dX1_size_22 : decode cX1_size 22 = .ok (.goto 4, 3) := by decide +kernel
theorem dX1_size_25 : decode cX1_size 25 = .ok (.iconst 0, 1) := by decide +kernel
theorem dX1_size_26 : decode cX1_size 26 = .ok (.iadd, 1) := by decide +kernel
theorem dX1_size_27 : decode cX1_size 27 = .ok (.istore_n 1, 1) := by decide +kernel
theorem dX1_size_28 : decode cX1_size 28 = .ok (.iinc 2 1, 3) := by decide +kernel
theorem dX1_size_31 : decode cX1_size 31 = .ok (.goto (-27), 3) := by decide +kernel
theorem dX1_size_34 : decode cX1_size 34 = .ok (.iload_n 1, 1) := by decide +kernel
theorem dX1_size_35 : decode cX1_size 35 = .ok (.ireturn, 1) := by decide +kernel
theorem dX2_init_0 : decode cX2_init 0 = .ok (.aload_n 0, 1) := by decide +kernel
theorem dX2_init_1 : decode cX2_init 1 = .ok (.invokespecial 3, 3) := by decide +kernel
theorem dX2_init_4 : decode cX2_init 4 = .ok (.aload_n 0, 1) := by decide +kernel
theorem dX2_init_5 : decode cX2_init 5 = .ok (.aload_n 1, 1) := by decide +kernel
theorem dX2_init_6 : decode cX2_init 6 = .ok (.putfield 9, 3) := by decide +kernel
theorem dX2_init_9 : decode cX2_init 9 = .ok (.aload_n 0, 1) := by decide +kernel
theorem dX2_init_10 : decode cX2_init 10 = .ok (.sipush 300, 3) := by decide +kernel
theorem dX2_init_13 : decode cX2_init 13 = .ok (.newarray .int, 2) := by decide +kernel
theorem dX2_init_15 : decode cX2_init 15 = .ok (.putfield 15, 3) := by decide +kernel
theorem dX2_init_18 : decode cX2_init 18 = .ok (.aload_n 0, 1) := by decide +kernel
theorem dX2_init_19 : decode cX2_init 19 = .ok (.sipush 300, 3) := by decide +kernel
theorem dX2_init_22 : decode cX2_init 22 = .ok (.newarray .int, 2) := by decide +kernel
theorem dX2_init_24 : decode cX2_init 24 = .ok (.putfield 19, 3) := by decide +kernel
theorem dX2_init_27 : decode cX2_init 27 = .ok (.aload_n 0, 1) := by decide +kernel
theorem dX2_init_28 : decode cX2_init 28 = .ok (.sipush 300, 3) := by decide +kernel
theorem dX2_init_31 : decode cX2_init 31 = .ok (.newarray .int, 2) := by decide +kernel
theorem dX2_init_33 : decode cX2_init 33 = .ok (.putfield 22, 3) := by decide +kernel
theorem dX2_init_36 : decode cX2_init 36 = .ok (.aload_n 0, 1) := by decide +kernel
theorem dX2_init_37 : decode cX2_init 37 = .ok (.sipush 300, 3) := by decide +kernel
theorem dX2_init_40 : decode cX2_init 40 = .ok (.newarray .int, 2) := by decide +kernel
theorem dX2_init_42 : decode cX2_init 42 = .ok (.putfield 25, 3) := by decide +kernel
theorem dX2_init_45 : decode cX2_init 45 = .ok (.aload_n 0, 1) := by decide +kernel
theorem dX2_init_46 : decode cX2_init 46 = .ok (.bipush 40, 2) := by decide +kernel
theorem dX2_init_48 : decode cX2_init 48 = .ok (.newarray .int, 2) := by decide +kernel
theorem dX2_init_50 : decode cX2_init 50 = .ok (.putfield 28, 3) := by decide +kernel
theorem dX2_init_53 : decode cX2_init 53 = .ok (.return_, 1) := by decide +kernel
theorem dX2_walk_0 : decode cX2_walk 0 = .ok (.iconst 0, 1) := by decide +kernel
theorem dX2_walk_1 : decode cX2_walk 1 = .ok (.istore_n 2, 1) := by decide +kernel
theorem dX2_walk_2 : decode cX2_walk 2 = .ok (.iconst 0, 1) := by decide +kernel
theorem dX2_walk_3 : decode cX2_walk 3 = .ok (.istore_n 3, 1) := by decide +kernel
theorem dX2_walk_4 : decode cX2_walk 4 = .ok (.iload_n 1, 1) := by decide +kernel
theorem dX2_walk_5 : decode cX2_walk 5 = .ok (.iconst (-1), 1) := by decide +kernel
theorem dX2_walk_6 : decode cX2_walk 6 = .ok (.if_icmp .eq 13, 3) := by decide +kernel
theorem dX2_walk_9 : decode cX2_walk 9 = .ok (.aload_n 0, 1) := by decide +kernel
theorem dX2_walk_10 : decode cX2_walk 10 = .ok (.getfield 22, 3) := by decide +kernel
theorem dX2_walk_13 : decode cX2_walk 13 = .ok (.iload_n 3, 1) := by decide +kernel
theorem dX2_walk_14 : decode cX2_walk 14 = .ok (.iinc 3 1, 3) := by decide +kernel
theorem dX2_walk_17 : decode cX2_walk 17 = .ok (.iload_n 1, 1) := by decide +kernel
theorem dX2_walk_18 : decode cX2_walk 18 = .ok (.iastore, 1) := by decide +kernel
theorem dX2_walk_19 : decode cX2_walk 19 = .ok (.iload_n 3, 1) := by decide +kernel
theorem dX2_walk_20 : decode cX2_walk 20 = .ok (.ifCond .le 115, 3) := by decide +kernel
theorem dX2_walk_23 : decode cX2_walk 23 = .ok (.iload_n 2, 1) := by decide +kernel
theorem dX2_walk_24 : decode cX2_walk 24 = .ok (.sipush 300, 3) := by decide +kernel
theorem dX2_walk_27 : decode cX2_walk 27 = .ok (.if_icmp .ge 108, 3) := by decide +kernel
theorem dX2_walk_30 : decode cX2_walk 30 = .ok (.aload_n 0, 1) := by decide +kernel
theorem dX2_walk_31 : decode cX2_walk 31 = .ok (.getfield 22, 3) := by decide +kernel
theorem dX2_walk_34 : decode cX2_walk 34 = .ok (.iinc 3 (-1), 3) := by decide +kernel
theorem dX2_walk_37 : decode cX2_walk 37 = .ok (.iload_n 3, 1) := by decide +kernel
theorem dX2_walk_38 : decode cX2_walk 38 = .ok (.iaload, 1) := by decide +kernel
theorem dX2_walk_39 : decode cX2_walk 39 = .ok (.istore 4, 2) := by decide +kernel
theorem dX2_walk_41 : decode cX2_walk 41 = .ok (.aload_n 0, 1) := by decide +kernel
theorem dX2_walk_42 : decode cX2_walk 42 = .ok (.getfield 15, 3) := by decide +kernel
theorem dX2_walk_45 : decode cX2_walk 45 = .ok (.iload_n 2, 1) := by decide +kernel
theorem dX2_walk_46 : decode cX2_walk 46 = .ok (.iinc 2 1, 3) := by decide +kernel
theorem dX2_walk_49 : decode cX2_walk 49 = .ok (.iload 4, 2) := by decide +kernel
theorem dX2_walk_51 : decode cX2_walk 51 = .ok (.iastore, 1) := by decide +kernel
theorem dX2_walk_52 : decode cX2_walk 52 = .ok (.aload_n 0, 1) := by decide +kernel
theorem dX2_walk_53 : decode cX2_walk 53 = .ok (.getfield 9, 3) := by decide +kernel
theorem dX2_walk_56 : decode cX2_walk 56 = .ok (.getfield 31, 3) := by decide +kernel
theorem dX2_walk_59 : decode cX2_walk 59 = .ok (.iload 4, 2) := by decide +kernel
theorem dX2_walk_61 : decode cX2_walk 61 = .ok (.iaload, 1) := by decide +kernel
theorem dX2_walk_62 : decode cX2_walk 62 = .ok (.iconst (-1), 1) := by decide +kernel
theorem dX2_walk_63 : decode cX2_walk 63 = .ok (.if_icmp .eq 29, 3) := by decide +kernel
theorem dX2_walk_66 : decode cX2_walk 66 = .ok (.iload_n 3, 1) := by decide +kernel
theorem dX2_walk_67 : decode cX2_walk 67 = .ok (.sipush 300, 3) := by decide +kernel
theorem dX2_walk_70 : decode cX2_walk 70 = .ok (.if_icmp .ge 22, 3) := by decide +kernel
theorem dX2_walk_73 : decode cX2_walk 73 = .ok (.aload_n 0, 1) := by decide +kernel
theorem dX2_walk_74 : decode cX2_walk 74 = .ok (.getfield 22, 3) := by decide +kernel
theorem dX2_walk_77 : decode cX2_walk 77 = .ok (.iload_n 3, 1) := by decide +kernel
theorem dX2_walk_78 : decode cX2_walk 78 = .ok (.iinc 3 1, 3) := by decide +kernel
theorem dX2_walk_81 : decode cX2_walk 81 = .ok (.aload_n 0, 1) := by decide +kernel
theorem dX2_walk_82 : decode cX2_walk 82 = .ok (.getfield 9, 3) := by decide +kernel
theorem dX2_walk_85 : decode cX2_walk 85 = .ok (.getfield 31, 3) := by decide +kernel
theorem dX2_walk_88 : decode cX2_walk 88 = .ok (.iload 4, 2) := by decide +kernel
theorem dX2_walk_90 : decode cX2_walk 90 = .ok (.iaload, 1) := by decide +kernel
theorem dX2_walk_91 : decode cX2_walk 91 = .ok (.iastore, 1) := by decide +kernel
theorem dX2_walk_92 : decode cX2_walk 92 = .ok (.aload_n 0, 1) := by decide +kernel
theorem dX2_walk_93 : decode cX2_walk 93 = .ok (.getfield 9, 3) := by decide +kernel
theorem dX2_walk_96 : decode cX2_walk 96 = .ok (.getfield 36, 3) := by decide +kernel
theorem dX2_walk_99 : decode cX2_walk 99 = .ok (.iload 4, 2) := by decide +kernel
theorem dX2_walk_101 : decode cX2_walk 101 = .ok (.iaload, 1) := by decide +kernel
theorem dX2_walk_102 : decode cX2_walk 102 = .ok (.iconst (-1), 1) := by decide +kernel
theorem dX2_walk_103 : decode cX2_walk 103 = .ok (.if_icmp .eq 29, 3) := by decide +kernel
theorem dX2_walk_106 : decode cX2_walk 106 = .ok (.iload_n 3, 1) := by decide +kernel
theorem dX2_walk_107 : decode cX2_walk 107 = .ok (.sipush 300, 3) := by decide +kernel
theorem dX2_walk_110 : decode cX2_walk 110 = .ok (.if_icmp .ge 22, 3) := by decide +kernel
theorem dX2_walk_113 : decode cX2_walk 113 = .ok (.aload_n 0, 1) := by decide +kernel
theorem dX2_walk_114 : decode cX2_walk 114 = .ok (.getfield 22, 3) := by decide +kernel
theorem dX2_walk_117 : decode cX2_walk 117 = .ok (.iload_n 3, 1) := by decide +kernel
theorem dX2_walk_118 : decode cX2_walk 118 = .ok (.iinc 3 1, 3) := by decide +kernel
theorem dX2_walk_121 : decode cX2_walk 121 = .ok (.aload_n 0, 1) := by decide +kernel
theorem dX2_walk_122 : decode cX2_walk 122 = .ok (.getfield 9, 3) := by decide +kernel
theorem dX2_walk_125 : decode cX2_walk 125 = .ok (.getfield 36, 3) := by decide +kernel
theorem dX2_walk_128 : decode cX2_walk 128 = .ok (.iload 4, 2) := by decide +kernel
theorem dX2_walk_130 : decode cX2_walk 130 = .ok (.iaload, 1) := by decide +kernel
theorem dX2_walk_131 : decode cX2_walk 131 = .ok (.iastore, 1) := by decide +kernel
theorem dX2_walk_132 : decode cX2_walk 132 = .ok (.goto (-113), 3) := by decide +kernel
theorem dX2_walk_135 : decode cX2_walk 135 = .ok (.iload_n 2, 1) := by decide +kernel
theorem dX2_walk_136 : decode cX2_walk 136 = .ok (.ireturn, 1) := by decide +kernel
set_option maxRecDepth 20000 in
theorem ggX2_height_X2_walk : GoodIn wsX2_height wsX2_walk := goodIn_r _ [14, 15, 3, 1, 16, 17, 18, 19, 20, 21, 22, 23, 24, 25, 26, 27, 28, 29, 30, 31, 32, 33, 34, 35, 36, 37, 38, 39, 40] (by decide +kernel) (by decide +kernel)
set_option maxRecDepth 20000 in
theorem gX2_height_X2_walk : GoodIn wsX2_height (wsV RX2 42 RX2 yX2_walk wsX2_walk) := goodIn_app (goodIn_of _ (by decide +kernel)) ggX2_height_X2_walk
theorem dX2_height_0 : decode cX2_height 0 = .ok (.aload_n 0, 1) := by decide +kernel
theorem dX2_height_1 : decode cX2_height 1 = .ok (.aload_n 0, 1) := by decide +kernel
theorem dX2_height_2 : decode cX2_height 2 = .ok (.getfield 9, 3) := by decide +kernel
theorem dX2_height_5 : decode cX2_height 5 = .ok (.getfield 39, 3) := by decide +kernel
theorem dX2_height_8 : decode cX2_height 8 = .ok (.iload_n 1, 1) := by decide +kernel
theorem dX2_height_9 : decode cX2_height 9 = .ok (.iaload, 1) := by decide +kernel
theorem dX2_height_10 : decode cX2_height 10 = .ok (.invokevirtual 42, 3) := by decide +kernel
theorem dX2_height_13 : decode cX2_height 13 = .ok (.istore_n 2, 1) := by decide +kernel
theorem dX2_height_14 : decode cX2_height 14 = .ok (.iconst 0, 1) := by decide +kernel
theorem dX2_height_15 : decode cX2_height 15 = .ok (.istore_n 3, 1) := by decide +kernel
theorem dX2_height_16 : decode cX2_height 16 = .ok (.iconst 0, 1) := by decide +kernel
theorem dX2_height_17 : decode cX2_height 17 = .ok (.istore 4, 2) := by decide +kernel
theorem dX2_height_19 : decode cX2_height 19 = .ok (.iload 4, 2) := by decide +kernel
theorem dX2_height_21 : decode cX2_height 21 = .ok (.iload_n 2, 1) := by decide +kernel
theorem dX2_height_22 : decode cX2_height 22 = .ok (.if_icmp .ge 72, 3) := by decide +kernel
theorem dX2_height_25 : decode cX2_height 25 = .ok (.aload_n 0, 1) := by decide +kernel
theorem dX2_height_26 : decode cX2_height 26 = .ok (.getfield 15, 3) := by decide +kernel
theorem dX2_height_29 : decode cX2_height 29 = .ok (.iload 4, 2) := by decide +kernel
theorem dX2_height_31 : decode cX2_height 31 = .ok (.iaload, 1) := by decide +kernel
theorem dX2_height_32 : decode cX2_height 32 = .ok (.istore 5, 2) := by decide +kernel
theorem dX2_height_34 : decode cX2_height 34 = .ok (.aload_n 0, 1) := by decide +kernel
theorem dX2_height_35 : decode cX2_height 35 = .ok (.getfield 25, 3) := by decide +kernel
theorem dX2_height_38 : decode cX2_height 38 = .ok (.iload 5, 2) := by decide +kernel
theorem dX2_height_40 : decode cX2_height 40 = .ok (.aload_n 0, 1) := by decide +kernel
theorem dX2_height_41 : decode cX2_height 41 = .ok (.getfield 9, 3) := by decide +kernel
theorem dX2_height_44 : decode cX2_height 44 = .ok (.getfield 46, 3) := by decide +kernel
theorem dX2_height_47 : decode cX2_height 47 = .ok (.iload 5, 2) := by decide +kernel
theorem dX2_height_49 : decode cX2_height 49 = .ok (.iaload, 1) := by decide +kernel
theorem dX2_height_50 : decode cX2_height 50 = .ok (.iconst (-1), 1) := by decide +kernel
theorem dX2_height_51 : decode cX2_height 51 = .ok (.if_icmp .ne 7, 3) := by decide +kernel
theorem dX2_height_54 : decode cX2_height 54 = .ok (.iconst 1, 1) := by decide +kernel
theorem dX2_height_55 : decode cX2_height 55 = .ok (.goto 20, 3) := by decide +kernel
theorem dX2_height_58 : decode cX2_height 58 = .ok (.aload_n 0, 1) := by decide +kernel
theorem dX2_height_59 : decode cX2_height 59 = .ok (.getfield 25, 3) := by decide +kernel
theorem dX2_height_62 : decode cX2_height 62 = .ok (.aload_n 0, 1) := by decide +kernel
theorem dX2_height_63 : decode cX2_height 63 = .ok (.getfield 9, 3) := by decide +kernel
theorem dX2_height_66 : decode cX2_height 66 = .ok (.getfield 46, 3) := by decide +kernel
theorem dX2_height_69 : decode cX2_height 69 = .ok (.iload 5, 2) := by decide +kernel
theorem dX2_height_71 : decode cX2_height 71 = .ok (.iaload, 1) := by decide +kernel
theorem dX2_height_72 : decode cX2_height 72 = .ok (.iaload, 1) := by decide +kernel
theorem dX2_height_73 : decode cX2_height 73 = .ok (.iconst 1, 1) := by decide +kernel
theorem dX2_height_74 : decode cX2_height 74 = .ok (.iadd, 1) := by decide +kernel
theorem dX2_height_75 : decode cX2_height 75 = .ok (.iastore, 1) := by decide +kernel
theorem dX2_height_76 : decode cX2_height 76 = .ok (.iload_n 3, 1) := by decide +kernel
theorem dX2_height_77 : decode cX2_height 77 = .ok (.aload_n 0, 1) := by decide +kernel
theorem dX2_height_78 : decode cX2_height 78 = .ok (.getfield 25, 3) := by decide +kernel
theorem dX2_height_81 : decode cX2_height 81 = .ok (.iload 5, 2) := by decide +kernel
theorem dX2_height_83 : decode cX2_height 83 = .ok (.iaload, 1) := by decide +kernel
theorem dX2_height_84 : decode cX2_height 84 = .ok (.invokestatic 49, 3) := by decide +kernel
theorem dX2_height_87 : decode cX2_height 87 = .ok (.istore_n 3, 1) := by decide +kernel
theorem dX2_height_88 : decode cX2_height 88 = .ok (.iinc 4 1, 3) := by decide +kernel
theorem dX2_height_91 : decode cX2_height 91 = .ok (.goto (-72), 3) := by decide +kernel
theorem dX2_height_94 : decode cX2_height 94 = .ok (.iload_n 3, 1) := by decide +kernel
theorem dX2_height_95 : decode cX2_height 95 = .ok (.ireturn, 1) := by decide +kernel
theorem dX2_rightSpine_0 : decode cX2_rightSpine 0 = .ok (.iconst 0, 1) := by decide +kernel
theorem dX2_rightSpine_1 : decode cX2_rightSpine 1 = .ok (.istore_n 2, 1) := by decide +kernel
theorem dX2_rightSpine_2 : decode cX2_rightSpine 2 = .ok (.aload_n 0, 1) := by decide +kernel
theorem dX2_rightSpine_3 : decode cX2_rightSpine 3 = .ok (.getfield 9, 3) := by decide +kernel
theorem dX2_rightSpine_6 : decode cX2_rightSpine 6 = .ok (.getfield 39, 3) := by decide +kernel
theorem dX2_rightSpine_9 : decode cX2_rightSpine 9 = .ok (.iload_n 1, 1) := by decide +kernel
theorem dX2_rightSpine_10 : decode cX2_rightSpine 10 = .ok (.iaload, 1) := by decide +kernel
theorem dX2_rightSpine_11 : decode cX2_rightSpine 11 = .ok (.istore_n 3, 1) := by decide +kernel
theorem dX2_rightSpine_12 : decode cX2_rightSpine 12 = .ok (.iload_n 3, 1) := by decide +kernel
theorem dX2_rightSpine_13 : decode cX2_rightSpine 13 = .ok (.iconst (-1), 1) := by decide +kernel
theorem dX2_rightSpine_14 : decode cX2_rightSpine 14 = .ok (.if_icmp .eq 26, 3) := by decide +kernel
theorem dX2_rightSpine_17 : decode cX2_rightSpine 17 = .ok (.iload_n 2, 1) := by decide +kernel
theorem dX2_rightSpine_18 : decode cX2_rightSpine 18 = .ok (.sipush 300, 3) := by decide +kernel
theorem dX2_rightSpine_21 : decode cX2_rightSpine 21 = .ok (.if_icmp .ge 19, 3) := by decide +kernel
theorem dX2_rightSpine_24 : decode cX2_rightSpine 24 = .ok (.iinc 2 1, 3) := by decide +kernel
theorem dX2_rightSpine_27 : decode cX2_rightSpine 27 = .ok (.aload_n 0, 1) := by decide +kernel
theorem dX2_rightSpine_28 : decode cX2_rightSpine 28 = .ok (.getfield 9, 3) := by decide +kernel
theorem dX2_rightSpine_31 : decode cX2_rightSpine 31 = .ok (.getfield 31, 3) := by decide +kernel
theorem dX2_rightSpine_34 : decode cX2_rightSpine 34 = .ok (.iload_n 3, 1) := by decide +kernel
theorem dX2_rightSpine_35 : decode cX2_rightSpine 35 = .ok (.iaload, 1) := by decide +kernel
theorem dX2_rightSpine_36 : decode cX2_rightSpine 36 = .ok (.istore_n 3, 1) := by decide +kernel
theorem dX2_rightSpine_37 : decode cX2_rightSpine 37 = .ok (.goto (-25), 3) := by decide +kernel
theorem dX2_rightSpine_40 : decode cX2_rightSpine 40 = .ok (.iload_n 2, 1) := by decide +kernel
theorem dX2_rightSpine_41 : decode cX2_rightSpine 41 = .ok (.ireturn, 1) := by decide +kernel
set_option maxRecDepth 20000 in
theorem ggX2_balanced_X0_rankOf : GoodIn wsX2_balanced wsX0_rankOf := goodIn_r _ [10, 11, 18, 19, 20, 21, 22, 23, 24, 25, 26, 27, 28, 29, 30, 31, 32, 33, 34] (by decide +kernel) (by decide +kernel)
set_option maxRecDepth 20000 in
theorem gX2_balanced_X0_rankOf : GoodIn wsX2_balanced (wsV RX2 62 RX0 yX0_rankOf wsX0_rankOf) := goodIn_app (goodIn_of _ (by decide +kernel)) ggX2_balanced_X0_rankOf
theorem dX2_balanced_0 : decode cX2_balanced 0 = .ok (.iconst 0, 1) := by decide +kernel
theorem dX2_balanced_1 : decode cX2_balanced 1 = .ok (.istore_n 2, 1) := by decide +kernel
theorem dX2_balanced_2 : decode cX2_balanced 2 = .ok (.iconst 0, 1) := by decide +kernel
theorem dX2_balanced_3 : decode cX2_balanced 3 = .ok (.istore_n 3, 1) := by decide +kernel
theorem dX2_balanced_4 : decode cX2_balanced 4 = .ok (.iload_n 3, 1) := by decide +kernel
theorem dX2_balanced_5 : decode cX2_balanced 5 = .ok (.aload_n 0, 1) := by decide +kernel
theorem dX2_balanced_6 : decode cX2_balanced 6 = .ok (.getfield 9, 3) := by decide +kernel
theorem dX2_balanced_9 : decode cX2_balanced 9 = .ok (.getfield 55, 3) := by decide +kernel
theorem dX2_balanced_12 : decode cX2_balanced 12 = .ok (.if_icmp .ge 60, 3) := by decide +kernel
theorem dX2_balanced_15 : decode cX2_balanced 15 = .ok (.aload_n 0, 1) := by decide +kernel
theorem dX2_balanced_16 : decode cX2_balanced 16 = .ok (.getfield 9, 3) := by decide +kernel
theorem dX2_balanced_19 : decode cX2_balanced 19 = .ok (.getfield 59, 3) := by decide +kernel
theorem dX2_balanced_22 : decode cX2_balanced 22 = .ok (.iload_n 3, 1) := by decide +kernel
theorem dX2_balanced_23 : decode cX2_balanced 23 = .ok (.iaload, 1) := by decide +kernel
theorem dX2_balanced_24 : decode cX2_balanced 24 = .ok (.iload_n 1, 1) := by decide +kernel
theorem dX2_balanced_25 : decode cX2_balanced 25 = .ok (.if_icmp .ne 41, 3) := by decide +kernel
theorem dX2_balanced_28 : decode cX2_balanced 28 = .ok (.aload_n 0, 1) := by decide +kernel
theorem dX2_balanced_29 : decode cX2_balanced 29 = .ok (.getfield 9, 3) := by decide +kernel
theorem dX2_balanced_32 : decode cX2_balanced 32 = .ok (.aload_n 0, 1) := by decide +kernel
theorem dX2_balanced_33 : decode cX2_balanced 33 = .ok (.getfield 9, 3) := by decide +kernel
theorem dX2_balanced_36 : decode cX2_balanced 36 = .ok (.getfield 36, 3) := by decide +kernel
theorem dX2_balanced_39 : decode cX2_balanced 39 = .ok (.iload_n 3, 1) := by decide +kernel
theorem dX2_balanced_40 : decode cX2_balanced 40 = .ok (.iaload, 1) := by decide +kernel
theorem dX2_balanced_41 : decode cX2_balanced 41 = .ok (.invokevirtual 62, 3) := by decide +kernel
theorem dX2_balanced_44 : decode cX2_balanced 44 = .ok (.aload_n 0, 1) := by decide +kernel
theorem dX2_balanced_45 : decode cX2_balanced 45 = .ok (.getfield 9, 3) := by decide +kernel
theorem dX2_balanced_48 : decode cX2_balanced 48 = .ok (.aload_n 0, 1) := by decide +kernel
theorem dX2_balanced_49 : decode cX2_balanced 49 = .ok (.getfield 9, 3) := by decide +kernel
theorem dX2_balanced_52 : decode cX2_balanced 52 = .ok (.getfield 31, 3) := by decide +kernel
theorem dX2_balanced_55 : decode cX2_balanced 55 = .ok (.iload_n 3, 1) := by decide +kernel
theorem dX2_balanced_56 : decode cX2_balanced 56 = .ok (.iaload, 1) := by decide +kernel
theorem dX2_balanced_57 : decode cX2_balanced 57 = .ok (.invokevirtual 62, 3) := by decide +kernel
theorem dX2_balanced_60 : decode cX2_balanced 60 = .ok (.if_icmp .ne 6, 3) := by decide +kernel
theorem dX2_balanced_63 : decode cX2_balanced 63 = .ok (.iinc 2 1, 3) := by decide +kernel
theorem dX2_balanced_66 : decode cX2_balanced 66 = .ok (.iinc 3 1, 3) := by decide +kernel
theorem dX2_balanced_69 : decode cX2_balanced 69 = .ok (.goto (-65), 3) := by decide +kernel
theorem dX2_balanced_72 : decode cX2_balanced 72 = .ok (.iload_n 2, 1) := by decide +kernel
theorem dX2_balanced_73 : decode cX2_balanced 73 = .ok (.ireturn, 1) := by decide +kernel
theorem dX2_leaves_0 : decode cX2_leaves 0 = .ok (.iconst 0, 1) := by decide +kernel
theorem dX2_leaves_1 : decode cX2_leaves 1 = .ok (.istore_n 2, 1) := by decide +kernel
theorem dX2_leaves_2 : decode cX2_leaves 2 = .ok (.iconst 0, 1) := by decide +kernel
theorem dX2_leaves_3 : decode cX2_leaves 3 = .ok (.istore_n 3, 1) := by decide +kernel
theorem dX2_leaves_4 : decode cX2_leaves 4 = .ok (.iload_n 3, 1) := by decide +kernel
theorem dX2_leaves_5 : decode cX2_leaves 5 = .ok (.aload_n 0, 1) := by decide +kernel
theorem dX2_leaves_6 : decode cX2_leaves 6 = .ok (.getfield 9, 3) := by decide +kernel
theorem dX2_leaves_9 : decode cX2_leaves 9 = .ok (.getfield 55, 3) := by decide +kernel
theorem dX2_leaves_12 : decode cX2_leaves 12 = .ok (.if_icmp .ge 51, 3) := by decide +kernel
theorem dX2_leaves_15 : decode cX2_leaves 15 = .ok (.aload_n 0, 1) := by decide +kernel
theorem dX2_leaves_16 : decode cX2_leaves 16 = .ok (.getfield 9, 3) := by decide +kernel
theorem dX2_leaves_19 : decode cX2_leaves 19 = .ok (.getfield 59, 3) := by decide +kernel
theorem dX2_leaves_22 : decode cX2_leaves 22 = .ok (.iload_n 3, 1) := by decide +kernel
theorem dX2_leaves_23 : decode cX2_leaves 23 = .ok (.iaload, 1) := by decide +kernel
theorem dX2_leaves_24 : decode cX2_leaves 24 = .ok (.iload_n 1, 1) := by decide +kernel
theorem dX2_leaves_25 : decode cX2_leaves 25 = .ok (.if_icmp .ne 32, 3) := by decide +kernel
theorem dX2_leaves_28 : decode cX2_leaves 28 = .ok (.aload_n 0, 1) := by decide +kernel
theorem dX2_leaves_29 : decode cX2_leaves 29 = .ok (.getfield 9, 3) := by decide +kernel
theorem dX2_leaves_32 : decode cX2_leaves 32 = .ok (.getfield 36, 3) := by decide +kernel
theorem dX2_leaves_35 : decode cX2_leaves 35 = .ok (.iload_n 3, 1) := by decide +kernel
theorem dX2_leaves_36 : decode cX2_leaves 36 = .ok (.iaload, 1) := by decide +kernel
theorem dX2_leaves_37 : decode cX2_leaves 37 = .ok (.iconst (-1), 1) := by decide +kernel
theorem dX2_leaves_38 : decode cX2_leaves 38 = .ok (.if_icmp .ne 19, 3) := by decide +kernel
theorem dX2_leaves_41 : decode cX2_leaves 41 = .ok (.aload_n 0, 1) := by decide +kernel
theorem dX2_leaves_42 : decode cX2_leaves 42 = .ok (.getfield 9, 3) := by decide +kernel
theorem dX2_leaves_45 : decode cX2_leaves 45 = .ok (.getfield 31, 3) := by decide +kernel
theorem dX2_leaves_48 : decode cX2_leaves 48 = .ok (.iload_n 3, 1) := by decide +kernel
theorem dX2_leaves_49 : decode cX2_leaves 49 = .ok (.iaload, 1) := by decide +kernel
theorem dX2_leaves_50 : decode cX2_leaves 50 = .ok (.iconst (-1), 1) := by decide +kernel
theorem dX2_leaves_51 : decode cX2_leaves 51 = .ok (.if_icmp .ne 6, 3) := by decide +kernel
theorem dX2_leaves_54 : decode cX2_leaves 54 = .ok (.iinc 2 1, 3) := by decide +kernel
theorem dX2_leaves_57 : decode cX2_leaves 57 = .ok (.iinc 3 1, 3) := by decide +kernel
theorem dX2_leaves_60 : decode cX2_leaves 60 = .ok (.goto (-56), 3) := by decide +kernel
theorem dX2_leaves_63 : decode cX2_leaves 63 = .ok (.iload_n 2, 1) := by decide +kernel
theorem dX2_leaves_64 : decode cX2_leaves 64 = .ok (.ireturn, 1) := by decide +kernel
set_option maxRecDepth 20000 in
theorem ggX2_rightHeavy_X2_walk : GoodIn wsX2_rightHeavy wsX2_walk := goodIn_r _ [11, 12, 3, 1, 6, 4, 13, 14, 15, 16, 17, 18, 19, 20, 21, 22, 23, 24, 25, 26, 27, 28, 29, 30, 31, 32, 33, 34, 35] (by decide +kernel) (by decide +kernel)
set_option maxRecDepth 20000 in
theorem gX2_rightHeavy_X2_walk : GoodIn wsX2_rightHeavy (wsV RX2 42 RX2 yX2_walk wsX2_walk) := goodIn_app (goodIn_of _ (by decide +kernel)) ggX2_rightHeavy_X2_walk
theorem dX2_rightHeavy_0 : decode cX2_rightHeavy 0 = .ok (.aload_n 0, 1) := by decide +kernel
theorem dX2_rightHeavy_1 : decode cX2_rightHeavy 1 = .ok (.aload_n 0, 1) := by decide +kernel
theorem dX2_rightHeavy_2 : decode cX2_rightHeavy 2 = .ok (.getfield 9, 3) := by decide +kernel
theorem dX2_rightHeavy_5 : decode cX2_rightHeavy 5 = .ok (.getfield 39, 3) := by decide +kernel
theorem dX2_rightHeavy_8 : decode cX2_rightHeavy 8 = .ok (.iload_n 1, 1) := by decide +kernel
theorem dX2_rightHeavy_9 : decode cX2_rightHeavy 9 = .ok (.iaload, 1) := by decide +kernel
theorem dX2_rightHeavy_10 : decode cX2_rightHeavy 10 = .ok (.invokevirtual 42, 3) := by decide +kernel
theorem dX2_rightHeavy_13 : decode cX2_rightHeavy 13 = .ok (.istore_n 2, 1) := by decide +kernel
theorem dX2_rightHeavy_14 : decode cX2_rightHeavy 14 = .ok (.iconst 0, 1) := by decide +kernel
theorem dX2_rightHeavy_15 : decode cX2_rightHeavy 15 = .ok (.istore_n 3, 1) := by decide +kernel
theorem dX2_rightHeavy_16 : decode cX2_rightHeavy 16 = .ok (.iload_n 2, 1) := by decide +kernel
theorem dX2_rightHeavy_17 : decode cX2_rightHeavy 17 = .ok (.iconst 1, 1) := by decide +kernel
theorem dX2_rightHeavy_18 : decode cX2_rightHeavy 18 = .ok (.isub, 1) := by decide +kernel
theorem dX2_rightHeavy_19 : decode cX2_rightHeavy 19 = .ok (.istore 4, 2) := by decide +kernel
theorem dX2_rightHeavy_21 : decode cX2_rightHeavy 21 = .ok (.iload 4, 2) := by decide +kernel
theorem dX2_rightHeavy_23 : decode cX2_rightHeavy 23 = .ok (.ifCond .lt 117, 3) := by decide +kernel
theorem dX2_rightHeavy_26 : decode cX2_rightHeavy 26 = .ok (.aload_n 0, 1) := by decide +kernel
theorem dX2_rightHeavy_27 : decode cX2_rightHeavy 27 = .ok (.getfield 15, 3) := by decide +kernel
theorem dX2_rightHeavy_30 : decode cX2_rightHeavy 30 = .ok (.iload 4, 2) := by decide +kernel
theorem dX2_rightHeavy_32 : decode cX2_rightHeavy 32 = .ok (.iaload, 1) := by decide +kernel
theorem dX2_rightHeavy_33 : decode cX2_rightHeavy 33 = .ok (.istore 5, 2) := by decide +kernel
theorem dX2_rightHeavy_35 : decode cX2_rightHeavy 35 = .ok (.aload_n 0, 1) := by decide +kernel
theorem dX2_rightHeavy_36 : decode cX2_rightHeavy 36 = .ok (.getfield 9, 3) := by decide +kernel
theorem dX2_rightHeavy_39 : decode cX2_rightHeavy 39 = .ok (.getfield 36, 3) := by decide +kernel
theorem dX2_rightHeavy_42 : decode cX2_rightHeavy 42 = .ok (.iload 5, 2) := by decide +kernel
theorem dX2_rightHeavy_44 : decode cX2_rightHeavy 44 = .ok (.iaload, 1) := by decide +kernel
theorem dX2_rightHeavy_45 : decode cX2_rightHeavy 45 = .ok (.iconst (-1), 1) := by decide +kernel
theorem dX2_rightHeavy_46 : decode cX2_rightHeavy 46 = .ok (.if_icmp .ne 7, 3) := by decide +kernel
theorem dX2_rightHeavy_49 : decode cX2_rightHeavy 49 = .ok (.iconst 0, 1) := by decide +kernel
theorem dX2_rightHeavy_50 : decode cX2_rightHeavy 50 = .ok (.goto 18, 3) := by decide +kernel
theorem dX2_rightHeavy_53 : decode cX2_rightHeavy 53 = .ok (.aload_n 0, 1) := by decide +kernel
theorem dX2_rightHeavy_54 : decode cX2_rightHeavy 54 = .ok (.getfield 25, 3) := by decide +kernel
theorem dX2_rightHeavy_57 : decode cX2_rightHeavy 57 = .ok (.aload_n 0, 1) := by decide +kernel
theorem dX2_rightHeavy_58 : decode cX2_rightHeavy 58 = .ok (.getfield 9, 3) := by decide +kernel
theorem dX2_rightHeavy_61 : decode cX2_rightHeavy 61 = .ok (.getfield 36, 3) := by decide +kernel
theorem dX2_rightHeavy_64 : decode cX2_rightHeavy 64 = .ok (.iload 5, 2) := by decide +kernel
theorem dX2_rightHeavy_66 : decode cX2_rightHeavy 66 = .ok (.iaload, 1) := by decide +kernel
theorem dX2_rightHeavy_67 : decode cX2_rightHeavy 67 = .ok (.iaload, 1) := by decide +kernel
theorem dX2_rightHeavy_68 : decode cX2_rightHeavy 68 = .ok (.istore 6, 2) := by decide +kernel
theorem dX2_rightHeavy_70 : decode cX2_rightHeavy 70 = .ok (.aload_n 0, 1) := by decide +kernel
theorem dX2_rightHeavy_71 : decode cX2_rightHeavy 71 = .ok (.getfield 9, 3) := by decide +kernel
theorem dX2_rightHeavy_74 : decode cX2_rightHeavy 74 = .ok (.getfield 31, 3) := by decide +kernel
theorem dX2_rightHeavy_77 : decode cX2_rightHeavy 77 = .ok (.iload 5, 2) := by decide +kernel
theorem dX2_rightHeavy_79 : decode cX2_rightHeavy 79 = .ok (.iaload, 1) := by decide +kernel
theorem dX2_rightHeavy_80 : decode cX2_rightHeavy 80 = .ok (.iconst (-1), 1) := by decide +kernel
theorem dX2_rightHeavy_81 : decode cX2_rightHeavy 81 = .ok (.if_icmp .ne 7, 3) := by decide +kernel
theorem dX2_rightHeavy_84 : decode cX2_rightHeavy 84 = .ok (.iconst 0, 1) := by decide +kernel
theorem dX2_rightHeavy_85 : decode cX2_rightHeavy 85 = .ok (.goto 18, 3) := by decide +kernel
theorem dX2_rightHeavy_88 : decode cX2_rightHeavy 88 = .ok (.aload_n 0, 1) := by decide +kernel
theorem dX2_rightHeavy_89 : decode cX2_rightHeavy 89 = .ok (.getfield 25, 3) := by decide +kernel
theorem dX2_rightHeavy_92 : decode cX2_rightHeavy 92 = .ok (.aload_n 0, 1) := by decide +kernel
theorem dX2_rightHeavy_93 : decode cX2_rightHeavy 93 = .ok (.getfield 9, 3) := by decide +kernel
theorem dX2_rightHeavy_96 : decode cX2_rightHeavy 96 = .ok (.getfield 31, 3) := by decide +kernel
theorem dX2_rightHeavy_99 : decode cX2_rightHeavy 99 = .ok (.iload 5, 2) := by decide +kernel
theorem dX2_rightHeavy_101 : decode cX2_rightHeavy 101 = .ok (.iaload, 1) := by decide +kernel
theorem dX2_rightHeavy_102 : decode cX2_rightHeavy 102 = .ok (.iaload, 1) := by decide +kernel
theorem dX2_rightHeavy_103 : decode cX2_rightHeavy 103 = .ok (.istore 7, 2) := by decide +kernel
theorem dX2_rightHeavy_105 : decode cX2_rightHeavy 105 = .ok (.aload_n 0, 1) := by decide +kernel
theorem dX2_rightHeavy_106 : decode cX2_rightHeavy 106 = .ok (.getfield 25, 3) := by decide +kernel
theorem dX2_rightHeavy_109 : decode cX2_rightHeavy 109 = .ok (.iload 5, 2) := by decide +kernel
theorem dX2_rightHeavy_111 : decode cX2_rightHeavy 111 = .ok (.iconst 1, 1) := by decide +kernel
theorem dX2_rightHeavy_112 : decode cX2_rightHeavy 112 = .ok (.iload 6, 2) := by decide +kernel
theorem dX2_rightHeavy_114 : decode cX2_rightHeavy 114 = .ok (.iadd, 1) := by decide +kernel
theorem dX2_rightHeavy_115 : decode cX2_rightHeavy 115 = .ok (.iload 7, 2) := by decide +kernel
theorem dX2_rightHeavy_117 : decode cX2_rightHeavy 117 = .ok (.iadd, 1) := by decide +kernel
theorem dX2_rightHeavy_118 : decode cX2_rightHeavy 118 = .ok (.iastore, 1) := by decide +kernel
theorem dX2_rightHeavy_119 : decode cX2_rightHeavy 119 = .ok (.iload_n 3, 1) := by decide +kernel
theorem dX2_rightHeavy_120 : decode cX2_rightHeavy 120 = .ok (.iload 7, 2) := by decide +kernel
theorem dX2_rightHeavy_122 : decode cX2_rightHeavy 122 = .ok (.iload 6, 2) := by decide +kernel
theorem dX2_rightHeavy_124 : decode cX2_rightHeavy 124 = .ok (.if_icmp .le 7, 3) := by decide +kernel
theorem dX2_rightHeavy_127 : decode cX2_rightHeavy 127 = .ok (.iconst 1, 1) := by decide +kernel
theorem dX2_rightHeavy_128 : decode cX2_rightHeavy 128 = .ok (.goto 4, 3) := by decide +kernel
theorem dX2_rightHeavy_131 : decode cX2_rightHeavy 131 = .ok (.iconst 0, 1) := by decide +kernel
theorem dX2_rightHeavy_132 : decode cX2_rightHeavy 132 = .ok (.iadd, 1) := by decide +kernel
theorem dX2_rightHeavy_133 : decode cX2_rightHeavy 133 = .ok (.istore_n 3, 1) := by decide +kernel
theorem dX2_rightHeavy_134 : decode cX2_rightHeavy 134 = .ok (.iinc 4 (-1), 3) := by decide +kernel
theorem dX2_rightHeavy_137 : decode cX2_rightHeavy 137 = .ok (.goto (-116), 3) := by decide +kernel
theorem dX2_rightHeavy_140 : decode cX2_rightHeavy 140 = .ok (.iload_n 3, 1) := by decide +kernel
theorem dX2_rightHeavy_141 : decode cX2_rightHeavy 141 = .ok (.ireturn, 1) := by decide +kernel
set_option maxRecDepth 20000 in
theorem ggX2_sort_X0_isLess : GoodIn wsX2_sort wsX0_isLess := goodIn_r _ [6, 7, 14, 15, 16, 17, 18, 19, 20, 21, 22, 23, 24, 25, 26, 27, 28, 29, 30] (by decide +kernel) (by decide +kernel)
set_option maxRecDepth 20000 in
theorem gX2_sort_X0_isLess : GoodIn wsX2_sort (wsV RX2 65 RX0 yX0_isLess wsX0_isLess) := goodIn_app (goodIn_of _ (by decide +kernel)) ggX2_sort_X0_isLess
theorem dX2_sort_0 : decode cX2_sort 0 = .ok (.iload_n 2, 1) := by decide +kernel
theorem dX2_sort_1 : decode cX2_sort 1 = .ok (.iconst 2, 1) := by decide +kernel
theorem dX2_sort_2 : decode cX2_sort 2 = .ok (.idiv, 1) := by decide +kernel
theorem dX2_sort_3 : decode cX2_sort 3 = .ok (.istore_n 3, 1) := by decide +kernel
theorem dX2_sort_4 : decode cX2_sort 4 = .ok (.iload_n 3, 1) := by decide +kernel
theorem dX2_sort_5 : decode cX2_sort 5 = .ok (.ifCond .le 84, 3) := by decide +kernel
theorem dX2_sort_8 : decode cX2_sort 8 = .ok (.iload_n 3, 1) := by decide +kernel
theorem dX2_sort_9 : decode cX2_sort 9 = .ok (.istore 4, 2) := by decide +kernel
theorem dX2_sort_11 : decode cX2_sort 11 = .ok (.iload 4, 2) := by decide +kernel
theorem dX2_sort_13 : decode cX2_sort 13 = .ok (.iload_n 2, 1) := by decide +kernel
theorem dX2_sort_14 : decode cX2_sort 14 = .ok (.if_icmp .ge 68, 3) := by decide +kernel
theorem dX2_sort_17 : decode cX2_sort 17 = .ok (.aload_n 1, 1) := by decide +kernel
theorem dX2_sort_18 : decode cX2_sort 18 = .ok (.iload 4, 2) := by decide +kernel
theorem dX2_sort_20 : decode cX2_sort 20 = .ok (.iaload, 1) := by decide +kernel
theorem dX2_sort_21 : decode cX2_sort 21 = .ok (.istore 5, 2) := by decide +kernel
theorem dX2_sort_23 : decode cX2_sort 23 = .ok (.iload 4, 2) := by decide +kernel
theorem dX2_sort_25 : decode cX2_sort 25 = .ok (.istore 6, 2) := by decide +kernel
theorem dX2_sort_27 : decode cX2_sort 27 = .ok (.iload 6, 2) := by decide +kernel
theorem dX2_sort_29 : decode cX2_sort 29 = .ok (.iload_n 3, 1) := by decide +kernel
theorem dX2_sort_30 : decode cX2_sort 30 = .ok (.if_icmp .lt 40, 3) := by decide +kernel
theorem dX2_sort_33 : decode cX2_sort 33 = .ok (.aload_n 0, 1) := by decide +kernel
theorem dX2_sort_34 : decode cX2_sort 34 = .ok (.getfield 9, 3) := by decide +kernel
theorem dX2_sort_37 : decode cX2_sort 37 = .ok (.iload 5, 2) := by decide +kernel
theorem dX2_sort_39 : decode cX2_sort 39 = .ok (.aload_n 1, 1) := by decide +kernel
theorem dX2_sort_40 : decode cX2_sort 40 = .ok (.iload 6, 2) := by decide +kernel
theorem dX2_sort_42 : decode cX2_sort 42 = .ok (.iload_n 3, 1) := by decide +kernel
theorem dX2_sort_43 : decode cX2_sort 43 = .ok (.isub, 1) := by decide +kernel
theorem dX2_sort_44 : decode cX2_sort 44 = .ok (.iaload, 1) := by decide +kernel
theorem dX2_sort_45 : decode cX2_sort 45 = .ok (.invokevirtual 65, 3) := by decide +kernel
theorem dX2_sort_48 : decode cX2_sort 48 = .ok (.ifCond .eq 22, 3) := by decide +kernel
theorem dX2_sort_51 : decode cX2_sort 51 = .ok (.aload_n 1, 1) := by decide +kernel
theorem dX2_sort_52 : decode cX2_sort 52 = .ok (.iload 6, 2) := by decide +kernel
theorem dX2_sort_54 : decode cX2_sort 54 = .ok (.aload_n 1, 1) := by decide +kernel
theorem dX2_sort_55 : decode cX2_sort 55 = .ok (.iload 6, 2) := by decide +kernel
theorem dX2_sort_57 : decode cX2_sort 57 = .ok (.iload_n 3, 1) := by decide +kernel
theorem dX2_sort_58 : decode cX2_sort 58 = .ok (.isub, 1) := by decide +kernel
theorem dX2_sort_59 : decode cX2_sort 59 = .ok (.iaload, 1) := by decide +kernel
theorem dX2_sort_60 : decode cX2_sort 60 = .ok (.iastore, 1) := by decide +kernel
theorem dX2_sort_61 : decode cX2_sort 61 = .ok (.iload 6, 2) := by decide +kernel
theorem dX2_sort_63 : decode cX2_sort 63 = .ok (.iload_n 3, 1) := by decide +kernel
theorem dX2_sort_64 : decode cX2_sort 64 = .ok (.isub, 1) := by decide +kernel
theorem dX2_sort_65 : decode cX2_sort 65 = .ok (.istore 6, 2) := by decide +kernel
theorem dX2_sort_67 : decode cX2_sort 67 = .ok (.goto (-40), 3) := by decide +kernel
theorem dX2_sort_70 : decode cX2_sort 70 = .ok (.aload_n 1, 1) := by decide +kernel
theorem dX2_sort_71 : decode cX2_sort 71 = .ok (.iload 6, 2) := by decide +kernel
theorem dX2_sort_73 : decode cX2_sort 73 = .ok (.iload 5, 2) := by decide +kernel
theorem dX2_sort_75 : decode cX2_sort 75 = .ok (.iastore, 1) := by decide +kernel
theorem dX2_sort_76 : decode cX2_sort 76 = .ok (.iinc 4 1, 3) := by decide +kernel
theorem dX2_sort_79 : decode cX2_sort 79 = .ok (.goto (-68), 3) := by decide +kernel
theorem dX2_sort_82 : decode cX2_sort 82 = .ok (.iload_n 3, 1) := by decide +kernel
theorem dX2_sort_83 : decode cX2_sort 83 = .ok (.iconst 2, 1) := by decide +kernel
theorem dX2_sort_84 : decode cX2_sort 84 = .ok (.idiv, 1) := by decide +kernel
theorem dX2_sort_85 : decode cX2_sort 85 = .ok (.istore_n 3, 1) := by decide +kernel
theorem dX2_sort_86 : decode cX2_sort 86 = .ok (.goto (-82), 3) := by decide +kernel
theorem dX2_sort_89 : decode cX2_sort 89 = .ok (.return_, 1) := by decide +kernel
set_option maxRecDepth 20000 in
theorem ggX2_sortInto_X0_isPlainIn : GoodIn wsX2_sortInto wsX0_isPlainIn := goodIn_r _ [7, 8, 9, 26, 27, 28, 29, 30, 31, 32, 33, 34, 35, 36, 37, 38, 39, 40, 41, 42] (by decide +kernel) (by decide +kernel)
set_option maxRecDepth 20000 in
theorem gX2_sortInto_X0_isPlainIn : GoodIn wsX2_sortInto (wsV RX2 69 RX0 yX0_isPlainIn wsX0_isPlainIn) := goodIn_app (goodIn_of _ (by decide +kernel)) ggX2_sortInto_X0_isPlainIn
set_option maxRecDepth 20000 in
theorem ggX2_sortInto_X2_sort : GoodIn wsX2_sortInto wsX2_sort := goodIn_r _ [14, 1, 15, 16, 17, 6, 18, 19, 20, 21, 22, 23, 24, 25, 26, 27, 28, 29, 30, 31, 32, 33, 34, 35, 36, 37, 38, 39, 40, 41, 42] (by decide +kernel) (by decide +kernel)
set_option maxRecDepth 20000 in
theorem gX2_sortInto_X2_sort : GoodIn wsX2_sortInto (wsV RX2 72 RX2 yX2_sort wsX2_sort) := goodIn_app (goodIn_of _ (by decide +kernel)) ggX2_sortInto_X2_sort
theorem dX2_sortInto_0 : decode cX2_sortInto 0 = .ok (.iconst 0, 1) := by decide +kernel
theorem dX2_sortInto_1 : decode cX2_sortInto 1 = .ok (.istore_n 3, 1) := by decide +kernel
theorem dX2_sortInto_2 : decode cX2_sortInto 2 = .ok (.iconst 0, 1) := by decide +kernel
theorem dX2_sortInto_3 : decode cX2_sortInto 3 = .ok (.istore 4, 2) := by decide +kernel
theorem dX2_sortInto_5 : decode cX2_sortInto 5 = .ok (.iload 4, 2) := by decide +kernel
theorem dX2_sortInto_7 : decode cX2_sortInto 7 = .ok (.aload_n 0, 1) := by decide +kernel
theorem dX2_sortInto_8 : decode cX2_sortInto 8 = .ok (.getfield 9, 3) := by decide +kernel
theorem dX2_sortInto_11 : decode cX2_sortInto 11 = .ok (.getfield 55, 3) := by decide +kernel
theorem dX2_sortInto_14 : decode cX2_sortInto 14 = .ok (.if_icmp .ge 30, 3) := by decide +kernel
theorem dX2_sortInto_17 : decode cX2_sortInto 17 = .ok (.aload_n 0, 1) := by decide +kernel
theorem dX2_sortInto_18 : decode cX2_sortInto 18 = .ok (.getfield 9, 3) := by decide +kernel
theorem dX2_sortInto_21 : decode cX2_sortInto 21 = .ok (.iload 4, 2) := by decide +kernel
theorem dX2_sortInto_23 : decode cX2_sortInto 23 = .ok (.iload_n 2, 1) := by decide +kernel
theorem dX2_sortInto_24 : decode cX2_sortInto 24 = .ok (.invokevirtual 69, 3) := by decide +kernel
theorem dX2_sortInto_27 : decode cX2_sortInto 27 = .ok (.ifCond .eq 11, 3) := by decide +kernel
theorem dX2_sortInto_30 : decode cX2_sortInto 30 = .ok (.aload_n 1, 1) := by decide +kernel
theorem dX2_sortInto_31 : decode cX2_sortInto 31 = .ok (.iload_n 3, 1) := by decide +kernel
theorem dX2_sortInto_32 : decode cX2_sortInto 32 = .ok (.iinc 3 1, 3) := by decide +kernel
theorem dX2_sortInto_35 : decode cX2_sortInto 35 = .ok (.iload 4, 2) := by decide +kernel
theorem dX2_sortInto_37 : decode cX2_sortInto 37 = .ok (.iastore, 1) := by decide +kernel
theorem dX2_sortInto_38 : decode cX2_sortInto 38 = .ok (.iinc 4 1, 3) := by decide +kernel
theorem dX2_sortInto_41 : decode cX2_sortInto 41 = .ok (.goto (-36), 3) := by decide +kernel
theorem dX2_sortInto_44 : decode cX2_sortInto 44 = .ok (.aload_n 0, 1) := by decide +kernel
theorem dX2_sortInto_45 : decode cX2_sortInto 45 = .ok (.aload_n 1, 1) := by decide +kernel
theorem dX2_sortInto_46 : decode cX2_sortInto 46 = .ok (.iload_n 3, 1) := by decide +kernel
theorem dX2_sortInto_47 : decode cX2_sortInto 47 = .ok (.invokevirtual 72, 3) := by decide +kernel
theorem dX2_sortInto_50 : decode cX2_sortInto 50 = .ok (.iload_n 3, 1) := by decide +kernel
theorem dX2_sortInto_51 : decode cX2_sortInto 51 = .ok (.ireturn, 1) := by decide +kernel
set_option maxRecDepth 20000 in
theorem ggX2_sortPlain_X2_sortInto : GoodIn wsX2_sortPlain wsX2_sortInto := goodIn_r _ [6, 7, 8, 9, 10, 11, 12, 13, 14, 15, 16, 17, 18, 5, 19, 20, 21, 22, 23, 24, 25, 26, 27, 28, 29, 30, 31, 32, 33, 34, 35, 36, 37, 38, 39, 40, 41, 42, 43, 44, 45, 46, 47] (by decide +kernel) (by decide +kernel)
set_option maxRecDepth 20000 in
theorem gX2_sortPlain_X2_sortInto : GoodIn wsX2_sortPlain (wsV RX2 76 RX2 yX2_sortInto wsX2_sortInto) := goodIn_app (goodIn_of _ (by decide +kernel)) ggX2_sortPlain_X2_sortInto
theorem dX2_sortPlain_0 : decode cX2_sortPlain 0 = .ok (.aload_n 0, 1) := by decide +kernel
theorem dX2_sortPlain_1 : decode cX2_sortPlain 1 = .ok (.aload_n 0, 1) := by decide +kernel
theorem dX2_sortPlain_2 : decode cX2_sortPlain 2 = .ok (.getfield 15, 3) := by decide +kernel
theorem dX2_sortPlain_5 : decode cX2_sortPlain 5 = .ok (.iload_n 1, 1) := by decide +kernel
theorem dX2_sortPlain_6 : decode cX2_sortPlain 6 = .ok (.invokevirtual 76, 3) := by decide +kernel
theorem dX2_sortPlain_9 : decode cX2_sortPlain 9 = .ok (.ireturn, 1) := by decide +kernel
set_option maxRecDepth 20000 in
theorem ggX2_sumOfKeys_X0_isPlainIn : GoodIn wsX2_sumOfKeys wsX0_isPlainIn := goodIn_r _ [8, 9, 10, 17, 18, 19, 20, 21, 22, 23, 24, 25, 26, 27, 28, 29, 30, 31, 32, 33] (by decide +kernel) (by decide +kernel)
set_option maxRecDepth 20000 in
theorem gX2_sumOfKeys_X0_isPlainIn : GoodIn wsX2_sumOfKeys (wsV RX2 69 RX0 yX0_isPlainIn wsX0_isPlainIn) := goodIn_app (goodIn_of _ (by decide +kernel)) ggX2_sumOfKeys_X0_isPlainIn
theorem dX2_sumOfKeys_0 : decode cX2_sumOfKeys 0 = .ok (.lconst 0, 1) := by decide +kernel
theorem dX2_sumOfKeys_1 : decode cX2_sumOfKeys 1 = .ok (.lstore_n 2, 1) := by decide +kernel
theorem dX2_sumOfKeys_2 : decode cX2_sumOfKeys 2 = .ok (.iconst 0, 1) := by decide +kernel
theorem dX2_sumOfKeys_3 : decode cX2_sumOfKeys 3 = .ok (.istore 4, 2) := by decide +kernel
theorem dX2_sumOfKeys_5 : decode cX2_sumOfKeys 5 = .ok (.iload 4, 2) := by decide +kernel
theorem dX2_sumOfKeys_7 : decode cX2_sumOfKeys 7 = .ok (.aload_n 0, 1) := by decide +kernel
theorem dX2_sumOfKeys_8 : decode cX2_sumOfKeys 8 = .ok (.getfield 9, 3) := by decide +kernel
theorem dX2_sumOfKeys_11 : decode cX2_sumOfKeys 11 = .ok (.getfield 55, 3) := by decide +kernel
theorem dX2_sumOfKeys_14 : decode cX2_sumOfKeys 14 = .ok (.if_icmp .ge 39, 3) := by decide +kernel
theorem dX2_sumOfKeys_17 : decode cX2_sumOfKeys 17 = .ok (.lload_n 2, 1) := by decide +kernel
theorem dX2_sumOfKeys_18 : decode cX2_sumOfKeys 18 = .ok (.aload_n 0, 1) := by decide +kernel
theorem dX2_sumOfKeys_19 : decode cX2_sumOfKeys 19 = .ok (.getfield 9, 3) := by decide +kernel
theorem dX2_sumOfKeys_22 : decode cX2_sumOfKeys 22 = .ok (.iload 4, 2) := by decide +kernel
theorem dX2_sumOfKeys_24 : decode cX2_sumOfKeys 24 = .ok (.iload_n 1, 1) := by decide +kernel
theorem dX2_sumOfKeys_25 : decode cX2_sumOfKeys 25 = .ok (.invokevirtual 69, 3) := by decide +kernel
theorem dX2_sumOfKeys_28 : decode cX2_sumOfKeys 28 = .ok (.ifCond .eq 16, 3) := by decide +kernel
theorem dX2_sumOfKeys_31 : decode cX2_sumOfKeys 31 = .ok (.aload_n 0, 1) := by decide +kernel
theorem dX2_sumOfKeys_32 : decode cX2_sumOfKeys 32 = .ok (.getfield 9, 3) := by decide +kernel
theorem dX2_sumOfKeys_35 : decode cX2_sumOfKeys 35 = .ok (.getfield 80, 3) := by decide +kernel
theorem dX2_sumOfKeys_38 : decode cX2_sumOfKeys 38 = .ok (.iload 4, 2) := by decide +kernel
theorem dX2_sumOfKeys_40 : decode cX2_sumOfKeys 40 = .ok (.laload, 1) := by decide +kernel
theorem dX2_sumOfKeys_41 : decode cX2_sumOfKeys 41 = .ok (.goto 4, 3) := by decide +kernel
theorem dX2_sumOfKeys_44 : decode cX2_sumOfKeys 44 = .ok (.lconst 0, 1) := by decide +kernel
theorem dX2_sumOfKeys_45 : decode cX2_sumOfKeys 45 = .ok (.ladd, 1) := by decide +kernel
theorem dX2_sumOfKeys_46 : decode cX2_sumOfKeys 46 = .ok (.lstore_n 2, 1) := by decide +kernel
theorem dX2_sumOfKeys_47 : decode cX2_sumOfKeys 47 = .ok (.iinc 4 1, 3) := by decide +kernel
theorem dX2_sumOfKeys_50 : decode cX2_sumOfKeys 50 = .ok (.goto (-45), 3) := by decide +kernel
theorem dX2_sumOfKeys_53 : decode cX2_sumOfKeys 53 = .ok (.lload_n 2, 1) := by decide +kernel
theorem dX2_sumOfKeys_54 : decode cX2_sumOfKeys 54 = .ok (.lreturn, 1) := by decide +kernel
set_option maxRecDepth 20000 in
theorem ggX2_greatestKey_X2_sortPlain : GoodIn wsX2_greatestKey wsX2_sortPlain := goodIn_r _ [9, 3, 10, 11, 12, 8, 13, 1, 14, 15, 16, 17, 18, 19, 20, 21, 22, 23, 24, 25, 26, 27, 28, 29, 30, 31, 32, 33, 34, 35, 36, 37, 38, 39, 40, 41, 42, 43, 44, 45, 46, 47, 48, 49, 50, 51, 52, 53] (by decide +kernel) (by decide +kernel)
set_option maxRecDepth 20000 in
theorem gX2_greatestKey_X2_sortPlain : GoodIn wsX2_greatestKey (wsV RX2 84 RX2 yX2_sortPlain wsX2_sortPlain) := goodIn_app (goodIn_of _ (by decide +kernel)) ggX2_greatestKey_X2_sortPlain
theorem dX2_greatestKey_0 : decode cX2_greatestKey 0 = .ok (.aload_n 0, 1) := by decide +kernel
theorem dX2_greatestKey_1 : decode cX2_greatestKey 1 = .ok (.iload_n 1, 1) := by decide +kernel
theorem dX2_greatestKey_2 : decode cX2_greatestKey 2 = .ok (.invokevirtual 84, 3) := by decide +kernel
theorem dX2_greatestKey_5 : decode cX2_greatestKey 5 = .ok (.istore_n 2, 1) := by decide +kernel
theorem dX2_greatestKey_6 : decode cX2_greatestKey 6 = .ok (.iload_n 2, 1) := by decide +kernel
theorem dX2_greatestKey_7 : decode cX2_greatestKey 7 = .ok (.ifCond .le 22, 3) := by decide +kernel
theorem dX2_greatestKey_10 : decode cX2_greatestKey 10 = .ok (.aload_n 0, 1) := by decide +kernel
theorem dX2_greatestKey_11 : decode cX2_greatestKey 11 = .ok (.getfield 9, 3) := by decide +kernel
theorem dX2_greatestKey_14 : decode cX2_greatestKey 14 = .ok (.getfield 80, 3) := by decide +kernel
theorem dX2_greatestKey_17 : decode cX2_greatestKey 17 = .ok (.aload_n 0, 1) := by decide +kernel
theorem dX2_greatestKey_18 : decode cX2_greatestKey 18 = .ok (.getfield 15, 3) := by decide +kernel
theorem dX2_greatestKey_21 : decode cX2_greatestKey 21 = .ok (.iload_n 2, 1) := by decide +kernel
theorem dX2_greatestKey_22 : decode cX2_greatestKey 22 = .ok (.iconst 1, 1) := by decide +kernel
theorem dX2_greatestKey_23 : decode cX2_greatestKey 23 = .ok (.isub, 1) := by decide +kernel
theorem dX2_greatestKey_24 : decode cX2_greatestKey 24 = .ok (.iaload, 1) := by decide +kernel
theorem dX2_greatestKey_25 : decode cX2_greatestKey 25 = .ok (.laload, 1) := by decide +kernel
theorem dX2_greatestKey_26 : decode cX2_greatestKey 26 = .ok (.goto 6, 3) := by decide +kernel
theorem dX2_greatestKey_29 : decode cX2_greatestKey 29 = .ok (.ldc2_w 87, 3) := by decide +kernel
theorem dX2_greatestKey_32 : decode cX2_greatestKey 32 = .ok (.lreturn, 1) := by decide +kernel
set_option maxRecDepth 20000 in
theorem ggX2_greatestGap_X2_sortPlain : GoodIn wsX2_greatestGap wsX2_sortPlain := goodIn_r _ [13, 4, 14, 15, 16, 12, 17, 2, 18, 19, 20, 21, 22, 23, 24, 25, 26, 27, 28, 29, 30, 31, 32, 33, 34, 35, 36, 37, 38, 39, 40, 41, 42, 43, 44, 45, 46, 47, 48, 49, 50, 51, 52, 53, 54, 55, 56, 57] (by decide +kernel) (by decide +kernel)
set_option maxRecDepth 20000 in
theorem gX2_greatestGap_X2_sortPlain : GoodIn wsX2_greatestGap (wsV RX2 84 RX2 yX2_sortPlain wsX2_sortPlain) := goodIn_app (goodIn_of _ (by decide +kernel)) ggX2_greatestGap_X2_sortPlain
theorem dX2_greatestGap_0 : decode cX2_greatestGap 0 = .ok (.aload_n 0, 1) := by decide +kernel
theorem dX2_greatestGap_1 : decode cX2_greatestGap 1 = .ok (.iload_n 1, 1) := by decide +kernel
theorem dX2_greatestGap_2 : decode cX2_greatestGap 2 = .ok (.invokevirtual 84, 3) := by decide +kernel
theorem dX2_greatestGap_5 : decode cX2_greatestGap 5 = .ok (.istore_n 2, 1) := by decide +kernel
theorem dX2_greatestGap_6 : decode cX2_greatestGap 6 = .ok (.ldc2_w 87, 3) := by decide +kernel
theorem dX2_greatestGap_9 : decode cX2_greatestGap 9 = .ok (.lstore_n 3, 1) := by decide +kernel
theorem dX2_greatestGap_10 : decode cX2_greatestGap 10 = .ok (.iconst 1, 1) := by decide +kernel
theorem dX2_greatestGap_11 : decode cX2_greatestGap 11 = .ok (.istore 5, 2) := by decide +kernel
theorem dX2_greatestGap_13 : decode cX2_greatestGap 13 = .ok (.iload 5, 2) := by decide +kernel
theorem dX2_greatestGap_15 : decode cX2_greatestGap 15 = .ok (.iload_n 2, 1) := by decide +kernel
theorem dX2_greatestGap_16 : decode cX2_greatestGap 16 = .ok (.if_icmp .ge 47, 3) := by decide +kernel
theorem dX2_greatestGap_19 : decode cX2_greatestGap 19 = .ok (.lload_n 3, 1) := by decide +kernel
theorem dX2_greatestGap_20 : decode cX2_greatestGap 20 = .ok (.aload_n 0, 1) := by decide +kernel
theorem dX2_greatestGap_21 : decode cX2_greatestGap 21 = .ok (.getfield 9, 3) := by decide +kernel
theorem dX2_greatestGap_24 : decode cX2_greatestGap 24 = .ok (.getfield 80, 3) := by decide +kernel
theorem dX2_greatestGap_27 : decode cX2_greatestGap 27 = .ok (.aload_n 0, 1) := by decide +kernel
theorem dX2_greatestGap_28 : decode cX2_greatestGap 28 = .ok (.getfield 15, 3) := by decide +kernel
theorem dX2_greatestGap_31 : decode cX2_greatestGap 31 = .ok (.iload 5, 2) := by decide +kernel
theorem dX2_greatestGap_33 : decode cX2_greatestGap 33 = .ok (.iaload, 1) := by decide +kernel
theorem dX2_greatestGap_34 : decode cX2_greatestGap 34 = .ok (.laload, 1) := by decide +kernel
theorem dX2_greatestGap_35 : decode cX2_greatestGap 35 = .ok (.aload_n 0, 1) := by decide +kernel
theorem dX2_greatestGap_36 : decode cX2_greatestGap 36 = .ok (.getfield 9, 3) := by decide +kernel
theorem dX2_greatestGap_39 : decode cX2_greatestGap 39 = .ok (.getfield 80, 3) := by decide +kernel
theorem dX2_greatestGap_42 : decode cX2_greatestGap 42 = .ok (.aload_n 0, 1) := by decide +kernel
theorem dX2_greatestGap_43 : decode cX2_greatestGap 43 = .ok (.getfield 15, 3) := by decide +kernel
theorem dX2_greatestGap_46 : decode cX2_greatestGap 46 = .ok (.iload 5, 2) := by decide +kernel
theorem dX2_greatestGap_48 : decode cX2_greatestGap 48 = .ok (.iconst 1, 1) := by decide +kernel
theorem dX2_greatestGap_49 : decode cX2_greatestGap 49 = .ok (.isub, 1) := by decide +kernel
theorem dX2_greatestGap_50 : decode cX2_greatestGap 50 = .ok (.iaload, 1) := by decide +kernel
theorem dX2_greatestGap_51 : decode cX2_greatestGap 51 = .ok (.laload, 1) := by decide +kernel
theorem dX2_greatestGap_52 : decode cX2_greatestGap 52 = .ok (.lsub, 1) := by decide +kernel
theorem dX2_greatestGap_53 : decode cX2_greatestGap 53 = .ok (.invokestatic 89, 3) := by decide +kernel
theorem dX2_greatestGap_56 : decode cX2_greatestGap 56 = .ok (.lstore_n 3, 1) := by decide +kernel
theorem dX2_greatestGap_57 : decode cX2_greatestGap 57 = .ok (.iinc 5 1, 3) := by decide +kernel
theorem dX2_greatestGap_60 : decode cX2_greatestGap 60 = .ok (.goto (-47), 3) := by decide +kernel
theorem dX2_greatestGap_63 : decode cX2_greatestGap 63 = .ok (.lload_n 3, 1) := by decide +kernel
theorem dX2_greatestGap_64 : decode cX2_greatestGap 64 = .ok (.lreturn, 1) := by decide +kernel
set_option maxRecDepth 20000 in
theorem ggX2_differentKeys_X2_sortPlain : GoodIn wsX2_differentKeys wsX2_sortPlain := goodIn_r _ [8, 3, 9, 10, 11, 7, 12, 1, 13, 14, 15, 16, 17, 18, 19, 20, 21, 22, 23, 24, 25, 26, 27, 28, 29, 30, 31, 32, 33, 34, 35, 36, 37, 38, 39, 40, 41, 42, 43, 44, 45, 46, 47, 48, 49, 50, 51, 52] (by decide +kernel) (by decide +kernel)
set_option maxRecDepth 20000 in
theorem gX2_differentKeys_X2_sortPlain : GoodIn wsX2_differentKeys (wsV RX2 84 RX2 yX2_sortPlain wsX2_sortPlain) := goodIn_app (goodIn_of _ (by decide +kernel)) ggX2_differentKeys_X2_sortPlain
theorem dX2_differentKeys_0 : decode cX2_differentKeys 0 = .ok (.aload_n 0, 1) := by decide +kernel
theorem dX2_differentKeys_1 : decode cX2_differentKeys 1 = .ok (.iload_n 1, 1) := by decide +kernel
theorem dX2_differentKeys_2 : decode cX2_differentKeys 2 = .ok (.invokevirtual 84, 3) := by decide +kernel
theorem dX2_differentKeys_5 : decode cX2_differentKeys 5 = .ok (.istore_n 2, 1) := by decide +kernel
theorem dX2_differentKeys_6 : decode cX2_differentKeys 6 = .ok (.iconst 0, 1) := by decide +kernel
theorem dX2_differentKeys_7 : decode cX2_differentKeys 7 = .ok (.istore_n 3, 1) := by decide +kernel
theorem dX2_differentKeys_8 : decode cX2_differentKeys 8 = .ok (.iconst 0, 1) := by decide +kernel
theorem dX2_differentKeys_9 : decode cX2_differentKeys 9 = .ok (.istore 4, 2) := by decide +kernel
theorem dX2_differentKeys_11 : decode cX2_differentKeys 11 = .ok (.iload 4, 2) := by decide +kernel
theorem dX2_differentKeys_13 : decode cX2_differentKeys 13 = .ok (.iload_n 2, 1) := by decide +kernel
theorem dX2_differentKeys_14 : decode cX2_differentKeys 14 = .ok (.if_icmp .ge 58, 3) := by decide +kernel
theorem dX2_differentKeys_17 : decode cX2_differentKeys 17 = .ok (.iload_n 3, 1) := by decide +kernel
theorem dX2_differentKeys_18 : decode cX2_differentKeys 18 = .ok (.iload 4, 2) := by decide +kernel
theorem dX2_differentKeys_20 : decode cX2_differentKeys 20 = .ok (.ifCond .eq 39, 3) := by decide +kernel
theorem dX2_differentKeys_23 : decode cX2_differentKeys 23 = .ok (.aload_n 0, 1) := by decide +kernel
theorem dX2_differentKeys_24 : decode cX2_differentKeys 24 = .ok (.getfield 9, 3) := by decide +kernel
theorem dX2_differentKeys_27 : decode cX2_differentKeys 27 = .ok (.getfield 80, 3) := by decide +kernel
theorem dX2_differentKeys_30 : decode cX2_differentKeys 30 = .ok (.aload_n 0, 1) := by decide +kernel
theorem dX2_differentKeys_31 : decode cX2_differentKeys 31 = .ok (.getfield 15, 3) := by decide +kernel
theorem dX2_differentKeys_34 : decode cX2_differentKeys 34 = .ok (.iload 4, 2) := by decide +kernel
theorem dX2_differentKeys_36 : decode cX2_differentKeys 36 = .ok (.iaload, 1) := by decide +kernel
theorem dX2_differentKeys_37 : decode cX2_differentKeys 37 = .ok (.laload, 1) := by decide +kernel
theorem dX2_differentKeys_38 : decode cX2_differentKeys 38 = .ok (.aload_n 0, 1) := by decide +kernel
theorem dX2_differentKeys_39 : decode cX2_differentKeys 39 = .ok (.getfield 9, 3) := by decide +kernel
theorem dX2_differentKeys_42 : decode cX2_differentKeys 42 = .ok (.getfield 80, 3) := by decide +kernel
theorem dX2_differentKeys_45 : decode cX2_differentKeys 45 = .ok (.aload_n 0, 1) := by decide +kernel
theorem dX2_differentKeys_46 : decode cX2_differentKeys 46 = .ok (.getfield 15, 3) := by decide +kernel
theorem dX2_differentKeys_49 : decode cX2_differentKeys 49 = .ok (.iload 4, 2) := by decide +kernel
theorem dX2_differentKeys_51 : decode cX2_differentKeys 51 = .ok (.iconst 1, 1) := by decide +kernel
theorem dX2_differentKeys_52 : decode cX2_differentKeys 52 = .ok (.isub, 1) := by decide +kernel
theorem dX2_differentKeys_53 : decode cX2_differentKeys 53 = .ok (.iaload, 1) := by decide +kernel
theorem dX2_differentKeys_54 : decode cX2_differentKeys 54 = .ok (.laload, 1) := by decide +kernel
theorem dX2_differentKeys_55 : decode cX2_differentKeys 55 = .ok (.lcmp, 1) := by decide +kernel
theorem dX2_differentKeys_56 : decode cX2_differentKeys 56 = .ok (.ifCond .eq 7, 3) := by decide +kernel
theorem dX2_differentKeys_59 : decode cX2_differentKeys 59 = .ok (.iconst 1, 1) := by decide +kernel
theorem dX2_differentKeys_60 : decode cX2_differentKeys 60 = .ok (.goto 4, 3) := by decide +kernel
theorem dX2_differentKeys_63 : decode cX2_differentKeys 63 = .ok (.iconst 0, 1) := by decide +kernel
theorem dX2_differentKeys_64 : decode cX2_differentKeys 64 = .ok (.iadd, 1) := by decide +kernel
theorem dX2_differentKeys_65 : decode cX2_differentKeys 65 = .ok (.istore_n 3, 1) := by decide +kernel
theorem dX2_differentKeys_66 : decode cX2_differentKeys 66 = .ok (.iinc 4 1, 3) := by decide +kernel
theorem dX2_differentKeys_69 : decode cX2_differentKeys 69 = .ok (.goto (-58), 3) := by decide +kernel
theorem dX2_differentKeys_72 : decode cX2_differentKeys 72 = .ok (.iload_n 3, 1) := by decide +kernel
theorem dX2_differentKeys_73 : decode cX2_differentKeys 73 = .ok (.i2l, 1) := by decide +kernel
theorem dX2_differentKeys_74 : decode cX2_differentKeys 74 = .ok (.lreturn, 1) := by decide +kernel
set_option maxRecDepth 20000 in
theorem ggX2_pairAt_X2_sortInto : GoodIn wsX2_pairAt wsX2_sortInto := goodIn_r _ [13, 14, 15, 16, 17, 18, 19, 20, 21, 22, 23, 24, 25, 12, 26, 27, 28, 29, 30, 31, 45, 46, 47, 48, 49, 50, 51, 52, 53, 54, 55, 56, 57, 58, 59, 60, 61, 62, 63, 64, 65, 66, 67] (by decide +kernel) (by decide +kernel)
set_option maxRecDepth 20000 in
theorem gX2_pairAt_X2_sortInto : GoodIn wsX2_pairAt (wsV RX2 76 RX2 yX2_sortInto wsX2_sortInto) := goodIn_app (goodIn_of _ (by decide +kernel)) ggX2_pairAt_X2_sortInto
set_option maxRecDepth 20000 in
theorem ggX2_pairAt_J7_fill_53178 : GoodIn wsX2_pairAt wsJ7_fill_53178 := goodIn_r _ [35] (by decide +kernel) (by decide +kernel)
set_option maxRecDepth 20000 in
theorem gX2_pairAt_J7_fill_53178 : GoodIn wsX2_pairAt (va_wsS RX2 95 yJ7_fill_53178 wsJ7_fill_53178) := goodIn_app (goodIn_of _ (by decide +kernel)) ggX2_pairAt_J7_fill_53178
set_option maxRecDepth 20000 in
theorem ggX2_pairAt_X2_pickPair : GoodIn wsX2_pairAt wsX2_pickPair := goodIn_r _ [39, 7, 40, 41, 42, 12, 43, 14, 44, 1, 6, 45, 46, 47, 48, 49, 50, 51, 52, 53, 54, 55, 56, 57, 58, 59, 60, 61, 62, 63, 64, 65, 66, 67] (by decide +kernel) (by decide +kernel)
set_option maxRecDepth 20000 in
theorem gX2_pairAt_X2_pickPair : GoodIn wsX2_pairAt (wsV RX2 100 RX2 yX2_pickPair wsX2_pickPair) := goodIn_app (goodIn_of _ (by decide +kernel)) ggX2_pairAt_X2_pickPair
set_option maxRecDepth 20000 in
theorem ggX2_pairAt_X2_pairSum : GoodIn wsX2_pairAt wsX2_pairSum := goodIn_r _ [43, 14, 44, 1, 6, 7, 45, 46, 47, 48, 49, 50, 51, 52, 53, 54, 55, 56, 57, 58, 59, 60, 61, 62, 63, 64, 65, 66, 67] (by decide +kernel) (by decide +kernel)
set_option maxRecDepth 20000 in
theorem gX2_pairAt_X2_pairSum : GoodIn wsX2_pairAt (wsV RX2 103 RX2 yX2_pairSum wsX2_pairSum) := goodIn_app (goodIn_of _ (by decide +kernel)) ggX2_pairAt_X2_pairSum
theorem dX2_pairAt_0 : decode cX2_pairAt 0 = .ok (.aload_n 0, 1) := by decide +kernel
theorem dX2_pairAt_1 : decode cX2_pairAt 1 = .ok (.aload_n 0, 1) := by decide +kernel
theorem dX2_pairAt_2 : decode cX2_pairAt 2 = .ok (.getfield 15, 3) := by decide +kernel
theorem dX2_pairAt_5 : decode cX2_pairAt 5 = .ok (.iload_n 1, 1) := by decide +kernel
theorem dX2_pairAt_6 : decode cX2_pairAt 6 = .ok (.invokevirtual 76, 3) := by decide +kernel
theorem dX2_pairAt_9 : decode cX2_pairAt 9 = .ok (.bipush 40, 2) := by decide +kernel
theorem dX2_pairAt_11 : decode cX2_pairAt 11 = .ok (.invokestatic 92, 3) := by decide +kernel
theorem dX2_pairAt_14 : decode cX2_pairAt 14 = .ok (.istore 5, 2) := by decide +kernel
theorem dX2_pairAt_16 : decode cX2_pairAt 16 = .ok (.aload_n 0, 1) := by decide +kernel
theorem dX2_pairAt_17 : decode cX2_pairAt 17 = .ok (.aload_n 0, 1) := by decide +kernel
theorem dX2_pairAt_18 : decode cX2_pairAt 18 = .ok (.getfield 19, 3) := by decide +kernel
theorem dX2_pairAt_21 : decode cX2_pairAt 21 = .ok (.iload_n 2, 1) := by decide +kernel
theorem dX2_pairAt_22 : decode cX2_pairAt 22 = .ok (.invokevirtual 76, 3) := by decide +kernel
theorem dX2_pairAt_25 : decode cX2_pairAt 25 = .ok (.istore 6, 2) := by decide +kernel
theorem dX2_pairAt_27 : decode cX2_pairAt 27 = .ok (.aload_n 0, 1) := by decide +kernel
theorem dX2_pairAt_28 : decode cX2_pairAt 28 = .ok (.getfield 28, 3) := by decide +kernel
theorem dX2_pairAt_31 : decode cX2_pairAt 31 = .ok (.iconst 0, 1) := by decide +kernel
theorem dX2_pairAt_32 : decode cX2_pairAt 32 = .ok (.invokestatic 95, 3) := by decide +kernel
theorem dX2_pairAt_35 : decode cX2_pairAt 35 = .ok (.aload_n 0, 1) := by decide +kernel
theorem dX2_pairAt_36 : decode cX2_pairAt 36 = .ok (.iload 5, 2) := by decide +kernel
theorem dX2_pairAt_38 : decode cX2_pairAt 38 = .ok (.iload 6, 2) := by decide +kernel
theorem dX2_pairAt_40 : decode cX2_pairAt 40 = .ok (.invokevirtual 100, 3) := by decide +kernel
theorem dX2_pairAt_43 : decode cX2_pairAt 43 = .ok (.istore 7, 2) := by decide +kernel
theorem dX2_pairAt_45 : decode cX2_pairAt 45 = .ok (.iconst 0, 1) := by decide +kernel
theorem dX2_pairAt_46 : decode cX2_pairAt 46 = .ok (.istore 8, 2) := by decide +kernel
theorem dX2_pairAt_48 : decode cX2_pairAt 48 = .ok (.iload 8, 2) := by decide +kernel
theorem dX2_pairAt_50 : decode cX2_pairAt 50 = .ok (.iload_n 3, 1) := by decide +kernel
theorem dX2_pairAt_51 : decode cX2_pairAt 51 = .ok (.if_icmp .ge 36, 3) := by decide +kernel
theorem dX2_pairAt_54 : decode cX2_pairAt 54 = .ok (.iload 7, 2) := by decide +kernel
theorem dX2_pairAt_56 : decode cX2_pairAt 56 = .ok (.iconst (-1), 1) := by decide +kernel
theorem dX2_pairAt_57 : decode cX2_pairAt 57 = .ok (.if_icmp .eq 30, 3) := by decide +kernel
theorem dX2_pairAt_60 : decode cX2_pairAt 60 = .ok (.aload_n 0, 1) := by decide +kernel
theorem dX2_pairAt_61 : decode cX2_pairAt 61 = .ok (.getfield 28, 3) := by decide +kernel
theorem dX2_pairAt_64 : decode cX2_pairAt 64 = .ok (.iload 7, 2) := by decide +kernel
theorem dX2_pairAt_66 : decode cX2_pairAt 66 = .ok (.dup2, 1) := by decide +kernel
theorem dX2_pairAt_67 : decode cX2_pairAt 67 = .ok (.iaload, 1) := by decide +kernel
theorem dX2_pairAt_68 : decode cX2_pairAt 68 = .ok (.iconst 1, 1) := by decide +kernel
theorem dX2_pairAt_69 : decode cX2_pairAt 69 = .ok (.iadd, 1) := by decide +kernel
theorem dX2_pairAt_70 : decode cX2_pairAt 70 = .ok (.iastore, 1) := by decide +kernel
theorem dX2_pairAt_71 : decode cX2_pairAt 71 = .ok (.aload_n 0, 1) := by decide +kernel
theorem dX2_pairAt_72 : decode cX2_pairAt 72 = .ok (.iload 5, 2) := by decide +kernel
theorem dX2_pairAt_74 : decode cX2_pairAt 74 = .ok (.iload 6, 2) := by decide +kernel
theorem dX2_pairAt_76 : decode cX2_pairAt 76 = .ok (.invokevirtual 100, 3) := by decide +kernel
theorem dX2_pairAt_79 : decode cX2_pairAt 79 = .ok (.istore 7, 2) := by decide +kernel
theorem dX2_pairAt_81 : decode cX2_pairAt 81 = .ok (.iinc 8 1, 3) := by decide +kernel
theorem dX2_pairAt_84 : decode cX2_pairAt 84 = .ok (.goto (-36), 3) := by decide +kernel
theorem dX2_pairAt_87 : decode cX2_pairAt 87 = .ok (.iload 7, 2) := by decide +kernel
theorem dX2_pairAt_89 : decode cX2_pairAt 89 = .ok (.iconst (-1), 1) := by decide +kernel
theorem dX2_pairAt_90 : decode cX2_pairAt 90 = .ok (.if_icmp .ne 7, 3) := by decide +kernel
theorem dX2_pairAt_93 : decode cX2_pairAt 93 = .ok (.ldc2_w 87, 3) := by decide +kernel
theorem dX2_pairAt_96 : decode cX2_pairAt 96 = .ok (.lreturn, 1) := by decide +kernel
theorem dX2_pairAt_97 : decode cX2_pairAt 97 = .ok (.iload 4, 2) := by decide +kernel
theorem dX2_pairAt_99 : decode cX2_pairAt 99 = .ok (.ifCond .ne 10, 3) := by decide +kernel
theorem dX2_pairAt_102 : decode cX2_pairAt 102 = .ok (.aload_n 0, 1) := by decide +kernel
theorem dX2_pairAt_103 : decode cX2_pairAt 103 = .ok (.iload 7, 2) := by decide +kernel
theorem dX2_pairAt_105 : decode cX2_pairAt 105 = .ok (.invokevirtual 103, 3) := by decide +kernel
theorem dX2_pairAt_108 : decode cX2_pairAt 108 = .ok (.lreturn, 1) := by decide +kernel
theorem dX2_pairAt_109 : decode cX2_pairAt 109 = .ok (.iload 4, 2) := by decide +kernel
theorem dX2_pairAt_111 : decode cX2_pairAt 111 = .ok (.iconst 1, 1) := by decide +kernel
theorem dX2_pairAt_112 : decode cX2_pairAt 112 = .ok (.if_icmp .ne 14, 3) := by decide +kernel
theorem dX2_pairAt_115 : decode cX2_pairAt 115 = .ok (.aload_n 0, 1) := by decide +kernel
theorem dX2_pairAt_116 : decode cX2_pairAt 116 = .ok (.getfield 15, 3) := by decide +kernel
theorem dX2_pairAt_119 : decode cX2_pairAt 119 = .ok (.iload 7, 2) := by decide +kernel
theorem dX2_pairAt_121 : decode cX2_pairAt 121 = .ok (.iaload, 1) := by decide +kernel
theorem dX2_pairAt_122 : decode cX2_pairAt 122 = .ok (.i2l, 1) := by decide +kernel
theorem dX2_pairAt_123 : decode cX2_pairAt 123 = .ok (.goto 16, 3) := by decide +kernel
theorem dX2_pairAt_126 : decode cX2_pairAt 126 = .ok (.aload_n 0, 1) := by decide +kernel
theorem dX2_pairAt_127 : decode cX2_pairAt 127 = .ok (.getfield 19, 3) := by decide +kernel
theorem dX2_pairAt_130 : decode cX2_pairAt 130 = .ok (.aload_n 0, 1) := by decide +kernel
theorem dX2_pairAt_131 : decode cX2_pairAt 131 = .ok (.getfield 28, 3) := by decide +kernel
theorem dX2_pairAt_134 : decode cX2_pairAt 134 = .ok (.iload 7, 2) := by decide +kernel
theorem dX2_pairAt_136 : decode cX2_pairAt 136 = .ok (.iaload, 1) := by decide +kernel
theorem dX2_pairAt_137 : decode cX2_pairAt 137 = .ok (.iaload, 1) := by decide +kernel
theorem dX2_pairAt_138 : decode cX2_pairAt 138 = .ok (.i2l, 1) := by decide +kernel
theorem dX2_pairAt_139 : decode cX2_pairAt 139 = .ok (.lreturn, 1) := by decide +kernel
set_option maxRecDepth 20000 in
theorem ggX2_pickPair_X2_pairSum : GoodIn wsX2_pickPair wsX2_pairSum := goodIn_r _ [6, 7, 8, 9, 10, 1, 11, 12, 13, 14, 15, 16, 17, 18, 19, 20, 21, 22, 23, 24, 25, 26, 27, 28, 29, 30, 31, 32, 33] (by decide +kernel) (by decide +kernel)
set_option maxRecDepth 20000 in
theorem gX2_pickPair_X2_pairSum : GoodIn wsX2_pickPair (wsV RX2 103 RX2 yX2_pairSum wsX2_pairSum) := goodIn_app (goodIn_of _ (by decide +kernel)) ggX2_pickPair_X2_pairSum
theorem dX2_pickPair_0 : decode cX2_pickPair 0 = .ok (.iconst (-1), 1) := by decide +kernel
theorem dX2_pickPair_1 : decode cX2_pickPair 1 = .ok (.istore_n 3, 1) := by decide +kernel
theorem dX2_pickPair_2 : decode cX2_pickPair 2 = .ok (.iconst 0, 1) := by decide +kernel
theorem dX2_pickPair_3 : decode cX2_pickPair 3 = .ok (.istore 4, 2) := by decide +kernel
theorem dX2_pickPair_5 : decode cX2_pickPair 5 = .ok (.iload 4, 2) := by decide +kernel
theorem dX2_pickPair_7 : decode cX2_pickPair 7 = .ok (.iload_n 1, 1) := by decide +kernel
theorem dX2_pickPair_8 : decode cX2_pickPair 8 = .ok (.if_icmp .ge 43, 3) := by decide +kernel
theorem dX2_pickPair_11 : decode cX2_pickPair 11 = .ok (.aload_n 0, 1) := by decide +kernel
theorem dX2_pickPair_12 : decode cX2_pickPair 12 = .ok (.getfield 28, 3) := by decide +kernel
theorem dX2_pickPair_15 : decode cX2_pickPair 15 = .ok (.iload 4, 2) := by decide +kernel
theorem dX2_pickPair_17 : decode cX2_pickPair 17 = .ok (.iaload, 1) := by decide +kernel
theorem dX2_pickPair_18 : decode cX2_pickPair 18 = .ok (.iload_n 2, 1) := by decide +kernel
theorem dX2_pickPair_19 : decode cX2_pickPair 19 = .ok (.if_icmp .ge 26, 3) := by decide +kernel
theorem dX2_pickPair_22 : decode cX2_pickPair 22 = .ok (.iload_n 3, 1) := by decide +kernel
theorem dX2_pickPair_23 : decode cX2_pickPair 23 = .ok (.iconst (-1), 1) := by decide +kernel
theorem dX2_pickPair_24 : decode cX2_pickPair 24 = .ok (.if_icmp .eq 18, 3) := by decide +kernel
theorem dX2_pickPair_27 : decode cX2_pickPair 27 = .ok (.aload_n 0, 1) := by decide +kernel
theorem dX2_pickPair_28 : decode cX2_pickPair 28 = .ok (.iload 4, 2) := by decide +kernel
theorem dX2_pickPair_30 : decode cX2_pickPair 30 = .ok (.invokevirtual 103, 3) := by decide +kernel
theorem dX2_pickPair_33 : decode cX2_pickPair 33 = .ok (.aload_n 0, 1) := by decide +kernel
theorem dX2_pickPair_34 : decode cX2_pickPair 34 = .ok (.iload_n 3, 1) := by decide +kernel
theorem dX2_pickPair_35 : decode cX2_pickPair 35 = .ok (.invokevirtual 103, 3) := by decide +kernel
theorem dX2_pickPair_38 : decode cX2_pickPair 38 = .ok (.lcmp, 1) := by decide +kernel
theorem dX2_pickPair_39 : decode cX2_pickPair 39 = .ok (.ifCond .ge 6, 3) := by decide +kernel
theorem dX2_pickPair_42 : decode cX2_pickPair 42 = .ok (.iload 4, 2) := by decide +kernel
theorem dX2_pickPair_44 : decode cX2_pickPair 44 = .ok (.istore_n 3, 1) := by decide +kernel
theorem dX2_pickPair_45 : decode cX2_pickPair 45 = .ok (.iinc 4 1, 3) := by decide +kernel
theorem dX2_pickPair_48 : decode cX2_pickPair 48 = .ok (.goto (-43), 3) := by decide +kernel
theorem dX2_pickPair_51 : decode cX2_pickPair 51 = .ok (.iload_n 3, 1) := by decide +kernel
theorem dX2_pickPair_52 : decode cX2_pickPair 52 = .ok (.ireturn, 1) := by decide +kernel
