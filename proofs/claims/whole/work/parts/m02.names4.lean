theorem dX4_keep_26 : decode cX4_keep 26 = .ok (.ifnonnull 29, 3) := by decide +kernel
theorem dX4_keep_29 : decode cX4_keep 29 = .ok (.aload_n 0, 1) := by decide +kernel
theorem dX4_keep_30 : decode cX4_keep 30 = .ok (.getfield 18, 3) := by decide +kernel
theorem dX4_keep_33 : decode cX4_keep 33 = .ok (.iload_n 1, 1) := by decide +kernel
theorem dX4_keep_34 : decode cX4_keep 34 = .ok (.new 9, 3) := by decide +kernel
theorem dX4_keep_37 : decode cX4_keep 37 = .ok (.dup, 1) := by decide +kernel
theorem dX4_keep_38 : decode cX4_keep 38 = .ok (.invokespecial 11, 3) := by decide +kernel
theorem dX4_keep_41 : decode cX4_keep 41 = .ok (.aastore, 1) := by decide +kernel
theorem dX4_keep_42 : decode cX4_keep 42 = .ok (.aload_n 0, 1) := by decide +kernel
theorem dX4_keep_43 : decode cX4_keep 43 = .ok (.getfield 29, 3) := by decide +kernel
theorem dX4_keep_46 : decode cX4_keep 46 = .ok (.iload_n 1, 1) := by decide +kernel
theorem dX4_keep_47 : decode cX4_keep 47 = .ok (.new 22, 3) := by decide +kernel
theorem dX4_keep_50 : decode cX4_keep 50 = .ok (.dup, 1) := by decide +kernel
theorem dX4_keep_51 : decode cX4_keep 51 = .ok (.invokespecial 24, 3) := by decide +kernel
theorem dX4_keep_54 : decode cX4_keep 54 = .ok (.aastore, 1) := by decide +kernel
theorem dX4_keep_55 : decode cX4_keep 55 = .ok (.aload_n 0, 1) := by decide +kernel
theorem dX4_keep_56 : decode cX4_keep 56 = .ok (.getfield 18, 3) := by decide +kernel
theorem dX4_keep_59 : decode cX4_keep 59 = .ok (.iload_n 1, 1) := by decide +kernel
theorem dX4_keep_60 : decode cX4_keep 60 = .ok (.aaload, 1) := by decide +kernel
theorem dX4_keep_61 : decode cX4_keep 61 = .ok (.aload_n 0, 1) := by decide +kernel
theorem dX4_keep_62 : decode cX4_keep 62 = .ok (.getfield 12, 3) := by decide +kernel
theorem dX4_keep_65 : decode cX4_keep 65 = .ok (.invokevirtual 170, 3) := by decide +kernel
theorem dX4_keep_68 : decode cX4_keep 68 = .ok (.aload_n 0, 1) := by decide +kernel
theorem dX4_keep_69 : decode cX4_keep 69 = .ok (.getfield 29, 3) := by decide +kernel
theorem dX4_keep_72 : decode cX4_keep 72 = .ok (.iload_n 1, 1) := by decide +kernel
theorem dX4_keep_73 : decode cX4_keep 73 = .ok (.aaload, 1) := by decide +kernel
theorem dX4_keep_74 : decode cX4_keep 74 = .ok (.aload_n 0, 1) := by decide +kernel
theorem dX4_keep_75 : decode cX4_keep 75 = .ok (.getfield 25, 3) := by decide +kernel
theorem dX4_keep_78 : decode cX4_keep 78 = .ok (.invokevirtual 173, 3) := by decide +kernel
theorem dX4_keep_81 : decode cX4_keep 81 = .ok (.iconst 1, 1) := by decide +kernel
theorem dX4_keep_82 : decode cX4_keep 82 = .ok (.ireturn, 1) := by decide +kernel
set_option maxRecDepth 20000 in
theorem ggX4_again_X0_copyFrom : GoodIn wsX4_again wsX0_copyFrom := goodIn_r _ [9, 10, 11, 12, 13, 14, 15, 16, 17, 18, 19, 20, 21, 22, 23, 24, 25, 26, 27, 28, 29, 47, 48, 49, 50, 51, 52, 53, 54, 55, 56, 57, 58, 59, 60, 61, 62, 63] (by decide +kernel) (by decide +kernel)
set_option maxRecDepth 20000 in
theorem gX4_again_X0_copyFrom : GoodIn wsX4_again (wsV RX4 170 RX0 yX0_copyFrom wsX0_copyFrom) := goodIn_app (goodIn_of _ (by decide +kernel)) ggX4_again_X0_copyFrom
set_option maxRecDepth 20000 in
theorem ggX4_again_X1_copyFrom : GoodIn wsX4_again wsX1_copyFrom := goodIn_r _ [34, 35, 36, 16, 17, 18, 37, 38, 64, 65, 66] (by decide +kernel) (by decide +kernel)
set_option maxRecDepth 20000 in
theorem gX4_again_X1_copyFrom : GoodIn wsX4_again (wsV RX4 173 RX1 yX1_copyFrom wsX1_copyFrom) := goodIn_app (goodIn_of _ (by decide +kernel)) ggX4_again_X1_copyFrom
theorem dX4_again_0 : decode cX4_again 0 = .ok (.iload_n 1, 1) := by decide +kernel
theorem dX4_again_1 : decode cX4_again 1 = .ok (.ifCond .lt 26, 3) := by decide +kernel
theorem dX4_again_4 : decode cX4_again 4 = .ok (.iload_n 1, 1) := by decide +kernel
theorem dX4_again_5 : decode cX4_again 5 = .ok (.iconst 2, 1) := by decide +kernel
theorem dX4_again_6 : decode cX4_again 6 = .ok (.if_icmp .ge 21, 3) := by decide +kernel
theorem dX4_again_9 : decode cX4_again 9 = .ok (.aload_n 0, 1) := by decide +kernel
theorem dX4_again_10 : decode cX4_again 10 = .ok (.getfield 18, 3) := by decide +kernel
theorem dX4_again_13 : decode cX4_again 13 = .ok (.iload_n 1, 1) := by decide +kernel
theorem dX4_again_14 : decode cX4_again 14 = .ok (.aaload, 1) := by decide +kernel
theorem dX4_again_15 : decode cX4_again 15 = .ok (.ifnull 12, 3) := by decide +kernel
theorem dX4_again_18 : decode cX4_again 18 = .ok (.aload_n 0, 1) := by decide +kernel
theorem dX4_again_19 : decode cX4_again 19 = .ok (.getfield 29, 3) := by decide +kernel
theorem dX4_again_22 : decode cX4_again 22 = .ok (.iload_n 1, 1) := by decide +kernel
theorem dX4_again_23 : decode cX4_again 23 = .ok (.aaload, 1) := by decide +kernel
theorem dX4_again_24 : decode cX4_again 24 = .ok (.ifnonnull 5, 3) := by decide +kernel
theorem dX4_again_27 : decode cX4_again 27 = .ok (.iconst 0, 1) := by decide +kernel
theorem dX4_again_28 : decode cX4_again 28 = .ok (.ireturn, 1) := by decide +kernel
theorem dX4_again_29 : decode cX4_again 29 = .ok (.aload_n 0, 1) := by decide +kernel
theorem dX4_again_30 : decode cX4_again 30 = .ok (.getfield 12, 3) := by decide +kernel
theorem dX4_again_33 : decode cX4_again 33 = .ok (.aload_n 0, 1) := by decide +kernel
theorem dX4_again_34 : decode cX4_again 34 = .ok (.getfield 18, 3) := by decide +kernel
theorem dX4_again_37 : decode cX4_again 37 = .ok (.iload_n 1, 1) := by decide +kernel
theorem dX4_again_38 : decode cX4_again 38 = .ok (.aaload, 1) := by decide +kernel
theorem dX4_again_39 : decode cX4_again 39 = .ok (.invokevirtual 170, 3) := by decide +kernel
theorem dX4_again_42 : decode cX4_again 42 = .ok (.aload_n 0, 1) := by decide +kernel
theorem dX4_again_43 : decode cX4_again 43 = .ok (.getfield 25, 3) := by decide +kernel
theorem dX4_again_46 : decode cX4_again 46 = .ok (.aload_n 0, 1) := by decide +kernel
theorem dX4_again_47 : decode cX4_again 47 = .ok (.getfield 29, 3) := by decide +kernel
theorem dX4_again_50 : decode cX4_again 50 = .ok (.iload_n 1, 1) := by decide +kernel
theorem dX4_again_51 : decode cX4_again 51 = .ok (.aaload, 1) := by decide +kernel
theorem dX4_again_52 : decode cX4_again 52 = .ok (.invokevirtual 173, 3) := by decide +kernel
theorem dX4_again_55 : decode cX4_again 55 = .ok (.iconst 1, 1) := by decide +kernel
theorem dX4_again_56 : decode cX4_again 56 = .ok (.ireturn, 1) := by decide +kernel
set_option maxRecDepth 20000 in
theorem ggX4_key_X0_isThere : GoodIn wsX4_key wsX0_isThere := goodIn_r _ [9, 10, 11, 20, 21, 22, 23, 24, 25, 26, 27, 28, 29, 30, 31, 32, 33, 34, 35, 36] (by decide +kernel) (by decide +kernel)
set_option maxRecDepth 20000 in
theorem gX4_key_X0_isThere : GoodIn wsX4_key (wsV RX4 97 RX0 yX0_isThere wsX0_isThere) := goodIn_app (goodIn_of _ (by decide +kernel)) ggX4_key_X0_isThere
theorem dX4_key_0 : decode cX4_key 0 = .ok (.aload_n 0, 1) := by decide +kernel
theorem dX4_key_1 : decode cX4_key 1 = .ok (.getfield 12, 3) := by decide +kernel
theorem dX4_key_4 : decode cX4_key 4 = .ok (.iload_n 1, 1) := by decide +kernel
theorem dX4_key_5 : decode cX4_key 5 = .ok (.invokevirtual 97, 3) := by decide +kernel
theorem dX4_key_8 : decode cX4_key 8 = .ok (.ifCond .ne 13, 3) := by decide +kernel
theorem dX4_key_11 : decode cX4_key 11 = .ok (.new 175, 3) := by decide +kernel
theorem dX4_key_14 : decode cX4_key 14 = .ok (.dup, 1) := by decide +kernel
theorem dX4_key_15 : decode cX4_key 15 = .ok (.ldc 177, 2) := by decide +kernel
theorem dX4_key_17 : decode cX4_key 17 = .ok (.invokespecial 179, 3) := by decide +kernel
theorem dX4_key_20 : decode cX4_key 20 = .ok (.athrow, 1) := by decide +kernel
theorem dX4_key_21 : decode cX4_key 21 = .ok (.aload_n 0, 1) := by decide +kernel
theorem dX4_key_22 : decode cX4_key 22 = .ok (.getfield 12, 3) := by decide +kernel
theorem dX4_key_25 : decode cX4_key 25 = .ok (.getfield 110, 3) := by decide +kernel
theorem dX4_key_28 : decode cX4_key 28 = .ok (.iload_n 1, 1) := by decide +kernel
theorem dX4_key_29 : decode cX4_key 29 = .ok (.laload, 1) := by decide +kernel
theorem dX4_key_30 : decode cX4_key 30 = .ok (.lreturn, 1) := by decide +kernel
set_option maxRecDepth 20000 in
theorem ggX4_item_X0_isThere : GoodIn wsX4_item wsX0_isThere := goodIn_r _ [16, 17, 18, 42, 43, 44, 45, 46, 47, 48, 49, 50, 51, 52, 53, 54, 55, 56, 57, 58] (by decide +kernel) (by decide +kernel)
set_option maxRecDepth 20000 in
theorem gX4_item_X0_isThere : GoodIn wsX4_item (wsV RX4 97 RX0 yX0_isThere wsX0_isThere) := goodIn_app (goodIn_of _ (by decide +kernel)) ggX4_item_X0_isThere
set_option maxRecDepth 20000 in
theorem ggX4_item_X0_howManyAbove : GoodIn wsX4_item wsX0_howManyAbove := goodIn_r _ [22, 23, 42, 43, 44, 45, 46, 47, 48, 49, 50, 51, 52, 53, 54, 55, 56, 57, 58] (by decide +kernel) (by decide +kernel)
set_option maxRecDepth 20000 in
theorem gX4_item_X0_howManyAbove : GoodIn wsX4_item (wsV RX4 200 RX0 yX0_howManyAbove wsX0_howManyAbove) := goodIn_app (goodIn_of _ (by decide +kernel)) ggX4_item_X0_howManyAbove
set_option maxRecDepth 20000 in
theorem ggX4_item_X2_walk : GoodIn wsX4_item wsX2_walk := goodIn_r _ [28, 29, 30, 31, 32, 33, 59, 60, 61, 62, 63, 64, 42, 43, 44, 45, 46, 47, 48, 49, 50, 51, 52, 53, 54, 55, 56, 57, 58] (by decide +kernel) (by decide +kernel)
set_option maxRecDepth 20000 in
theorem gX4_item_X2_walk : GoodIn wsX4_item (wsV RX4 203 RX2 yX2_walk wsX2_walk) := goodIn_app (goodIn_of _ (by decide +kernel)) ggX4_item_X2_walk
theorem dX4_item_0 : decode cX4_item 0 = .ok (.aload_n 0, 1) := by decide +kernel
theorem dX4_item_1 : decode cX4_item 1 = .ok (.getfield 12, 3) := by decide +kernel
theorem dX4_item_4 : decode cX4_item 4 = .ok (.iload_n 1, 1) := by decide +kernel
theorem dX4_item_5 : decode cX4_item 5 = .ok (.invokevirtual 97, 3) := by decide +kernel
theorem dX4_item_8 : decode cX4_item 8 = .ok (.ifCond .ne 13, 3) := by decide +kernel
theorem dX4_item_11 : decode cX4_item 11 = .ok (.new 175, 3) := by decide +kernel
theorem dX4_item_14 : decode cX4_item 14 = .ok (.dup, 1) := by decide +kernel
theorem dX4_item_15 : decode cX4_item 15 = .ok (.ldc 177, 2) := by decide +kernel
theorem dX4_item_17 : decode cX4_item 17 = .ok (.invokespecial 179, 3) := by decide +kernel
theorem dX4_item_20 : decode cX4_item 20 = .ok (.athrow, 1) := by decide +kernel
theorem dX4_item_21 : decode cX4_item 21 = .ok (.iload_n 2, 1) := by decide +kernel
theorem dX4_item_22 : decode cX4_item 22 = .ok (.tableswitch 138 0 8 #[50, 60, 70, 80, 90, 100, 110, 120, 129], 50) := by decide +kernel
theorem dX4_item_72 : decode cX4_item 72 = .ok (.aload_n 0, 1) := by decide +kernel
theorem dX4_item_73 : decode cX4_item 73 = .ok (.getfield 12, 3) := by decide +kernel
theorem dX4_item_76 : decode cX4_item 76 = .ok (.getfield 182, 3) := by decide +kernel
theorem dX4_item_79 : decode cX4_item 79 = .ok (.iload_n 1, 1) := by decide +kernel
theorem dX4_item_80 : decode cX4_item 80 = .ok (.iaload, 1) := by decide +kernel
theorem dX4_item_81 : decode cX4_item 81 = .ok (.ireturn, 1) := by decide +kernel
theorem dX4_item_82 : decode cX4_item 82 = .ok (.aload_n 0, 1) := by decide +kernel
theorem dX4_item_83 : decode cX4_item 83 = .ok (.getfield 12, 3) := by decide +kernel
theorem dX4_item_86 : decode cX4_item 86 = .ok (.getfield 100, 3) := by decide +kernel
theorem dX4_item_89 : decode cX4_item 89 = .ok (.iload_n 1, 1) := by decide +kernel
theorem dX4_item_90 : decode cX4_item 90 = .ok (.iaload, 1) := by decide +kernel
theorem dX4_item_91 : decode cX4_item 91 = .ok (.ireturn, 1) := by decide +kernel
theorem dX4_item_92 : decode cX4_item 92 = .ok (.aload_n 0, 1) := by decide +kernel
theorem dX4_item_93 : decode cX4_item 93 = .ok (.getfield 12, 3) := by decide +kernel
theorem dX4_item_96 : decode cX4_item 96 = .ok (.getfield 185, 3) := by decide +kernel
theorem dX4_item_99 : decode cX4_item 99 = .ok (.iload_n 1, 1) := by decide +kernel
theorem dX4_item_100 : decode cX4_item 100 = .ok (.iaload, 1) := by decide +kernel
theorem dX4_item_101 : decode cX4_item 101 = .ok (.ireturn, 1) := by decide +kernel
theorem dX4_item_102 : decode cX4_item 102 = .ok (.aload_n 0, 1) := by decide +kernel
theorem dX4_item_103 : decode cX4_item 103 = .ok (.getfield 12, 3) := by decide +kernel
theorem dX4_item_106 : decode cX4_item 106 = .ok (.getfield 188, 3) := by decide +kernel
theorem dX4_item_109 : decode cX4_item 109 = .ok (.iload_n 1, 1) := by decide +kernel
theorem dX4_item_110 : decode cX4_item 110 = .ok (.iaload, 1) := by decide +kernel
theorem dX4_item_111 : decode cX4_item 111 = .ok (.ireturn, 1) := by decide +kernel
theorem dX4_item_112 : decode cX4_item 112 = .ok (.aload_n 0, 1) := by decide +kernel
theorem dX4_item_113 : decode cX4_item 113 = .ok (.getfield 12, 3) := by decide +kernel
theorem dX4_item_116 : decode cX4_item 116 = .ok (.getfield 191, 3) := by decide +kernel
theorem dX4_item_119 : decode cX4_item 119 = .ok (.iload_n 1, 1) := by decide +kernel
theorem dX4_item_120 : decode cX4_item 120 = .ok (.iaload, 1) := by decide +kernel
theorem dX4_item_121 : decode cX4_item 121 = .ok (.ireturn, 1) := by decide +kernel
theorem dX4_item_122 : decode cX4_item 122 = .ok (.aload_n 0, 1) := by decide +kernel
theorem dX4_item_123 : decode cX4_item 123 = .ok (.getfield 12, 3) := by decide +kernel
theorem dX4_item_126 : decode cX4_item 126 = .ok (.getfield 194, 3) := by decide +kernel
theorem dX4_item_129 : decode cX4_item 129 = .ok (.iload_n 1, 1) := by decide +kernel
theorem dX4_item_130 : decode cX4_item 130 = .ok (.iaload, 1) := by decide +kernel
theorem dX4_item_131 : decode cX4_item 131 = .ok (.ireturn, 1) := by decide +kernel
theorem dX4_item_132 : decode cX4_item 132 = .ok (.aload_n 0, 1) := by decide +kernel
theorem dX4_item_133 : decode cX4_item 133 = .ok (.getfield 12, 3) := by decide +kernel
theorem dX4_item_136 : decode cX4_item 136 = .ok (.getfield 197, 3) := by decide +kernel
theorem dX4_item_139 : decode cX4_item 139 = .ok (.iload_n 1, 1) := by decide +kernel
theorem dX4_item_140 : decode cX4_item 140 = .ok (.iaload, 1) := by decide +kernel
theorem dX4_item_141 : decode cX4_item 141 = .ok (.ireturn, 1) := by decide +kernel
theorem dX4_item_142 : decode cX4_item 142 = .ok (.aload_n 0, 1) := by decide +kernel
theorem dX4_item_143 : decode cX4_item 143 = .ok (.getfield 12, 3) := by decide +kernel
theorem dX4_item_146 : decode cX4_item 146 = .ok (.iload_n 1, 1) := by decide +kernel
theorem dX4_item_147 : decode cX4_item 147 = .ok (.invokevirtual 200, 3) := by decide +kernel
theorem dX4_item_150 : decode cX4_item 150 = .ok (.ireturn, 1) := by decide +kernel
theorem dX4_item_151 : decode cX4_item 151 = .ok (.aload_n 0, 1) := by decide +kernel
theorem dX4_item_152 : decode cX4_item 152 = .ok (.getfield 42, 3) := by decide +kernel
theorem dX4_item_155 : decode cX4_item 155 = .ok (.iload_n 1, 1) := by decide +kernel
theorem dX4_item_156 : decode cX4_item 156 = .ok (.invokevirtual 203, 3) := by decide +kernel
theorem dX4_item_159 : decode cX4_item 159 = .ok (.ireturn, 1) := by decide +kernel
theorem dX4_item_160 : decode cX4_item 160 = .ok (.iconst (-1), 1) := by decide +kernel
theorem dX4_item_161 : decode cX4_item 161 = .ok (.ireturn, 1) := by decide +kernel
set_option maxRecDepth 20000 in
theorem ggX4_desk_X4_isDesk : GoodIn wsX4_desk wsX4_isDesk := goodIn_r _ [7] (by decide +kernel) (by decide +kernel)
set_option maxRecDepth 20000 in
theorem gX4_desk_X4_isDesk : GoodIn wsX4_desk (va_wsS RX4 55 yX4_isDesk wsX4_isDesk) := goodIn_app (goodIn_of _ (by decide +kernel)) ggX4_desk_X4_isDesk
set_option maxRecDepth 20000 in
theorem ggX4_desk_X0_plainIn : GoodIn wsX4_desk wsX0_plainIn := goodIn_r _ [12, 13, 14, 15, 16, 11, 17, 18, 19, 77, 78, 79, 80, 81, 82, 83, 84, 85, 86, 87, 88, 89, 90, 91, 92, 93] (by decide +kernel) (by decide +kernel)
set_option maxRecDepth 20000 in
theorem gX4_desk_X0_plainIn : GoodIn wsX4_desk (wsV RX4 132 RX0 yX0_plainIn wsX0_plainIn) := goodIn_app (goodIn_of _ (by decide +kernel)) ggX4_desk_X0_plainIn
set_option maxRecDepth 20000 in
theorem ggX4_desk_X0_allIn : GoodIn wsX4_desk wsX0_allIn := goodIn_r _ [23, 13, 18, 77, 78, 79, 80, 81, 82, 83, 84, 85, 86, 87, 88, 89, 90, 91, 92, 93] (by decide +kernel) (by decide +kernel)
set_option maxRecDepth 20000 in
theorem gX4_desk_X0_allIn : GoodIn wsX4_desk (wsV RX4 107 RX0 yX0_allIn wsX0_allIn) := goodIn_app (goodIn_of _ (by decide +kernel)) ggX4_desk_X0_allIn
set_option maxRecDepth 20000 in
theorem ggX4_desk_X0_rankOf : GoodIn wsX4_desk wsX0_rankOf := goodIn_r _ [27, 28, 77, 78, 79, 80, 81, 82, 83, 84, 85, 86, 87, 88, 89, 90, 91, 92, 93] (by decide +kernel) (by decide +kernel)
set_option maxRecDepth 20000 in
theorem gX4_desk_X0_rankOf : GoodIn wsX4_desk (wsV RX4 206 RX0 yX0_rankOf wsX0_rankOf) := goodIn_app (goodIn_of _ (by decide +kernel)) ggX4_desk_X0_rankOf
set_option maxRecDepth 20000 in
theorem ggX4_desk_X2_height : GoodIn wsX4_desk wsX2_height := goodIn_r _ [33, 34, 35, 36, 37, 38, 39, 40, 41, 42, 43, 44, 45, 32, 46, 47, 48, 49, 94, 95, 96, 97, 98, 99, 77, 78, 79, 80, 81, 82, 83, 84, 85, 86, 87, 88, 89, 90, 91, 92, 93] (by decide +kernel) (by decide +kernel)
set_option maxRecDepth 20000 in
theorem gX4_desk_X2_height : GoodIn wsX4_desk (wsV RX4 209 RX2 yX2_height wsX2_height) := goodIn_app (goodIn_of _ (by decide +kernel)) ggX4_desk_X2_height
set_option maxRecDepth 20000 in
theorem ggX4_desk_X2_rightSpine : GoodIn wsX4_desk wsX2_rightSpine := goodIn_r _ [53, 34, 35, 48, 94, 95, 96, 97, 98, 99, 77, 78, 79, 80, 81, 82, 83, 84, 85, 86, 87, 88, 89, 90, 91, 92, 93] (by decide +kernel) (by decide +kernel)
set_option maxRecDepth 20000 in
theorem gX4_desk_X2_rightSpine : GoodIn wsX4_desk (wsV RX4 212 RX2 yX2_rightSpine wsX2_rightSpine) := goodIn_app (goodIn_of _ (by decide +kernel)) ggX4_desk_X2_rightSpine
set_option maxRecDepth 20000 in
theorem ggX4_desk_X2_balanced : GoodIn wsX4_desk wsX2_balanced := goodIn_r _ [57, 34, 58, 59, 49, 48, 60, 25, 26, 11, 27, 28, 94, 95, 96, 97, 98, 99, 77, 78, 79, 80, 81, 82, 83, 84, 85, 86, 87, 88, 89, 90, 91, 92, 93] (by decide +kernel) (by decide +kernel)
set_option maxRecDepth 20000 in
theorem gX4_desk_X2_balanced : GoodIn wsX4_desk (wsV RX4 215 RX2 yX2_balanced wsX2_balanced) := goodIn_app (goodIn_of _ (by decide +kernel)) ggX4_desk_X2_balanced
set_option maxRecDepth 20000 in
theorem ggX4_desk_X2_leaves : GoodIn wsX4_desk wsX2_leaves := goodIn_r _ [64, 34, 58, 59, 49, 48, 94, 95, 96, 97, 98, 99, 77, 78, 79, 80, 81, 82, 83, 84, 85, 86, 87, 88, 89, 90, 91, 92, 93] (by decide +kernel) (by decide +kernel)
set_option maxRecDepth 20000 in
theorem gX4_desk_X2_leaves : GoodIn wsX4_desk (wsV RX4 218 RX2 yX2_leaves wsX2_leaves) := goodIn_app (goodIn_of _ (by decide +kernel)) ggX4_desk_X2_leaves
set_option maxRecDepth 20000 in
theorem ggX4_desk_X2_rightHeavy : GoodIn wsX4_desk wsX2_rightHeavy := goodIn_r _ [68, 34, 35, 36, 49, 37, 48, 43, 44, 45, 32, 46, 47, 94, 95, 96, 97, 98, 99, 77, 78, 79, 80, 81, 82, 83, 84, 85, 86, 87, 88, 89, 90, 91, 92, 93] (by decide +kernel) (by decide +kernel)
set_option maxRecDepth 20000 in
theorem gX4_desk_X2_rightHeavy : GoodIn wsX4_desk (wsV RX4 221 RX2 yX2_rightHeavy wsX2_rightHeavy) := goodIn_app (goodIn_of _ (by decide +kernel)) ggX4_desk_X2_rightHeavy
theorem dX4_desk_0 : decode cX4_desk 0 = .ok (.iload_n 1, 1) := by decide +kernel
theorem dX4_desk_1 : decode cX4_desk 1 = .ok (.invokestatic 55, 3) := by decide +kernel
theorem dX4_desk_4 : decode cX4_desk 4 = .ok (.ifCond .ne 5, 3) := by decide +kernel
theorem dX4_desk_7 : decode cX4_desk 7 = .ok (.iconst (-1), 1) := by decide +kernel
theorem dX4_desk_8 : decode cX4_desk 8 = .ok (.ireturn, 1) := by decide +kernel
theorem dX4_desk_9 : decode cX4_desk 9 = .ok (.iload_n 2, 1) := by decide +kernel
theorem dX4_desk_10 : decode cX4_desk 10 = .ok (.tableswitch 149 0 8 #[50, 60, 69, 87, 104, 113, 122, 131, 140], 50) := by decide +kernel
theorem dX4_desk_60 : decode cX4_desk 60 = .ok (.aload_n 0, 1) := by decide +kernel
theorem dX4_desk_61 : decode cX4_desk 61 = .ok (.getfield 12, 3) := by decide +kernel
theorem dX4_desk_64 : decode cX4_desk 64 = .ok (.getfield 84, 3) := by decide +kernel
theorem dX4_desk_67 : decode cX4_desk 67 = .ok (.iload_n 1, 1) := by decide +kernel
theorem dX4_desk_68 : decode cX4_desk 68 = .ok (.iaload, 1) := by decide +kernel
theorem dX4_desk_69 : decode cX4_desk 69 = .ok (.ireturn, 1) := by decide +kernel
theorem dX4_desk_70 : decode cX4_desk 70 = .ok (.aload_n 0, 1) := by decide +kernel
theorem dX4_desk_71 : decode cX4_desk 71 = .ok (.getfield 12, 3) := by decide +kernel
theorem dX4_desk_74 : decode cX4_desk 74 = .ok (.iload_n 1, 1) := by decide +kernel
theorem dX4_desk_75 : decode cX4_desk 75 = .ok (.invokevirtual 132, 3) := by decide +kernel
theorem dX4_desk_78 : decode cX4_desk 78 = .ok (.ireturn, 1) := by decide +kernel
theorem dX4_desk_79 : decode cX4_desk 79 = .ok (.aload_n 0, 1) := by decide +kernel
theorem dX4_desk_80 : decode cX4_desk 80 = .ok (.getfield 12, 3) := by decide +kernel
theorem dX4_desk_83 : decode cX4_desk 83 = .ok (.iload_n 1, 1) := by decide +kernel
theorem dX4_desk_84 : decode cX4_desk 84 = .ok (.invokevirtual 107, 3) := by decide +kernel
theorem dX4_desk_87 : decode cX4_desk 87 = .ok (.aload_n 0, 1) := by decide +kernel
theorem dX4_desk_88 : decode cX4_desk 88 = .ok (.getfield 12, 3) := by decide +kernel
theorem dX4_desk_91 : decode cX4_desk 91 = .ok (.iload_n 1, 1) := by decide +kernel
theorem dX4_desk_92 : decode cX4_desk 92 = .ok (.invokevirtual 132, 3) := by decide +kernel
theorem dX4_desk_95 : decode cX4_desk 95 = .ok (.isub, 1) := by decide +kernel
theorem dX4_desk_96 : decode cX4_desk 96 = .ok (.ireturn, 1) := by decide +kernel
theorem dX4_desk_97 : decode cX4_desk 97 = .ok (.aload_n 0, 1) := by decide +kernel
theorem dX4_desk_98 : decode cX4_desk 98 = .ok (.getfield 12, 3) := by decide +kernel
theorem dX4_desk_101 : decode cX4_desk 101 = .ok (.aload_n 0, 1) := by decide +kernel
theorem dX4_desk_102 : decode cX4_desk 102 = .ok (.getfield 12, 3) := by decide +kernel
theorem dX4_desk_105 : decode cX4_desk 105 = .ok (.getfield 84, 3) := by decide +kernel
theorem dX4_desk_108 : decode cX4_desk 108 = .ok (.iload_n 1, 1) := by decide +kernel
theorem dX4_desk_109 : decode cX4_desk 109 = .ok (.iaload, 1) := by decide +kernel
theorem dX4_desk_110 : decode cX4_desk 110 = .ok (.invokevirtual 206, 3) := by decide +kernel
theorem dX4_desk_113 : decode cX4_desk 113 = .ok (.ireturn, 1) := by decide +kernel
theorem dX4_desk_114 : decode cX4_desk 114 = .ok (.aload_n 0, 1) := by decide +kernel
theorem dX4_desk_115 : decode cX4_desk 115 = .ok (.getfield 42, 3) := by decide +kernel
theorem dX4_desk_118 : decode cX4_desk 118 = .ok (.iload_n 1, 1) := by decide +kernel
theorem dX4_desk_119 : decode cX4_desk 119 = .ok (.invokevirtual 209, 3) := by decide +kernel
theorem dX4_desk_122 : decode cX4_desk 122 = .ok (.ireturn, 1) := by decide +kernel
theorem dX4_desk_123 : decode cX4_desk 123 = .ok (.aload_n 0, 1) := by decide +kernel
theorem dX4_desk_124 : decode cX4_desk 124 = .ok (.getfield 42, 3) := by decide +kernel
theorem dX4_desk_127 : decode cX4_desk 127 = .ok (.iload_n 1, 1) := by decide +kernel
theorem dX4_desk_128 : decode cX4_desk 128 = .ok (.invokevirtual 212, 3) := by decide +kernel
theorem dX4_desk_131 : decode cX4_desk 131 = .ok (.ireturn, 1) := by decide +kernel
theorem dX4_desk_132 : decode cX4_desk 132 = .ok (.aload_n 0, 1) := by decide +kernel
theorem dX4_desk_133 : decode cX4_desk 133 = .ok (.getfield 42, 3) := by decide +kernel
theorem dX4_desk_136 : decode cX4_desk 136 = .ok (.iload_n 1, 1) := by decide +kernel
theorem dX4_desk_137 : decode cX4_desk 137 = .ok (.invokevirtual 215, 3) := by decide +kernel
theorem dX4_desk_140 : decode cX4_desk 140 = .ok (.ireturn, 1) := by decide +kernel
theorem dX4_desk_141 : decode cX4_desk 141 = .ok (.aload_n 0, 1) := by decide +kernel
theorem dX4_desk_142 : decode cX4_desk 142 = .ok (.getfield 42, 3) := by decide +kernel
theorem dX4_desk_145 : decode cX4_desk 145 = .ok (.iload_n 1, 1) := by decide +kernel
theorem dX4_desk_146 : decode cX4_desk 146 = .ok (.invokevirtual 218, 3) := by decide +kernel
theorem dX4_desk_149 : decode cX4_desk 149 = .ok (.ireturn, 1) := by decide +kernel
theorem dX4_desk_150 : decode cX4_desk 150 = .ok (.aload_n 0, 1) := by decide +kernel
theorem dX4_desk_151 : decode cX4_desk 151 = .ok (.getfield 42, 3) := by decide +kernel
theorem dX4_desk_154 : decode cX4_desk 154 = .ok (.iload_n 1, 1) := by decide +kernel
theorem dX4_desk_155 : decode cX4_desk 155 = .ok (.invokevirtual 221, 3) := by decide +kernel
theorem dX4_desk_158 : decode cX4_desk 158 = .ok (.ireturn, 1) := by decide +kernel
theorem dX4_desk_159 : decode cX4_desk 159 = .ok (.iconst (-1), 1) := by decide +kernel
theorem dX4_desk_160 : decode cX4_desk 160 = .ok (.ireturn, 1) := by decide +kernel
set_option maxRecDepth 20000 in
theorem ggX4_along_X4_isDesk : GoodIn wsX4_along wsX4_isDesk := goodIn_r _ [8] (by decide +kernel) (by decide +kernel)
set_option maxRecDepth 20000 in
theorem gX4_along_X4_isDesk : GoodIn wsX4_along (va_wsS RX4 55 yX4_isDesk wsX4_isDesk) := goodIn_app (goodIn_of _ (by decide +kernel)) ggX4_along_X4_isDesk
theorem dX4_along_0 : decode cX4_along 0 = .ok (.iload_n 1, 1) := by decide +kernel
theorem dX4_along_1 : decode cX4_along 1 = .ok (.invokestatic 55, 3) := by decide +kernel
theorem dX4_along_4 : decode cX4_along 4 = .ok (.ifCond .eq 16, 3) := by decide +kernel
theorem dX4_along_7 : decode cX4_along 7 = .ok (.iload_n 2, 1) := by decide +kernel
theorem dX4_along_8 : decode cX4_along 8 = .ok (.ifCond .lt 12, 3) := by decide +kernel
theorem dX4_along_11 : decode cX4_along 11 = .ok (.iload_n 3, 1) := by decide +kernel
theorem dX4_along_12 : decode cX4_along 12 = .ok (.ifCond .lt 8, 3) := by decide +kernel
theorem dX4_along_15 : decode cX4_along 15 = .ok (.iload_n 3, 1) := by decide +kernel
theorem dX4_along_16 : decode cX4_along 16 = .ok (.iconst 1, 1) := by decide +kernel
theorem dX4_along_17 : decode cX4_along 17 = .ok (.if_icmp .le 5, 3) := by decide +kernel
theorem dX4_along_20 : decode cX4_along 20 = .ok (.iconst (-1), 1) := by decide +kernel
theorem dX4_along_21 : decode cX4_along 21 = .ok (.ireturn, 1) := by decide +kernel
theorem dX4_along_22 : decode cX4_along 22 = .ok (.aload_n 0, 1) := by decide +kernel
theorem dX4_along_23 : decode cX4_along 23 = .ok (.getfield 12, 3) := by decide +kernel
theorem dX4_along_26 : decode cX4_along 26 = .ok (.getfield 84, 3) := by decide +kernel
theorem dX4_along_29 : decode cX4_along 29 = .ok (.iload_n 1, 1) := by decide +kernel
theorem dX4_along_30 : decode cX4_along 30 = .ok (.iaload, 1) := by decide +kernel
theorem dX4_along_31 : decode cX4_along 31 = .ok (.istore 4, 2) := by decide +kernel
theorem dX4_along_33 : decode cX4_along 33 = .ok (.iconst 0, 1) := by decide +kernel
theorem dX4_along_34 : decode cX4_along 34 = .ok (.istore 5, 2) := by decide +kernel
theorem dX4_along_36 : decode cX4_along 36 = .ok (.iload 5, 2) := by decide +kernel
theorem dX4_along_38 : decode cX4_along 38 = .ok (.sipush 300, 3) := by decide +kernel
theorem dX4_along_41 : decode cX4_along 41 = .ok (.if_icmp .ge 50, 3) := by decide +kernel
theorem dX4_along_44 : decode cX4_along 44 = .ok (.iload 5, 2) := by decide +kernel
theorem dX4_along_46 : decode cX4_along 46 = .ok (.iload_n 2, 1) := by decide +kernel
theorem dX4_along_47 : decode cX4_along 47 = .ok (.if_icmp .ge 44, 3) := by decide +kernel
theorem dX4_along_50 : decode cX4_along 50 = .ok (.iload 4, 2) := by decide +kernel
theorem dX4_along_52 : decode cX4_along 52 = .ok (.iconst (-1), 1) := by decide +kernel
theorem dX4_along_53 : decode cX4_along 53 = .ok (.if_icmp .eq 38, 3) := by decide +kernel
theorem dX4_along_56 : decode cX4_along 56 = .ok (.iload_n 3, 1) := by decide +kernel
theorem dX4_along_57 : decode cX4_along 57 = .ok (.ifCond .ne 16, 3) := by decide +kernel
theorem dX4_along_60 : decode cX4_along 60 = .ok (.aload_n 0, 1) := by decide +kernel
theorem dX4_along_61 : decode cX4_along 61 = .ok (.getfield 12, 3) := by decide +kernel
theorem dX4_along_64 : decode cX4_along 64 = .ok (.getfield 194, 3) := by decide +kernel
theorem dX4_along_67 : decode cX4_along 67 = .ok (.iload 4, 2) := by decide +kernel
theorem dX4_along_69 : decode cX4_along 69 = .ok (.iaload, 1) := by decide +kernel
theorem dX4_along_70 : decode cX4_along 70 = .ok (.goto 13, 3) := by decide +kernel
theorem dX4_along_73 : decode cX4_along 73 = .ok (.aload_n 0, 1) := by decide +kernel
theorem dX4_along_74 : decode cX4_along 74 = .ok (.getfield 12, 3) := by decide +kernel
theorem dX4_along_77 : decode cX4_along 77 = .ok (.getfield 191, 3) := by decide +kernel
theorem dX4_along_80 : decode cX4_along 80 = .ok (.iload 4, 2) := by decide +kernel
theorem dX4_along_82 : decode cX4_along 82 = .ok (.iaload, 1) := by decide +kernel
theorem dX4_along_83 : decode cX4_along 83 = .ok (.istore 4, 2) := by decide +kernel
theorem dX4_along_85 : decode cX4_along 85 = .ok (.iinc 5 1, 3) := by decide +kernel
theorem dX4_along_88 : decode cX4_along 88 = .ok (.goto (-52), 3) := by decide +kernel
theorem dX4_along_91 : decode cX4_along 91 = .ok (.iload_n 2, 1) := by decide +kernel
theorem dX4_along_92 : decode cX4_along 92 = .ok (.sipush 300, 3) := by decide +kernel
theorem dX4_along_95 : decode cX4_along 95 = .ok (.if_icmp .ge 8, 3) := by decide +kernel
theorem dX4_along_98 : decode cX4_along 98 = .ok (.iload 4, 2) := by decide +kernel
theorem dX4_along_100 : decode cX4_along 100 = .ok (.goto 4, 3) := by decide +kernel
theorem dX4_along_103 : decode cX4_along 103 = .ok (.iconst (-1), 1) := by decide +kernel
theorem dX4_along_104 : decode cX4_along 104 = .ok (.ireturn, 1) := by decide +kernel
set_option maxRecDepth 20000 in
theorem ggX4_ranked_X4_isDesk : GoodIn wsX4_ranked wsX4_isDesk := goodIn_r _ [5] (by decide +kernel) (by decide +kernel)
set_option maxRecDepth 20000 in
theorem gX4_ranked_X4_isDesk : GoodIn wsX4_ranked (va_wsS RX4 55 yX4_isDesk wsX4_isDesk) := goodIn_app (goodIn_of _ (by decide +kernel)) ggX4_ranked_X4_isDesk
set_option maxRecDepth 20000 in
theorem ggX4_ranked_X0_rankedIn : GoodIn wsX4_ranked wsX0_rankedIn := goodIn_r _ [10, 11, 12, 13, 22, 23, 24, 25, 26, 27, 28, 29, 30, 31, 32, 33, 34, 35, 36, 37, 38] (by decide +kernel) (by decide +kernel)
set_option maxRecDepth 20000 in
theorem gX4_ranked_X0_rankedIn : GoodIn wsX4_ranked (wsV RX4 224 RX0 yX0_rankedIn wsX0_rankedIn) := goodIn_app (goodIn_of _ (by decide +kernel)) ggX4_ranked_X0_rankedIn
theorem dX4_ranked_0 : decode cX4_ranked 0 = .ok (.iload_n 1, 1) := by decide +kernel
theorem dX4_ranked_1 : decode cX4_ranked 1 = .ok (.invokestatic 55, 3) := by decide +kernel
theorem dX4_ranked_4 : decode cX4_ranked 4 = .ok (.ifCond .eq 8, 3) := by decide +kernel
theorem dX4_ranked_7 : decode cX4_ranked 7 = .ok (.iload_n 2, 1) := by decide +kernel
theorem dX4_ranked_8 : decode cX4_ranked 8 = .ok (.iconst 1, 1) := by decide +kernel
theorem dX4_ranked_9 : decode cX4_ranked 9 = .ok (.if_icmp .ge 5, 3) := by decide +kernel
theorem dX4_ranked_12 : decode cX4_ranked 12 = .ok (.iconst (-1), 1) := by decide +kernel
theorem dX4_ranked_13 : decode cX4_ranked 13 = .ok (.ireturn, 1) := by decide +kernel
theorem dX4_ranked_14 : decode cX4_ranked 14 = .ok (.aload_n 0, 1) := by decide +kernel
theorem dX4_ranked_15 : decode cX4_ranked 15 = .ok (.getfield 12, 3) := by decide +kernel
theorem dX4_ranked_18 : decode cX4_ranked 18 = .ok (.iload_n 1, 1) := by decide +kernel
theorem dX4_ranked_19 : decode cX4_ranked 19 = .ok (.iload_n 2, 1) := by decide +kernel
theorem dX4_ranked_20 : decode cX4_ranked 20 = .ok (.invokevirtual 224, 3) := by decide +kernel
theorem dX4_ranked_23 : decode cX4_ranked 23 = .ok (.ireturn, 1) := by decide +kernel
set_option maxRecDepth 20000 in
theorem ggX4_least_X4_isDesk : GoodIn wsX4_least wsX4_isDesk := goodIn_r _ [6] (by decide +kernel) (by decide +kernel)
set_option maxRecDepth 20000 in
theorem gX4_least_X4_isDesk : GoodIn wsX4_least (va_wsS RX4 55 yX4_isDesk wsX4_isDesk) := goodIn_app (goodIn_of _ (by decide +kernel)) ggX4_least_X4_isDesk
set_option maxRecDepth 20000 in
theorem ggX4_least_X2_sortPlain : GoodIn wsX4_least wsX2_sortPlain := goodIn_r _ [11, 12, 13, 14, 15, 10, 16, 17, 18, 19, 20, 21, 22, 23, 24, 25, 26, 27, 28, 29, 30, 31, 32, 33, 34, 43, 44, 45, 46, 47, 48, 49, 50, 51, 52, 53, 54, 55, 56, 57, 58, 59, 60, 61, 62, 63, 64, 65] (by decide +kernel) (by decide +kernel)
set_option maxRecDepth 20000 in
theorem gX4_least_X2_sortPlain : GoodIn wsX4_least (wsV RX4 227 RX2 yX2_sortPlain wsX2_sortPlain) := goodIn_app (goodIn_of _ (by decide +kernel)) ggX4_least_X2_sortPlain
theorem dX4_least_0 : decode cX4_least 0 = .ok (.iload_n 1, 1) := by decide +kernel
theorem dX4_least_1 : decode cX4_least 1 = .ok (.invokestatic 55, 3) := by decide +kernel
theorem dX4_least_4 : decode cX4_least 4 = .ok (.ifCond .eq 7, 3) := by decide +kernel
theorem dX4_least_7 : decode cX4_least 7 = .ok (.iload_n 2, 1) := by decide +kernel
theorem dX4_least_8 : decode cX4_least 8 = .ok (.ifCond .ge 5, 3) := by decide +kernel
theorem dX4_least_11 : decode cX4_least 11 = .ok (.iconst (-1), 1) := by decide +kernel
theorem dX4_least_12 : decode cX4_least 12 = .ok (.ireturn, 1) := by decide +kernel
theorem dX4_least_13 : decode cX4_least 13 = .ok (.aload_n 0, 1) := by decide +kernel
theorem dX4_least_14 : decode cX4_least 14 = .ok (.getfield 42, 3) := by decide +kernel
theorem dX4_least_17 : decode cX4_least 17 = .ok (.iload_n 1, 1) := by decide +kernel
theorem dX4_least_18 : decode cX4_least 18 = .ok (.invokevirtual 227, 3) := by decide +kernel
theorem dX4_least_21 : decode cX4_least 21 = .ok (.istore_n 3, 1) := by decide +kernel
theorem dX4_least_22 : decode cX4_least 22 = .ok (.iload_n 2, 1) := by decide +kernel
theorem dX4_least_23 : decode cX4_least 23 = .ok (.iload_n 3, 1) := by decide +kernel
theorem dX4_least_24 : decode cX4_least 24 = .ok (.if_icmp .ge 15, 3) := by decide +kernel
theorem dX4_least_27 : decode cX4_least 27 = .ok (.aload_n 0, 1) := by decide +kernel
theorem dX4_least_28 : decode cX4_least 28 = .ok (.getfield 42, 3) := by decide +kernel
theorem dX4_least_31 : decode cX4_least 31 = .ok (.getfield 230, 3) := by decide +kernel
theorem dX4_least_34 : decode cX4_least 34 = .ok (.iload_n 2, 1) := by decide +kernel
theorem dX4_least_35 : decode cX4_least 35 = .ok (.iaload, 1) := by decide +kernel
theorem dX4_least_36 : decode cX4_least 36 = .ok (.goto 4, 3) := by decide +kernel
theorem dX4_least_39 : decode cX4_least 39 = .ok (.iconst (-1), 1) := by decide +kernel
theorem dX4_least_40 : decode cX4_least 40 = .ok (.ireturn, 1) := by decide +kernel
set_option maxRecDepth 20000 in
theorem ggX4_below_X4_isDesk : GoodIn wsX4_below wsX4_isDesk := goodIn_r _ [5] (by decide +kernel) (by decide +kernel)
set_option maxRecDepth 20000 in
theorem gX4_below_X4_isDesk : GoodIn wsX4_below (va_wsS RX4 55 yX4_isDesk wsX4_isDesk) := goodIn_app (goodIn_of _ (by decide +kernel)) ggX4_below_X4_isDesk
set_option maxRecDepth 20000 in
theorem ggX4_below_X0_plainBelow : GoodIn wsX4_below wsX0_plainBelow := goodIn_r _ [10, 11, 12, 13, 14, 15, 9, 16, 17, 18, 27, 28, 29, 30, 31, 32, 33, 34, 35, 36, 37, 38, 39, 40, 41, 42, 43] (by decide +kernel) (by decide +kernel)
set_option maxRecDepth 20000 in
theorem gX4_below_X0_plainBelow : GoodIn wsX4_below (wsV RX4 233 RX0 yX0_plainBelow wsX0_plainBelow) := goodIn_app (goodIn_of _ (by decide +kernel)) ggX4_below_X0_plainBelow
theorem dX4_below_0 : decode cX4_below 0 = .ok (.iload_n 1, 1) := by decide +kernel
theorem dX4_below_1 : decode cX4_below 1 = .ok (.invokestatic 55, 3) := by decide +kernel
theorem dX4_below_4 : decode cX4_below 4 = .ok (.ifCond .eq 15, 3) := by decide +kernel
theorem dX4_below_7 : decode cX4_below 7 = .ok (.aload_n 0, 1) := by decide +kernel
theorem dX4_below_8 : decode cX4_below 8 = .ok (.getfield 12, 3) := by decide +kernel
theorem dX4_below_11 : decode cX4_below 11 = .ok (.iload_n 1, 1) := by decide +kernel
theorem dX4_below_12 : decode cX4_below 12 = .ok (.lload_n 2, 1) := by decide +kernel
theorem dX4_below_13 : decode cX4_below 13 = .ok (.invokevirtual 233, 3) := by decide +kernel
theorem dX4_below_16 : decode cX4_below 16 = .ok (.goto 4, 3) := by decide +kernel
theorem dX4_below_19 : decode cX4_below 19 = .ok (.iconst (-1), 1) := by decide +kernel
theorem dX4_below_20 : decode cX4_below 20 = .ok (.ireturn, 1) := by decide +kernel
set_option maxRecDepth 20000 in
theorem ggX4_keys_X4_isDesk : GoodIn wsX4_keys wsX4_isDesk := goodIn_r _ [6] (by decide +kernel) (by decide +kernel)
set_option maxRecDepth 20000 in
theorem gX4_keys_X4_isDesk : GoodIn wsX4_keys (va_wsS RX4 55 yX4_isDesk wsX4_isDesk) := goodIn_app (goodIn_of _ (by decide +kernel)) ggX4_keys_X4_isDesk
set_option maxRecDepth 20000 in
theorem ggX4_keys_X2_sumOfKeys : GoodIn wsX4_keys wsX2_sumOfKeys := goodIn_r _ [11, 12, 13, 14, 15, 16, 17, 18, 19, 20, 21, 65, 66, 67, 68, 69, 70, 71, 72, 73, 74, 75, 76, 77, 78, 79, 80, 81, 82, 83, 84, 85, 86, 87] (by decide +kernel) (by decide +kernel)
set_option maxRecDepth 20000 in
theorem gX4_keys_X2_sumOfKeys : GoodIn wsX4_keys (wsV RX4 239 RX2 yX2_sumOfKeys wsX2_sumOfKeys) := goodIn_app (goodIn_of _ (by decide +kernel)) ggX4_keys_X2_sumOfKeys
set_option maxRecDepth 20000 in
theorem ggX4_keys_X2_greatestKey : GoodIn wsX4_keys wsX2_greatestKey := goodIn_r _ [25, 12, 14, 26, 27, 28, 29, 30, 10, 31, 32, 33, 34, 35, 13, 15, 16, 17, 18, 19, 20, 21, 36, 37, 38, 39, 40, 41, 42, 43, 44, 65, 66, 67, 68, 69, 70, 71, 72, 73, 74, 75, 76, 77, 78, 79, 80, 81, 82, 83, 84, 85, 86, 87] (by decide +kernel) (by decide +kernel)
set_option maxRecDepth 20000 in
theorem gX4_keys_X2_greatestKey : GoodIn wsX4_keys (wsV RX4 243 RX2 yX2_greatestKey wsX2_greatestKey) := goodIn_app (goodIn_of _ (by decide +kernel)) ggX4_keys_X2_greatestKey
set_option maxRecDepth 20000 in
theorem ggX4_keys_X2_greatestGap : GoodIn wsX4_keys wsX2_greatestGap := goodIn_r _ [48, 27, 12, 14, 26, 49, 50, 51, 52, 28, 29, 30, 10, 31, 32, 33, 34, 35, 13, 15, 16, 17, 18, 19, 20, 21, 36, 37, 38, 39, 40, 41, 42, 43, 44, 65, 66, 67, 68, 69, 70, 71, 72, 73, 74, 75, 76, 77, 78, 79, 80, 81, 82, 83, 84, 85, 86, 87] (by decide +kernel) (by decide +kernel)
set_option maxRecDepth 20000 in
theorem gX4_keys_X2_greatestGap : GoodIn wsX4_keys (wsV RX4 246 RX2 yX2_greatestGap wsX2_greatestGap) := goodIn_app (goodIn_of _ (by decide +kernel)) ggX4_keys_X2_greatestGap
set_option maxRecDepth 20000 in
theorem ggX4_keys_X2_differentKeys : GoodIn wsX4_keys wsX2_differentKeys := goodIn_r _ [56, 12, 14, 26, 28, 29, 30, 10, 31, 32, 33, 34, 35, 13, 15, 16, 17, 18, 19, 20, 21, 36, 37, 38, 39, 40, 41, 42, 43, 44, 65, 66, 67, 68, 69, 70, 71, 72, 73, 74, 75, 76, 77, 78, 79, 80, 81, 82, 83, 84, 85, 86, 87] (by decide +kernel) (by decide +kernel)
set_option maxRecDepth 20000 in
theorem gX4_keys_X2_differentKeys : GoodIn wsX4_keys (wsV RX4 249 RX2 yX2_differentKeys wsX2_differentKeys) := goodIn_app (goodIn_of _ (by decide +kernel)) ggX4_keys_X2_differentKeys
theorem dX4_keys_0 : decode cX4_keys 0 = .ok (.iload_n 1, 1) := by decide +kernel
theorem dX4_keys_1 : decode cX4_keys 1 = .ok (.invokestatic 55, 3) := by decide +kernel
theorem dX4_keys_4 : decode cX4_keys 4 = .ok (.ifCond .ne 7, 3) := by decide +kernel
theorem dX4_keys_7 : decode cX4_keys 7 = .ok (.ldc2_w 237, 3) := by decide +kernel
theorem dX4_keys_10 : decode cX4_keys 10 = .ok (.lreturn, 1) := by decide +kernel
theorem dX4_keys_11 : decode cX4_keys 11 = .ok (.iload_n 2, 1) := by decide +kernel
theorem dX4_keys_12 : decode cX4_keys 12 = .ok (.tableswitch 68 0 3 #[32, 41, 50, 59], 32) := by decide +kernel
theorem dX4_keys_44 : decode cX4_keys 44 = .ok (.aload_n 0, 1) := by decide +kernel
theorem dX4_keys_45 : decode cX4_keys 45 = .ok (.getfield 42, 3) := by decide +kernel
theorem dX4_keys_48 : decode cX4_keys 48 = .ok (.iload_n 1, 1) := by decide +kernel
theorem dX4_keys_49 : decode cX4_keys 49 = .ok (.invokevirtual 239, 3) := by decide +kernel
theorem dX4_keys_52 : decode cX4_keys 52 = .ok (.lreturn, 1) := by decide +kernel
theorem dX4_keys_53 : decode cX4_keys 53 = .ok (.aload_n 0, 1) := by decide +kernel
theorem dX4_keys_54 : decode cX4_keys 54 = .ok (.getfield 42, 3) := by decide +kernel
theorem dX4_keys_57 : decode cX4_keys 57 = .ok (.iload_n 1, 1) := by decide +kernel
theorem dX4_keys_58 : decode cX4_keys 58 = .ok (.invokevirtual 243, 3) := by decide +kernel
theorem dX4_keys_61 : decode cX4_keys 61 = .ok (.lreturn, 1) := by decide +kernel
theorem dX4_keys_62 : decode cX4_keys 62 = .ok (.aload_n 0, 1) := by decide +kernel
theorem dX4_keys_63 : decode cX4_keys 63 = .ok (.getfield 42, 3) := by decide +kernel
theorem dX4_keys_66 : decode cX4_keys 66 = .ok (.iload_n 1, 1) := by decide +kernel
theorem dX4_keys_67 : decode cX4_keys 67 = .ok (.invokevirtual 246, 3) := by decide +kernel
theorem dX4_keys_70 : decode cX4_keys 70 = .ok (.lreturn, 1) := by decide +kernel
theorem dX4_keys_71 : decode cX4_keys 71 = .ok (.aload_n 0, 1) := by decide +kernel
theorem dX4_keys_72 : decode cX4_keys 72 = .ok (.getfield 42, 3) := by decide +kernel
theorem dX4_keys_75 : decode cX4_keys 75 = .ok (.iload_n 1, 1) := by decide +kernel
theorem dX4_keys_76 : decode cX4_keys 76 = .ok (.invokevirtual 249, 3) := by decide +kernel
theorem dX4_keys_79 : decode cX4_keys 79 = .ok (.lreturn, 1) := by decide +kernel
theorem dX4_keys_80 : decode cX4_keys 80 = .ok (.ldc2_w 237, 3) := by decide +kernel
theorem dX4_keys_83 : decode cX4_keys 83 = .ok (.lreturn, 1) := by decide +kernel
set_option maxRecDepth 20000 in
theorem ggX4_pair_X4_isDesk : GoodIn wsX4_pair wsX4_isDesk := goodIn_r _ [6] (by decide +kernel) (by decide +kernel)
set_option maxRecDepth 20000 in
theorem gX4_pair_X4_isDesk : GoodIn wsX4_pair (va_wsS RX4 55 yX4_isDesk wsX4_isDesk) := goodIn_app (goodIn_of _ (by decide +kernel)) ggX4_pair_X4_isDesk
set_option maxRecDepth 20000 in
theorem ggX4_pair_X2_pairAt : GoodIn wsX4_pair wsX2_pairAt := goodIn_r _ [11, 12, 13, 14, 15, 16, 17, 18, 19, 20, 21, 22, 10, 23, 24, 25, 26, 27, 28, 29, 30, 31, 32, 33, 34, 35, 36, 37, 38, 39, 40, 41, 42, 43, 44, 45, 46, 47, 48, 49, 50, 51, 52, 53, 54, 63, 64, 65, 66, 67, 68, 69, 70, 71, 72, 73, 74, 75, 76, 77, 78, 79, 80, 81, 82, 83, 84, 85] (by decide +kernel) (by decide +kernel)
set_option maxRecDepth 20000 in
theorem gX4_pair_X2_pairAt : GoodIn wsX4_pair (wsV RX4 252 RX2 yX2_pairAt wsX2_pairAt) := goodIn_app (goodIn_of _ (by decide +kernel)) ggX4_pair_X2_pairAt
theorem dX4_pair_0 : decode cX4_pair 0 = .ok (.iload_n 1, 1) := by decide +kernel
theorem dX4_pair_1 : decode cX4_pair 1 = .ok (.invokestatic 55, 3) := by decide +kernel
theorem dX4_pair_4 : decode cX4_pair 4 = .ok (.ifCond .eq 31, 3) := by decide +kernel
theorem dX4_pair_7 : decode cX4_pair 7 = .ok (.iload_n 2, 1) := by decide +kernel
theorem dX4_pair_8 : decode cX4_pair 8 = .ok (.invokestatic 55, 3) := by decide +kernel
theorem dX4_pair_11 : decode cX4_pair 11 = .ok (.ifCond .eq 24, 3) := by decide +kernel
theorem dX4_pair_14 : decode cX4_pair 14 = .ok (.iload_n 3, 1) := by decide +kernel
theorem dX4_pair_15 : decode cX4_pair 15 = .ok (.ifCond .lt 20, 3) := by decide +kernel
theorem dX4_pair_18 : decode cX4_pair 18 = .ok (.iload_n 3, 1) := by decide +kernel
theorem dX4_pair_19 : decode cX4_pair 19 = .ok (.bipush 40, 2) := by decide +kernel
theorem dX4_pair_21 : decode cX4_pair 21 = .ok (.if_icmp .ge 14, 3) := by decide +kernel
theorem dX4_pair_24 : decode cX4_pair 24 = .ok (.iload 4, 2) := by decide +kernel
theorem dX4_pair_26 : decode cX4_pair 26 = .ok (.ifCond .lt 9, 3) := by decide +kernel
theorem dX4_pair_29 : decode cX4_pair 29 = .ok (.iload 4, 2) := by decide +kernel
theorem dX4_pair_31 : decode cX4_pair 31 = .ok (.iconst 2, 1) := by decide +kernel
theorem dX4_pair_32 : decode cX4_pair 32 = .ok (.if_icmp .le 7, 3) := by decide +kernel
theorem dX4_pair_35 : decode cX4_pair 35 = .ok (.ldc2_w 237, 3) := by decide +kernel
theorem dX4_pair_38 : decode cX4_pair 38 = .ok (.lreturn, 1) := by decide +kernel
theorem dX4_pair_39 : decode cX4_pair 39 = .ok (.aload_n 0, 1) := by decide +kernel
theorem dX4_pair_40 : decode cX4_pair 40 = .ok (.getfield 42, 3) := by decide +kernel
theorem dX4_pair_43 : decode cX4_pair 43 = .ok (.iload_n 1, 1) := by decide +kernel
theorem dX4_pair_44 : decode cX4_pair 44 = .ok (.iload_n 2, 1) := by decide +kernel
theorem dX4_pair_45 : decode cX4_pair 45 = .ok (.iload_n 3, 1) := by decide +kernel
theorem dX4_pair_46 : decode cX4_pair 46 = .ok (.iload 4, 2) := by decide +kernel
theorem dX4_pair_48 : decode cX4_pair 48 = .ok (.invokevirtual 252, 3) := by decide +kernel
theorem dX4_pair_51 : decode cX4_pair 51 = .ok (.lreturn, 1) := by decide +kernel
set_option maxRecDepth 20000 in
theorem ggX4_above_X0_isThere : GoodIn wsX4_above wsX0_isThere := goodIn_r _ [9, 10, 11, 20, 21, 22, 23, 24, 25, 26, 27, 28, 29, 30, 31, 32, 33, 34, 35, 36] (by decide +kernel) (by decide +kernel)
set_option maxRecDepth 20000 in
theorem gX4_above_X0_isThere : GoodIn wsX4_above (wsV RX4 97 RX0 yX0_isThere wsX0_isThere) := goodIn_app (goodIn_of _ (by decide +kernel)) ggX4_above_X0_isThere
theorem dX4_above_0 : decode cX4_above 0 = .ok (.aload_n 0, 1) := by decide +kernel
theorem dX4_above_1 : decode cX4_above 1 = .ok (.getfield 12, 3) := by decide +kernel
theorem dX4_above_4 : decode cX4_above 4 = .ok (.iload_n 1, 1) := by decide +kernel
theorem dX4_above_5 : decode cX4_above 5 = .ok (.invokevirtual 97, 3) := by decide +kernel
theorem dX4_above_8 : decode cX4_above 8 = .ok (.ifCond .ne 13, 3) := by decide +kernel
theorem dX4_above_11 : decode cX4_above 11 = .ok (.new 175, 3) := by decide +kernel
theorem dX4_above_14 : decode cX4_above 14 = .ok (.dup, 1) := by decide +kernel
theorem dX4_above_15 : decode cX4_above 15 = .ok (.ldc 177, 2) := by decide +kernel
theorem dX4_above_17 : decode cX4_above 17 = .ok (.invokespecial 179, 3) := by decide +kernel
theorem dX4_above_20 : decode cX4_above 20 = .ok (.athrow, 1) := by decide +kernel
theorem dX4_above_21 : decode cX4_above 21 = .ok (.iload_n 2, 1) := by decide +kernel
theorem dX4_above_22 : decode cX4_above 22 = .ok (.ifCond .lt 10, 3) := by decide +kernel
theorem dX4_above_25 : decode cX4_above 25 = .ok (.iload_n 2, 1) := by decide +kernel
theorem dX4_above_26 : decode cX4_above 26 = .ok (.sipush 300, 3) := by decide +kernel
theorem dX4_above_29 : decode cX4_above 29 = .ok (.if_icmp .lt 5, 3) := by decide +kernel
theorem dX4_above_32 : decode cX4_above 32 = .ok (.iconst (-1), 1) := by decide +kernel
theorem dX4_above_33 : decode cX4_above 33 = .ok (.ireturn, 1) := by decide +kernel
theorem dX4_above_34 : decode cX4_above 34 = .ok (.aload_n 0, 1) := by decide +kernel
theorem dX4_above_35 : decode cX4_above 35 = .ok (.getfield 12, 3) := by decide +kernel
theorem dX4_above_38 : decode cX4_above 38 = .ok (.getfield 197, 3) := by decide +kernel
theorem dX4_above_41 : decode cX4_above 41 = .ok (.iload_n 1, 1) := by decide +kernel
theorem dX4_above_42 : decode cX4_above 42 = .ok (.iaload, 1) := by decide +kernel
theorem dX4_above_43 : decode cX4_above 43 = .ok (.istore_n 3, 1) := by decide +kernel
theorem dX4_above_44 : decode cX4_above 44 = .ok (.iconst 0, 1) := by decide +kernel
theorem dX4_above_45 : decode cX4_above 45 = .ok (.istore 4, 2) := by decide +kernel
theorem dX4_above_47 : decode cX4_above 47 = .ok (.iload 4, 2) := by decide +kernel
theorem dX4_above_49 : decode cX4_above 49 = .ok (.iload_n 2, 1) := by decide +kernel
theorem dX4_above_50 : decode cX4_above 50 = .ok (.if_icmp .ge 24, 3) := by decide +kernel
theorem dX4_above_53 : decode cX4_above 53 = .ok (.iload_n 3, 1) := by decide +kernel
theorem dX4_above_54 : decode cX4_above 54 = .ok (.iconst (-1), 1) := by decide +kernel
theorem dX4_above_55 : decode cX4_above 55 = .ok (.if_icmp .eq 19, 3) := by decide +kernel
theorem dX4_above_58 : decode cX4_above 58 = .ok (.aload_n 0, 1) := by decide +kernel
theorem dX4_above_59 : decode cX4_above 59 = .ok (.getfield 12, 3) := by decide +kernel
theorem dX4_above_62 : decode cX4_above 62 = .ok (.getfield 197, 3) := by decide +kernel
theorem dX4_above_65 : decode cX4_above 65 = .ok (.iload_n 3, 1) := by decide +kernel
theorem dX4_above_66 : decode cX4_above 66 = .ok (.iaload, 1) := by decide +kernel
theorem dX4_above_67 : decode cX4_above 67 = .ok (.istore_n 3, 1) := by decide +kernel
theorem dX4_above_68 : decode cX4_above 68 = .ok (.iinc 4 1, 3) := by decide +kernel
theorem dX4_above_71 : decode cX4_above 71 = .ok (.goto (-24), 3) := by decide +kernel
theorem dX4_above_74 : decode cX4_above 74 = .ok (.iload_n 3, 1) := by decide +kernel
theorem dX4_above_75 : decode cX4_above 75 = .ok (.ireturn, 1) := by decide +kernel
set_option maxRecDepth 20000 in
theorem ggX4_melding_X4_areTwoDesks : GoodIn wsX4_melding wsX4_areTwoDesks := goodIn_r _ [7, 8, 9, 6, 10] (by decide +kernel) (by decide +kernel)
set_option maxRecDepth 20000 in
theorem gX4_melding_X4_areTwoDesks : GoodIn wsX4_melding (va_wsS RX4 122 yX4_areTwoDesks wsX4_areTwoDesks) := goodIn_app (goodIn_of _ (by decide +kernel)) ggX4_melding_X4_areTwoDesks
set_option maxRecDepth 20000 in
theorem ggX4_melding_X4_onPaper : GoodIn wsX4_melding wsX4_onPaper := goodIn_r _ [14, 15, 16, 17, 18, 1, 3, 19, 20, 21, 22, 23, 24, 25, 26, 27, 28, 29, 30, 31, 32, 33, 34, 35, 36, 37, 38, 39, 40, 41, 42, 43, 44, 45, 46, 47, 48, 49, 50, 51, 52, 53, 54, 80, 81, 82, 83, 84, 85, 86, 87, 88, 89, 90, 91, 92, 93, 94, 95, 96, 97, 98, 99, 100, 101, 102, 103, 104] (by decide +kernel) (by decide +kernel)
set_option maxRecDepth 20000 in
theorem gX4_melding_X4_onPaper : GoodIn wsX4_melding (wsV RX4 256 RX4 yX4_onPaper wsX4_onPaper) := goodIn_app (goodIn_of _ (by decide +kernel)) ggX4_melding_X4_onPaper
set_option maxRecDepth 20000 in
theorem ggX4_melding_X0_meldInto : GoodIn wsX4_melding wsX0_meldInto := goodIn_r _ [58, 26, 59, 60, 61, 18, 62, 34, 33, 63, 64, 65, 66, 67, 28, 68, 69, 70, 71, 32, 35, 72, 73, 74, 75, 47, 30, 88, 89, 90, 91, 92, 93, 94, 95, 96, 97, 98, 99, 100, 101, 102, 103, 104] (by decide +kernel) (by decide +kernel)
set_option maxRecDepth 20000 in
theorem gX4_melding_X0_meldInto : GoodIn wsX4_melding (wsV RX4 129 RX0 yX0_meldInto wsX0_meldInto) := goodIn_app (goodIn_of _ (by decide +kernel)) ggX4_melding_X0_meldInto
set_option maxRecDepth 20000 in
theorem ggX4_melding_X0_rankOf : GoodIn wsX4_melding wsX0_rankOf := goodIn_r _ [79, 35, 88, 89, 90, 91, 92, 93, 94, 95, 96, 97, 98, 99, 100, 101, 102, 103, 104] (by decide +kernel) (by decide +kernel)
set_option maxRecDepth 20000 in
theorem gX4_melding_X0_rankOf : GoodIn wsX4_melding (wsV RX4 206 RX0 yX0_rankOf wsX0_rankOf) := goodIn_app (goodIn_of _ (by decide +kernel)) ggX4_melding_X0_rankOf
theorem dX4_melding_0 : decode cX4_melding 0 = .ok (.iload_n 1, 1) := by decide +kernel
theorem dX4_melding_1 : decode cX4_melding 1 = .ok (.iload_n 2, 1) := by decide +kernel
theorem dX4_melding_2 : decode cX4_melding 2 = .ok (.invokestatic 122, 3) := by decide +kernel
theorem dX4_melding_5 : decode cX4_melding 5 = .ok (.ifCond .eq 25, 3) := by decide +kernel
theorem dX4_melding_8 : decode cX4_melding 8 = .ok (.aload_n 0, 1) := by decide +kernel
theorem dX4_melding_9 : decode cX4_melding 9 = .ok (.getfield 12, 3) := by decide +kernel
theorem dX4_melding_12 : decode cX4_melding 12 = .ok (.getfield 84, 3) := by decide +kernel
theorem dX4_melding_15 : decode cX4_melding 15 = .ok (.iload_n 2, 1) := by decide +kernel
theorem dX4_melding_16 : decode cX4_melding 16 = .ok (.iaload, 1) := by decide +kernel
theorem dX4_melding_17 : decode cX4_melding 17 = .ok (.iconst (-1), 1) := by decide +kernel
theorem dX4_melding_18 : decode cX4_melding 18 = .ok (.if_icmp .eq 12, 3) := by decide +kernel
theorem dX4_melding_21 : decode cX4_melding 21 = .ok (.iload_n 3, 1) := by decide +kernel
theorem dX4_melding_22 : decode cX4_melding 22 = .ok (.ifCond .lt 8, 3) := by decide +kernel
theorem dX4_melding_25 : decode cX4_melding 25 = .ok (.iload_n 3, 1) := by decide +kernel
theorem dX4_melding_26 : decode cX4_melding 26 = .ok (.iconst 1, 1) := by decide +kernel
theorem dX4_melding_27 : decode cX4_melding 27 = .ok (.if_icmp .le 5, 3) := by decide +kernel
theorem dX4_melding_30 : decode cX4_melding 30 = .ok (.iconst (-1), 1) := by decide +kernel
theorem dX4_melding_31 : decode cX4_melding 31 = .ok (.ireturn, 1) := by decide +kernel
theorem dX4_melding_32 : decode cX4_melding 32 = .ok (.aload_n 0, 1) := by decide +kernel
theorem dX4_melding_33 : decode cX4_melding 33 = .ok (.invokevirtual 256, 3) := by decide +kernel
theorem dX4_melding_36 : decode cX4_melding 36 = .ok (.astore 4, 2) := by decide +kernel
theorem dX4_melding_38 : decode cX4_melding 38 = .ok (.aload 4, 2) := by decide +kernel
theorem dX4_melding_40 : decode cX4_melding 40 = .ok (.iload_n 1, 1) := by decide +kernel
theorem dX4_melding_41 : decode cX4_melding 41 = .ok (.iload_n 2, 1) := by decide +kernel
theorem dX4_melding_42 : decode cX4_melding 42 = .ok (.invokevirtual 129, 3) := by decide +kernel
theorem dX4_melding_45 : decode cX4_melding 45 = .ok (.iload_n 3, 1) := by decide +kernel
theorem dX4_melding_46 : decode cX4_melding 46 = .ok (.ifCond .ne 11, 3) := by decide +kernel
theorem dX4_melding_49 : decode cX4_melding 49 = .ok (.aload 4, 2) := by decide +kernel
theorem dX4_melding_51 : decode cX4_melding 51 = .ok (.getfield 126, 3) := by decide +kernel
theorem dX4_melding_54 : decode cX4_melding 54 = .ok (.goto 15, 3) := by decide +kernel
theorem dX4_melding_57 : decode cX4_melding 57 = .ok (.aload 4, 2) := by decide +kernel
theorem dX4_melding_59 : decode cX4_melding 59 = .ok (.aload 4, 2) := by decide +kernel
theorem dX4_melding_61 : decode cX4_melding 61 = .ok (.getfield 84, 3) := by decide +kernel
theorem dX4_melding_64 : decode cX4_melding 64 = .ok (.iload_n 1, 1) := by decide +kernel
theorem dX4_melding_65 : decode cX4_melding 65 = .ok (.iaload, 1) := by decide +kernel
theorem dX4_melding_66 : decode cX4_melding 66 = .ok (.invokevirtual 206, 3) := by decide +kernel
theorem dX4_melding_69 : decode cX4_melding 69 = .ok (.ireturn, 1) := by decide +kernel
set_option maxRecDepth 20000 in
theorem ggX4_taking_X4_isDesk : GoodIn wsX4_taking wsX4_isDesk := goodIn_r _ [7] (by decide +kernel) (by decide +kernel)
set_option maxRecDepth 20000 in
theorem gX4_taking_X4_isDesk : GoodIn wsX4_taking (va_wsS RX4 55 yX4_isDesk wsX4_isDesk) := goodIn_app (goodIn_of _ (by decide +kernel)) ggX4_taking_X4_isDesk
set_option maxRecDepth 20000 in
theorem ggX4_taking_X4_onPaper : GoodIn wsX4_taking wsX4_onPaper := goodIn_r _ [11, 12, 13, 14, 15, 1, 3, 16, 17, 18, 19, 20, 21, 22, 23, 24, 25, 26, 27, 28, 29, 30, 31, 32, 33, 34, 35, 36, 37, 38, 39, 40, 41, 42, 43, 44, 45, 46, 47, 48, 49, 50, 51, 77, 78, 79, 80, 81, 82, 83, 84, 85, 86, 87, 88, 89, 90, 91, 92, 93, 94, 95, 96, 97, 98, 99, 100, 101] (by decide +kernel) (by decide +kernel)
set_option maxRecDepth 20000 in
theorem gX4_taking_X4_onPaper : GoodIn wsX4_taking (wsV RX4 256 RX4 yX4_onPaper wsX4_onPaper) := goodIn_app (goodIn_of _ (by decide +kernel)) ggX4_taking_X4_onPaper
set_option maxRecDepth 20000 in
theorem ggX4_taking_X0_dispatch : GoodIn wsX4_taking wsX0_dispatch := goodIn_r _ [55, 47, 33, 34, 25, 35, 56, 57, 58, 15, 59, 23, 29, 30, 27, 60, 61, 62, 63, 31, 64, 65, 66, 67, 68, 69, 70, 71, 72, 32, 73, 74, 75, 76, 28, 46, 85, 86, 87, 88, 89, 90, 91, 92, 93, 94, 95, 96, 97, 98, 99, 100, 101] (by decide +kernel) (by decide +kernel)
set_option maxRecDepth 20000 in
theorem gX4_taking_X0_dispatch : GoodIn wsX4_taking (wsV RX4 87 RX0 yX0_dispatch wsX0_dispatch) := goodIn_app (goodIn_of _ (by decide +kernel)) ggX4_taking_X0_dispatch
theorem dX4_taking_0 : decode cX4_taking 0 = .ok (.iload_n 1, 1) := by decide +kernel
theorem dX4_taking_1 : decode cX4_taking 1 = .ok (.invokestatic 55, 3) := by decide +kernel
theorem dX4_taking_4 : decode cX4_taking 4 = .ok (.ifCond .eq 16, 3) := by decide +kernel
theorem dX4_taking_7 : decode cX4_taking 7 = .ok (.aload_n 0, 1) := by decide +kernel
theorem dX4_taking_8 : decode cX4_taking 8 = .ok (.getfield 12, 3) := by decide +kernel
theorem dX4_taking_11 : decode cX4_taking 11 = .ok (.getfield 84, 3) := by decide +kernel
theorem dX4_taking_14 : decode cX4_taking 14 = .ok (.iload_n 1, 1) := by decide +kernel
theorem dX4_taking_15 : decode cX4_taking 15 = .ok (.iaload, 1) := by decide +kernel
theorem dX4_taking_16 : decode cX4_taking 16 = .ok (.iconst (-1), 1) := by decide +kernel
theorem dX4_taking_17 : decode cX4_taking 17 = .ok (.if_icmp .ne 5, 3) := by decide +kernel
theorem dX4_taking_20 : decode cX4_taking 20 = .ok (.iconst (-1), 1) := by decide +kernel
theorem dX4_taking_21 : decode cX4_taking 21 = .ok (.ireturn, 1) := by decide +kernel
theorem dX4_taking_22 : decode cX4_taking 22 = .ok (.aload_n 0, 1) := by decide +kernel
theorem dX4_taking_23 : decode cX4_taking 23 = .ok (.invokevirtual 256, 3) := by decide +kernel
theorem dX4_taking_26 : decode cX4_taking 26 = .ok (.astore_n 2, 1) := by decide +kernel
theorem dX4_taking_27 : decode cX4_taking 27 = .ok (.aload_n 2, 1) := by decide +kernel
theorem dX4_taking_28 : decode cX4_taking 28 = .ok (.iload_n 1, 1) := by decide +kernel
theorem dX4_taking_29 : decode cX4_taking 29 = .ok (.invokevirtual 87, 3) := by decide +kernel
theorem dX4_taking_32 : decode cX4_taking 32 = .ok (.pop, 1) := by decide +kernel
theorem dX4_taking_33 : decode cX4_taking 33 = .ok (.aload_n 2, 1) := by decide +kernel
theorem dX4_taking_34 : decode cX4_taking 34 = .ok (.getfield 126, 3) := by decide +kernel
theorem dX4_taking_37 : decode cX4_taking 37 = .ok (.ireturn, 1) := by decide +kernel
set_option maxRecDepth 20000 in
theorem ggX4_coming_X4_onPaper : GoodIn wsX4_coming wsX4_onPaper := goodIn_r _ [5, 6, 7, 8, 9, 10, 11, 12, 13, 14, 15, 16, 17, 18, 19, 20, 21, 22, 23, 24, 25, 26, 27, 28, 29, 30, 31, 32, 33, 34, 35, 36, 37, 38, 39, 40, 41, 42, 43, 44, 45, 46, 47, 77, 78, 79, 80, 81, 82, 83, 84, 85, 86, 87, 88, 89, 90, 91, 92, 93, 94, 95, 96, 97, 98, 99, 100, 101] (by decide +kernel) (by decide +kernel)
set_option maxRecDepth 20000 in
theorem gX4_coming_X4_onPaper : GoodIn wsX4_coming (wsV RX4 256 RX4 yX4_onPaper wsX4_onPaper) := goodIn_app (goodIn_of _ (by decide +kernel)) ggX4_coming_X4_onPaper
set_option maxRecDepth 20000 in
theorem ggX4_coming_X0_callNext : GoodIn wsX4_coming wsX0_callNext := goodIn_r _ [51, 41, 52, 53, 54, 9, 55, 43, 29, 30, 21, 31, 56, 57, 58, 59, 19, 25, 26, 23, 60, 61, 62, 63, 27, 64, 65, 66, 67, 68, 69, 70, 71, 72, 28, 73, 74, 75, 76, 24, 42, 85, 86, 87, 88, 89, 90, 91, 92, 93, 94, 95, 96, 97, 98, 99, 100, 101] (by decide +kernel) (by decide +kernel)
set_option maxRecDepth 20000 in
theorem gX4_coming_X0_callNext : GoodIn wsX4_coming (wsV RX4 90 RX0 yX0_callNext wsX0_callNext) := goodIn_app (goodIn_of _ (by decide +kernel)) ggX4_coming_X0_callNext
theorem dX4_coming_0 : decode cX4_coming 0 = .ok (.iload_n 1, 1) := by decide +kernel
theorem dX4_coming_1 : decode cX4_coming 1 = .ok (.ifCond .lt 9, 3) := by decide +kernel
theorem dX4_coming_4 : decode cX4_coming 4 = .ok (.iload_n 1, 1) := by decide +kernel
theorem dX4_coming_5 : decode cX4_coming 5 = .ok (.bipush 60, 2) := by decide +kernel
theorem dX4_coming_7 : decode cX4_coming 7 = .ok (.if_icmp .lt 5, 3) := by decide +kernel
theorem dX4_coming_10 : decode cX4_coming 10 = .ok (.iconst (-1), 1) := by decide +kernel
theorem dX4_coming_11 : decode cX4_coming 11 = .ok (.ireturn, 1) := by decide +kernel
theorem dX4_coming_12 : decode cX4_coming 12 = .ok (.aload_n 0, 1) := by decide +kernel
theorem dX4_coming_13 : decode cX4_coming 13 = .ok (.invokevirtual 256, 3) := by decide +kernel
theorem dX4_coming_16 : decode cX4_coming 16 = .ok (.astore_n 2, 1) := by decide +kernel
theorem dX4_coming_17 : decode cX4_coming 17 = .ok (.iload_n 1, 1) := by decide +kernel
theorem dX4_coming_18 : decode cX4_coming 18 = .ok (.istore_n 3, 1) := by decide +kernel
theorem dX4_coming_19 : decode cX4_coming 19 = .ok (.iconst 0, 1) := by decide +kernel
theorem dX4_coming_20 : decode cX4_coming 20 = .ok (.istore 4, 2) := by decide +kernel
theorem dX4_coming_22 : decode cX4_coming 22 = .ok (.iload 4, 2) := by decide +kernel
theorem dX4_coming_24 : decode cX4_coming 24 = .ok (.bipush 60, 2) := by decide +kernel
theorem dX4_coming_26 : decode cX4_coming 26 = .ok (.if_icmp .ge 42, 3) := by decide +kernel
theorem dX4_coming_29 : decode cX4_coming 29 = .ok (.aload_n 2, 1) := by decide +kernel
theorem dX4_coming_30 : decode cX4_coming 30 = .ok (.invokevirtual 90, 3) := by decide +kernel
theorem dX4_coming_33 : decode cX4_coming 33 = .ok (.istore 5, 2) := by decide +kernel
theorem dX4_coming_35 : decode cX4_coming 35 = .ok (.iload 5, 2) := by decide +kernel
theorem dX4_coming_37 : decode cX4_coming 37 = .ok (.iconst (-1), 1) := by decide +kernel
theorem dX4_coming_38 : decode cX4_coming 38 = .ok (.if_icmp .eq 10, 3) := by decide +kernel
theorem dX4_coming_41 : decode cX4_coming 41 = .ok (.iload_n 3, 1) := by decide +kernel
theorem dX4_coming_42 : decode cX4_coming 42 = .ok (.ifCond .ne 6, 3) := by decide +kernel
theorem dX4_coming_45 : decode cX4_coming 45 = .ok (.iload 5, 2) := by decide +kernel
theorem dX4_coming_47 : decode cX4_coming 47 = .ok (.ireturn, 1) := by decide +kernel
theorem dX4_coming_48 : decode cX4_coming 48 = .ok (.iload_n 3, 1) := by decide +kernel
theorem dX4_coming_49 : decode cX4_coming 49 = .ok (.iload 5, 2) := by decide +kernel
theorem dX4_coming_51 : decode cX4_coming 51 = .ok (.iconst (-1), 1) := by decide +kernel
theorem dX4_coming_52 : decode cX4_coming 52 = .ok (.if_icmp .ne 7, 3) := by decide +kernel
theorem dX4_coming_55 : decode cX4_coming 55 = .ok (.iconst 0, 1) := by decide +kernel
theorem dX4_coming_56 : decode cX4_coming 56 = .ok (.goto 4, 3) := by decide +kernel
theorem dX4_coming_59 : decode cX4_coming 59 = .ok (.iconst 1, 1) := by decide +kernel
theorem dX4_coming_60 : decode cX4_coming 60 = .ok (.isub, 1) := by decide +kernel
theorem dX4_coming_61 : decode cX4_coming 61 = .ok (.istore_n 3, 1) := by decide +kernel
theorem dX4_coming_62 : decode cX4_coming 62 = .ok (.iinc 4 1, 3) := by decide +kernel
theorem dX4_coming_65 : decode cX4_coming 65 = .ok (.goto (-43), 3) := by decide +kernel
theorem dX4_coming_68 : decode cX4_coming 68 = .ok (.iconst (-1), 1) := by decide +kernel
theorem dX4_coming_69 : decode cX4_coming 69 = .ok (.ireturn, 1) := by decide +kernel
set_option maxRecDepth 20000 in
theorem ggX4_tagged_X4_isTag : GoodIn wsX4_tagged wsX4_isTag := goodIn_r _ [5] (by decide +kernel) (by decide +kernel)
set_option maxRecDepth 20000 in
theorem gX4_tagged_X4_isTag : GoodIn wsX4_tagged (va_wsS RX4 62 yX4_isTag wsX4_isTag) := goodIn_app (goodIn_of _ (by decide +kernel)) ggX4_tagged_X4_isTag
set_option maxRecDepth 20000 in
theorem ggX4_tagged_X0_plainWithTag : GoodIn wsX4_tagged wsX0_plainWithTag := goodIn_r _ [10, 11, 12, 13, 14, 15, 9, 16, 17, 18, 27, 28, 29, 30, 31, 32, 33, 34, 35, 36, 37, 38, 39, 40, 41, 42, 43] (by decide +kernel) (by decide +kernel)
set_option maxRecDepth 20000 in
theorem gX4_tagged_X0_plainWithTag : GoodIn wsX4_tagged (wsV RX4 260 RX0 yX0_plainWithTag wsX0_plainWithTag) := goodIn_app (goodIn_of _ (by decide +kernel)) ggX4_tagged_X0_plainWithTag
theorem dX4_tagged_0 : decode cX4_tagged 0 = .ok (.iload_n 1, 1) := by decide +kernel
theorem dX4_tagged_1 : decode cX4_tagged 1 = .ok (.invokestatic 62, 3) := by decide +kernel
theorem dX4_tagged_4 : decode cX4_tagged 4 = .ok (.ifCond .eq 12, 3) := by decide +kernel
theorem dX4_tagged_7 : decode cX4_tagged 7 = .ok (.iload_n 2, 1) := by decide +kernel
theorem dX4_tagged_8 : decode cX4_tagged 8 = .ok (.ifCond .lt 8, 3) := by decide +kernel
theorem dX4_tagged_11 : decode cX4_tagged 11 = .ok (.iload_n 2, 1) := by decide +kernel
theorem dX4_tagged_12 : decode cX4_tagged 12 = .ok (.iconst 1, 1) := by decide +kernel
theorem dX4_tagged_13 : decode cX4_tagged 13 = .ok (.if_icmp .le 5, 3) := by decide +kernel
theorem dX4_tagged_16 : decode cX4_tagged 16 = .ok (.iconst (-1), 1) := by decide +kernel
theorem dX4_tagged_17 : decode cX4_tagged 17 = .ok (.ireturn, 1) := by decide +kernel
theorem dX4_tagged_18 : decode cX4_tagged 18 = .ok (.iconst (-1), 1) := by decide +kernel
theorem dX4_tagged_19 : decode cX4_tagged 19 = .ok (.istore_n 3, 1) := by decide +kernel
theorem dX4_tagged_20 : decode cX4_tagged 20 = .ok (.iconst 0, 1) := by decide +kernel
theorem dX4_tagged_21 : decode cX4_tagged 21 = .ok (.istore 4, 2) := by decide +kernel
theorem dX4_tagged_23 : decode cX4_tagged 23 = .ok (.iconst 0, 1) := by decide +kernel
theorem dX4_tagged_24 : decode cX4_tagged 24 = .ok (.istore 5, 2) := by decide +kernel
theorem dX4_tagged_26 : decode cX4_tagged 26 = .ok (.iload 5, 2) := by decide +kernel
theorem dX4_tagged_28 : decode cX4_tagged 28 = .ok (.bipush 6, 2) := by decide +kernel
theorem dX4_tagged_30 : decode cX4_tagged 30 = .ok (.if_icmp .ge 35, 3) := by decide +kernel
theorem dX4_tagged_33 : decode cX4_tagged 33 = .ok (.aload_n 0, 1) := by decide +kernel
theorem dX4_tagged_34 : decode cX4_tagged 34 = .ok (.getfield 12, 3) := by decide +kernel
theorem dX4_tagged_37 : decode cX4_tagged 37 = .ok (.iload 5, 2) := by decide +kernel
theorem dX4_tagged_39 : decode cX4_tagged 39 = .ok (.iload_n 1, 1) := by decide +kernel
theorem dX4_tagged_40 : decode cX4_tagged 40 = .ok (.invokevirtual 260, 3) := by decide +kernel
theorem dX4_tagged_43 : decode cX4_tagged 43 = .ok (.istore 6, 2) := by decide +kernel
theorem dX4_tagged_45 : decode cX4_tagged 45 = .ok (.iload 6, 2) := by decide +kernel
theorem dX4_tagged_47 : decode cX4_tagged 47 = .ok (.iload 4, 2) := by decide +kernel
theorem dX4_tagged_49 : decode cX4_tagged 49 = .ok (.if_icmp .le 10, 3) := by decide +kernel
theorem dX4_tagged_52 : decode cX4_tagged 52 = .ok (.iload 5, 2) := by decide +kernel
theorem dX4_tagged_54 : decode cX4_tagged 54 = .ok (.istore_n 3, 1) := by decide +kernel
theorem dX4_tagged_55 : decode cX4_tagged 55 = .ok (.iload 6, 2) := by decide +kernel
theorem dX4_tagged_57 : decode cX4_tagged 57 = .ok (.istore 4, 2) := by decide +kernel
theorem dX4_tagged_59 : decode cX4_tagged 59 = .ok (.iinc 5 1, 3) := by decide +kernel
theorem dX4_tagged_62 : decode cX4_tagged 62 = .ok (.goto (-36), 3) := by decide +kernel
theorem dX4_tagged_65 : decode cX4_tagged 65 = .ok (.iload_n 2, 1) := by decide +kernel
theorem dX4_tagged_66 : decode cX4_tagged 66 = .ok (.ifCond .eq 8, 3) := by decide +kernel
theorem dX4_tagged_69 : decode cX4_tagged 69 = .ok (.iload_n 3, 1) := by decide +kernel
theorem dX4_tagged_70 : decode cX4_tagged 70 = .ok (.iconst (-1), 1) := by decide +kernel
theorem dX4_tagged_71 : decode cX4_tagged 71 = .ok (.if_icmp .ne 7, 3) := by decide +kernel
theorem dX4_tagged_74 : decode cX4_tagged 74 = .ok (.iload_n 3, 1) := by decide +kernel
theorem dX4_tagged_75 : decode cX4_tagged 75 = .ok (.goto 5, 3) := by decide +kernel
theorem dX4_tagged_78 : decode cX4_tagged 78 = .ok (.iload 4, 2) := by decide +kernel
theorem dX4_tagged_80 : decode cX4_tagged 80 = .ok (.ireturn, 1) := by decide +kernel
set_option maxRecDepth 20000 in
theorem ggX4_log_X0_logSize : GoodIn wsX4_log wsX0_logSize := goodIn_r _ [10, 11, 12, 13, 14, 15, 28, 29, 30, 31, 32, 33, 34, 35, 36, 37, 38, 39, 40, 41, 42, 43, 44] (by decide +kernel) (by decide +kernel)
set_option maxRecDepth 20000 in
theorem gX4_log_X0_logSize : GoodIn wsX4_log (wsV RX4 263 RX0 yX0_logSize wsX0_logSize) := goodIn_app (goodIn_of _ (by decide +kernel)) ggX4_log_X0_logSize
set_option maxRecDepth 20000 in
theorem ggX4_log_X0_logPlace : GoodIn wsX4_log wsX0_logPlace := goodIn_r _ [19, 11, 28, 29, 30, 31, 32, 33, 34, 35, 36, 37, 38, 39, 40, 41, 42, 43, 44] (by decide +kernel) (by decide +kernel)
set_option maxRecDepth 20000 in
theorem gX4_log_X0_logPlace : GoodIn wsX4_log (wsV RX4 266 RX0 yX0_logPlace wsX0_logPlace) := goodIn_app (goodIn_of _ (by decide +kernel)) ggX4_log_X0_logPlace
theorem dX4_log_0 : decode cX4_log 0 = .ok (.iload_n 1, 1) := by decide +kernel
theorem dX4_log_1 : decode cX4_log 1 = .ok (.ifCond .lt 14, 3) := by decide +kernel
theorem dX4_log_4 : decode cX4_log 4 = .ok (.iload_n 1, 1) := by decide +kernel
theorem dX4_log_5 : decode cX4_log 5 = .ok (.aload_n 0, 1) := by decide +kernel
theorem dX4_log_6 : decode cX4_log 6 = .ok (.getfield 12, 3) := by decide +kernel
theorem dX4_log_9 : decode cX4_log 9 = .ok (.invokevirtual 263, 3) := by decide +kernel
theorem dX4_log_12 : decode cX4_log 12 = .ok (.if_icmp .lt 7, 3) := by decide +kernel
theorem dX4_log_15 : decode cX4_log 15 = .ok (.ldc2_w 237, 3) := by decide +kernel
theorem dX4_log_18 : decode cX4_log 18 = .ok (.lreturn, 1) := by decide +kernel
theorem dX4_log_19 : decode cX4_log 19 = .ok (.aload_n 0, 1) := by decide +kernel
theorem dX4_log_20 : decode cX4_log 20 = .ok (.getfield 12, 3) := by decide +kernel
theorem dX4_log_23 : decode cX4_log 23 = .ok (.iload_n 1, 1) := by decide +kernel
theorem dX4_log_24 : decode cX4_log 24 = .ok (.invokevirtual 266, 3) := by decide +kernel
theorem dX4_log_27 : decode cX4_log 27 = .ok (.istore_n 3, 1) := by decide +kernel
theorem dX4_log_28 : decode cX4_log 28 = .ok (.iload_n 2, 1) := by decide +kernel
theorem dX4_log_29 : decode cX4_log 29 = .ok (.tableswitch 59 0 2 #[27, 38, 48], 27) := by decide +kernel
theorem dX4_log_56 : decode cX4_log 56 = .ok (.aload_n 0, 1) := by decide +kernel
theorem dX4_log_57 : decode cX4_log 57 = .ok (.getfield 12, 3) := by decide +kernel
theorem dX4_log_60 : decode cX4_log 60 = .ok (.getfield 269, 3) := by decide +kernel
theorem dX4_log_63 : decode cX4_log 63 = .ok (.iload_n 3, 1) := by decide +kernel
theorem dX4_log_64 : decode cX4_log 64 = .ok (.iaload, 1) := by decide +kernel
theorem dX4_log_65 : decode cX4_log 65 = .ok (.i2l, 1) := by decide +kernel
theorem dX4_log_66 : decode cX4_log 66 = .ok (.lreturn, 1) := by decide +kernel
theorem dX4_log_67 : decode cX4_log 67 = .ok (.aload_n 0, 1) := by decide +kernel
theorem dX4_log_68 : decode cX4_log 68 = .ok (.getfield 12, 3) := by decide +kernel
theorem dX4_log_71 : decode cX4_log 71 = .ok (.getfield 272, 3) := by decide +kernel
theorem dX4_log_74 : decode cX4_log 74 = .ok (.iload_n 3, 1) := by decide +kernel
theorem dX4_log_75 : decode cX4_log 75 = .ok (.laload, 1) := by decide +kernel
theorem dX4_log_76 : decode cX4_log 76 = .ok (.lreturn, 1) := by decide +kernel
theorem dX4_log_77 : decode cX4_log 77 = .ok (.aload_n 0, 1) := by decide +kernel
theorem dX4_log_78 : decode cX4_log 78 = .ok (.getfield 12, 3) := by decide +kernel
theorem dX4_log_81 : decode cX4_log 81 = .ok (.getfield 275, 3) := by decide +kernel
theorem dX4_log_84 : decode cX4_log 84 = .ok (.iload_n 3, 1) := by decide +kernel
theorem dX4_log_85 : decode cX4_log 85 = .ok (.iaload, 1) := by decide +kernel
theorem dX4_log_86 : decode cX4_log 86 = .ok (.i2l, 1) := by decide +kernel
theorem dX4_log_87 : decode cX4_log 87 = .ok (.lreturn, 1) := by decide +kernel
theorem dX4_log_88 : decode cX4_log 88 = .ok (.ldc2_w 237, 3) := by decide +kernel
theorem dX4_log_91 : decode cX4_log 91 = .ok (.lreturn, 1) := by decide +kernel
set_option maxRecDepth 20000 in
theorem ggX4_best_X4_isPlace : GoodIn wsX4_best wsX4_isPlace := goodIn_r _ [7] (by decide +kernel) (by decide +kernel)
set_option maxRecDepth 20000 in
theorem gX4_best_X4_isPlace : GoodIn wsX4_best (va_wsS RX4 148 yX4_isPlace wsX4_isPlace) := goodIn_app (goodIn_of _ (by decide +kernel)) ggX4_best_X4_isPlace
set_option maxRecDepth 20000 in
theorem ggX4_best_X3_seek : GoodIn wsX4_best wsX3_seek := goodIn_r _ [12, 13, 14, 15, 16, 17, 18, 19, 20, 21, 22, 23, 24, 25, 26, 11, 27, 28, 29, 30, 31, 32, 33, 34, 35, 36, 37, 38, 39, 40, 41, 42, 43, 44, 45, 46, 47, 48, 49, 50, 51, 52, 53, 54, 55, 56, 74, 75, 76, 77, 78, 79, 80, 81, 82, 83, 84] (by decide +kernel) (by decide +kernel)
set_option maxRecDepth 20000 in
theorem gX4_best_X3_seek : GoodIn wsX4_best (wsV RX4 278 RX3 yX3_seek wsX3_seek) := goodIn_app (goodIn_of _ (by decide +kernel)) ggX4_best_X3_seek
set_option maxRecDepth 20000 in
theorem ggX4_best_X3_costOf : GoodIn wsX4_best wsX3_costOf := goodIn_r _ [60] (by decide +kernel) (by decide +kernel)
set_option maxRecDepth 20000 in
theorem gX4_best_X3_costOf : GoodIn wsX4_best (wsV RX4 289 RX3 yX3_costOf wsX3_costOf) := goodIn_app (goodIn_of _ (by decide +kernel)) ggX4_best_X3_costOf
set_option maxRecDepth 20000 in
theorem ggX4_best_X3_bitsOf : GoodIn wsX4_best wsX3_bitsOf := goodIn_r _ [64, 65] (by decide +kernel) (by decide +kernel)
set_option maxRecDepth 20000 in
theorem gX4_best_X3_bitsOf : GoodIn wsX4_best (wsV RX4 293 RX3 yX3_bitsOf wsX3_bitsOf) := goodIn_app (goodIn_of _ (by decide +kernel)) ggX4_best_X3_bitsOf
theorem dX4_best_0 : decode cX4_best 0 = .ok (.iload_n 1, 1) := by decide +kernel
theorem dX4_best_1 : decode cX4_best 1 = .ok (.invokestatic 148, 3) := by decide +kernel
theorem dX4_best_4 : decode cX4_best 4 = .ok (.ifCond .eq 12, 3) := by decide +kernel
theorem dX4_best_7 : decode cX4_best 7 = .ok (.iload_n 2, 1) := by decide +kernel
theorem dX4_best_8 : decode cX4_best 8 = .ok (.ifCond .lt 8, 3) := by decide +kernel
theorem dX4_best_11 : decode cX4_best 11 = .ok (.iload_n 2, 1) := by decide +kernel
theorem dX4_best_12 : decode cX4_best 12 = .ok (.iconst 2, 1) := by decide +kernel
theorem dX4_best_13 : decode cX4_best 13 = .ok (.if_icmp .le 6, 3) := by decide +kernel
theorem dX4_best_16 : decode cX4_best 16 = .ok (.bipush (-2), 2) := by decide +kernel
theorem dX4_best_18 : decode cX4_best 18 = .ok (.ireturn, 1) := by decide +kernel
theorem dX4_best_19 : decode cX4_best 19 = .ok (.aload_n 0, 1) := by decide +kernel
theorem dX4_best_20 : decode cX4_best 20 = .ok (.getfield 51, 3) := by decide +kernel
theorem dX4_best_23 : decode cX4_best 23 = .ok (.iload_n 1, 1) := by decide +kernel
theorem dX4_best_24 : decode cX4_best 24 = .ok (.iconst (-1), 1) := by decide +kernel
theorem dX4_best_25 : decode cX4_best 25 = .ok (.iconst (-1), 1) := by decide +kernel
theorem dX4_best_26 : decode cX4_best 26 = .ok (.invokevirtual 278, 3) := by decide +kernel
theorem dX4_best_29 : decode cX4_best 29 = .ok (.iload_n 2, 1) := by decide +kernel
theorem dX4_best_30 : decode cX4_best 30 = .ok (.iconst 2, 1) := by decide +kernel
theorem dX4_best_31 : decode cX4_best 31 = .ok (.if_icmp .ne 11, 3) := by decide +kernel
theorem dX4_best_34 : decode cX4_best 34 = .ok (.aload_n 0, 1) := by decide +kernel
theorem dX4_best_35 : decode cX4_best 35 = .ok (.getfield 51, 3) := by decide +kernel
theorem dX4_best_38 : decode cX4_best 38 = .ok (.getfield 282, 3) := by decide +kernel
theorem dX4_best_41 : decode cX4_best 41 = .ok (.ireturn, 1) := by decide +kernel
theorem dX4_best_42 : decode cX4_best 42 = .ok (.iload_n 2, 1) := by decide +kernel
theorem dX4_best_43 : decode cX4_best 43 = .ok (.ifCond .ne 20, 3) := by decide +kernel
theorem dX4_best_46 : decode cX4_best 46 = .ok (.aload_n 0, 1) := by decide +kernel
theorem dX4_best_47 : decode cX4_best 47 = .ok (.getfield 51, 3) := by decide +kernel
theorem dX4_best_50 : decode cX4_best 50 = .ok (.aload_n 0, 1) := by decide +kernel
theorem dX4_best_51 : decode cX4_best 51 = .ok (.getfield 51, 3) := by decide +kernel
theorem dX4_best_54 : decode cX4_best 54 = .ok (.getfield 285, 3) := by decide +kernel
theorem dX4_best_57 : decode cX4_best 57 = .ok (.invokevirtual 289, 3) := by decide +kernel
theorem dX4_best_60 : decode cX4_best 60 = .ok (.goto 17, 3) := by decide +kernel
theorem dX4_best_63 : decode cX4_best 63 = .ok (.aload_n 0, 1) := by decide +kernel
theorem dX4_best_64 : decode cX4_best 64 = .ok (.getfield 51, 3) := by decide +kernel
theorem dX4_best_67 : decode cX4_best 67 = .ok (.aload_n 0, 1) := by decide +kernel
theorem dX4_best_68 : decode cX4_best 68 = .ok (.getfield 51, 3) := by decide +kernel
theorem dX4_best_71 : decode cX4_best 71 = .ok (.getfield 285, 3) := by decide +kernel
theorem dX4_best_74 : decode cX4_best 74 = .ok (.invokevirtual 293, 3) := by decide +kernel
theorem dX4_best_77 : decode cX4_best 77 = .ok (.ireturn, 1) := by decide +kernel
set_option maxRecDepth 20000 in
theorem ggX4_by_X4_isPlace : GoodIn wsX4_by wsX4_isPlace := goodIn_r _ [5] (by decide +kernel) (by decide +kernel)
set_option maxRecDepth 20000 in
theorem gX4_by_X4_isPlace : GoodIn wsX4_by (va_wsS RX4 148 yX4_isPlace wsX4_isPlace) := goodIn_app (goodIn_of _ (by decide +kernel)) ggX4_by_X4_isPlace
set_option maxRecDepth 20000 in
theorem ggX4_by_X3_seek : GoodIn wsX4_by wsX3_seek := goodIn_r _ [10, 11, 12, 13, 14, 15, 16, 17, 18, 19, 20, 21, 22, 23, 24, 9, 25, 26, 27, 28, 29, 30, 31, 32, 33, 34, 35, 36, 37, 38, 39, 40, 41, 42, 43, 44, 45, 46, 47, 48, 49, 50, 51, 52, 53, 54, 71, 72, 73, 74, 75, 76, 77, 78, 79, 80, 81] (by decide +kernel) (by decide +kernel)
set_option maxRecDepth 20000 in
theorem gX4_by_X3_seek : GoodIn wsX4_by (wsV RX4 278 RX3 yX3_seek wsX3_seek) := goodIn_app (goodIn_of _ (by decide +kernel)) ggX4_by_X3_seek
set_option maxRecDepth 20000 in
theorem ggX4_by_X3_arcInto : GoodIn wsX4_by wsX3_arcInto := goodIn_r _ [58, 27, 29, 59, 60, 61, 9, 62, 15, 14, 71, 72, 73, 74, 75, 76, 77, 78, 79, 80, 81] (by decide +kernel) (by decide +kernel)
set_option maxRecDepth 20000 in
theorem gX4_by_X3_arcInto : GoodIn wsX4_by (wsV RX4 296 RX3 yX3_arcInto wsX3_arcInto) := goodIn_app (goodIn_of _ (by decide +kernel)) ggX4_by_X3_arcInto
theorem dX4_by_0 : decode cX4_by 0 = .ok (.iload_n 1, 1) := by decide +kernel
theorem dX4_by_1 : decode cX4_by 1 = .ok (.invokestatic 148, 3) := by decide +kernel
theorem dX4_by_4 : decode cX4_by 4 = .ok (.ifCond .eq 10, 3) := by decide +kernel
theorem dX4_by_7 : decode cX4_by 7 = .ok (.iload_n 2, 1) := by decide +kernel
theorem dX4_by_8 : decode cX4_by 8 = .ok (.invokestatic 148, 3) := by decide +kernel
theorem dX4_by_11 : decode cX4_by 11 = .ok (.ifCond .ne 5, 3) := by decide +kernel
theorem dX4_by_14 : decode cX4_by 14 = .ok (.iconst (-1), 1) := by decide +kernel
theorem dX4_by_15 : decode cX4_by 15 = .ok (.ireturn, 1) := by decide +kernel
theorem dX4_by_16 : decode cX4_by 16 = .ok (.aload_n 0, 1) := by decide +kernel
theorem dX4_by_17 : decode cX4_by 17 = .ok (.getfield 51, 3) := by decide +kernel
theorem dX4_by_20 : decode cX4_by 20 = .ok (.iload_n 1, 1) := by decide +kernel
theorem dX4_by_21 : decode cX4_by 21 = .ok (.iconst (-1), 1) := by decide +kernel
theorem dX4_by_22 : decode cX4_by 22 = .ok (.iconst (-1), 1) := by decide +kernel
theorem dX4_by_23 : decode cX4_by 23 = .ok (.invokevirtual 278, 3) := by decide +kernel
theorem dX4_by_26 : decode cX4_by 26 = .ok (.aload_n 0, 1) := by decide +kernel
theorem dX4_by_27 : decode cX4_by 27 = .ok (.getfield 51, 3) := by decide +kernel
theorem dX4_by_30 : decode cX4_by 30 = .ok (.iload_n 2, 1) := by decide +kernel
theorem dX4_by_31 : decode cX4_by 31 = .ok (.invokevirtual 296, 3) := by decide +kernel
theorem dX4_by_34 : decode cX4_by 34 = .ok (.ireturn, 1) := by decide +kernel
set_option maxRecDepth 20000 in
theorem ggX4_dearer_X4_isPlace : GoodIn wsX4_dearer wsX4_isPlace := goodIn_r _ [9] (by decide +kernel) (by decide +kernel)
set_option maxRecDepth 20000 in
theorem gX4_dearer_X4_isPlace : GoodIn wsX4_dearer (va_wsS RX4 148 yX4_isPlace wsX4_isPlace) := goodIn_app (goodIn_of _ (by decide +kernel)) ggX4_dearer_X4_isPlace
set_option maxRecDepth 20000 in
theorem ggX4_dearer_X1_isThere : GoodIn wsX4_dearer wsX1_isThere := goodIn_r _ [14, 15, 89, 90, 91] (by decide +kernel) (by decide +kernel)
set_option maxRecDepth 20000 in
theorem gX4_dearer_X1_isThere : GoodIn wsX4_dearer (wsV RX4 166 RX1 yX1_isThere wsX1_isThere) := goodIn_app (goodIn_of _ (by decide +kernel)) ggX4_dearer_X1_isThere
set_option maxRecDepth 20000 in
theorem ggX4_dearer_X3_seek : GoodIn wsX4_dearer wsX3_seek := goodIn_r _ [20, 21, 22, 23, 24, 25, 26, 27, 28, 29, 30, 31, 32, 33, 34, 19, 35, 36, 37, 38, 39, 40, 41, 42, 43, 44, 45, 46, 47, 48, 49, 50, 51, 52, 53, 54, 55, 56, 57, 58, 59, 60, 61, 62, 63, 64, 81, 82, 83, 84, 85, 86, 87, 88, 89, 90, 91] (by decide +kernel) (by decide +kernel)
set_option maxRecDepth 20000 in
theorem gX4_dearer_X3_seek : GoodIn wsX4_dearer (wsV RX4 278 RX3 yX3_seek wsX3_seek) := goodIn_app (goodIn_of _ (by decide +kernel)) ggX4_dearer_X3_seek
set_option maxRecDepth 20000 in
theorem ggX4_dearer_X3_firstHas : GoodIn wsX4_dearer wsX3_firstHas := goodIn_r _ [68, 25, 24, 81, 82, 83, 84, 85, 86, 87, 88] (by decide +kernel) (by decide +kernel)
set_option maxRecDepth 20000 in
theorem gX4_dearer_X3_firstHas : GoodIn wsX4_dearer (wsV RX4 299 RX3 yX3_firstHas wsX3_firstHas) := goodIn_app (goodIn_of _ (by decide +kernel)) ggX4_dearer_X3_firstHas
set_option maxRecDepth 20000 in
theorem ggX4_dearer_X3_mostStillBelow : GoodIn wsX4_dearer wsX3_mostStillBelow := goodIn_r _ [72] (by decide +kernel) (by decide +kernel)
set_option maxRecDepth 20000 in
theorem gX4_dearer_X3_mostStillBelow : GoodIn wsX4_dearer (wsV RX4 303 RX3 yX3_mostStillBelow wsX3_mostStillBelow) := goodIn_app (goodIn_of _ (by decide +kernel)) ggX4_dearer_X3_mostStillBelow
theorem dX4_dearer_0 : decode cX4_dearer 0 = .ok (.iload_n 1, 1) := by decide +kernel
theorem dX4_dearer_1 : decode cX4_dearer 1 = .ok (.invokestatic 148, 3) := by decide +kernel
theorem dX4_dearer_4 : decode cX4_dearer 4 = .ok (.ifCond .eq 14, 3) := by decide +kernel
theorem dX4_dearer_7 : decode cX4_dearer 7 = .ok (.aload_n 0, 1) := by decide +kernel
theorem dX4_dearer_8 : decode cX4_dearer 8 = .ok (.getfield 25, 3) := by decide +kernel
theorem dX4_dearer_11 : decode cX4_dearer 11 = .ok (.iload_n 2, 1) := by decide +kernel
theorem dX4_dearer_12 : decode cX4_dearer 12 = .ok (.invokevirtual 166, 3) := by decide +kernel
theorem dX4_dearer_15 : decode cX4_dearer 15 = .ok (.ifCond .ne 5, 3) := by decide +kernel
theorem dX4_dearer_18 : decode cX4_dearer 18 = .ok (.iconst (-1), 1) := by decide +kernel
theorem dX4_dearer_19 : decode cX4_dearer 19 = .ok (.ireturn, 1) := by decide +kernel
theorem dX4_dearer_20 : decode cX4_dearer 20 = .ok (.aload_n 0, 1) := by decide +kernel
theorem dX4_dearer_21 : decode cX4_dearer 21 = .ok (.getfield 51, 3) := by decide +kernel
theorem dX4_dearer_24 : decode cX4_dearer 24 = .ok (.iload_n 1, 1) := by decide +kernel
theorem dX4_dearer_25 : decode cX4_dearer 25 = .ok (.iconst (-1), 1) := by decide +kernel
theorem dX4_dearer_26 : decode cX4_dearer 26 = .ok (.iconst (-1), 1) := by decide +kernel
theorem dX4_dearer_27 : decode cX4_dearer 27 = .ok (.invokevirtual 278, 3) := by decide +kernel
theorem dX4_dearer_30 : decode cX4_dearer 30 = .ok (.aload_n 0, 1) := by decide +kernel
theorem dX4_dearer_31 : decode cX4_dearer 31 = .ok (.getfield 51, 3) := by decide +kernel
theorem dX4_dearer_34 : decode cX4_dearer 34 = .ok (.iload_n 2, 1) := by decide +kernel
theorem dX4_dearer_35 : decode cX4_dearer 35 = .ok (.invokevirtual 299, 3) := by decide +kernel
theorem dX4_dearer_38 : decode cX4_dearer 38 = .ok (.ifCond .ne 5, 3) := by decide +kernel
theorem dX4_dearer_41 : decode cX4_dearer 41 = .ok (.iconst (-1), 1) := by decide +kernel
theorem dX4_dearer_42 : decode cX4_dearer 42 = .ok (.ireturn, 1) := by decide +kernel
theorem dX4_dearer_43 : decode cX4_dearer 43 = .ok (.aload_n 0, 1) := by decide +kernel
theorem dX4_dearer_44 : decode cX4_dearer 44 = .ok (.getfield 51, 3) := by decide +kernel
theorem dX4_dearer_47 : decode cX4_dearer 47 = .ok (.getfield 285, 3) := by decide +kernel
theorem dX4_dearer_50 : decode cX4_dearer 50 = .ok (.lstore_n 3, 1) := by decide +kernel
theorem dX4_dearer_51 : decode cX4_dearer 51 = .ok (.aload_n 0, 1) := by decide +kernel
theorem dX4_dearer_52 : decode cX4_dearer 52 = .ok (.getfield 51, 3) := by decide +kernel
theorem dX4_dearer_55 : decode cX4_dearer 55 = .ok (.getfield 282, 3) := by decide +kernel
theorem dX4_dearer_58 : decode cX4_dearer 58 = .ok (.istore 5, 2) := by decide +kernel
theorem dX4_dearer_60 : decode cX4_dearer 60 = .ok (.aload_n 0, 1) := by decide +kernel
theorem dX4_dearer_61 : decode cX4_dearer 61 = .ok (.getfield 51, 3) := by decide +kernel
theorem dX4_dearer_64 : decode cX4_dearer 64 = .ok (.iload_n 1, 1) := by decide +kernel
theorem dX4_dearer_65 : decode cX4_dearer 65 = .ok (.iload_n 2, 1) := by decide +kernel
theorem dX4_dearer_66 : decode cX4_dearer 66 = .ok (.iconst (-1), 1) := by decide +kernel
theorem dX4_dearer_67 : decode cX4_dearer 67 = .ok (.invokevirtual 278, 3) := by decide +kernel
theorem dX4_dearer_70 : decode cX4_dearer 70 = .ok (.aload_n 0, 1) := by decide +kernel
theorem dX4_dearer_71 : decode cX4_dearer 71 = .ok (.getfield 51, 3) := by decide +kernel
theorem dX4_dearer_74 : decode cX4_dearer 74 = .ok (.getfield 282, 3) := by decide +kernel
theorem dX4_dearer_77 : decode cX4_dearer 77 = .ok (.iload 5, 2) := by decide +kernel
theorem dX4_dearer_79 : decode cX4_dearer 79 = .ok (.if_icmp .eq 7, 3) := by decide +kernel
theorem dX4_dearer_82 : decode cX4_dearer 82 = .ok (.ldc_w 302, 3) := by decide +kernel
theorem dX4_dearer_85 : decode cX4_dearer 85 = .ok (.ireturn, 1) := by decide +kernel
theorem dX4_dearer_86 : decode cX4_dearer 86 = .ok (.aload_n 0, 1) := by decide +kernel
theorem dX4_dearer_87 : decode cX4_dearer 87 = .ok (.getfield 51, 3) := by decide +kernel
theorem dX4_dearer_90 : decode cX4_dearer 90 = .ok (.lload_n 3, 1) := by decide +kernel
theorem dX4_dearer_91 : decode cX4_dearer 91 = .ok (.aload_n 0, 1) := by decide +kernel
theorem dX4_dearer_92 : decode cX4_dearer 92 = .ok (.getfield 51, 3) := by decide +kernel
theorem dX4_dearer_95 : decode cX4_dearer 95 = .ok (.getfield 285, 3) := by decide +kernel
theorem dX4_dearer_98 : decode cX4_dearer 98 = .ok (.invokevirtual 303, 3) := by decide +kernel
theorem dX4_dearer_101 : decode cX4_dearer 101 = .ok (.ireturn, 1) := by decide +kernel
set_option maxRecDepth 20000 in
theorem ggX4_without_X4_isPlace : GoodIn wsX4_without wsX4_isPlace := goodIn_r _ [9] (by decide +kernel) (by decide +kernel)
set_option maxRecDepth 20000 in
theorem gX4_without_X4_isPlace : GoodIn wsX4_without (va_wsS RX4 148 yX4_isPlace wsX4_isPlace) := goodIn_app (goodIn_of _ (by decide +kernel)) ggX4_without_X4_isPlace
set_option maxRecDepth 20000 in
theorem ggX4_without_X1_isThere : GoodIn wsX4_without wsX1_isThere := goodIn_r _ [14, 15, 85, 86, 87] (by decide +kernel) (by decide +kernel)
set_option maxRecDepth 20000 in
theorem gX4_without_X1_isThere : GoodIn wsX4_without (wsV RX4 166 RX1 yX1_isThere wsX1_isThere) := goodIn_app (goodIn_of _ (by decide +kernel)) ggX4_without_X1_isThere
set_option maxRecDepth 20000 in
theorem ggX4_without_X3_seek : GoodIn wsX4_without wsX3_seek := goodIn_r _ [20, 21, 22, 23, 24, 25, 26, 27, 28, 29, 30, 31, 32, 33, 34, 19, 35, 36, 37, 38, 39, 40, 41, 42, 43, 44, 45, 46, 47, 48, 49, 50, 51, 52, 53, 54, 55, 56, 57, 58, 59, 60, 61, 62, 63, 64, 77, 78, 79, 80, 81, 82, 83, 84, 85, 86, 87] (by decide +kernel) (by decide +kernel)
set_option maxRecDepth 20000 in
theorem gX4_without_X3_seek : GoodIn wsX4_without (wsV RX4 278 RX3 yX3_seek wsX3_seek) := goodIn_app (goodIn_of _ (by decide +kernel)) ggX4_without_X3_seek
set_option maxRecDepth 20000 in
theorem ggX4_without_X3_costOf : GoodIn wsX4_without wsX3_costOf := goodIn_r _ [68] (by decide +kernel) (by decide +kernel)
set_option maxRecDepth 20000 in
theorem gX4_without_X3_costOf : GoodIn wsX4_without (wsV RX4 289 RX3 yX3_costOf wsX3_costOf) := goodIn_app (goodIn_of _ (by decide +kernel)) ggX4_without_X3_costOf
theorem dX4_without_0 : decode cX4_without 0 = .ok (.iload_n 1, 1) := by decide +kernel
theorem dX4_without_1 : decode cX4_without 1 = .ok (.invokestatic 148, 3) := by decide +kernel
theorem dX4_without_4 : decode cX4_without 4 = .ok (.ifCond .eq 14, 3) := by decide +kernel
theorem dX4_without_7 : decode cX4_without 7 = .ok (.aload_n 0, 1) := by decide +kernel
theorem dX4_without_8 : decode cX4_without 8 = .ok (.getfield 25, 3) := by decide +kernel
theorem dX4_without_11 : decode cX4_without 11 = .ok (.iload_n 2, 1) := by decide +kernel
theorem dX4_without_12 : decode cX4_without 12 = .ok (.invokevirtual 166, 3) := by decide +kernel
theorem dX4_without_15 : decode cX4_without 15 = .ok (.ifCond .ne 5, 3) := by decide +kernel
theorem dX4_without_18 : decode cX4_without 18 = .ok (.iconst (-1), 1) := by decide +kernel
theorem dX4_without_19 : decode cX4_without 19 = .ok (.ireturn, 1) := by decide +kernel
theorem dX4_without_20 : decode cX4_without 20 = .ok (.aload_n 0, 1) := by decide +kernel
theorem dX4_without_21 : decode cX4_without 21 = .ok (.getfield 51, 3) := by decide +kernel
theorem dX4_without_24 : decode cX4_without 24 = .ok (.iload_n 1, 1) := by decide +kernel
theorem dX4_without_25 : decode cX4_without 25 = .ok (.iconst (-1), 1) := by decide +kernel
theorem dX4_without_26 : decode cX4_without 26 = .ok (.iconst (-1), 1) := by decide +kernel
theorem dX4_without_27 : decode cX4_without 27 = .ok (.invokevirtual 278, 3) := by decide +kernel
theorem dX4_without_30 : decode cX4_without 30 = .ok (.aload_n 0, 1) := by decide +kernel
theorem dX4_without_31 : decode cX4_without 31 = .ok (.getfield 51, 3) := by decide +kernel
theorem dX4_without_34 : decode cX4_without 34 = .ok (.aload_n 0, 1) := by decide +kernel
theorem dX4_without_35 : decode cX4_without 35 = .ok (.getfield 51, 3) := by decide +kernel
theorem dX4_without_38 : decode cX4_without 38 = .ok (.getfield 285, 3) := by decide +kernel
theorem dX4_without_41 : decode cX4_without 41 = .ok (.invokevirtual 289, 3) := by decide +kernel
theorem dX4_without_44 : decode cX4_without 44 = .ok (.istore_n 3, 1) := by decide +kernel
theorem dX4_without_45 : decode cX4_without 45 = .ok (.aload_n 0, 1) := by decide +kernel
theorem dX4_without_46 : decode cX4_without 46 = .ok (.getfield 51, 3) := by decide +kernel
theorem dX4_without_49 : decode cX4_without 49 = .ok (.getfield 282, 3) := by decide +kernel
theorem dX4_without_52 : decode cX4_without 52 = .ok (.istore 4, 2) := by decide +kernel
theorem dX4_without_54 : decode cX4_without 54 = .ok (.aload_n 0, 1) := by decide +kernel
theorem dX4_without_55 : decode cX4_without 55 = .ok (.getfield 51, 3) := by decide +kernel
theorem dX4_without_58 : decode cX4_without 58 = .ok (.iload_n 1, 1) := by decide +kernel
theorem dX4_without_59 : decode cX4_without 59 = .ok (.iload_n 2, 1) := by decide +kernel
theorem dX4_without_60 : decode cX4_without 60 = .ok (.iconst (-1), 1) := by decide +kernel
theorem dX4_without_61 : decode cX4_without 61 = .ok (.invokevirtual 278, 3) := by decide +kernel
theorem dX4_without_64 : decode cX4_without 64 = .ok (.aload_n 0, 1) := by decide +kernel
theorem dX4_without_65 : decode cX4_without 65 = .ok (.getfield 51, 3) := by decide +kernel
theorem dX4_without_68 : decode cX4_without 68 = .ok (.getfield 282, 3) := by decide +kernel
theorem dX4_without_71 : decode cX4_without 71 = .ok (.iload 4, 2) := by decide +kernel
theorem dX4_without_73 : decode cX4_without 73 = .ok (.if_icmp .ne 22, 3) := by decide +kernel
theorem dX4_without_76 : decode cX4_without 76 = .ok (.aload_n 0, 1) := by decide +kernel
theorem dX4_without_77 : decode cX4_without 77 = .ok (.getfield 51, 3) := by decide +kernel
theorem dX4_without_80 : decode cX4_without 80 = .ok (.aload_n 0, 1) := by decide +kernel
theorem dX4_without_81 : decode cX4_without 81 = .ok (.getfield 51, 3) := by decide +kernel
theorem dX4_without_84 : decode cX4_without 84 = .ok (.getfield 285, 3) := by decide +kernel
theorem dX4_without_87 : decode cX4_without 87 = .ok (.invokevirtual 289, 3) := by decide +kernel
theorem dX4_without_90 : decode cX4_without 90 = .ok (.iload_n 3, 1) := by decide +kernel
theorem dX4_without_91 : decode cX4_without 91 = .ok (.isub, 1) := by decide +kernel
theorem dX4_without_92 : decode cX4_without 92 = .ok (.goto 6, 3) := by decide +kernel
theorem dX4_without_95 : decode cX4_without 95 = .ok (.ldc_w 302, 3) := by decide +kernel
theorem dX4_without_98 : decode cX4_without 98 = .ok (.ireturn, 1) := by decide +kernel
set_option maxRecDepth 20000 in
theorem ggX4_cheaper_X4_isPlace : GoodIn wsX4_cheaper wsX4_isPlace := goodIn_r _ [8] (by decide +kernel) (by decide +kernel)
set_option maxRecDepth 20000 in
theorem gX4_cheaper_X4_isPlace : GoodIn wsX4_cheaper (va_wsS RX4 148 yX4_isPlace wsX4_isPlace) := goodIn_app (goodIn_of _ (by decide +kernel)) ggX4_cheaper_X4_isPlace
set_option maxRecDepth 20000 in
theorem ggX4_cheaper_X1_isThere : GoodIn wsX4_cheaper wsX1_isThere := goodIn_r _ [13, 14, 88, 89, 90] (by decide +kernel) (by decide +kernel)
set_option maxRecDepth 20000 in
theorem gX4_cheaper_X1_isThere : GoodIn wsX4_cheaper (wsV RX4 166 RX1 yX1_isThere wsX1_isThere) := goodIn_app (goodIn_of _ (by decide +kernel)) ggX4_cheaper_X1_isThere
set_option maxRecDepth 20000 in
theorem ggX4_cheaper_X3_seek : GoodIn wsX4_cheaper wsX3_seek := goodIn_r _ [19, 20, 21, 22, 23, 24, 25, 26, 27, 28, 29, 30, 31, 32, 33, 18, 34, 35, 36, 37, 38, 39, 40, 41, 42, 43, 44, 45, 46, 47, 48, 49, 50, 51, 52, 53, 54, 55, 56, 57, 58, 59, 60, 61, 62, 63, 80, 81, 82, 83, 84, 85, 86, 87, 88, 89, 90] (by decide +kernel) (by decide +kernel)
set_option maxRecDepth 20000 in
theorem gX4_cheaper_X3_seek : GoodIn wsX4_cheaper (wsV RX4 278 RX3 yX3_seek wsX3_seek) := goodIn_app (goodIn_of _ (by decide +kernel)) ggX4_cheaper_X3_seek
set_option maxRecDepth 20000 in
theorem ggX4_cheaper_X3_firstHas : GoodIn wsX4_cheaper wsX3_firstHas := goodIn_r _ [67, 24, 23, 80, 81, 82, 83, 84, 85, 86, 87] (by decide +kernel) (by decide +kernel)
set_option maxRecDepth 20000 in
theorem gX4_cheaper_X3_firstHas : GoodIn wsX4_cheaper (wsV RX4 299 RX3 yX3_firstHas wsX3_firstHas) := goodIn_app (goodIn_of _ (by decide +kernel)) ggX4_cheaper_X3_firstHas
set_option maxRecDepth 20000 in
theorem ggX4_cheaper_X3_leastToPass : GoodIn wsX4_cheaper wsX3_leastToPass := goodIn_r _ [71] (by decide +kernel) (by decide +kernel)
set_option maxRecDepth 20000 in
theorem gX4_cheaper_X3_leastToPass : GoodIn wsX4_cheaper (wsV RX4 307 RX3 yX3_leastToPass wsX3_leastToPass) := goodIn_app (goodIn_of _ (by decide +kernel)) ggX4_cheaper_X3_leastToPass
theorem dX4_cheaper_0 : decode cX4_cheaper 0 = .ok (.iload_n 1, 1) := by decide +kernel
theorem dX4_cheaper_1 : decode cX4_cheaper 1 = .ok (.invokestatic 148, 3) := by decide +kernel
theorem dX4_cheaper_4 : decode cX4_cheaper 4 = .ok (.ifCond .eq 14, 3) := by decide +kernel
theorem dX4_cheaper_7 : decode cX4_cheaper 7 = .ok (.aload_n 0, 1) := by decide +kernel
theorem dX4_cheaper_8 : decode cX4_cheaper 8 = .ok (.getfield 25, 3) := by decide +kernel
theorem dX4_cheaper_11 : decode cX4_cheaper 11 = .ok (.iload_n 2, 1) := by decide +kernel
theorem dX4_cheaper_12 : decode cX4_cheaper 12 = .ok (.invokevirtual 166, 3) := by decide +kernel
theorem dX4_cheaper_15 : decode cX4_cheaper 15 = .ok (.ifCond .ne 5, 3) := by decide +kernel
theorem dX4_cheaper_18 : decode cX4_cheaper 18 = .ok (.iconst (-1), 1) := by decide +kernel
theorem dX4_cheaper_19 : decode cX4_cheaper 19 = .ok (.ireturn, 1) := by decide +kernel
theorem dX4_cheaper_20 : decode cX4_cheaper 20 = .ok (.aload_n 0, 1) := by decide +kernel
theorem dX4_cheaper_21 : decode cX4_cheaper 21 = .ok (.getfield 51, 3) := by decide +kernel
theorem dX4_cheaper_24 : decode cX4_cheaper 24 = .ok (.iload_n 1, 1) := by decide +kernel
theorem dX4_cheaper_25 : decode cX4_cheaper 25 = .ok (.iconst (-1), 1) := by decide +kernel
theorem dX4_cheaper_26 : decode cX4_cheaper 26 = .ok (.iconst (-1), 1) := by decide +kernel
theorem dX4_cheaper_27 : decode cX4_cheaper 27 = .ok (.invokevirtual 278, 3) := by decide +kernel
theorem dX4_cheaper_30 : decode cX4_cheaper 30 = .ok (.aload_n 0, 1) := by decide +kernel
theorem dX4_cheaper_31 : decode cX4_cheaper 31 = .ok (.getfield 51, 3) := by decide +kernel
theorem dX4_cheaper_34 : decode cX4_cheaper 34 = .ok (.iload_n 2, 1) := by decide +kernel
theorem dX4_cheaper_35 : decode cX4_cheaper 35 = .ok (.invokevirtual 299, 3) := by decide +kernel
theorem dX4_cheaper_38 : decode cX4_cheaper 38 = .ok (.ifCond .eq 5, 3) := by decide +kernel
theorem dX4_cheaper_41 : decode cX4_cheaper 41 = .ok (.iconst 0, 1) := by decide +kernel
theorem dX4_cheaper_42 : decode cX4_cheaper 42 = .ok (.ireturn, 1) := by decide +kernel
theorem dX4_cheaper_43 : decode cX4_cheaper 43 = .ok (.aload_n 0, 1) := by decide +kernel
theorem dX4_cheaper_44 : decode cX4_cheaper 44 = .ok (.getfield 51, 3) := by decide +kernel
theorem dX4_cheaper_47 : decode cX4_cheaper 47 = .ok (.getfield 285, 3) := by decide +kernel
theorem dX4_cheaper_50 : decode cX4_cheaper 50 = .ok (.lstore_n 3, 1) := by decide +kernel
theorem dX4_cheaper_51 : decode cX4_cheaper 51 = .ok (.aload_n 0, 1) := by decide +kernel
theorem dX4_cheaper_52 : decode cX4_cheaper 52 = .ok (.getfield 51, 3) := by decide +kernel
theorem dX4_cheaper_55 : decode cX4_cheaper 55 = .ok (.iload_n 1, 1) := by decide +kernel
theorem dX4_cheaper_56 : decode cX4_cheaper 56 = .ok (.iconst (-1), 1) := by decide +kernel
theorem dX4_cheaper_57 : decode cX4_cheaper 57 = .ok (.iload_n 2, 1) := by decide +kernel
theorem dX4_cheaper_58 : decode cX4_cheaper 58 = .ok (.invokevirtual 278, 3) := by decide +kernel
theorem dX4_cheaper_61 : decode cX4_cheaper 61 = .ok (.aload_n 0, 1) := by decide +kernel
theorem dX4_cheaper_62 : decode cX4_cheaper 62 = .ok (.getfield 51, 3) := by decide +kernel
theorem dX4_cheaper_65 : decode cX4_cheaper 65 = .ok (.iload_n 2, 1) := by decide +kernel
theorem dX4_cheaper_66 : decode cX4_cheaper 66 = .ok (.invokevirtual 299, 3) := by decide +kernel
theorem dX4_cheaper_69 : decode cX4_cheaper 69 = .ok (.ifCond .eq 21, 3) := by decide +kernel
theorem dX4_cheaper_72 : decode cX4_cheaper 72 = .ok (.aload_n 0, 1) := by decide +kernel
theorem dX4_cheaper_73 : decode cX4_cheaper 73 = .ok (.getfield 51, 3) := by decide +kernel
theorem dX4_cheaper_76 : decode cX4_cheaper 76 = .ok (.aload_n 0, 1) := by decide +kernel
theorem dX4_cheaper_77 : decode cX4_cheaper 77 = .ok (.getfield 51, 3) := by decide +kernel
theorem dX4_cheaper_80 : decode cX4_cheaper 80 = .ok (.getfield 285, 3) := by decide +kernel
theorem dX4_cheaper_83 : decode cX4_cheaper 83 = .ok (.lload_n 3, 1) := by decide +kernel
theorem dX4_cheaper_84 : decode cX4_cheaper 84 = .ok (.invokevirtual 307, 3) := by decide +kernel
theorem dX4_cheaper_87 : decode cX4_cheaper 87 = .ok (.goto 6, 3) := by decide +kernel
theorem dX4_cheaper_90 : decode cX4_cheaper 90 = .ok (.ldc_w 302, 3) := by decide +kernel
theorem dX4_cheaper_93 : decode cX4_cheaper 93 = .ok (.ireturn, 1) := by decide +kernel
set_option maxRecDepth 20000 in
theorem ggX4_second_X4_isPlace : GoodIn wsX4_second wsX4_isPlace := goodIn_r _ [7] (by decide +kernel) (by decide +kernel)
set_option maxRecDepth 20000 in
theorem gX4_second_X4_isPlace : GoodIn wsX4_second (va_wsS RX4 148 yX4_isPlace wsX4_isPlace) := goodIn_app (goodIn_of _ (by decide +kernel)) ggX4_second_X4_isPlace
set_option maxRecDepth 20000 in
theorem ggX4_second_X3_seek : GoodIn wsX4_second wsX3_seek := goodIn_r _ [12, 13, 14, 15, 16, 17, 18, 19, 20, 21, 22, 23, 24, 25, 26, 11, 27, 28, 29, 30, 31, 32, 33, 34, 35, 36, 37, 38, 39, 40, 41, 42, 43, 44, 45, 46, 47, 48, 49, 50, 51, 52, 53, 54, 55, 56, 74, 75, 76, 77, 78, 79, 80, 81, 82, 83, 84] (by decide +kernel) (by decide +kernel)
set_option maxRecDepth 20000 in
theorem gX4_second_X3_seek : GoodIn wsX4_second (wsV RX4 278 RX3 yX3_seek wsX3_seek) := goodIn_app (goodIn_of _ (by decide +kernel)) ggX4_second_X3_seek
set_option maxRecDepth 20000 in
theorem ggX4_second_X3_costOf : GoodIn wsX4_second wsX3_costOf := goodIn_r _ [60] (by decide +kernel) (by decide +kernel)
set_option maxRecDepth 20000 in
theorem gX4_second_X3_costOf : GoodIn wsX4_second (wsV RX4 289 RX3 yX3_costOf wsX3_costOf) := goodIn_app (goodIn_of _ (by decide +kernel)) ggX4_second_X3_costOf
set_option maxRecDepth 20000 in
theorem ggX4_second_X3_bitsOf : GoodIn wsX4_second wsX3_bitsOf := goodIn_r _ [64, 65] (by decide +kernel) (by decide +kernel)
set_option maxRecDepth 20000 in
theorem gX4_second_X3_bitsOf : GoodIn wsX4_second (wsV RX4 293 RX3 yX3_bitsOf wsX3_bitsOf) := goodIn_app (goodIn_of _ (by decide +kernel)) ggX4_second_X3_bitsOf
theorem dX4_second_0 : decode cX4_second 0 = .ok (.iload_n 1, 1) := by decide +kernel
theorem dX4_second_1 : decode cX4_second 1 = .ok (.invokestatic 148, 3) := by decide +kernel
theorem dX4_second_4 : decode cX4_second 4 = .ok (.ifCond .eq 12, 3) := by decide +kernel
theorem dX4_second_7 : decode cX4_second 7 = .ok (.iload_n 2, 1) := by decide +kernel
theorem dX4_second_8 : decode cX4_second 8 = .ok (.ifCond .lt 8, 3) := by decide +kernel
theorem dX4_second_11 : decode cX4_second 11 = .ok (.iload_n 2, 1) := by decide +kernel
theorem dX4_second_12 : decode cX4_second 12 = .ok (.iconst 1, 1) := by decide +kernel
theorem dX4_second_13 : decode cX4_second 13 = .ok (.if_icmp .le 5, 3) := by decide +kernel
theorem dX4_second_16 : decode cX4_second 16 = .ok (.iconst (-1), 1) := by decide +kernel
theorem dX4_second_17 : decode cX4_second 17 = .ok (.ireturn, 1) := by decide +kernel
theorem dX4_second_18 : decode cX4_second 18 = .ok (.aload_n 0, 1) := by decide +kernel
theorem dX4_second_19 : decode cX4_second 19 = .ok (.getfield 51, 3) := by decide +kernel
theorem dX4_second_22 : decode cX4_second 22 = .ok (.iload_n 1, 1) := by decide +kernel
theorem dX4_second_23 : decode cX4_second 23 = .ok (.iconst (-1), 1) := by decide +kernel
theorem dX4_second_24 : decode cX4_second 24 = .ok (.iconst (-1), 1) := by decide +kernel
theorem dX4_second_25 : decode cX4_second 25 = .ok (.invokevirtual 278, 3) := by decide +kernel
theorem dX4_second_28 : decode cX4_second 28 = .ok (.aload_n 0, 1) := by decide +kernel
theorem dX4_second_29 : decode cX4_second 29 = .ok (.getfield 51, 3) := by decide +kernel
theorem dX4_second_32 : decode cX4_second 32 = .ok (.getfield 310, 3) := by decide +kernel
theorem dX4_second_35 : decode cX4_second 35 = .ok (.ldc2_w 313, 3) := by decide +kernel
theorem dX4_second_38 : decode cX4_second 38 = .ok (.lcmp, 1) := by decide +kernel
theorem dX4_second_39 : decode cX4_second 39 = .ok (.ifCond .ne 5, 3) := by decide +kernel
theorem dX4_second_42 : decode cX4_second 42 = .ok (.iconst (-1), 1) := by decide +kernel
theorem dX4_second_43 : decode cX4_second 43 = .ok (.ireturn, 1) := by decide +kernel
theorem dX4_second_44 : decode cX4_second 44 = .ok (.iload_n 2, 1) := by decide +kernel
theorem dX4_second_45 : decode cX4_second 45 = .ok (.ifCond .ne 20, 3) := by decide +kernel
theorem dX4_second_48 : decode cX4_second 48 = .ok (.aload_n 0, 1) := by decide +kernel
theorem dX4_second_49 : decode cX4_second 49 = .ok (.getfield 51, 3) := by decide +kernel
theorem dX4_second_52 : decode cX4_second 52 = .ok (.aload_n 0, 1) := by decide +kernel
theorem dX4_second_53 : decode cX4_second 53 = .ok (.getfield 51, 3) := by decide +kernel
theorem dX4_second_56 : decode cX4_second 56 = .ok (.getfield 310, 3) := by decide +kernel
theorem dX4_second_59 : decode cX4_second 59 = .ok (.invokevirtual 289, 3) := by decide +kernel
theorem dX4_second_62 : decode cX4_second 62 = .ok (.goto 17, 3) := by decide +kernel
theorem dX4_second_65 : decode cX4_second 65 = .ok (.aload_n 0, 1) := by decide +kernel
theorem dX4_second_66 : decode cX4_second 66 = .ok (.getfield 51, 3) := by decide +kernel
theorem dX4_second_69 : decode cX4_second 69 = .ok (.aload_n 0, 1) := by decide +kernel
theorem dX4_second_70 : decode cX4_second 70 = .ok (.getfield 51, 3) := by decide +kernel
theorem dX4_second_73 : decode cX4_second 73 = .ok (.getfield 310, 3) := by decide +kernel
theorem dX4_second_76 : decode cX4_second 76 = .ok (.invokevirtual 293, 3) := by decide +kernel
theorem dX4_second_79 : decode cX4_second 79 = .ok (.ireturn, 1) := by decide +kernel
set_option maxRecDepth 20000 in
theorem ggX4_center_X3_seek : GoodIn wsX4_center wsX3_seek := goodIn_r _ [8, 9, 10, 11, 12, 13, 14, 15, 16, 17, 18, 19, 20, 21, 22, 7, 23, 24, 25, 26, 27, 28, 29, 30, 31, 32, 33, 34, 35, 36, 37, 38, 39, 40, 41, 42, 43, 44, 45, 46, 47, 48, 49, 50, 51, 52, 72, 73, 74, 75, 76, 77, 78, 79, 80, 81, 82] (by decide +kernel) (by decide +kernel)
set_option maxRecDepth 20000 in
theorem gX4_center_X3_seek : GoodIn wsX4_center (wsV RX4 278 RX3 yX3_seek wsX3_seek) := goodIn_app (goodIn_of _ (by decide +kernel)) ggX4_center_X3_seek
set_option maxRecDepth 20000 in
theorem ggX4_center_J6_bitCount_0f7a4 : GoodIn wsX4_center wsJ6_bitCount_0f7a4 := goodIn_r _ [56, 57, 58, 59] (by decide +kernel) (by decide +kernel)
set_option maxRecDepth 20000 in
theorem gX4_center_J6_bitCount_0f7a4 : GoodIn wsX4_center (va_wsS RX4 315 yJ6_bitCount_0f7a4 wsJ6_bitCount_0f7a4) := goodIn_app (goodIn_of _ (by decide +kernel)) ggX4_center_J6_bitCount_0f7a4
set_option maxRecDepth 20000 in
theorem ggX4_center_X3_costOf : GoodIn wsX4_center wsX3_costOf := goodIn_r _ [63] (by decide +kernel) (by decide +kernel)
set_option maxRecDepth 20000 in
theorem gX4_center_X3_costOf : GoodIn wsX4_center (wsV RX4 289 RX3 yX3_costOf wsX3_costOf) := goodIn_app (goodIn_of _ (by decide +kernel)) ggX4_center_X3_costOf
theorem dX4_center_0 : decode cX4_center 0 = .ok (.iload_n 1, 1) := by decide +kernel
theorem dX4_center_1 : decode cX4_center 1 = .ok (.ifCond .lt 8, 3) := by decide +kernel
theorem dX4_center_4 : decode cX4_center 4 = .ok (.iload_n 1, 1) := by decide +kernel
theorem dX4_center_5 : decode cX4_center 5 = .ok (.iconst 1, 1) := by decide +kernel
theorem dX4_center_6 : decode cX4_center 6 = .ok (.if_icmp .le 5, 3) := by decide +kernel
theorem dX4_center_9 : decode cX4_center 9 = .ok (.iconst (-1), 1) := by decide +kernel
theorem dX4_center_10 : decode cX4_center 10 = .ok (.ireturn, 1) := by decide +kernel
theorem dX4_center_11 : decode cX4_center 11 = .ok (.iconst (-1), 1) := by decide +kernel
theorem dX4_center_12 : decode cX4_center 12 = .ok (.istore_n 2, 1) := by decide +kernel
theorem dX4_center_13 : decode cX4_center 13 = .ok (.iconst 0, 1) := by decide +kernel
theorem dX4_center_14 : decode cX4_center 14 = .ok (.istore_n 3, 1) := by decide +kernel
theorem dX4_center_15 : decode cX4_center 15 = .ok (.iconst 0, 1) := by decide +kernel
theorem dX4_center_16 : decode cX4_center 16 = .ok (.istore 4, 2) := by decide +kernel
theorem dX4_center_18 : decode cX4_center 18 = .ok (.iconst 0, 1) := by decide +kernel
theorem dX4_center_19 : decode cX4_center 19 = .ok (.istore 5, 2) := by decide +kernel
theorem dX4_center_21 : decode cX4_center 21 = .ok (.iload 5, 2) := by decide +kernel
theorem dX4_center_23 : decode cX4_center 23 = .ok (.bipush 8, 2) := by decide +kernel
theorem dX4_center_25 : decode cX4_center 25 = .ok (.if_icmp .ge 77, 3) := by decide +kernel
theorem dX4_center_28 : decode cX4_center 28 = .ok (.aload_n 0, 1) := by decide +kernel
theorem dX4_center_29 : decode cX4_center 29 = .ok (.getfield 51, 3) := by decide +kernel
theorem dX4_center_32 : decode cX4_center 32 = .ok (.iload 5, 2) := by decide +kernel
theorem dX4_center_34 : decode cX4_center 34 = .ok (.iconst (-1), 1) := by decide +kernel
theorem dX4_center_35 : decode cX4_center 35 = .ok (.iconst (-1), 1) := by decide +kernel
theorem dX4_center_36 : decode cX4_center 36 = .ok (.invokevirtual 278, 3) := by decide +kernel
theorem dX4_center_39 : decode cX4_center 39 = .ok (.aload_n 0, 1) := by decide +kernel
theorem dX4_center_40 : decode cX4_center 40 = .ok (.getfield 51, 3) := by decide +kernel
theorem dX4_center_43 : decode cX4_center 43 = .ok (.getfield 282, 3) := by decide +kernel
theorem dX4_center_46 : decode cX4_center 46 = .ok (.invokestatic 315, 3) := by decide +kernel
theorem dX4_center_49 : decode cX4_center 49 = .ok (.istore 6, 2) := by decide +kernel
theorem dX4_center_51 : decode cX4_center 51 = .ok (.aload_n 0, 1) := by decide +kernel
theorem dX4_center_52 : decode cX4_center 52 = .ok (.getfield 51, 3) := by decide +kernel
theorem dX4_center_55 : decode cX4_center 55 = .ok (.aload_n 0, 1) := by decide +kernel
theorem dX4_center_56 : decode cX4_center 56 = .ok (.getfield 51, 3) := by decide +kernel
theorem dX4_center_59 : decode cX4_center 59 = .ok (.getfield 285, 3) := by decide +kernel
theorem dX4_center_62 : decode cX4_center 62 = .ok (.invokevirtual 289, 3) := by decide +kernel
theorem dX4_center_65 : decode cX4_center 65 = .ok (.istore 7, 2) := by decide +kernel
theorem dX4_center_67 : decode cX4_center 67 = .ok (.iload 6, 2) := by decide +kernel
theorem dX4_center_69 : decode cX4_center 69 = .ok (.iload_n 3, 1) := by decide +kernel
theorem dX4_center_70 : decode cX4_center 70 = .ok (.if_icmp .gt 16, 3) := by decide +kernel
theorem dX4_center_73 : decode cX4_center 73 = .ok (.iload 6, 2) := by decide +kernel
theorem dX4_center_75 : decode cX4_center 75 = .ok (.iload_n 3, 1) := by decide +kernel
theorem dX4_center_76 : decode cX4_center 76 = .ok (.if_icmp .ne 20, 3) := by decide +kernel
theorem dX4_center_79 : decode cX4_center 79 = .ok (.iload 7, 2) := by decide +kernel
theorem dX4_center_81 : decode cX4_center 81 = .ok (.iload 4, 2) := by decide +kernel
theorem dX4_center_83 : decode cX4_center 83 = .ok (.if_icmp .ge 13, 3) := by decide +kernel
theorem dX4_center_86 : decode cX4_center 86 = .ok (.iload 5, 2) := by decide +kernel
theorem dX4_center_88 : decode cX4_center 88 = .ok (.istore_n 2, 1) := by decide +kernel
theorem dX4_center_89 : decode cX4_center 89 = .ok (.iload 6, 2) := by decide +kernel
theorem dX4_center_91 : decode cX4_center 91 = .ok (.istore_n 3, 1) := by decide +kernel
theorem dX4_center_92 : decode cX4_center 92 = .ok (.iload 7, 2) := by decide +kernel
theorem dX4_center_94 : decode cX4_center 94 = .ok (.istore 4, 2) := by decide +kernel
theorem dX4_center_96 : decode cX4_center 96 = .ok (.iinc 5 1, 3) := by decide +kernel
theorem dX4_center_99 : decode cX4_center 99 = .ok (.goto (-78), 3) := by decide +kernel
theorem dX4_center_102 : decode cX4_center 102 = .ok (.iload_n 1, 1) := by decide +kernel
theorem dX4_center_103 : decode cX4_center 103 = .ok (.ifCond .ne 7, 3) := by decide +kernel
theorem dX4_center_106 : decode cX4_center 106 = .ok (.iload_n 2, 1) := by decide +kernel
theorem dX4_center_107 : decode cX4_center 107 = .ok (.goto 5, 3) := by decide +kernel
theorem dX4_center_110 : decode cX4_center 110 = .ok (.iload 4, 2) := by decide +kernel
theorem dX4_center_112 : decode cX4_center 112 = .ok (.ireturn, 1) := by decide +kernel
set_option maxRecDepth 20000 in
theorem ggX4_arcs_X1_isThere : GoodIn wsX4_arcs wsX1_isThere := goodIn_r _ [9, 10, 19, 20, 21] (by decide +kernel) (by decide +kernel)
set_option maxRecDepth 20000 in
theorem gX4_arcs_X1_isThere : GoodIn wsX4_arcs (wsV RX4 166 RX1 yX1_isThere wsX1_isThere) := goodIn_app (goodIn_of _ (by decide +kernel)) ggX4_arcs_X1_isThere
theorem dX4_arcs_0 : decode cX4_arcs 0 = .ok (.aload_n 0, 1) := by decide +kernel
theorem dX4_arcs_1 : decode cX4_arcs 1 = .ok (.getfield 25, 3) := by decide +kernel
theorem dX4_arcs_4 : decode cX4_arcs 4 = .ok (.iload_n 1, 1) := by decide +kernel
theorem dX4_arcs_5 : decode cX4_arcs 5 = .ok (.invokevirtual 166, 3) := by decide +kernel
theorem dX4_arcs_8 : decode cX4_arcs 8 = .ok (.ifCond .ne 5, 3) := by decide +kernel
theorem dX4_arcs_11 : decode cX4_arcs 11 = .ok (.iconst (-1), 1) := by decide +kernel
theorem dX4_arcs_12 : decode cX4_arcs 12 = .ok (.ireturn, 1) := by decide +kernel
theorem dX4_arcs_13 : decode cX4_arcs 13 = .ok (.iload_n 2, 1) := by decide +kernel
theorem dX4_arcs_14 : decode cX4_arcs 14 = .ok (.tableswitch 56 0 2 #[26, 36, 46], 26) := by decide +kernel
theorem dX4_arcs_40 : decode cX4_arcs 40 = .ok (.aload_n 0, 1) := by decide +kernel
theorem dX4_arcs_41 : decode cX4_arcs 41 = .ok (.getfield 25, 3) := by decide +kernel
theorem dX4_arcs_44 : decode cX4_arcs 44 = .ok (.getfield 157, 3) := by decide +kernel
theorem dX4_arcs_47 : decode cX4_arcs 47 = .ok (.iload_n 1, 1) := by decide +kernel
theorem dX4_arcs_48 : decode cX4_arcs 48 = .ok (.iaload, 1) := by decide +kernel
theorem dX4_arcs_49 : decode cX4_arcs 49 = .ok (.ireturn, 1) := by decide +kernel
theorem dX4_arcs_50 : decode cX4_arcs 50 = .ok (.aload_n 0, 1) := by decide +kernel
theorem dX4_arcs_51 : decode cX4_arcs 51 = .ok (.getfield 25, 3) := by decide +kernel
theorem dX4_arcs_54 : decode cX4_arcs 54 = .ok (.getfield 160, 3) := by decide +kernel
theorem dX4_arcs_57 : decode cX4_arcs 57 = .ok (.iload_n 1, 1) := by decide +kernel
theorem dX4_arcs_58 : decode cX4_arcs 58 = .ok (.iaload, 1) := by decide +kernel
theorem dX4_arcs_59 : decode cX4_arcs 59 = .ok (.ireturn, 1) := by decide +kernel
theorem dX4_arcs_60 : decode cX4_arcs 60 = .ok (.aload_n 0, 1) := by decide +kernel
theorem dX4_arcs_61 : decode cX4_arcs 61 = .ok (.getfield 25, 3) := by decide +kernel
theorem dX4_arcs_64 : decode cX4_arcs 64 = .ok (.getfield 163, 3) := by decide +kernel
theorem dX4_arcs_67 : decode cX4_arcs 67 = .ok (.iload_n 1, 1) := by decide +kernel
theorem dX4_arcs_68 : decode cX4_arcs 68 = .ok (.iaload, 1) := by decide +kernel
theorem dX4_arcs_69 : decode cX4_arcs 69 = .ok (.ireturn, 1) := by decide +kernel
theorem dX4_arcs_70 : decode cX4_arcs 70 = .ok (.iconst (-1), 1) := by decide +kernel
theorem dX4_arcs_71 : decode cX4_arcs 71 = .ok (.ireturn, 1) := by decide +kernel
set_option maxRecDepth 20000 in
theorem ggX4_count_X0_allThere : GoodIn wsX4_count wsX0_allThere := goodIn_r _ [12, 13, 14, 43, 44, 45, 46, 47, 48, 49, 50, 51, 52, 53, 54, 55, 56, 57, 58, 59] (by decide +kernel) (by decide +kernel)
set_option maxRecDepth 20000 in
theorem gX4_count_X0_allThere : GoodIn wsX4_count (wsV RX4 320 RX0 yX0_allThere wsX0_allThere) := goodIn_app (goodIn_of _ (by decide +kernel)) ggX4_count_X0_allThere
set_option maxRecDepth 20000 in
theorem ggX4_count_X0_plainThere : GoodIn wsX4_count wsX0_plainThere := goodIn_r _ [18, 13, 14, 19, 43, 44, 45, 46, 47, 48, 49, 50, 51, 52, 53, 54, 55, 56, 57, 58, 59] (by decide +kernel) (by decide +kernel)
set_option maxRecDepth 20000 in
theorem gX4_count_X0_plainThere : GoodIn wsX4_count (wsV RX4 323 RX0 yX0_plainThere wsX0_plainThere) := goodIn_app (goodIn_of _ (by decide +kernel)) ggX4_count_X0_plainThere
set_option maxRecDepth 20000 in
theorem ggX4_count_X1_size : GoodIn wsX4_count wsX1_size := goodIn_r _ [24, 25, 60, 61, 62] (by decide +kernel) (by decide +kernel)
set_option maxRecDepth 20000 in
theorem gX4_count_X1_size : GoodIn wsX4_count (wsV RX4 167 RX1 yX1_size wsX1_size) := goodIn_app (goodIn_of _ (by decide +kernel)) ggX4_count_X1_size
set_option maxRecDepth 20000 in
theorem ggX4_count_X0_logSize : GoodIn wsX4_count wsX0_logSize := goodIn_r _ [29, 30, 31, 32, 33, 34, 43, 44, 45, 46, 47, 48, 49, 50, 51, 52, 53, 54, 55, 56, 57, 58, 59] (by decide +kernel) (by decide +kernel)
set_option maxRecDepth 20000 in
theorem gX4_count_X0_logSize : GoodIn wsX4_count (wsV RX4 263 RX0 yX0_logSize wsX0_logSize) := goodIn_app (goodIn_of _ (by decide +kernel)) ggX4_count_X0_logSize
theorem dX4_count_0 : decode cX4_count 0 = .ok (.iload_n 1, 1) := by decide +kernel
theorem dX4_count_1 : decode cX4_count 1 = .ok (.tableswitch 141 0 12 #[67, 75, 83, 91, 99, 107, 115, 123, 131, 131, 131, 131, 131], 67) := by decide +kernel
theorem dX4_count_68 : decode cX4_count 68 = .ok (.aload_n 0, 1) := by decide +kernel
theorem dX4_count_69 : decode cX4_count 69 = .ok (.getfield 12, 3) := by decide +kernel
theorem dX4_count_72 : decode cX4_count 72 = .ok (.getfield 69, 3) := by decide +kernel
theorem dX4_count_75 : decode cX4_count 75 = .ok (.ireturn, 1) := by decide +kernel
theorem dX4_count_76 : decode cX4_count 76 = .ok (.aload_n 0, 1) := by decide +kernel
theorem dX4_count_77 : decode cX4_count 77 = .ok (.getfield 12, 3) := by decide +kernel
theorem dX4_count_80 : decode cX4_count 80 = .ok (.invokevirtual 320, 3) := by decide +kernel
theorem dX4_count_83 : decode cX4_count 83 = .ok (.ireturn, 1) := by decide +kernel
theorem dX4_count_84 : decode cX4_count 84 = .ok (.aload_n 0, 1) := by decide +kernel
theorem dX4_count_85 : decode cX4_count 85 = .ok (.getfield 12, 3) := by decide +kernel
theorem dX4_count_88 : decode cX4_count 88 = .ok (.invokevirtual 323, 3) := by decide +kernel
theorem dX4_count_91 : decode cX4_count 91 = .ok (.ireturn, 1) := by decide +kernel
theorem dX4_count_92 : decode cX4_count 92 = .ok (.aload_n 0, 1) := by decide +kernel
theorem dX4_count_93 : decode cX4_count 93 = .ok (.getfield 25, 3) := by decide +kernel
theorem dX4_count_96 : decode cX4_count 96 = .ok (.invokevirtual 167, 3) := by decide +kernel
theorem dX4_count_99 : decode cX4_count 99 = .ok (.ireturn, 1) := by decide +kernel
theorem dX4_count_100 : decode cX4_count 100 = .ok (.aload_n 0, 1) := by decide +kernel
theorem dX4_count_101 : decode cX4_count 101 = .ok (.getfield 12, 3) := by decide +kernel
theorem dX4_count_104 : decode cX4_count 104 = .ok (.getfield 126, 3) := by decide +kernel
theorem dX4_count_107 : decode cX4_count 107 = .ok (.ireturn, 1) := by decide +kernel
theorem dX4_count_108 : decode cX4_count 108 = .ok (.aload_n 0, 1) := by decide +kernel
theorem dX4_count_109 : decode cX4_count 109 = .ok (.getfield 12, 3) := by decide +kernel
theorem dX4_count_112 : decode cX4_count 112 = .ok (.getfield 326, 3) := by decide +kernel
theorem dX4_count_115 : decode cX4_count 115 = .ok (.ireturn, 1) := by decide +kernel
theorem dX4_count_116 : decode cX4_count 116 = .ok (.aload_n 0, 1) := by decide +kernel
theorem dX4_count_117 : decode cX4_count 117 = .ok (.getfield 12, 3) := by decide +kernel
theorem dX4_count_120 : decode cX4_count 120 = .ok (.invokevirtual 263, 3) := by decide +kernel
theorem dX4_count_123 : decode cX4_count 123 = .ok (.ireturn, 1) := by decide +kernel
theorem dX4_count_124 : decode cX4_count 124 = .ok (.aload_n 0, 1) := by decide +kernel
theorem dX4_count_125 : decode cX4_count 125 = .ok (.getfield 12, 3) := by decide +kernel
theorem dX4_count_128 : decode cX4_count 128 = .ok (.getfield 329, 3) := by decide +kernel
theorem dX4_count_131 : decode cX4_count 131 = .ok (.ireturn, 1) := by decide +kernel
theorem dX4_count_132 : decode cX4_count 132 = .ok (.aload_n 0, 1) := by decide +kernel
theorem dX4_count_133 : decode cX4_count 133 = .ok (.getfield 33, 3) := by decide +kernel
theorem dX4_count_136 : decode cX4_count 136 = .ok (.iload_n 1, 1) := by decide +kernel
theorem dX4_count_137 : decode cX4_count 137 = .ok (.bipush 8, 2) := by decide +kernel
theorem dX4_count_139 : decode cX4_count 139 = .ok (.isub, 1) := by decide +kernel
theorem dX4_count_140 : decode cX4_count 140 = .ok (.iaload, 1) := by decide +kernel
theorem dX4_count_141 : decode cX4_count 141 = .ok (.ireturn, 1) := by decide +kernel
theorem dX4_count_142 : decode cX4_count 142 = .ok (.iconst (-1), 1) := by decide +kernel
theorem dX4_count_143 : decode cX4_count 143 = .ok (.ireturn, 1) := by decide +kernel
theorem dX4_isDesk_0 : decode cX4_isDesk 0 = .ok (.iload_n 0, 1) := by decide +kernel
theorem dX4_isDesk_1 : decode cX4_isDesk 1 = .ok (.ifCond .lt 13, 3) := by decide +kernel
theorem dX4_isDesk_4 : decode cX4_isDesk 4 = .ok (.iload_n 0, 1) := by decide +kernel
theorem dX4_isDesk_5 : decode cX4_isDesk 5 = .ok (.bipush 6, 2) := by decide +kernel
theorem dX4_isDesk_7 : decode cX4_isDesk 7 = .ok (.if_icmp .ge 7, 3) := by decide +kernel
theorem dX4_isDesk_10 : decode cX4_isDesk 10 = .ok (.iconst 1, 1) := by decide +kernel
theorem dX4_isDesk_11 : decode cX4_isDesk 11 = .ok (.goto 4, 3) := by decide +kernel
theorem dX4_isDesk_14 : decode cX4_isDesk 14 = .ok (.iconst 0, 1) := by decide +kernel
theorem dX4_isDesk_15 : decode cX4_isDesk 15 = .ok (.ireturn, 1) := by decide +kernel
set_option maxRecDepth 20000 in
theorem ggX4_areTwoDesks_X4_isDesk : GoodIn wsX4_areTwoDesks wsX4_isDesk := goodIn_r _ [4] (by decide +kernel) (by decide +kernel)
set_option maxRecDepth 20000 in
theorem gX4_areTwoDesks_X4_isDesk : GoodIn wsX4_areTwoDesks (va_wsS RX4 55 yX4_isDesk wsX4_isDesk) := goodIn_app (goodIn_of _ (by decide +kernel)) ggX4_areTwoDesks_X4_isDesk
theorem dX4_areTwoDesks_0 : decode cX4_areTwoDesks 0 = .ok (.iload_n 0, 1) := by decide +kernel
theorem dX4_areTwoDesks_1 : decode cX4_areTwoDesks 1 = .ok (.invokestatic 55, 3) := by decide +kernel
theorem dX4_areTwoDesks_4 : decode cX4_areTwoDesks 4 = .ok (.ifCond .eq 19, 3) := by decide +kernel
theorem dX4_areTwoDesks_7 : decode cX4_areTwoDesks 7 = .ok (.iload_n 1, 1) := by decide +kernel
theorem dX4_areTwoDesks_8 : decode cX4_areTwoDesks 8 = .ok (.invokestatic 55, 3) := by decide +kernel
theorem dX4_areTwoDesks_11 : decode cX4_areTwoDesks 11 = .ok (.ifCond .eq 12, 3) := by decide +kernel
theorem dX4_areTwoDesks_14 : decode cX4_areTwoDesks 14 = .ok (.iload_n 0, 1) := by decide +kernel
theorem dX4_areTwoDesks_15 : decode cX4_areTwoDesks 15 = .ok (.iload_n 1, 1) := by decide +kernel
theorem dX4_areTwoDesks_16 : decode cX4_areTwoDesks 16 = .ok (.if_icmp .eq 7, 3) := by decide +kernel
theorem dX4_areTwoDesks_19 : decode cX4_areTwoDesks 19 = .ok (.iconst 1, 1) := by decide +kernel
theorem dX4_areTwoDesks_20 : decode cX4_areTwoDesks 20 = .ok (.goto 4, 3) := by decide +kernel
theorem dX4_areTwoDesks_23 : decode cX4_areTwoDesks 23 = .ok (.iconst 0, 1) := by decide +kernel
theorem dX4_areTwoDesks_24 : decode cX4_areTwoDesks 24 = .ok (.ireturn, 1) := by decide +kernel
theorem dX4_isKey_0 : decode cX4_isKey 0 = .ok (.iload_n 0, 1) := by decide +kernel
theorem dX4_isKey_1 : decode cX4_isKey 1 = .ok (.ldc_w 332, 3) := by decide +kernel
theorem dX4_isKey_4 : decode cX4_isKey 4 = .ok (.if_icmp .lt 14, 3) := by decide +kernel
theorem dX4_isKey_7 : decode cX4_isKey 7 = .ok (.iload_n 0, 1) := by decide +kernel
theorem dX4_isKey_8 : decode cX4_isKey 8 = .ok (.ldc_w 333, 3) := by decide +kernel
theorem dX4_isKey_11 : decode cX4_isKey 11 = .ok (.if_icmp .gt 7, 3) := by decide +kernel
theorem dX4_isKey_14 : decode cX4_isKey 14 = .ok (.iconst 1, 1) := by decide +kernel
theorem dX4_isKey_15 : decode cX4_isKey 15 = .ok (.goto 4, 3) := by decide +kernel
theorem dX4_isKey_18 : decode cX4_isKey 18 = .ok (.iconst 0, 1) := by decide +kernel
theorem dX4_isKey_19 : decode cX4_isKey 19 = .ok (.ireturn, 1) := by decide +kernel
theorem dX4_isTag_0 : decode cX4_isTag 0 = .ok (.iload_n 0, 1) := by decide +kernel
theorem dX4_isTag_1 : decode cX4_isTag 1 = .ok (.ifCond .lt 13, 3) := by decide +kernel
theorem dX4_isTag_4 : decode cX4_isTag 4 = .ok (.iload_n 0, 1) := by decide +kernel
theorem dX4_isTag_5 : decode cX4_isTag 5 = .ok (.bipush 100, 2) := by decide +kernel
theorem dX4_isTag_7 : decode cX4_isTag 7 = .ok (.if_icmp .ge 7, 3) := by decide +kernel
theorem dX4_isTag_10 : decode cX4_isTag 10 = .ok (.iconst 1, 1) := by decide +kernel
theorem dX4_isTag_11 : decode cX4_isTag 11 = .ok (.goto 4, 3) := by decide +kernel
theorem dX4_isTag_14 : decode cX4_isTag 14 = .ok (.iconst 0, 1) := by decide +kernel
theorem dX4_isTag_15 : decode cX4_isTag 15 = .ok (.ireturn, 1) := by decide +kernel
theorem dX4_isPlace_0 : decode cX4_isPlace 0 = .ok (.iload_n 0, 1) := by decide +kernel
theorem dX4_isPlace_1 : decode cX4_isPlace 1 = .ok (.ifCond .lt 13, 3) := by decide +kernel
theorem dX4_isPlace_4 : decode cX4_isPlace 4 = .ok (.iload_n 0, 1) := by decide +kernel
theorem dX4_isPlace_5 : decode cX4_isPlace 5 = .ok (.bipush 8, 2) := by decide +kernel
theorem dX4_isPlace_7 : decode cX4_isPlace 7 = .ok (.if_icmp .ge 7, 3) := by decide +kernel
theorem dX4_isPlace_10 : decode cX4_isPlace 10 = .ok (.iconst 1, 1) := by decide +kernel
theorem dX4_isPlace_11 : decode cX4_isPlace 11 = .ok (.goto 4, 3) := by decide +kernel
theorem dX4_isPlace_14 : decode cX4_isPlace 14 = .ok (.iconst 0, 1) := by decide +kernel
theorem dX4_isPlace_15 : decode cX4_isPlace 15 = .ok (.ireturn, 1) := by decide +kernel
theorem dX4_isCost_0 : decode cX4_isCost 0 = .ok (.iload_n 0, 1) := by decide +kernel
theorem dX4_isCost_1 : decode cX4_isCost 1 = .ok (.ifCond .lt 13, 3) := by decide +kernel
theorem dX4_isCost_4 : decode cX4_isCost 4 = .ok (.iload_n 0, 1) := by decide +kernel
theorem dX4_isCost_5 : decode cX4_isCost 5 = .ok (.ldc 118, 2) := by decide +kernel
theorem dX4_isCost_7 : decode cX4_isCost 7 = .ok (.if_icmp .gt 7, 3) := by decide +kernel
theorem dX4_isCost_10 : decode cX4_isCost 10 = .ok (.iconst 1, 1) := by decide +kernel
theorem dX4_isCost_11 : decode cX4_isCost 11 = .ok (.goto 4, 3) := by decide +kernel
theorem dX4_isCost_14 : decode cX4_isCost 14 = .ok (.iconst 0, 1) := by decide +kernel
theorem dX4_isCost_15 : decode cX4_isCost 15 = .ok (.ireturn, 1) := by decide +kernel
theorem dX4_refuse_0 : decode cX4_refuse 0 = .ok (.iconst (-1), 1) := by decide +kernel
theorem dX4_refuse_1 : decode cX4_refuse 1 = .ok (.iload_n 1, 1) := by decide +kernel
theorem dX4_refuse_2 : decode cX4_refuse 2 = .ok (.isub, 1) := by decide +kernel
theorem dX4_refuse_3 : decode cX4_refuse 3 = .ok (.istore_n 2, 1) := by decide +kernel
theorem dX4_refuse_4 : decode cX4_refuse 4 = .ok (.iload_n 2, 1) := by decide +kernel
theorem dX4_refuse_5 : decode cX4_refuse 5 = .ok (.ifCond .lt 18, 3) := by decide +kernel
theorem dX4_refuse_8 : decode cX4_refuse 8 = .ok (.iload_n 2, 1) := by decide +kernel
theorem dX4_refuse_9 : decode cX4_refuse 9 = .ok (.iconst 5, 1) := by decide +kernel
theorem dX4_refuse_10 : decode cX4_refuse 10 = .ok (.if_icmp .ge 13, 3) := by decide +kernel
theorem dX4_refuse_13 : decode cX4_refuse 13 = .ok (.aload_n 0, 1) := by decide +kernel
theorem dX4_refuse_14 : decode cX4_refuse 14 = .ok (.getfield 33, 3) := by decide +kernel
theorem dX4_refuse_17 : decode cX4_refuse 17 = .ok (.iload_n 2, 1) := by decide +kernel
theorem dX4_refuse_18 : decode cX4_refuse 18 = .ok (.dup2, 1) := by decide +kernel
theorem dX4_refuse_19 : decode cX4_refuse 19 = .ok (.iaload, 1) := by decide +kernel
theorem dX4_refuse_20 : decode cX4_refuse 20 = .ok (.iconst 1, 1) := by decide +kernel
theorem dX4_refuse_21 : decode cX4_refuse 21 = .ok (.iadd, 1) := by decide +kernel
theorem dX4_refuse_22 : decode cX4_refuse 22 = .ok (.iastore, 1) := by decide +kernel
theorem dX4_refuse_23 : decode cX4_refuse 23 = .ok (.iload_n 1, 1) := by decide +kernel
theorem dX4_refuse_24 : decode cX4_refuse 24 = .ok (.ireturn, 1) := by decide +kernel
set_option maxRecDepth 20000 in
theorem ggX4_setCrossed_X0_isThere : GoodIn wsX4_setCrossed wsX0_isThere := goodIn_r _ [8, 9, 10, 62, 63, 64, 65, 66, 67, 68, 69, 70, 71, 72, 73, 74, 75, 76, 77, 78] (by decide +kernel) (by decide +kernel)
set_option maxRecDepth 20000 in
theorem gX4_setCrossed_X0_isThere : GoodIn wsX4_setCrossed (wsV RX4 97 RX0 yX0_isThere wsX0_isThere) := goodIn_app (goodIn_of _ (by decide +kernel)) ggX4_setCrossed_X0_isThere
set_option maxRecDepth 20000 in
theorem ggX4_setCrossed_X4_refuse : GoodIn wsX4_setCrossed wsX4_refuse := goodIn_r _ [15, 16, 54, 55, 56, 57, 58, 59, 60, 61] (by decide +kernel) (by decide +kernel)
set_option maxRecDepth 20000 in
theorem gX4_setCrossed_X4_refuse : GoodIn wsX4_setCrossed (wsV RX4 65 RX4 yX4_refuse wsX4_refuse) := goodIn_app (goodIn_of _ (by decide +kernel)) ggX4_setCrossed_X4_refuse
set_option maxRecDepth 20000 in
theorem ggX4_setCrossed_X0_sweep : GoodIn wsX4_setCrossed wsX0_sweep := goodIn_r _ [20, 21, 22, 23, 24, 25, 26, 7, 27, 28, 29, 10, 30, 31, 32, 33, 34, 35, 36, 37, 38, 39, 40, 41, 42, 43, 44, 45, 62, 63, 64, 65, 66, 67, 68, 69, 70, 71, 72, 73, 74, 75, 76, 77, 78] (by decide +kernel) (by decide +kernel)
set_option maxRecDepth 20000 in
theorem gX4_setCrossed_X0_sweep : GoodIn wsX4_setCrossed (wsV RX4 81 RX0 yX0_sweep wsX0_sweep) := goodIn_app (goodIn_of _ (by decide +kernel)) ggX4_setCrossed_X0_sweep
set_option maxRecDepth 20000 in
theorem ggX4_setCrossed_X0_plainIn : GoodIn wsX4_setCrossed wsX0_plainIn := goodIn_r _ [49, 9, 50, 51, 52, 7, 53, 10, 22, 62, 63, 64, 65, 66, 67, 68, 69, 70, 71, 72, 73, 74, 75, 76, 77, 78] (by decide +kernel) (by decide +kernel)
set_option maxRecDepth 20000 in
theorem gX4_setCrossed_X0_plainIn : GoodIn wsX4_setCrossed (wsV RX4 132 RX0 yX0_plainIn wsX0_plainIn) := goodIn_app (goodIn_of _ (by decide +kernel)) ggX4_setCrossed_X0_plainIn
theorem dX4_setCrossed_0 : decode cX4_setCrossed 0 = .ok (.aload_n 0, 1) := by decide +kernel
theorem dX4_setCrossed_1 : decode cX4_setCrossed 1 = .ok (.getfield 12, 3) := by decide +kernel
theorem dX4_setCrossed_4 : decode cX4_setCrossed 4 = .ok (.iload_n 1, 1) := by decide +kernel
theorem dX4_setCrossed_5 : decode cX4_setCrossed 5 = .ok (.invokevirtual 97, 3) := by decide +kernel
theorem dX4_setCrossed_8 : decode cX4_setCrossed 8 = .ok (.ifCond .ne 10, 3) := by decide +kernel
theorem dX4_setCrossed_11 : decode cX4_setCrossed 11 = .ok (.aload_n 0, 1) := by decide +kernel
theorem dX4_setCrossed_12 : decode cX4_setCrossed 12 = .ok (.bipush (-2), 2) := by decide +kernel
theorem dX4_setCrossed_14 : decode cX4_setCrossed 14 = .ok (.invokevirtual 65, 3) := by decide +kernel
theorem dX4_setCrossed_17 : decode cX4_setCrossed 17 = .ok (.ireturn, 1) := by decide +kernel
theorem dX4_setCrossed_18 : decode cX4_setCrossed 18 = .ok (.aload_n 0, 1) := by decide +kernel
theorem dX4_setCrossed_19 : decode cX4_setCrossed 19 = .ok (.getfield 12, 3) := by decide +kernel
theorem dX4_setCrossed_22 : decode cX4_setCrossed 22 = .ok (.getfield 185, 3) := by decide +kernel
theorem dX4_setCrossed_25 : decode cX4_setCrossed 25 = .ok (.iload_n 1, 1) := by decide +kernel
theorem dX4_setCrossed_26 : decode cX4_setCrossed 26 = .ok (.iaload, 1) := by decide +kernel
theorem dX4_setCrossed_27 : decode cX4_setCrossed 27 = .ok (.iload_n 2, 1) := by decide +kernel
theorem dX4_setCrossed_28 : decode cX4_setCrossed 28 = .ok (.if_icmp .ne 10, 3) := by decide +kernel
theorem dX4_setCrossed_31 : decode cX4_setCrossed 31 = .ok (.aload_n 0, 1) := by decide +kernel
theorem dX4_setCrossed_32 : decode cX4_setCrossed 32 = .ok (.bipush (-4), 2) := by decide +kernel
theorem dX4_setCrossed_34 : decode cX4_setCrossed 34 = .ok (.invokevirtual 65, 3) := by decide +kernel
theorem dX4_setCrossed_37 : decode cX4_setCrossed 37 = .ok (.ireturn, 1) := by decide +kernel
theorem dX4_setCrossed_38 : decode cX4_setCrossed 38 = .ok (.aload_n 0, 1) := by decide +kernel
theorem dX4_setCrossed_39 : decode cX4_setCrossed 39 = .ok (.getfield 12, 3) := by decide +kernel
theorem dX4_setCrossed_42 : decode cX4_setCrossed 42 = .ok (.getfield 100, 3) := by decide +kernel
theorem dX4_setCrossed_45 : decode cX4_setCrossed 45 = .ok (.iload_n 1, 1) := by decide +kernel
theorem dX4_setCrossed_46 : decode cX4_setCrossed 46 = .ok (.iaload, 1) := by decide +kernel
theorem dX4_setCrossed_47 : decode cX4_setCrossed 47 = .ok (.istore_n 3, 1) := by decide +kernel
theorem dX4_setCrossed_48 : decode cX4_setCrossed 48 = .ok (.aload_n 0, 1) := by decide +kernel
theorem dX4_setCrossed_49 : decode cX4_setCrossed 49 = .ok (.getfield 12, 3) := by decide +kernel
theorem dX4_setCrossed_52 : decode cX4_setCrossed 52 = .ok (.getfield 185, 3) := by decide +kernel
theorem dX4_setCrossed_55 : decode cX4_setCrossed 55 = .ok (.iload_n 1, 1) := by decide +kernel
theorem dX4_setCrossed_56 : decode cX4_setCrossed 56 = .ok (.iload_n 2, 1) := by decide +kernel
theorem dX4_setCrossed_57 : decode cX4_setCrossed 57 = .ok (.iastore, 1) := by decide +kernel
theorem dX4_setCrossed_58 : decode cX4_setCrossed 58 = .ok (.aload_n 0, 1) := by decide +kernel
theorem dX4_setCrossed_59 : decode cX4_setCrossed 59 = .ok (.getfield 12, 3) := by decide +kernel
theorem dX4_setCrossed_62 : decode cX4_setCrossed 62 = .ok (.invokevirtual 81, 3) := by decide +kernel
theorem dX4_setCrossed_65 : decode cX4_setCrossed 65 = .ok (.aload_n 0, 1) := by decide +kernel
theorem dX4_setCrossed_66 : decode cX4_setCrossed 66 = .ok (.getfield 12, 3) := by decide +kernel
theorem dX4_setCrossed_69 : decode cX4_setCrossed 69 = .ok (.iload_n 3, 1) := by decide +kernel
theorem dX4_setCrossed_70 : decode cX4_setCrossed 70 = .ok (.invokevirtual 132, 3) := by decide +kernel
theorem dX4_setCrossed_73 : decode cX4_setCrossed 73 = .ok (.ireturn, 1) := by decide +kernel
set_option maxRecDepth 20000 in
theorem ggX4_onPaper_X0_init : GoodIn wsX4_onPaper wsX0_init := goodIn_r _ [9, 10, 11, 12, 13, 14, 15, 16, 17, 18, 19, 20, 21, 22, 23, 24, 25, 26, 27, 28, 29, 30, 51, 52, 53, 54, 55, 56, 57, 58, 59, 60, 61, 62, 63, 64, 65, 66, 67] (by decide +kernel) (by decide +kernel)
set_option maxRecDepth 20000 in
theorem gX4_onPaper_X0_init : GoodIn wsX4_onPaper (wsX0_init) := ggX4_onPaper_X0_init
set_option maxRecDepth 20000 in
theorem ggX4_onPaper_X0_copyFrom : GoodIn wsX4_onPaper wsX0_copyFrom := goodIn_r _ [34, 35, 36, 37, 38, 14, 39, 40, 41, 42, 16, 17, 18, 19, 20, 21, 22, 23, 24, 25, 26, 51, 52, 53, 54, 55, 56, 57, 58, 59, 60, 61, 62, 63, 64, 65, 66, 67] (by decide +kernel) (by decide +kernel)
set_option maxRecDepth 20000 in
theorem gX4_onPaper_X0_copyFrom : GoodIn wsX4_onPaper (wsV RX4 170 RX0 yX0_copyFrom wsX0_copyFrom) := goodIn_app (goodIn_of _ (by decide +kernel)) ggX4_onPaper_X0_copyFrom
theorem dX4_onPaper_0 : decode cX4_onPaper 0 = .ok (.aload_n 0, 1) := by decide +kernel
theorem dX4_onPaper_1 : decode cX4_onPaper 1 = .ok (.getfield 334, 3) := by decide +kernel
theorem dX4_onPaper_4 : decode cX4_onPaper 4 = .ok (.ifnonnull 14, 3) := by decide +kernel
theorem dX4_onPaper_7 : decode cX4_onPaper 7 = .ok (.aload_n 0, 1) := by decide +kernel
theorem dX4_onPaper_8 : decode cX4_onPaper 8 = .ok (.new 9, 3) := by decide +kernel
theorem dX4_onPaper_11 : decode cX4_onPaper 11 = .ok (.dup, 1) := by decide +kernel
theorem dX4_onPaper_12 : decode cX4_onPaper 12 = .ok (.invokespecial 11, 3) := by decide +kernel
theorem dX4_onPaper_15 : decode cX4_onPaper 15 = .ok (.putfield 334, 3) := by decide +kernel
theorem dX4_onPaper_18 : decode cX4_onPaper 18 = .ok (.aload_n 0, 1) := by decide +kernel
theorem dX4_onPaper_19 : decode cX4_onPaper 19 = .ok (.getfield 334, 3) := by decide +kernel
theorem dX4_onPaper_22 : decode cX4_onPaper 22 = .ok (.aload_n 0, 1) := by decide +kernel
theorem dX4_onPaper_23 : decode cX4_onPaper 23 = .ok (.getfield 12, 3) := by decide +kernel
theorem dX4_onPaper_26 : decode cX4_onPaper 26 = .ok (.invokevirtual 170, 3) := by decide +kernel
theorem dX4_onPaper_29 : decode cX4_onPaper 29 = .ok (.aload_n 0, 1) := by decide +kernel
theorem dX4_onPaper_30 : decode cX4_onPaper 30 = .ok (.getfield 334, 3) := by decide +kernel
theorem dX4_onPaper_33 : decode cX4_onPaper 33 = .ok (.iconst 0, 1) := by decide +kernel
theorem dX4_onPaper_34 : decode cX4_onPaper 34 = .ok (.putfield 126, 3) := by decide +kernel
theorem dX4_onPaper_37 : decode cX4_onPaper 37 = .ok (.aload_n 0, 1) := by decide +kernel
theorem dX4_onPaper_38 : decode cX4_onPaper 38 = .ok (.getfield 334, 3) := by decide +kernel
theorem dX4_onPaper_41 : decode cX4_onPaper 41 = .ok (.areturn, 1) := by decide +kernel
theorem dX5_init_0 : decode cX5_init 0 = .ok (.aload_n 0, 1) := by decide +kernel
theorem dX5_init_1 : decode cX5_init 1 = .ok (.invokespecial 1, 3) := by decide +kernel
theorem dX5_init_4 : decode cX5_init 4 = .ok (.aload_n 0, 1) := by decide +kernel
theorem dX5_init_5 : decode cX5_init 5 = .ok (.bipush 6, 2) := by decide +kernel
theorem dX5_init_7 : decode cX5_init 7 = .ok (.newarray .int, 2) := by decide +kernel
theorem dX5_init_9 : decode cX5_init 9 = .ok (.putfield 7, 3) := by decide +kernel
theorem dX5_init_12 : decode cX5_init 12 = .ok (.aload_n 0, 1) := by decide +kernel
theorem dX5_init_13 : decode cX5_init 13 = .ok (.sipush 2250, 3) := by decide +kernel
theorem dX5_init_16 : decode cX5_init 16 = .ok (.newarray .int, 2) := by decide +kernel
theorem dX5_init_18 : decode cX5_init 18 = .ok (.putfield 13, 3) := by decide +kernel
theorem dX5_init_21 : decode cX5_init 21 = .ok (.aload_n 0, 1) := by decide +kernel
theorem dX5_init_22 : decode cX5_init 22 = .ok (.sipush 340, 3) := by decide +kernel
theorem dX5_init_25 : decode cX5_init 25 = .ok (.newarray .long, 2) := by decide +kernel
theorem dX5_init_27 : decode cX5_init 27 = .ok (.putfield 16, 3) := by decide +kernel
theorem dX5_init_30 : decode cX5_init 30 = .ok (.aload_n 0, 1) := by decide +kernel
theorem dX5_init_31 : decode cX5_init 31 = .ok (.sipush 4500, 3) := by decide +kernel
theorem dX5_init_34 : decode cX5_init 34 = .ok (.newarray .int, 2) := by decide +kernel
theorem dX5_init_36 : decode cX5_init 36 = .ok (.putfield 20, 3) := by decide +kernel
theorem dX5_init_39 : decode cX5_init 39 = .ok (.aload_n 0, 1) := by decide +kernel
theorem dX5_init_40 : decode cX5_init 40 = .ok (.sipush 680, 3) := by decide +kernel
theorem dX5_init_43 : decode cX5_init 43 = .ok (.newarray .long, 2) := by decide +kernel
theorem dX5_init_45 : decode cX5_init 45 = .ok (.putfield 23, 3) := by decide +kernel
theorem dX5_init_48 : decode cX5_init 48 = .ok (.aload_n 0, 1) := by decide +kernel
theorem dX5_init_49 : decode cX5_init 49 = .ok (.iconst 2, 1) := by decide +kernel
theorem dX5_init_50 : decode cX5_init 50 = .ok (.newarray .boolean, 2) := by decide +kernel
theorem dX5_init_52 : decode cX5_init 52 = .ok (.putfield 26, 3) := by decide +kernel
theorem dX5_init_55 : decode cX5_init 55 = .ok (.aload_n 0, 1) := by decide +kernel
theorem dX5_init_56 : decode cX5_init 56 = .ok (.sipush 2250, 3) := by decide +kernel
theorem dX5_init_59 : decode cX5_init 59 = .ok (.newarray .int, 2) := by decide +kernel
theorem dX5_init_61 : decode cX5_init 61 = .ok (.putfield 30, 3) := by decide +kernel
theorem dX5_init_64 : decode cX5_init 64 = .ok (.aload_n 0, 1) := by decide +kernel
theorem dX5_init_65 : decode cX5_init 65 = .ok (.sipush 340, 3) := by decide +kernel
theorem dX5_init_68 : decode cX5_init 68 = .ok (.newarray .long, 2) := by decide +kernel
theorem dX5_init_70 : decode cX5_init 70 = .ok (.putfield 33, 3) := by decide +kernel
theorem dX5_init_73 : decode cX5_init 73 = .ok (.aload_n 0, 1) := by decide +kernel
theorem dX5_init_74 : decode cX5_init 74 = .ok (.sipush 300, 3) := by decide +kernel
theorem dX5_init_77 : decode cX5_init 77 = .ok (.newarray .int, 2) := by decide +kernel
theorem dX5_init_79 : decode cX5_init 79 = .ok (.putfield 36, 3) := by decide +kernel
theorem dX5_init_82 : decode cX5_init 82 = .ok (.aload_n 0, 1) := by decide +kernel
theorem dX5_init_83 : decode cX5_init 83 = .ok (.sipush 700, 3) := by decide +kernel
theorem dX5_init_86 : decode cX5_init 86 = .ok (.newarray .int, 2) := by decide +kernel
theorem dX5_init_88 : decode cX5_init 88 = .ok (.putfield 39, 3) := by decide +kernel
theorem dX5_init_91 : decode cX5_init 91 = .ok (.aload_n 0, 1) := by decide +kernel
theorem dX5_init_92 : decode cX5_init 92 = .ok (.sipush 320, 3) := by decide +kernel
theorem dX5_init_95 : decode cX5_init 95 = .ok (.newarray .int, 2) := by decide +kernel
theorem dX5_init_97 : decode cX5_init 97 = .ok (.putfield 42, 3) := by decide +kernel
theorem dX5_init_100 : decode cX5_init 100 = .ok (.aload_n 0, 1) := by decide +kernel
theorem dX5_init_101 : decode cX5_init 101 = .ok (.sipush 300, 3) := by decide +kernel
theorem dX5_init_104 : decode cX5_init 104 = .ok (.newarray .int, 2) := by decide +kernel
theorem dX5_init_106 : decode cX5_init 106 = .ok (.putfield 45, 3) := by decide +kernel
theorem dX5_init_109 : decode cX5_init 109 = .ok (.aload_n 0, 1) := by decide +kernel
theorem dX5_init_110 : decode cX5_init 110 = .ok (.sipush 300, 3) := by decide +kernel
theorem dX5_init_113 : decode cX5_init 113 = .ok (.newarray .int, 2) := by decide +kernel
theorem dX5_init_115 : decode cX5_init 115 = .ok (.putfield 48, 3) := by decide +kernel
theorem dX5_init_118 : decode cX5_init 118 = .ok (.aload_n 0, 1) := by decide +kernel
theorem dX5_init_119 : decode cX5_init 119 = .ok (.sipush 600, 3) := by decide +kernel
theorem dX5_init_122 : decode cX5_init 122 = .ok (.newarray .int, 2) := by decide +kernel
theorem dX5_init_124 : decode cX5_init 124 = .ok (.putfield 51, 3) := by decide +kernel
theorem dX5_init_127 : decode cX5_init 127 = .ok (.aload_n 0, 1) := by decide +kernel
theorem dX5_init_128 : decode cX5_init 128 = .ok (.iconst 2, 1) := by decide +kernel
theorem dX5_init_129 : decode cX5_init 129 = .ok (.newarray .int, 2) := by decide +kernel
theorem dX5_init_131 : decode cX5_init 131 = .ok (.putfield 54, 3) := by decide +kernel
theorem dX5_init_134 : decode cX5_init 134 = .ok (.aload_n 0, 1) := by decide +kernel
theorem dX5_init_135 : decode cX5_init 135 = .ok (.bipush 40, 2) := by decide +kernel
theorem dX5_init_137 : decode cX5_init 137 = .ok (.newarray .int, 2) := by decide +kernel
theorem dX5_init_139 : decode cX5_init 139 = .ok (.putfield 57, 3) := by decide +kernel
theorem dX5_init_142 : decode cX5_init 142 = .ok (.aload_n 0, 1) := by decide +kernel
theorem dX5_init_143 : decode cX5_init 143 = .ok (.bipush 8, 2) := by decide +kernel
theorem dX5_init_145 : decode cX5_init 145 = .ok (.newarray .int, 2) := by decide +kernel
theorem dX5_init_147 : decode cX5_init 147 = .ok (.putfield 60, 3) := by decide +kernel
theorem dX5_init_150 : decode cX5_init 150 = .ok (.iconst 0, 1) := by decide +kernel
theorem dX5_init_151 : decode cX5_init 151 = .ok (.istore_n 1, 1) := by decide +kernel
theorem dX5_init_152 : decode cX5_init 152 = .ok (.iload_n 1, 1) := by decide +kernel
theorem dX5_init_153 : decode cX5_init 153 = .ok (.bipush 6, 2) := by decide +kernel
theorem dX5_init_155 : decode cX5_init 155 = .ok (.if_icmp .ge 18, 3) := by decide +kernel
theorem dX5_init_158 : decode cX5_init 158 = .ok (.aload_n 0, 1) := by decide +kernel
theorem dX5_init_159 : decode cX5_init 159 = .ok (.getfield 13, 3) := by decide +kernel
theorem dX5_init_162 : decode cX5_init 162 = .ok (.iconst 4, 1) := by decide +kernel
theorem dX5_init_163 : decode cX5_init 163 = .ok (.iload_n 1, 1) := by decide +kernel
theorem dX5_init_164 : decode cX5_init 164 = .ok (.iadd, 1) := by decide +kernel
theorem dX5_init_165 : decode cX5_init 165 = .ok (.iconst (-1), 1) := by decide +kernel
theorem dX5_init_166 : decode cX5_init 166 = .ok (.iastore, 1) := by decide +kernel
theorem dX5_init_167 : decode cX5_init 167 = .ok (.iinc 1 1, 3) := by decide +kernel
theorem dX5_init_170 : decode cX5_init 170 = .ok (.goto (-18), 3) := by decide +kernel
theorem dX5_init_173 : decode cX5_init 173 = .ok (.iconst 0, 1) := by decide +kernel
theorem dX5_init_174 : decode cX5_init 174 = .ok (.istore_n 1, 1) := by decide +kernel
theorem dX5_init_175 : decode cX5_init 175 = .ok (.iload_n 1, 1) := by decide +kernel
theorem dX5_init_176 : decode cX5_init 176 = .ok (.bipush 20, 2) := by decide +kernel
theorem dX5_init_178 : decode cX5_init 178 = .ok (.if_icmp .ge 21, 3) := by decide +kernel
theorem dX5_init_181 : decode cX5_init 181 = .ok (.aload_n 0, 1) := by decide +kernel
theorem dX5_init_182 : decode cX5_init 182 = .ok (.getfield 13, 3) := by decide +kernel
theorem dX5_init_185 : decode cX5_init 185 = .ok (.bipush 10, 2) := by decide +kernel
theorem dX5_init_187 : decode cX5_init 187 = .ok (.iconst 3, 1) := by decide +kernel
theorem dX5_init_188 : decode cX5_init 188 = .ok (.iload_n 1, 1) := by decide +kernel
theorem dX5_init_189 : decode cX5_init 189 = .ok (.imul, 1) := by decide +kernel
theorem dX5_init_190 : decode cX5_init 190 = .ok (.iadd, 1) := by decide +kernel
theorem dX5_init_191 : decode cX5_init 191 = .ok (.iconst (-1), 1) := by decide +kernel
theorem dX5_init_192 : decode cX5_init 192 = .ok (.iastore, 1) := by decide +kernel
theorem dX5_init_193 : decode cX5_init 193 = .ok (.iinc 1 1, 3) := by decide +kernel
theorem dX5_init_196 : decode cX5_init 196 = .ok (.goto (-21), 3) := by decide +kernel
theorem dX5_init_199 : decode cX5_init 199 = .ok (.return_, 1) := by decide +kernel
theorem dX5_thrown_0 : decode cX5_thrown 0 = .ok (.aload_n 0, 1) := by decide +kernel
theorem dX5_thrown_1 : decode cX5_thrown 1 = .ok (.getfield 63, 3) := by decide +kernel
theorem dX5_thrown_4 : decode cX5_thrown 4 = .ok (.ireturn, 1) := by decide +kernel
theorem dX5_in_0 : decode cX5_in 0 = .ok (.lload_n 0, 1) := by decide +kernel
theorem dX5_in_1 : decode cX5_in 1 = .ok (.lload_n 2, 1) := by decide +kernel
theorem dX5_in_2 : decode cX5_in 2 = .ok (.lcmp, 1) := by decide +kernel
theorem dX5_in_3 : decode cX5_in 3 = .ok (.ifCond .lt 14, 3) := by decide +kernel
theorem dX5_in_6 : decode cX5_in 6 = .ok (.lload_n 0, 1) := by decide +kernel
theorem dX5_in_7 : decode cX5_in 7 = .ok (.lload 4, 2) := by decide +kernel
theorem dX5_in_9 : decode cX5_in 9 = .ok (.lcmp, 1) := by decide +kernel
theorem dX5_in_10 : decode cX5_in 10 = .ok (.ifCond .gt 7, 3) := by decide +kernel
theorem dX5_in_13 : decode cX5_in 13 = .ok (.iconst 1, 1) := by decide +kernel
theorem dX5_in_14 : decode cX5_in 14 = .ok (.goto 4, 3) := by decide +kernel
theorem dX5_in_17 : decode cX5_in 17 = .ok (.iconst 0, 1) := by decide +kernel
theorem dX5_in_18 : decode cX5_in 18 = .ok (.ireturn, 1) := by decide +kernel
theorem dX5_refuse_0 : decode cX5_refuse 0 = .ok (.aload_n 0, 1) := by decide +kernel
theorem dX5_refuse_1 : decode cX5_refuse 1 = .ok (.getfield 7, 3) := by decide +kernel
theorem dX5_refuse_4 : decode cX5_refuse 4 = .ok (.iload_n 1, 1) := by decide +kernel
theorem dX5_refuse_5 : decode cX5_refuse 5 = .ok (.ineg, 1) := by decide +kernel
theorem dX5_refuse_6 : decode cX5_refuse 6 = .ok (.dup2, 1) := by decide +kernel
theorem dX5_refuse_7 : decode cX5_refuse 7 = .ok (.iaload, 1) := by decide +kernel
theorem dX5_refuse_8 : decode cX5_refuse 8 = .ok (.iconst 1, 1) := by decide +kernel
theorem dX5_refuse_9 : decode cX5_refuse 9 = .ok (.iadd, 1) := by decide +kernel
theorem dX5_refuse_10 : decode cX5_refuse 10 = .ok (.iastore, 1) := by decide +kernel
theorem dX5_refuse_11 : decode cX5_refuse 11 = .ok (.iload_n 1, 1) := by decide +kernel
theorem dX5_refuse_12 : decode cX5_refuse 12 = .ok (.ireturn, 1) := by decide +kernel
theorem dX5_copy_0 : decode cX5_copy 0 = .ok (.iconst 0, 1) := by decide +kernel
theorem dX5_copy_1 : decode cX5_copy 1 = .ok (.istore 6, 2) := by decide +kernel
theorem dX5_copy_3 : decode cX5_copy 3 = .ok (.iload 6, 2) := by decide +kernel
