set_option maxRecDepth 20000 in
theorem xwsL_law0_r1 : GoodIn lw_tbl wsL_law0_r1 := goodIn_p wsL_law0_r1 [81, 84] (by decide +kernel) (by decide +kernel)
set_option maxRecDepth 20000 in
theorem xwsL_law0_r2 : GoodIn lw_tbl wsL_law0_r2 := goodIn_p wsL_law0_r2 [89] (by decide +kernel) (by decide +kernel)
set_option maxRecDepth 20000 in
theorem xwsL_law0_r3 : GoodIn lw_tbl wsL_law0_r3 := goodIn_p wsL_law0_r3 [93, 176, 200] (by decide +kernel) (by decide +kernel)
set_option maxRecDepth 20000 in
theorem xwsL_law0_r4 : GoodIn lw_tbl wsL_law0_r4 := goodIn_p wsL_law0_r4 [226, 873] (by decide +kernel) (by decide +kernel)
set_option maxRecDepth 20000 in
theorem xwsL_law0_r5 : GoodIn lw_tbl wsL_law0_r5 := goodIn_p wsL_law0_r5 [284, 287, 290, 295, 299] (by decide +kernel) (by decide +kernel)
set_option maxRecDepth 20000 in
theorem xwsL_law0_r6 : GoodIn lw_tbl wsL_law0_r6 := goodIn_p wsL_law0_r6 [303, 307, 311, 315, 319] (by decide +kernel) (by decide +kernel)
set_option maxRecDepth 20000 in
theorem xwsL_law0_r7 : GoodIn lw_tbl wsL_law0_r7 := goodIn_p wsL_law0_r7 [323, 327, 979, 982, 968, 986] (by decide +kernel) (by decide +kernel)
set_option maxRecDepth 20000 in
theorem xwsL_law0_r8 : GoodIn lw_tbl wsL_law0_r8 := goodIn_p wsL_law0_r8 [993, 996, 1000, 1004, 1008] (by decide +kernel) (by decide +kernel)
set_option maxRecDepth 20000 in
theorem xwsL_law0_r9 : GoodIn lw_tbl wsL_law0_r9 := goodIn_p wsL_law0_r9 [1012, 1016, 1020, 1024, 1028, 1032] (by decide +kernel) (by decide +kernel)
set_option maxRecDepth 20000 in
theorem xwsL_law0_r10 : GoodIn lw_tbl wsL_law0_r10 := goodIn_p wsL_law0_r10 [1036, 1040, 1044, 331, 335, 1048] (by decide +kernel) (by decide +kernel)
set_option maxRecDepth 20000 in
theorem xwsL_law0_r11 : GoodIn lw_tbl wsL_law0_r11 := goodIn_p wsL_law0_r11 [1052, 340, 344, 1056, 1061] (by decide +kernel) (by decide +kernel)
set_option maxRecDepth 20000 in
theorem xwsL_law0_r12 : GoodIn lw_tbl wsL_law0_r12 := goodIn_p wsL_law0_r12 [349, 353, 357, 361, 365] (by decide +kernel) (by decide +kernel)
set_option maxRecDepth 20000 in
theorem xwsL_law0_r13 : GoodIn lw_tbl wsL_law0_r13 := goodIn_p wsL_law0_r13 [1065, 1069, 1073, 1077, 369, 1081] (by decide +kernel) (by decide +kernel)
set_option maxRecDepth 20000 in
theorem xwsL_law0_r14 : GoodIn lw_tbl wsL_law0_r14 := goodIn_p wsL_law0_r14 [373, 377, 381, 1085, 1089, 385] (by decide +kernel) (by decide +kernel)
set_option maxRecDepth 20000 in
theorem xwsL_law0_r15 : GoodIn lw_tbl wsL_law0_r15 := goodIn_p wsL_law0_r15 [389, 1093, 393, 399, 1097] (by decide +kernel) (by decide +kernel)
set_option maxRecDepth 20000 in
theorem xwsL_law0_r16 : GoodIn lw_tbl wsL_law0_r16 := goodIn_p wsL_law0_r16 [403, 406, 410, 414, 1103, 1106] (by decide +kernel) (by decide +kernel)
set_option maxRecDepth 20000 in
theorem xwsL_law0_r17 : GoodIn lw_tbl wsL_law0_r17 := goodIn_p wsL_law0_r17 [1110, 418, 422, 1114, 1119, 427] (by decide +kernel) (by decide +kernel)
set_option maxRecDepth 20000 in
theorem xwsL_law0_r18 : GoodIn lw_tbl wsL_law0_r18 := goodIn_p wsL_law0_r18 [431, 435, 439, 444] (by decide +kernel) (by decide +kernel)
set_option maxRecDepth 20000 in
theorem xwsL_law0_r19 : GoodIn lw_tbl wsL_law0_r19 := goodIn_p wsL_law0_r19 [1123, 1127, 1131, 450, 454] (by decide +kernel) (by decide +kernel)
set_option maxRecDepth 20000 in
theorem xwsL_law0_r20 : GoodIn lw_tbl wsL_law0_r20 := goodIn_p wsL_law0_r20 [1135, 460, 464, 1139, 470] (by decide +kernel) (by decide +kernel)
set_option maxRecDepth 20000 in
theorem xwsL_law0_r21 : GoodIn lw_tbl wsL_law0_r21 := goodIn_p wsL_law0_r21 [473, 476, 480, 1143, 1146, 1151] (by decide +kernel) (by decide +kernel)
set_option maxRecDepth 20000 in
theorem xwsL_law0_r22 : GoodIn lw_tbl wsL_law0_r22 := goodIn_p wsL_law0_r22 [484, 488, 492, 1156, 1160, 496] (by decide +kernel) (by decide +kernel)
set_option maxRecDepth 20000 in
theorem xwsL_law0_r23 : GoodIn lw_tbl wsL_law0_r23 := goodIn_p wsL_law0_r23 [1164, 500, 504, 511, 965] (by decide +kernel) (by decide +kernel)
set_option maxRecDepth 20000 in
theorem xwsL_law0_r24 : GoodIn lw_tbl wsL_law0_r24 := goodIn_p wsL_law0_r24 [971, 516, 975, 783] (by decide +kernel) (by decide +kernel)
set_option maxRecDepth 20000 in
theorem xwsL_law0_r25 : GoodIn lw_tbl wsL_law0_r25 := goodIn_p wsL_law0_r25 [1168, 1172, 961, 856] (by decide +kernel) (by decide +kernel)
set_option maxRecDepth 20000 in
theorem xwsL_law0_r26 : GoodIn lw_tbl wsL_law0_r26 := goodIn_p wsL_law0_r26 [860, 1176, 1180, 1184, 520, 524] (by decide +kernel) (by decide +kernel)
set_option maxRecDepth 20000 in
theorem xwsL_law0_r27 : GoodIn lw_tbl wsL_law0_r27 := goodIn_p wsL_law0_r27 [528, 531, 535, 539, 544] (by decide +kernel) (by decide +kernel)
set_option maxRecDepth 20000 in
theorem xwsL_law0_r28 : GoodIn lw_tbl wsL_law0_r28 := goodIn_p wsL_law0_r28 [548, 1188, 1193, 1197, 1201, 1205] (by decide +kernel) (by decide +kernel)
set_option maxRecDepth 20000 in
theorem xwsL_law0_r29 : GoodIn lw_tbl wsL_law0_r29 := goodIn_p wsL_law0_r29 [552, 1209, 556, 560, 1213, 564] (by decide +kernel) (by decide +kernel)
set_option maxRecDepth 20000 in
theorem xwsL_law0_r30 : GoodIn lw_tbl wsL_law0_r30 := goodIn_p wsL_law0_r30 [568, 572, 1217, 1221, 577, 581] (by decide +kernel) (by decide +kernel)
set_option maxRecDepth 20000 in
theorem xwsL_law0_r31 : GoodIn lw_tbl wsL_law0_r31 := goodIn_p wsL_law0_r31 [1225, 585, 590, 594, 600] (by decide +kernel) (by decide +kernel)
set_option maxRecDepth 20000 in
theorem xwsL_law0_r32 : GoodIn lw_tbl wsL_law0_r32 := goodIn_p wsL_law0_r32 [603, 607, 1229, 611, 615, 618] (by decide +kernel) (by decide +kernel)
set_option maxRecDepth 20000 in
theorem xwsL_law0_r33 : GoodIn lw_tbl wsL_law0_r33 := goodIn_p wsL_law0_r33 [622, 626, 1235, 1241, 868] (by decide +kernel) (by decide +kernel)
set_option maxRecDepth 20000 in
theorem xwsL_law0_r34 : GoodIn lw_tbl wsL_law0_r34 := goodIn_p wsL_law0_r34 [1245, 630, 634, 1249, 1253] (by decide +kernel) (by decide +kernel)
set_option maxRecDepth 20000 in
theorem xwsL_law0_r35 : GoodIn lw_tbl wsL_law0_r35 := goodIn_p wsL_law0_r35 [1257, 638, 1261, 642, 1265, 646] (by decide +kernel) (by decide +kernel)
set_option maxRecDepth 20000 in
theorem xwsL_law0_r36 : GoodIn lw_tbl wsL_law0_r36 := goodIn_p wsL_law0_r36 [650, 1270, 654, 658, 663] (by decide +kernel) (by decide +kernel)
set_option maxRecDepth 20000 in
theorem xwsL_law0_r37 : GoodIn lw_tbl wsL_law0_r37 := goodIn_p wsL_law0_r37 [1274, 667, 671, 677] (by decide +kernel) (by decide +kernel)
set_option maxRecDepth 20000 in
theorem xwsL_law0_r38 : GoodIn lw_tbl wsL_law0_r38 := goodIn_p wsL_law0_r38 [681, 685, 689, 693, 697] (by decide +kernel) (by decide +kernel)
set_option maxRecDepth 20000 in
theorem xwsL_law0_r39 : GoodIn lw_tbl wsL_law0_r39 := goodIn_p wsL_law0_r39 [701, 705, 709, 1278, 1282] (by decide +kernel) (by decide +kernel)
set_option maxRecDepth 20000 in
theorem xwsL_law0_r40 : GoodIn lw_tbl wsL_law0_r40 := goodIn_p wsL_law0_r40 [1286, 1290, 1294, 1298, 1302] (by decide +kernel) (by decide +kernel)
set_option maxRecDepth 20000 in
theorem xwsL_law0_r41 : GoodIn lw_tbl wsL_law0_r41 := goodIn_p wsL_law0_r41 [1306, 714, 718, 722, 1310, 726] (by decide +kernel) (by decide +kernel)
set_option maxRecDepth 20000 in
theorem xwsL_law0_r42 : GoodIn lw_tbl wsL_law0_r42 := goodIn_p wsL_law0_r42 [732, 1314, 1318, 736, 1323] (by decide +kernel) (by decide +kernel)
set_option maxRecDepth 20000 in
theorem xwsL_law0_r43 : GoodIn lw_tbl wsL_law0_r43 := goodIn_p wsL_law0_r43 [740, 744, 1327, 748, 1331, 753] (by decide +kernel) (by decide +kernel)
set_option maxRecDepth 20000 in
theorem xwsL_law0_r44 : GoodIn lw_tbl wsL_law0_r44 := goodIn_p wsL_law0_r44 [756, 1335, 1338, 763, 1342] (by decide +kernel) (by decide +kernel)
set_option maxRecDepth 20000 in
theorem xwsL_law0_r45 : GoodIn lw_tbl wsL_law0_r45 := goodIn_p wsL_law0_r45 [767, 771, 775, 1346, 1350] (by decide +kernel) (by decide +kernel)
set_option maxRecDepth 20000 in
theorem xlw_good : GoodIn lw_tbl xGood := goodIn_sub (by decide +kernel) (by decide +kernel)
set_option maxRecDepth 20000 in
theorem xlw_X4 : GoodIn lw_tbl wsX40 := goodIn_of _ (by decide +kernel)
set_option maxRecDepth 20000 in
theorem xlw_X5 : GoodIn lw_tbl wsX50 := goodIn_of _ (by decide +kernel)
set_option maxRecDepth 20000 in
theorem xlw_X0 : GoodIn lw_tbl wsX00 := goodIn_of _ (by decide +kernel)
set_option maxRecDepth 20000 in
theorem xlw_X1 : GoodIn lw_tbl wsX10 := goodIn_of _ (by decide +kernel)
set_option maxRecDepth 20000 in
theorem xlw_X2 : GoodIn lw_tbl wsX20 := goodIn_of _ (by decide +kernel)
set_option maxRecDepth 20000 in
theorem xlw_X3 : GoodIn lw_tbl wsX30 := goodIn_of _ (by decide +kernel)
theorem xlw_law0 : GoodIn lw_tbl wsL_law0 := goodIn_app (goodIn_app (goodIn_app (goodIn_app (goodIn_app (goodIn_app (goodIn_app (goodIn_app xwsL_law0_r1 (goodIn_app xwsL_law0_r2 (goodIn_app xwsL_law0_r3 (goodIn_app xwsL_law0_r4 (goodIn_app xwsL_law0_r5 (goodIn_app xwsL_law0_r6 (goodIn_app xwsL_law0_r7 (goodIn_app xwsL_law0_r8 (goodIn_app xwsL_law0_r9 (goodIn_app xwsL_law0_r10 (goodIn_app xwsL_law0_r11 (goodIn_app xwsL_law0_r12 (goodIn_app xwsL_law0_r13 (goodIn_app xwsL_law0_r14 (goodIn_app xwsL_law0_r15 (goodIn_app xwsL_law0_r16 (goodIn_app xwsL_law0_r17 (goodIn_app xwsL_law0_r18 (goodIn_app xwsL_law0_r19 (goodIn_app xwsL_law0_r20 (goodIn_app xwsL_law0_r21 (goodIn_app xwsL_law0_r22 (goodIn_app xwsL_law0_r23 (goodIn_app xwsL_law0_r24 (goodIn_app xwsL_law0_r25 (goodIn_app xwsL_law0_r26 (goodIn_app xwsL_law0_r27 (goodIn_app xwsL_law0_r28 (goodIn_app xwsL_law0_r29 (goodIn_app xwsL_law0_r30 (goodIn_app xwsL_law0_r31 (goodIn_app xwsL_law0_r32 (goodIn_app xwsL_law0_r33 (goodIn_app xwsL_law0_r34 (goodIn_app xwsL_law0_r35 (goodIn_app xwsL_law0_r36 (goodIn_app xwsL_law0_r37 (goodIn_app xwsL_law0_r38 (goodIn_app xwsL_law0_r39 (goodIn_app xwsL_law0_r40 (goodIn_app xwsL_law0_r41 (goodIn_app xwsL_law0_r42 (goodIn_app xwsL_law0_r43 (goodIn_app xwsL_law0_r44 (xwsL_law0_r45))))))))))))))))))))))))))))))))))))))))))))) xlw_X4) xlw_X5) xlw_X0) xlw_X1) xlw_X2) xlw_X3) (fun _ h => absurd h List.not_mem_nil)
def wsLL : List Cond := wsL_law0 ++ xGood
theorem xlw_LL : ∀ w ∈ wsLL, w ∈ lw_tbl := fun w h => ((goodIn_app xlw_law0 xlw_good) w h).1
