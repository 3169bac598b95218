set_option maxRecDepth 20000 in
theorem xg_X4_init : GoodIn wsLL wsX4_init := goodIn_r _ [10, 11, 12, 13, 14, 15, 16, 17, 18, 19, 20, 21, 22, 23, 24, 25, 26, 27, 28, 29, 30, 31, 32, 33, 34, 35, 36, 37, 38, 6, 39, 40, 41, 42, 43, 44, 45, 46, 47, 48, 49, 50, 51, 52, 53, 54, 55, 56, 57, 58, 59, 60, 61, 62, 63, 64, 65, 66, 67, 68, 69, 70, 71, 72, 73, 74, 75, 76, 77, 1112, 1113, 1114, 1115, 1116, 1117, 1118, 1119, 1120, 1121, 1122, 1123, 1124, 1125, 1126, 1127, 1128, 1077, 1078, 1079, 1080, 1081, 1082, 1083, 1084, 1129, 1130, 1131, 1132, 1133, 1134, 1135, 1136, 1137, 1138, 1139, 1140, 1141, 1142, 1143, 1144, 1145] (by decide +kernel) (by decide +kernel)
theorem xG_X4_init : GoodIn wsLL (wsX4_init) := xg_X4_init
set_option maxRecDepth 20000 in
theorem xg_X5_init : GoodIn wsLL wsX5_init := goodIn_r _ [80, 81, 12, 13, 24, 82, 83, 6, 84, 85, 86, 87, 88, 89, 90, 91, 92, 93, 94, 95, 96, 97, 98, 99, 1085, 1086, 1087, 1088, 1089, 1090, 1091, 1092, 1093, 1094, 1095, 1096, 1097, 1098, 1099, 1100, 1101, 1102, 1103, 1104, 1105, 1106, 1107, 1108, 1109, 1110, 1111] (by decide +kernel) (by decide +kernel)
theorem xG_X5_init : GoodIn wsLL (wsX5_init) := xg_X5_init
set_option maxRecDepth 20000 in
theorem xg_X4_enter : GoodIn wsLL wsX4_enter := goodIn_r _ [103, 17, 104, 105, 106, 2, 107, 108, 109, 110, 111, 112, 113, 114, 115, 116, 117, 118, 119, 25, 120, 121, 122, 16, 123, 124, 39, 40, 42, 41, 125, 126, 127, 128, 43, 44, 45, 46, 38, 129, 130, 131, 132, 133, 134, 135, 136, 137, 138, 139, 140, 141, 142, 143, 144, 145, 146, 147, 148, 149, 150, 1077, 1078, 1079, 1080, 1081, 1082, 1083, 1084, 1112, 1113, 1114, 1115, 1116, 1117, 1118, 1119, 1120, 1121, 1122, 1123, 1124, 1125, 1126, 1127, 1128] (by decide +kernel) (by decide +kernel)
set_option maxRecDepth 20000 in
theorem xG_X4_enter : GoodIn wsLL (wsV RL 26 RX4 yX4_enter wsX4_enter) := goodIn_app (goodIn_of _ (by decide +kernel)) xg_X4_enter
set_option maxRecDepth 20000 in
theorem xg_X5_enter : GoodIn wsLL wsX5_enter := goodIn_r _ [154, 155, 156, 83, 84, 157, 158, 5, 159, 160, 161, 162, 163, 164, 165, 166, 167, 168, 169, 170, 171, 172, 82, 173, 174, 175, 176, 177, 178, 179, 180, 181, 182, 183, 184, 185, 186, 187, 91, 188, 189, 190, 191, 192, 193, 194, 195, 196, 197, 198, 199, 200, 201, 202, 203, 204, 205, 206, 207, 208, 209, 210, 211, 212, 213, 214, 215, 216, 217, 218, 219, 220, 221, 222, 223, 224, 1085, 1086, 1087, 1088, 1089, 1090, 1091, 1092, 1093, 1094, 1095, 1096, 1097, 1098, 1099, 1100, 1101, 1102, 1103, 1104, 1105, 1106, 1107, 1108, 1109, 1110, 1111] (by decide +kernel) (by decide +kernel)
set_option maxRecDepth 20000 in
theorem xG_X5_enter : GoodIn wsLL (wsV RL 30 RX5 yX5_enter wsX5_enter) := goodIn_app (goodIn_of _ (by decide +kernel)) xg_X5_enter
set_option maxRecDepth 20000 in
theorem xg_X4_take : GoodIn wsLL wsX4_take := goodIn_r _ [228, 17, 229, 105, 106, 2, 107, 116, 117, 118, 119, 25, 230, 231, 232, 16, 233, 234, 47, 48, 39, 49, 147, 148, 149, 150, 38, 43, 44, 41, 129, 130, 131, 132, 45, 133, 134, 135, 136, 137, 138, 139, 140, 141, 46, 235, 143, 144, 145, 42, 146, 1077, 1078, 1079, 1080, 1081, 1082, 1083, 1084, 1112, 1113, 1114, 1115, 1116, 1117, 1118, 1119, 1120, 1121, 1122, 1123, 1124, 1125, 1126, 1127, 1128] (by decide +kernel) (by decide +kernel)
set_option maxRecDepth 20000 in
theorem xG_X4_take : GoodIn wsLL (wsV RL 31 RX4 yX4_take wsX4_take) := goodIn_app (goodIn_of _ (by decide +kernel)) xg_X4_take
set_option maxRecDepth 20000 in
theorem xg_X5_take : GoodIn wsLL wsX5_take := goodIn_r _ [239, 155, 83, 157, 158, 5, 159, 160, 161, 162, 163, 169, 170, 171, 172, 82, 240, 241, 242, 243, 84, 213, 214, 215, 216, 217, 218, 219, 220, 173, 174, 175, 193, 194, 195, 196, 184, 185, 186, 187, 91, 188, 189, 190, 191, 192, 197, 198, 199, 200, 201, 202, 203, 204, 205, 206, 207, 208, 221, 222, 223, 224, 209, 210, 211, 212, 1085, 1086, 1087, 1088, 1089, 1090, 1091, 1092, 1093, 1094, 1095, 1096, 1097, 1098, 1099, 1100, 1101, 1102, 1103, 1104, 1105, 1106, 1107, 1108, 1109, 1110, 1111] (by decide +kernel) (by decide +kernel)
set_option maxRecDepth 20000 in
theorem xG_X5_take : GoodIn wsLL (wsV RL 35 RX5 yX5_take wsX5_take) := goodIn_app (goodIn_of _ (by decide +kernel)) xg_X5_take
set_option maxRecDepth 20000 in
theorem xg_X4_round : GoodIn wsLL wsX4_round := goodIn_r _ [247, 17, 116, 117, 118, 2, 119, 25, 248, 249, 250, 16, 251, 252, 253, 231, 232, 233, 234, 47, 48, 39, 49, 147, 148, 149, 150, 38, 43, 44, 41, 129, 130, 131, 132, 45, 133, 134, 135, 136, 137, 138, 139, 140, 141, 46, 235, 143, 144, 145, 42, 146, 1077, 1078, 1079, 1080, 1081, 1082, 1083, 1084, 1112, 1113, 1114, 1115, 1116, 1117, 1118, 1119, 1120, 1121, 1122, 1123, 1124, 1125, 1126, 1127, 1128] (by decide +kernel) (by decide +kernel)
set_option maxRecDepth 20000 in
theorem xG_X4_round : GoodIn wsLL (wsV RL 36 RX4 yX4_round wsX4_round) := goodIn_app (goodIn_of _ (by decide +kernel)) xg_X4_round
set_option maxRecDepth 20000 in
theorem xg_X5_round : GoodIn wsLL wsX5_round := goodIn_r _ [257, 155, 258, 161, 162, 5, 163, 169, 170, 171, 172, 82, 259, 260, 261, 262, 83, 240, 241, 242, 243, 84, 213, 214, 215, 216, 217, 218, 219, 220, 173, 174, 175, 193, 194, 195, 196, 184, 185, 186, 187, 91, 188, 189, 190, 191, 192, 197, 198, 199, 200, 201, 202, 203, 204, 205, 206, 207, 208, 221, 222, 223, 224, 209, 210, 211, 212, 1085, 1086, 1087, 1088, 1089, 1090, 1091, 1092, 1093, 1094, 1095, 1096, 1097, 1098, 1099, 1100, 1101, 1102, 1103, 1104, 1105, 1106, 1107, 1108, 1109, 1110, 1111] (by decide +kernel) (by decide +kernel)
set_option maxRecDepth 20000 in
theorem xG_X5_round : GoodIn wsLL (wsV RL 39 RX5 yX5_round wsX5_round) := goodIn_app (goodIn_of _ (by decide +kernel)) xg_X5_round
set_option maxRecDepth 20000 in
theorem xg_X4_cross : GoodIn wsLL wsX4_cross := goodIn_r _ [266, 267, 268, 269, 2, 270, 17, 271, 272, 273, 274, 275, 16, 276, 124, 41, 116, 117, 118, 119, 25, 142, 143, 144, 145, 38, 42, 146, 147, 148, 149, 150, 43, 44, 129, 130, 131, 132, 45, 133, 134, 135, 136, 137, 39, 138, 139, 140, 141, 46, 277, 278, 279, 280, 281, 282, 283, 284, 1077, 1078, 1079, 1080, 1081, 1082, 1083, 1084, 1112, 1113, 1114, 1115, 1116, 1117, 1118, 1119, 1120, 1121, 1122, 1123, 1124, 1125, 1126, 1127, 1128] (by decide +kernel) (by decide +kernel)
set_option maxRecDepth 20000 in
theorem xG_X4_cross : GoodIn wsLL (wsV RL 40 RX4 yX4_cross wsX4_cross) := goodIn_app (goodIn_of _ (by decide +kernel)) xg_X4_cross
set_option maxRecDepth 20000 in
theorem xg_X5_cross : GoodIn wsLL wsX5_cross := goodIn_r _ [288, 155, 289, 290, 291, 5, 292, 83, 293, 294, 295, 296, 161, 162, 163, 173, 174, 175, 169, 170, 171, 172, 82, 209, 210, 211, 212, 213, 214, 215, 216, 217, 218, 219, 220, 193, 194, 195, 196, 184, 185, 186, 187, 91, 188, 189, 190, 191, 192, 84, 197, 198, 199, 200, 201, 202, 203, 204, 205, 206, 207, 208, 221, 222, 223, 224, 297, 298, 299, 300, 1085, 1086, 1087, 1088, 1089, 1090, 1091, 1092, 1093, 1094, 1095, 1096, 1097, 1098, 1099, 1100, 1101, 1102, 1103, 1104, 1105, 1106, 1107, 1108, 1109, 1110, 1111] (by decide +kernel) (by decide +kernel)
set_option maxRecDepth 20000 in
theorem xG_X5_cross : GoodIn wsLL (wsV RL 43 RX5 yX5_cross wsX5_cross) := goodIn_app (goodIn_of _ (by decide +kernel)) xg_X5_cross
set_option maxRecDepth 20000 in
theorem xg_X4_uncross : GoodIn wsLL wsX4_uncross := goodIn_r _ [304, 267, 268, 269, 2, 270, 17, 271, 272, 273, 274, 275, 16, 276, 124, 41, 116, 117, 118, 119, 25, 142, 143, 144, 145, 38, 42, 146, 147, 148, 149, 150, 43, 44, 129, 130, 131, 132, 45, 133, 134, 135, 136, 137, 39, 138, 139, 140, 141, 46, 277, 278, 279, 280, 281, 282, 283, 284, 1077, 1078, 1079, 1080, 1081, 1082, 1083, 1084, 1112, 1113, 1114, 1115, 1116, 1117, 1118, 1119, 1120, 1121, 1122, 1123, 1124, 1125, 1126, 1127, 1128] (by decide +kernel) (by decide +kernel)
set_option maxRecDepth 20000 in
theorem xG_X4_uncross : GoodIn wsLL (wsV RL 44 RX4 yX4_uncross wsX4_uncross) := goodIn_app (goodIn_of _ (by decide +kernel)) xg_X4_uncross
set_option maxRecDepth 20000 in
theorem xg_X5_uncross : GoodIn wsLL wsX5_uncross := goodIn_r _ [308, 155, 289, 290, 291, 5, 292, 83, 293, 294, 295, 296, 161, 162, 163, 173, 174, 175, 169, 170, 171, 172, 82, 209, 210, 211, 212, 213, 214, 215, 216, 217, 218, 219, 220, 193, 194, 195, 196, 184, 185, 186, 187, 91, 188, 189, 190, 191, 192, 84, 197, 198, 199, 200, 201, 202, 203, 204, 205, 206, 207, 208, 221, 222, 223, 224, 297, 298, 299, 300, 1085, 1086, 1087, 1088, 1089, 1090, 1091, 1092, 1093, 1094, 1095, 1096, 1097, 1098, 1099, 1100, 1101, 1102, 1103, 1104, 1105, 1106, 1107, 1108, 1109, 1110, 1111] (by decide +kernel) (by decide +kernel)
set_option maxRecDepth 20000 in
theorem xG_X5_uncross : GoodIn wsLL (wsV RL 47 RX5 yX5_uncross wsX5_uncross) := goodIn_app (goodIn_of _ (by decide +kernel)) xg_X5_uncross
set_option maxRecDepth 20000 in
theorem xg_X4_cut : GoodIn wsLL wsX4_cut := goodIn_r _ [312, 17, 272, 273, 274, 275, 16, 276, 124, 41, 116, 117, 118, 2, 119, 25, 313, 314, 315, 316, 45, 43, 44, 38, 129, 130, 131, 132, 133, 134, 135, 136, 137, 39, 138, 139, 140, 141, 46, 142, 143, 144, 145, 42, 146, 147, 148, 149, 150, 317, 318, 319, 320, 1077, 1078, 1079, 1080, 1081, 1082, 1083, 1084, 1112, 1113, 1114, 1115, 1116, 1117, 1118, 1119, 1120, 1121, 1122, 1123, 1124, 1125, 1126, 1127, 1128] (by decide +kernel) (by decide +kernel)
set_option maxRecDepth 20000 in
theorem xG_X4_cut : GoodIn wsLL (wsV RL 48 RX4 yX4_cut wsX4_cut) := goodIn_app (goodIn_of _ (by decide +kernel)) xg_X4_cut
set_option maxRecDepth 20000 in
theorem xg_X5_cut : GoodIn wsLL wsX5_cut := goodIn_r _ [324, 155, 83, 293, 294, 295, 5, 296, 161, 162, 163, 173, 174, 175, 169, 170, 171, 172, 82, 325, 326, 327, 328, 217, 218, 219, 220, 193, 194, 195, 196, 184, 185, 186, 187, 91, 188, 189, 190, 191, 192, 84, 197, 198, 199, 200, 201, 202, 203, 204, 205, 206, 207, 208, 221, 222, 223, 224, 209, 210, 211, 212, 213, 214, 215, 216, 297, 298, 299, 300, 1085, 1086, 1087, 1088, 1089, 1090, 1091, 1092, 1093, 1094, 1095, 1096, 1097, 1098, 1099, 1100, 1101, 1102, 1103, 1104, 1105, 1106, 1107, 1108, 1109, 1110, 1111] (by decide +kernel) (by decide +kernel)
set_option maxRecDepth 20000 in
theorem xG_X5_cut : GoodIn wsLL (wsV RL 51 RX5 yX5_cut wsX5_cut) := goodIn_app (goodIn_of _ (by decide +kernel)) xg_X5_cut
set_option maxRecDepth 20000 in
theorem xg_X4_rekey : GoodIn wsLL wsX4_rekey := goodIn_r _ [332, 17, 333, 272, 108, 109, 2, 110, 111, 112, 116, 117, 118, 119, 25, 273, 274, 275, 16, 276, 124, 41, 313, 314, 315, 316, 45, 43, 44, 38, 129, 130, 131, 132, 133, 134, 135, 136, 137, 39, 138, 139, 140, 141, 46, 125, 126, 127, 128, 142, 143, 144, 145, 42, 146, 147, 148, 149, 150, 334, 335, 336, 337, 281, 282, 283, 284, 1077, 1078, 1079, 1080, 1081, 1082, 1083, 1084, 1112, 1113, 1114, 1115, 1116, 1117, 1118, 1119, 1120, 1121, 1122, 1123, 1124, 1125, 1126, 1127, 1128] (by decide +kernel) (by decide +kernel)
set_option maxRecDepth 20000 in
theorem xG_X4_rekey : GoodIn wsLL (wsV RL 52 RX4 yX4_rekey wsX4_rekey) := goodIn_app (goodIn_of _ (by decide +kernel)) xg_X4_rekey
set_option maxRecDepth 20000 in
theorem xg_X5_rekey : GoodIn wsLL wsX5_rekey := goodIn_r _ [341, 155, 84, 83, 164, 165, 5, 166, 167, 168, 161, 162, 163, 169, 170, 171, 172, 82, 293, 294, 295, 296, 173, 174, 175, 325, 326, 327, 328, 217, 218, 219, 220, 193, 194, 195, 196, 184, 185, 186, 187, 91, 188, 189, 190, 191, 192, 197, 198, 199, 200, 201, 202, 203, 204, 205, 206, 207, 208, 176, 177, 178, 179, 180, 181, 182, 183, 209, 210, 211, 212, 213, 214, 215, 216, 221, 222, 223, 224, 1085, 1086, 1087, 1088, 1089, 1090, 1091, 1092, 1093, 1094, 1095, 1096, 1097, 1098, 1099, 1100, 1101, 1102, 1103, 1104, 1105, 1106, 1107, 1108, 1109, 1110, 1111] (by decide +kernel) (by decide +kernel)
set_option maxRecDepth 20000 in
theorem xG_X5_rekey : GoodIn wsLL (wsV RL 55 RX5 yX5_rekey wsX5_rekey) := goodIn_app (goodIn_of _ (by decide +kernel)) xg_X5_rekey
set_option maxRecDepth 20000 in
theorem xg_X4_raise : GoodIn wsLL wsX4_raise := goodIn_r _ [345, 346, 347, 17, 229, 105, 106, 2, 107, 116, 117, 118, 119, 25, 348, 349, 350, 16, 351, 124, 41, 39, 142, 143, 144, 145, 38, 42, 146, 147, 148, 149, 150, 43, 44, 129, 130, 131, 132, 45, 133, 134, 135, 136, 137, 138, 139, 140, 141, 46, 317, 318, 319, 320, 1077, 1078, 1079, 1080, 1081, 1082, 1083, 1084, 1112, 1113, 1114, 1115, 1116, 1117, 1118, 1119, 1120, 1121, 1122, 1123, 1124, 1125, 1126, 1127, 1128] (by decide +kernel) (by decide +kernel)
set_option maxRecDepth 20000 in
theorem xG_X4_raise : GoodIn wsLL (wsV RL 56 RX4 yX4_raise wsX4_raise) := goodIn_app (goodIn_of _ (by decide +kernel)) xg_X4_raise
set_option maxRecDepth 20000 in
theorem xg_X5_raise : GoodIn wsLL wsX5_raise := goodIn_r _ [355, 155, 356, 357, 83, 84, 157, 158, 5, 159, 160, 161, 162, 163, 169, 170, 171, 172, 82, 173, 174, 175, 297, 298, 299, 300, 1085, 1086, 1087, 1088, 1089, 1090, 1091, 1092, 1093, 1094, 1095, 1096, 1097, 1098, 1099, 1100, 1101, 1102, 1103, 1104, 1105, 1106, 1107, 1108, 1109, 1110, 1111] (by decide +kernel) (by decide +kernel)
set_option maxRecDepth 20000 in
theorem xG_X5_raise : GoodIn wsLL (wsV RL 59 RX5 yX5_raise wsX5_raise) := goodIn_app (goodIn_of _ (by decide +kernel)) xg_X5_raise
set_option maxRecDepth 20000 in
theorem xg_X4_meld : GoodIn wsLL wsX4_meld := goodIn_r _ [361, 17, 229, 362, 363, 364, 2, 365, 105, 106, 107, 116, 117, 118, 119, 25, 366, 367, 368, 16, 369, 38, 129, 130, 131, 132, 45, 44, 133, 134, 135, 136, 137, 39, 138, 139, 140, 141, 43, 46, 370, 371, 372, 373, 124, 41, 142, 143, 144, 145, 42, 146, 147, 148, 149, 150, 1077, 1078, 1079, 1080, 1081, 1082, 1083, 1084, 1112, 1113, 1114, 1115, 1116, 1117, 1118, 1119, 1120, 1121, 1122, 1123, 1124, 1125, 1126, 1127, 1128] (by decide +kernel) (by decide +kernel)
set_option maxRecDepth 20000 in
theorem xG_X4_meld : GoodIn wsLL (wsV RL 60 RX4 yX4_meld wsX4_meld) := goodIn_app (goodIn_of _ (by decide +kernel)) xg_X4_meld
set_option maxRecDepth 20000 in
theorem xg_X5_meld : GoodIn wsLL wsX5_meld := goodIn_r _ [377, 155, 83, 188, 378, 379, 5, 380, 157, 158, 159, 160, 161, 162, 163, 169, 170, 171, 172, 82, 184, 185, 186, 187, 91, 189, 190, 191, 192, 84, 193, 194, 195, 196, 173, 174, 175, 197, 198, 199, 200, 201, 202, 203, 204, 205, 206, 207, 208, 381, 382, 383, 384, 209, 210, 211, 212, 213, 214, 215, 216, 217, 218, 219, 220, 221, 222, 223, 224, 1085, 1086, 1087, 1088, 1089, 1090, 1091, 1092, 1093, 1094, 1095, 1096, 1097, 1098, 1099, 1100, 1101, 1102, 1103, 1104, 1105, 1106, 1107, 1108, 1109, 1110, 1111] (by decide +kernel) (by decide +kernel)
set_option maxRecDepth 20000 in
theorem xG_X5_meld : GoodIn wsLL (wsV RL 63 RX5 yX5_meld wsX5_meld) := goodIn_app (goodIn_of _ (by decide +kernel)) xg_X5_meld
set_option maxRecDepth 20000 in
theorem xg_X4_part : GoodIn wsLL wsX4_part := goodIn_r _ [388, 17, 363, 364, 2, 365, 105, 106, 107, 116, 117, 118, 119, 25, 277, 278, 279, 16, 280, 124, 281, 282, 283, 284, 41, 42, 389, 390, 391, 392, 147, 148, 149, 150, 38, 43, 44, 129, 130, 131, 132, 45, 133, 134, 135, 136, 137, 39, 138, 139, 140, 141, 46, 235, 143, 144, 145, 146, 393, 126, 127, 128, 1077, 1078, 1079, 1080, 1081, 1082, 1083, 1084, 1112, 1113, 1114, 1115, 1116, 1117, 1118, 1119, 1120, 1121, 1122, 1123, 1124, 1125, 1126, 1127, 1128] (by decide +kernel) (by decide +kernel)
set_option maxRecDepth 20000 in
theorem xG_X4_part : GoodIn wsLL (wsV RL 64 RX4 yX4_part wsX4_part) := goodIn_app (goodIn_of _ (by decide +kernel)) xg_X4_part
set_option maxRecDepth 20000 in
theorem xg_X5_part : GoodIn wsLL wsX5_part := goodIn_r _ [397, 155, 398, 378, 379, 5, 380, 157, 158, 159, 160, 161, 162, 163, 169, 170, 171, 172, 82, 297, 298, 299, 300, 83, 173, 174, 175, 399, 400, 401, 402, 213, 214, 215, 216, 217, 218, 219, 220, 193, 194, 195, 196, 184, 185, 186, 187, 91, 188, 189, 190, 191, 192, 84, 197, 198, 199, 200, 201, 202, 203, 204, 205, 206, 207, 208, 209, 210, 211, 212, 221, 222, 223, 224, 176, 177, 178, 179, 180, 181, 182, 183, 1085, 1086, 1087, 1088, 1089, 1090, 1091, 1092, 1093, 1094, 1095, 1096, 1097, 1098, 1099, 1100, 1101, 1102, 1103, 1104, 1105, 1106, 1107, 1108, 1109, 1110, 1111] (by decide +kernel) (by decide +kernel)
set_option maxRecDepth 20000 in
theorem xG_X5_part : GoodIn wsLL (wsV RL 67 RX5 yX5_part wsX5_part) := goodIn_app (goodIn_of _ (by decide +kernel)) xg_X5_part
set_option maxRecDepth 20000 in
theorem xg_X4_split : GoodIn wsLL wsX4_split := goodIn_r _ [406, 29, 17, 363, 364, 2, 365, 105, 106, 107, 116, 117, 118, 119, 25, 407, 408, 409, 28, 410, 66, 411, 67, 412, 68, 413, 69, 414, 415, 416, 417, 418, 419, 420, 421, 422, 423, 424, 130, 131, 16, 132, 45, 44, 133, 134, 135, 136, 137, 39, 138, 139, 140, 141, 43, 46, 425, 426, 427, 428, 429, 430, 126, 127, 128, 41, 38, 129, 142, 143, 144, 145, 42, 146, 147, 148, 149, 150, 1077, 1078, 1079, 1080, 1081, 1082, 1083, 1084, 1132, 1133, 1134, 1135, 1136, 1137, 1112, 1113, 1114, 1115, 1116, 1117, 1118, 1119, 1120, 1121, 1122, 1123, 1124, 1125, 1126, 1127, 1128] (by decide +kernel) (by decide +kernel)
set_option maxRecDepth 20000 in
theorem xG_X4_split : GoodIn wsLL (wsV RL 68 RX4 yX4_split wsX4_split) := goodIn_app (goodIn_of _ (by decide +kernel)) xg_X4_split
set_option maxRecDepth 20000 in
theorem xg_X5_split : GoodIn wsLL wsX5_split := goodIn_r _ [434, 155, 83, 84, 435, 93, 92, 94, 378, 379, 5, 380, 157, 158, 159, 160, 161, 162, 163, 169, 170, 171, 172, 82, 197, 198, 199, 200, 173, 174, 175, 193, 194, 195, 196, 217, 218, 219, 220, 436, 437, 438, 439, 184, 185, 186, 187, 91, 188, 189, 190, 191, 192, 201, 202, 203, 204, 205, 206, 207, 208, 440, 441, 442, 443, 176, 177, 178, 179, 180, 181, 182, 183, 209, 210, 211, 212, 213, 214, 215, 216, 221, 222, 223, 224, 1085, 1086, 1087, 1088, 1089, 1090, 1091, 1092, 1093, 1094, 1095, 1096, 1097, 1098, 1099, 1100, 1101, 1102, 1103, 1104, 1105, 1106, 1107, 1108, 1109, 1110, 1111] (by decide +kernel) (by decide +kernel)
set_option maxRecDepth 20000 in
theorem xG_X5_split : GoodIn wsLL (wsV RL 71 RX5 yX5_split wsX5_split) := goodIn_app (goodIn_of _ (by decide +kernel)) xg_X5_split
set_option maxRecDepth 20000 in
theorem xg_X4_gather : GoodIn wsLL wsX4_gather := goodIn_r _ [447, 17, 362, 29, 105, 106, 2, 107, 116, 117, 118, 119, 25, 448, 449, 450, 28, 451, 66, 411, 69, 452, 51, 52, 53, 420, 421, 422, 423, 424, 130, 131, 16, 132, 45, 44, 133, 134, 135, 136, 137, 39, 138, 139, 140, 141, 43, 46, 453, 371, 372, 373, 124, 41, 142, 143, 144, 145, 38, 42, 146, 147, 148, 149, 150, 129, 1077, 1078, 1079, 1080, 1081, 1082, 1083, 1084, 1112, 1113, 1114, 1115, 1116, 1117, 1118, 1119, 1120, 1121, 1122, 1123, 1124, 1125, 1126, 1127, 1128, 1132, 1133, 1134, 1135, 1136, 1137] (by decide +kernel) (by decide +kernel)
set_option maxRecDepth 20000 in
theorem xG_X4_gather : GoodIn wsLL (wsV RL 72 RX4 yX4_gather wsX4_gather) := goodIn_app (goodIn_of _ (by decide +kernel)) xg_X4_gather
set_option maxRecDepth 20000 in
theorem xg_X5_gather : GoodIn wsLL wsX5_gather := goodIn_r _ [457, 155, 435, 83, 92, 188, 157, 158, 5, 159, 160, 161, 162, 163, 169, 170, 171, 172, 82, 436, 437, 438, 439, 184, 185, 186, 187, 91, 189, 190, 191, 192, 84, 193, 194, 195, 196, 173, 174, 175, 197, 198, 199, 200, 201, 202, 203, 204, 205, 206, 207, 208, 381, 382, 383, 384, 209, 210, 211, 212, 213, 214, 215, 216, 217, 218, 219, 220, 221, 222, 223, 224, 1085, 1086, 1087, 1088, 1089, 1090, 1091, 1092, 1093, 1094, 1095, 1096, 1097, 1098, 1099, 1100, 1101, 1102, 1103, 1104, 1105, 1106, 1107, 1108, 1109, 1110, 1111] (by decide +kernel) (by decide +kernel)
set_option maxRecDepth 20000 in
theorem xG_X5_gather : GoodIn wsLL (wsV RL 75 RX5 yX5_gather wsX5_gather) := goodIn_app (goodIn_of _ (by decide +kernel)) xg_X5_gather
set_option maxRecDepth 20000 in
theorem xg_X4_even : GoodIn wsLL wsX4_even := goodIn_r _ [461, 29, 462, 463, 464, 28, 465, 70, 66, 466, 278, 279, 16, 280, 124, 281, 282, 283, 284, 41, 42, 467, 390, 391, 392, 147, 148, 149, 150, 38, 43, 44, 129, 130, 131, 132, 45, 133, 134, 135, 136, 137, 39, 138, 139, 140, 141, 46, 235, 143, 144, 145, 146, 393, 126, 127, 128, 1077, 1078, 1079, 1080, 1081, 1082, 1083, 1084, 1132, 1133, 1134, 1135, 1136, 1137, 1112, 1113, 1114, 1115, 1116, 1117, 1118, 1119, 1120, 1121, 1122, 1123, 1124, 1125, 1126, 1127, 1128] (by decide +kernel) (by decide +kernel)
set_option maxRecDepth 20000 in
theorem xG_X4_even : GoodIn wsLL (wsV RL 76 RX4 yX4_even wsX4_even) := goodIn_app (goodIn_of _ (by decide +kernel)) xg_X4_even
set_option maxRecDepth 20000 in
theorem xg_X5_even : GoodIn wsLL wsX5_even := goodIn_r _ [471, 155, 297, 298, 299, 5, 300, 83, 173, 174, 175, 399, 400, 401, 402, 213, 214, 215, 216, 217, 218, 219, 220, 193, 194, 195, 196, 184, 185, 186, 187, 91, 188, 189, 190, 191, 192, 84, 197, 198, 199, 200, 201, 202, 203, 204, 205, 206, 207, 208, 209, 210, 211, 212, 221, 222, 223, 224, 176, 177, 178, 179, 180, 181, 182, 183, 1085, 1086, 1087, 1088, 1089, 1090, 1091, 1092, 1093, 1094, 1095, 1096, 1097, 1098, 1099, 1100, 1101, 1102, 1103, 1104, 1105, 1106, 1107, 1108, 1109, 1110, 1111] (by decide +kernel) (by decide +kernel)
set_option maxRecDepth 20000 in
theorem xG_X5_even : GoodIn wsLL (wsV RL 80 RX5 yX5_even wsX5_even) := goodIn_app (goodIn_of _ (by decide +kernel)) xg_X5_even
set_option maxRecDepth 20000 in
theorem xg_X4_arc : GoodIn wsLL wsX4_arc := goodIn_r _ [475, 22, 476, 477, 478, 479, 480, 2, 481, 482, 483, 484, 347, 116, 117, 118, 119, 25, 485, 486, 487, 21, 488, 58, 1077, 1078, 1079, 1080, 1081, 1082, 1083, 1084, 1129, 1130, 1131] (by decide +kernel) (by decide +kernel)
set_option maxRecDepth 20000 in
theorem xG_X4_arc : GoodIn wsLL (wsV RL 81 RX4 yX4_arc wsX4_arc) := goodIn_app (goodIn_of _ (by decide +kernel)) xg_X4_arc
set_option maxRecDepth 20000 in
theorem xg_X5_arc : GoodIn wsLL wsX5_arc := goodIn_r _ [492, 155, 357, 83, 493, 494, 5, 495, 496, 161, 162, 163, 169, 170, 171, 172, 82, 497, 498, 499, 500, 501, 1085, 1086, 1087, 1088, 1089, 1090, 1091, 1092, 1093, 1094, 1095, 1096, 1097, 1098, 1099, 1100, 1101, 1102, 1103, 1104, 1105, 1106, 1107, 1108, 1109, 1110, 1111] (by decide +kernel) (by decide +kernel)
set_option maxRecDepth 20000 in
theorem xG_X5_arc : GoodIn wsLL (wsV RL 84 RX5 yX5_arc wsX5_arc) := goodIn_app (goodIn_of _ (by decide +kernel)) xg_X5_arc
set_option maxRecDepth 20000 in
theorem xg_X4_unarc : GoodIn wsLL wsX4_unarc := goodIn_r _ [505, 22, 476, 506, 507, 508, 21, 509, 58, 116, 117, 118, 2, 119, 25, 510, 511, 512, 513, 1077, 1078, 1079, 1080, 1081, 1082, 1083, 1084, 1129, 1130, 1131] (by decide +kernel) (by decide +kernel)
set_option maxRecDepth 20000 in
theorem xG_X4_unarc : GoodIn wsLL (wsV RL 85 RX4 yX4_unarc wsX4_unarc) := goodIn_app (goodIn_of _ (by decide +kernel)) xg_X4_unarc
set_option maxRecDepth 20000 in
theorem xg_X5_unarc : GoodIn wsLL wsX5_unarc := goodIn_r _ [517, 155, 83, 497, 498, 499, 5, 500, 501, 161, 162, 163, 169, 170, 171, 172, 82, 518, 519, 520, 521, 1085, 1086, 1087, 1088, 1089, 1090, 1091, 1092, 1093, 1094, 1095, 1096, 1097, 1098, 1099, 1100, 1101, 1102, 1103, 1104, 1105, 1106, 1107, 1108, 1109, 1110, 1111] (by decide +kernel) (by decide +kernel)
set_option maxRecDepth 20000 in
theorem xG_X5_unarc : GoodIn wsLL (wsV RL 88 RX5 yX5_unarc wsX5_unarc) := goodIn_app (goodIn_of _ (by decide +kernel)) xg_X5_unarc
set_option maxRecDepth 20000 in
theorem xg_X4_price : GoodIn wsLL wsX4_price := goodIn_r _ [525, 22, 478, 482, 483, 2, 484, 347, 116, 117, 118, 119, 25, 506, 507, 508, 21, 509, 58, 1077, 1078, 1079, 1080, 1081, 1082, 1083, 1084, 1129, 1130, 1131] (by decide +kernel) (by decide +kernel)
set_option maxRecDepth 20000 in
theorem xG_X4_price : GoodIn wsLL (wsV RL 89 RX4 yX4_price wsX4_price) := goodIn_app (goodIn_of _ (by decide +kernel)) xg_X4_price
set_option maxRecDepth 20000 in
theorem xg_X5_price : GoodIn wsLL wsX5_price := goodIn_r _ [529, 155, 357, 83, 161, 162, 5, 163, 169, 170, 171, 172, 82, 497, 498, 499, 500, 501, 1085, 1086, 1087, 1088, 1089, 1090, 1091, 1092, 1093, 1094, 1095, 1096, 1097, 1098, 1099, 1100, 1101, 1102, 1103, 1104, 1105, 1106, 1107, 1108, 1109, 1110, 1111] (by decide +kernel) (by decide +kernel)
set_option maxRecDepth 20000 in
theorem xG_X5_price : GoodIn wsLL (wsV RL 92 RX5 yX5_price wsX5_price) := goodIn_app (goodIn_of _ (by decide +kernel)) xg_X5_price
set_option maxRecDepth 20000 in
theorem xg_X4_keep : GoodIn wsLL wsX4_keep := goodIn_r _ [533, 18, 23, 14, 15, 16, 19, 20, 21, 17, 22, 34, 35, 36, 37, 12, 13, 24, 38, 6, 39, 40, 41, 42, 43, 44, 45, 46, 47, 48, 49, 50, 51, 52, 53, 54, 55, 56, 57, 58, 59, 60, 61, 534, 535, 536, 537, 124, 252, 146, 234, 538, 539, 540, 541, 542, 543, 544, 545, 546, 1077, 1078, 1079, 1080, 1081, 1082, 1083, 1084, 1112, 1113, 1114, 1115, 1116, 1117, 1118, 1119, 1120, 1121, 1122, 1123, 1124, 1125, 1126, 1127, 1128, 1129, 1130, 1131] (by decide +kernel) (by decide +kernel)
set_option maxRecDepth 20000 in
theorem xG_X4_keep : GoodIn wsLL (wsV RL 93 RX4 yX4_keep wsX4_keep) := goodIn_app (goodIn_of _ (by decide +kernel)) xg_X4_keep
set_option maxRecDepth 20000 in
theorem xg_X5_keep : GoodIn wsLL wsX5_keep := goodIn_r _ [550, 155, 83, 84, 85, 86, 88, 161, 162, 5, 163, 551, 552, 553, 1085, 1086, 1087, 1088, 1089, 1090, 1091, 1092, 1093, 1094, 1095, 1096, 1097, 1098, 1099, 1100, 1101, 1102, 1103, 1104, 1105, 1106, 1107, 1108, 1109, 1110, 1111] (by decide +kernel) (by decide +kernel)
set_option maxRecDepth 20000 in
theorem xG_X5_keep : GoodIn wsLL (wsV RL 97 RX5 yX5_keep wsX5_keep) := goodIn_app (goodIn_of _ (by decide +kernel)) xg_X5_keep
set_option maxRecDepth 20000 in
theorem xg_X4_again : GoodIn wsLL wsX4_again := goodIn_r _ [557, 18, 23, 17, 22, 534, 535, 536, 16, 537, 124, 252, 146, 234, 38, 538, 539, 540, 541, 39, 40, 41, 42, 43, 44, 45, 46, 47, 48, 49, 542, 543, 544, 21, 545, 58, 546, 59, 60, 1077, 1078, 1079, 1080, 1081, 1082, 1083, 1084, 1112, 1113, 1114, 1115, 1116, 1117, 1118, 1119, 1120, 1121, 1122, 1123, 1124, 1125, 1126, 1127, 1128, 1129, 1130, 1131] (by decide +kernel) (by decide +kernel)
set_option maxRecDepth 20000 in
theorem xG_X4_again : GoodIn wsLL (wsV RL 98 RX4 yX4_again wsX4_again) := goodIn_app (goodIn_of _ (by decide +kernel)) xg_X4_again
set_option maxRecDepth 20000 in
theorem xg_X5_again : GoodIn wsLL wsX5_again := goodIn_r _ [561, 155, 88, 85, 86, 83, 84, 161, 162, 5, 163, 551, 552, 553, 1085, 1086, 1087, 1088, 1089, 1090, 1091, 1092, 1093, 1094, 1095, 1096, 1097, 1098, 1099, 1100, 1101, 1102, 1103, 1104, 1105, 1106, 1107, 1108, 1109, 1110, 1111] (by decide +kernel) (by decide +kernel)
set_option maxRecDepth 20000 in
theorem xG_X5_again : GoodIn wsLL (wsV RL 101 RX5 yX5_again wsX5_again) := goodIn_app (goodIn_of _ (by decide +kernel)) xg_X5_again
set_option maxRecDepth 20000 in
theorem xg_L_key : GoodIn wsLL wsKL_key := goodIn_ca (goodIn_r _ [565, 566, 567, 568, 569, 2, 570, 571, 572, 17, 333, 273, 274, 275, 16, 276, 124, 41, 1077, 1078, 1079, 1080, 1081, 1082, 1083, 1084, 1112, 1113, 1114, 1115, 1116, 1117, 1118, 1119, 1120, 1121, 1122, 1123, 1124, 1125, 1126, 1127, 1128] (by decide +kernel) (by decide +kernel)) (goodIn_sub (fun _ h => List.mem_append_right _ h) (by decide +kernel))
set_option maxRecDepth 20000 in
theorem xG_L_key : GoodIn wsLL (va_wsS RL 102 yL_key wsKL_key) := goodIn_app (goodIn_of _ (by decide +kernel)) xg_L_key
set_option maxRecDepth 20000 in
theorem xg_X5_key : GoodIn wsLL wsX5_key := goodIn_r _ [576, 84, 577, 578, 579, 5, 580, 155, 293, 294, 295, 296, 83, 161, 162, 163, 173, 174, 175, 1085, 1086, 1087, 1088, 1089, 1090, 1091, 1092, 1093, 1094, 1095, 1096, 1097, 1098, 1099, 1100, 1101, 1102, 1103, 1104, 1105, 1106, 1107, 1108, 1109, 1110, 1111] (by decide +kernel) (by decide +kernel)
set_option maxRecDepth 20000 in
theorem xG_X5_key : GoodIn wsLL (wsV RL 107 RX5 yX5_key wsX5_key) := goodIn_app (goodIn_of _ (by decide +kernel)) xg_X5_key
set_option maxRecDepth 20000 in
theorem xg_X5_thrown : GoodIn wsLL wsX5_thrown := goodIn_r _ [584, 155, 1085, 1086, 1087, 1088, 1089, 1090, 1091, 1092, 1093, 1094, 1095, 1096, 1097, 1098, 1099, 1100, 1101, 1102, 1103, 1104, 1105, 1106, 1107, 1108, 1109, 1110, 1111] (by decide +kernel) (by decide +kernel)
set_option maxRecDepth 20000 in
theorem xG_X5_thrown : GoodIn wsLL (wsV RL 108 RX5 yX5_thrown wsX5_thrown) := goodIn_app (goodIn_of _ (by decide +kernel)) xg_X5_thrown
set_option maxRecDepth 20000 in
theorem xg_L_item : GoodIn wsLL wsKL_item := goodIn_ca (goodIn_r _ [587, 566, 588, 589, 590, 2, 591, 571, 572, 17, 592, 272, 271, 593, 594, 595, 596, 29, 273, 274, 275, 16, 276, 124, 41, 597, 598, 599, 600, 45, 601, 415, 416, 28, 417, 69, 67, 66, 418, 419, 1077, 1078, 1079, 1080, 1081, 1082, 1083, 1084, 1112, 1113, 1114, 1115, 1116, 1117, 1118, 1119, 1120, 1121, 1122, 1123, 1124, 1125, 1126, 1127, 1128, 1132, 1133, 1134, 1135, 1136, 1137] (by decide +kernel) (by decide +kernel)) (goodIn_sub (fun _ h => List.mem_append_right _ h) (by decide +kernel))
set_option maxRecDepth 20000 in
theorem xG_L_item : GoodIn wsLL (va_wsS RL 111 yL_item wsKL_item) := goodIn_app (goodIn_of _ (by decide +kernel)) xg_L_item
set_option maxRecDepth 20000 in
theorem xg_X5_item : GoodIn wsLL wsX5_item := goodIn_r _ [605, 83, 95, 577, 578, 579, 5, 580, 155, 293, 294, 295, 296, 161, 162, 163, 173, 174, 175, 606, 607, 608, 609, 610, 611, 612, 613, 1085, 1086, 1087, 1088, 1089, 1090, 1091, 1092, 1093, 1094, 1095, 1096, 1097, 1098, 1099, 1100, 1101, 1102, 1103, 1104, 1105, 1106, 1107, 1108, 1109, 1110, 1111] (by decide +kernel) (by decide +kernel)
set_option maxRecDepth 20000 in
theorem xG_X5_item : GoodIn wsLL (wsV RL 114 RX5 yX5_item wsX5_item) := goodIn_app (goodIn_of _ (by decide +kernel)) xg_X5_item
