set_option maxRecDepth 20000 in
theorem xg_X4_init : GoodIn wsLL wsX4_init := goodIn_r _ [10, 11, 12, 13, 14, 15, 16, 17, 18, 19, 20, 21, 22, 23, 24, 25, 26, 27, 28, 29, 30, 31, 32, 33, 34, 35, 36, 37, 38, 6, 39, 40, 41, 42, 43, 44, 45, 46, 47, 48, 49, 50, 51, 52, 53, 54, 55, 56, 57, 58, 59, 60, 61, 62, 63, 64, 65, 66, 67, 68, 69, 70, 71, 72, 73, 74, 75, 76, 77, 1112, 1113, 1114, 1115, 1116, 1117, 1118, 1119, 1120, 1121, 1122, 1123, 1124, 1125, 1126, 1127, 1128, 1077, 1078, 1079, 1080, 1081, 1082, 1083, 1084, 1129, 1130, 1131, 1132, 1133, 1134, 1135, 1136, 1137, 1138, 1139, 1140, 1141, 1142, 1143, 1144, 1145] (by decide +kernel) (by decide +kernel)
theorem xG_X4_init : GoodIn wsLL (wsX4_init) := xg_X4_init
set_option maxRecDepth 20000 in
theorem xg_X5_init : GoodIn wsLL wsX5_init := goodIn_r _ [80, 81, 12, 13, 24, 82, 83, 6, 84, 85, 86, 87, 88, 89, 90, 91, 92, 93, 94, 95, 96, 97, 98, 99, 1085, 1086, 1087, 1088, 1089, 1090, 1091, 1092, 1093, 1094, 1095, 1096, 1097, 1098, 1099, 1100, 1101, 1102, 1103, 1104, 1105, 1106, 1107, 1108, 1109, 1110, 1111] (by decide +kernel) (by decide +kernel)
theorem xG_X5_init : GoodIn wsLL (wsX5_init) := xg_X5_init
set_option maxRecDepth 20000 in
theorem xg_X4_enter : GoodIn wsLL wsX4_enter := goodIn_r _ [103, 17, 104, 105, 106, 2, 107, 108, 109, 110, 111, 112, 113, 114, 115, 116, 117, 118, 119, 25, 120, 121, 122, 16, 123, 124, 39, 40, 42, 41, 125, 126, 127, 128, 43, 44, 45, 46, 38, 129, 130, 131, 132, 133, 134, 135, 136, 137, 138, 139, 140, 141, 142, 143, 144, 145, 146, 147, 148, 149, 150, 151, 152, 153, 154, 1077, 1078, 1079, 1080, 1081, 1082, 1083, 1084, 1112, 1113, 1114, 1115, 1116, 1117, 1118, 1119, 1120, 1121, 1122, 1123, 1124, 1125, 1126, 1127, 1128] (by decide +kernel) (by decide +kernel)
set_option maxRecDepth 20000 in
theorem xG_X4_enter : GoodIn wsLL (wsV RL 26 RX4 yX4_enter wsX4_enter) := goodIn_app (goodIn_of _ (by decide +kernel)) xg_X4_enter
set_option maxRecDepth 20000 in
theorem xg_X5_enter : GoodIn wsLL wsX5_enter := goodIn_r _ [158, 159, 160, 83, 84, 161, 162, 5, 163, 164, 165, 166, 167, 168, 169, 170, 171, 172, 173, 174, 175, 176, 82, 177, 178, 179, 180, 181, 182, 183, 184, 185, 186, 187, 188, 189, 190, 191, 91, 192, 193, 194, 195, 196, 197, 198, 199, 200, 201, 202, 203, 204, 205, 206, 207, 208, 209, 210, 211, 212, 213, 214, 215, 216, 217, 218, 219, 220, 221, 222, 223, 224, 225, 226, 227, 228, 1085, 1086, 1087, 1088, 1089, 1090, 1091, 1092, 1093, 1094, 1095, 1096, 1097, 1098, 1099, 1100, 1101, 1102, 1103, 1104, 1105, 1106, 1107, 1108, 1109, 1110, 1111] (by decide +kernel) (by decide +kernel)
set_option maxRecDepth 20000 in
theorem xG_X5_enter : GoodIn wsLL (wsV RL 30 RX5 yX5_enter wsX5_enter) := goodIn_app (goodIn_of _ (by decide +kernel)) xg_X5_enter
set_option maxRecDepth 20000 in
theorem xg_X4_take : GoodIn wsLL wsX4_take := goodIn_r _ [232, 17, 233, 105, 106, 2, 107, 116, 117, 118, 119, 25, 234, 235, 236, 16, 237, 238, 47, 48, 39, 49, 151, 152, 153, 154, 38, 43, 44, 41, 129, 130, 131, 132, 45, 133, 134, 135, 136, 137, 138, 139, 140, 141, 46, 142, 143, 144, 145, 239, 147, 148, 149, 42, 150, 1077, 1078, 1079, 1080, 1081, 1082, 1083, 1084, 1112, 1113, 1114, 1115, 1116, 1117, 1118, 1119, 1120, 1121, 1122, 1123, 1124, 1125, 1126, 1127, 1128] (by decide +kernel) (by decide +kernel)
set_option maxRecDepth 20000 in
theorem xG_X4_take : GoodIn wsLL (wsV RL 31 RX4 yX4_take wsX4_take) := goodIn_app (goodIn_of _ (by decide +kernel)) xg_X4_take
set_option maxRecDepth 20000 in
theorem xg_X5_take : GoodIn wsLL wsX5_take := goodIn_r _ [243, 159, 83, 161, 162, 5, 163, 164, 165, 166, 167, 173, 174, 175, 176, 82, 244, 245, 246, 247, 84, 217, 218, 219, 220, 221, 222, 223, 224, 177, 178, 179, 197, 198, 199, 200, 188, 189, 190, 191, 91, 192, 193, 194, 195, 196, 201, 202, 203, 204, 205, 206, 207, 208, 209, 210, 211, 212, 225, 226, 227, 228, 213, 214, 215, 216, 1085, 1086, 1087, 1088, 1089, 1090, 1091, 1092, 1093, 1094, 1095, 1096, 1097, 1098, 1099, 1100, 1101, 1102, 1103, 1104, 1105, 1106, 1107, 1108, 1109, 1110, 1111] (by decide +kernel) (by decide +kernel)
set_option maxRecDepth 20000 in
theorem xG_X5_take : GoodIn wsLL (wsV RL 35 RX5 yX5_take wsX5_take) := goodIn_app (goodIn_of _ (by decide +kernel)) xg_X5_take
set_option maxRecDepth 20000 in
theorem xg_X4_round : GoodIn wsLL wsX4_round := goodIn_r _ [251, 17, 116, 117, 118, 2, 119, 25, 252, 253, 254, 16, 255, 256, 257, 235, 236, 237, 238, 47, 48, 39, 49, 151, 152, 153, 154, 38, 43, 44, 41, 129, 130, 131, 132, 45, 133, 134, 135, 136, 137, 138, 139, 140, 141, 46, 142, 143, 144, 145, 239, 147, 148, 149, 42, 150, 1077, 1078, 1079, 1080, 1081, 1082, 1083, 1084, 1112, 1113, 1114, 1115, 1116, 1117, 1118, 1119, 1120, 1121, 1122, 1123, 1124, 1125, 1126, 1127, 1128] (by decide +kernel) (by decide +kernel)
set_option maxRecDepth 20000 in
theorem xG_X4_round : GoodIn wsLL (wsV RL 36 RX4 yX4_round wsX4_round) := goodIn_app (goodIn_of _ (by decide +kernel)) xg_X4_round
set_option maxRecDepth 20000 in
theorem xg_X5_round : GoodIn wsLL wsX5_round := goodIn_r _ [261, 159, 262, 165, 166, 5, 167, 173, 174, 175, 176, 82, 263, 264, 265, 266, 83, 244, 245, 246, 247, 84, 217, 218, 219, 220, 221, 222, 223, 224, 177, 178, 179, 197, 198, 199, 200, 188, 189, 190, 191, 91, 192, 193, 194, 195, 196, 201, 202, 203, 204, 205, 206, 207, 208, 209, 210, 211, 212, 225, 226, 227, 228, 213, 214, 215, 216, 1085, 1086, 1087, 1088, 1089, 1090, 1091, 1092, 1093, 1094, 1095, 1096, 1097, 1098, 1099, 1100, 1101, 1102, 1103, 1104, 1105, 1106, 1107, 1108, 1109, 1110, 1111] (by decide +kernel) (by decide +kernel)
set_option maxRecDepth 20000 in
theorem xG_X5_round : GoodIn wsLL (wsV RL 39 RX5 yX5_round wsX5_round) := goodIn_app (goodIn_of _ (by decide +kernel)) xg_X5_round
set_option maxRecDepth 20000 in
theorem xg_X4_cross : GoodIn wsLL wsX4_cross := goodIn_r _ [270, 271, 272, 273, 2, 274, 17, 275, 276, 277, 278, 279, 16, 280, 124, 41, 116, 117, 118, 119, 25, 146, 147, 148, 149, 38, 42, 150, 151, 152, 153, 154, 43, 44, 129, 130, 131, 132, 45, 133, 134, 135, 136, 137, 39, 138, 139, 140, 141, 46, 142, 143, 144, 145, 281, 282, 283, 284, 285, 286, 287, 288, 1077, 1078, 1079, 1080, 1081, 1082, 1083, 1084, 1112, 1113, 1114, 1115, 1116, 1117, 1118, 1119, 1120, 1121, 1122, 1123, 1124, 1125, 1126, 1127, 1128] (by decide +kernel) (by decide +kernel)
set_option maxRecDepth 20000 in
theorem xG_X4_cross : GoodIn wsLL (wsV RL 40 RX4 yX4_cross wsX4_cross) := goodIn_app (goodIn_of _ (by decide +kernel)) xg_X4_cross
set_option maxRecDepth 20000 in
theorem xg_X5_cross : GoodIn wsLL wsX5_cross := goodIn_r _ [292, 159, 293, 294, 295, 5, 296, 83, 297, 298, 299, 300, 165, 166, 167, 177, 178, 179, 173, 174, 175, 176, 82, 213, 214, 215, 216, 217, 218, 219, 220, 221, 222, 223, 224, 197, 198, 199, 200, 188, 189, 190, 191, 91, 192, 193, 194, 195, 196, 84, 201, 202, 203, 204, 205, 206, 207, 208, 209, 210, 211, 212, 225, 226, 227, 228, 301, 302, 303, 304, 1085, 1086, 1087, 1088, 1089, 1090, 1091, 1092, 1093, 1094, 1095, 1096, 1097, 1098, 1099, 1100, 1101, 1102, 1103, 1104, 1105, 1106, 1107, 1108, 1109, 1110, 1111] (by decide +kernel) (by decide +kernel)
set_option maxRecDepth 20000 in
theorem xG_X5_cross : GoodIn wsLL (wsV RL 43 RX5 yX5_cross wsX5_cross) := goodIn_app (goodIn_of _ (by decide +kernel)) xg_X5_cross
set_option maxRecDepth 20000 in
theorem xg_X4_uncross : GoodIn wsLL wsX4_uncross := goodIn_r _ [308, 271, 272, 273, 2, 274, 17, 275, 276, 277, 278, 279, 16, 280, 124, 41, 116, 117, 118, 119, 25, 146, 147, 148, 149, 38, 42, 150, 151, 152, 153, 154, 43, 44, 129, 130, 131, 132, 45, 133, 134, 135, 136, 137, 39, 138, 139, 140, 141, 46, 142, 143, 144, 145, 281, 282, 283, 284, 285, 286, 287, 288, 1077, 1078, 1079, 1080, 1081, 1082, 1083, 1084, 1112, 1113, 1114, 1115, 1116, 1117, 1118, 1119, 1120, 1121, 1122, 1123, 1124, 1125, 1126, 1127, 1128] (by decide +kernel) (by decide +kernel)
set_option maxRecDepth 20000 in
theorem xG_X4_uncross : GoodIn wsLL (wsV RL 44 RX4 yX4_uncross wsX4_uncross) := goodIn_app (goodIn_of _ (by decide +kernel)) xg_X4_uncross
set_option maxRecDepth 20000 in
theorem xg_X5_uncross : GoodIn wsLL wsX5_uncross := goodIn_r _ [312, 159, 293, 294, 295, 5, 296, 83, 297, 298, 299, 300, 165, 166, 167, 177, 178, 179, 173, 174, 175, 176, 82, 213, 214, 215, 216, 217, 218, 219, 220, 221, 222, 223, 224, 197, 198, 199, 200, 188, 189, 190, 191, 91, 192, 193, 194, 195, 196, 84, 201, 202, 203, 204, 205, 206, 207, 208, 209, 210, 211, 212, 225, 226, 227, 228, 301, 302, 303, 304, 1085, 1086, 1087, 1088, 1089, 1090, 1091, 1092, 1093, 1094, 1095, 1096, 1097, 1098, 1099, 1100, 1101, 1102, 1103, 1104, 1105, 1106, 1107, 1108, 1109, 1110, 1111] (by decide +kernel) (by decide +kernel)
set_option maxRecDepth 20000 in
theorem xG_X5_uncross : GoodIn wsLL (wsV RL 47 RX5 yX5_uncross wsX5_uncross) := goodIn_app (goodIn_of _ (by decide +kernel)) xg_X5_uncross
set_option maxRecDepth 20000 in
theorem xg_X4_cut : GoodIn wsLL wsX4_cut := goodIn_r _ [316, 17, 276, 277, 278, 279, 16, 280, 124, 41, 116, 117, 118, 2, 119, 25, 317, 318, 319, 320, 45, 43, 44, 38, 129, 130, 131, 132, 133, 134, 135, 136, 137, 39, 138, 139, 140, 141, 46, 142, 143, 144, 145, 146, 147, 148, 149, 42, 150, 151, 152, 153, 154, 321, 322, 323, 324, 1077, 1078, 1079, 1080, 1081, 1082, 1083, 1084, 1112, 1113, 1114, 1115, 1116, 1117, 1118, 1119, 1120, 1121, 1122, 1123, 1124, 1125, 1126, 1127, 1128] (by decide +kernel) (by decide +kernel)
set_option maxRecDepth 20000 in
theorem xG_X4_cut : GoodIn wsLL (wsV RL 48 RX4 yX4_cut wsX4_cut) := goodIn_app (goodIn_of _ (by decide +kernel)) xg_X4_cut
set_option maxRecDepth 20000 in
theorem xg_X5_cut : GoodIn wsLL wsX5_cut := goodIn_r _ [328, 159, 83, 297, 298, 299, 5, 300, 165, 166, 167, 177, 178, 179, 173, 174, 175, 176, 82, 329, 330, 331, 332, 221, 222, 223, 224, 197, 198, 199, 200, 188, 189, 190, 191, 91, 192, 193, 194, 195, 196, 84, 201, 202, 203, 204, 205, 206, 207, 208, 209, 210, 211, 212, 225, 226, 227, 228, 213, 214, 215, 216, 217, 218, 219, 220, 301, 302, 303, 304, 1085, 1086, 1087, 1088, 1089, 1090, 1091, 1092, 1093, 1094, 1095, 1096, 1097, 1098, 1099, 1100, 1101, 1102, 1103, 1104, 1105, 1106, 1107, 1108, 1109, 1110, 1111] (by decide +kernel) (by decide +kernel)
set_option maxRecDepth 20000 in
theorem xG_X5_cut : GoodIn wsLL (wsV RL 51 RX5 yX5_cut wsX5_cut) := goodIn_app (goodIn_of _ (by decide +kernel)) xg_X5_cut
set_option maxRecDepth 20000 in
theorem xg_X4_rekey : GoodIn wsLL wsX4_rekey := goodIn_r _ [336, 17, 337, 276, 108, 109, 2, 110, 111, 112, 116, 117, 118, 119, 25, 277, 278, 279, 16, 280, 124, 41, 317, 318, 319, 320, 45, 43, 44, 38, 129, 130, 131, 132, 133, 134, 135, 136, 137, 39, 138, 139, 140, 141, 46, 142, 143, 144, 145, 125, 126, 127, 128, 146, 147, 148, 149, 42, 150, 151, 152, 153, 154, 338, 339, 340, 341, 285, 286, 287, 288, 1077, 1078, 1079, 1080, 1081, 1082, 1083, 1084, 1112, 1113, 1114, 1115, 1116, 1117, 1118, 1119, 1120, 1121, 1122, 1123, 1124, 1125, 1126, 1127, 1128] (by decide +kernel) (by decide +kernel)
set_option maxRecDepth 20000 in
theorem xG_X4_rekey : GoodIn wsLL (wsV RL 52 RX4 yX4_rekey wsX4_rekey) := goodIn_app (goodIn_of _ (by decide +kernel)) xg_X4_rekey
set_option maxRecDepth 20000 in
theorem xg_X5_rekey : GoodIn wsLL wsX5_rekey := goodIn_r _ [345, 159, 84, 83, 168, 169, 5, 170, 171, 172, 165, 166, 167, 173, 174, 175, 176, 82, 297, 298, 299, 300, 177, 178, 179, 329, 330, 331, 332, 221, 222, 223, 224, 197, 198, 199, 200, 188, 189, 190, 191, 91, 192, 193, 194, 195, 196, 201, 202, 203, 204, 205, 206, 207, 208, 209, 210, 211, 212, 180, 181, 182, 183, 184, 185, 186, 187, 213, 214, 215, 216, 217, 218, 219, 220, 225, 226, 227, 228, 1085, 1086, 1087, 1088, 1089, 1090, 1091, 1092, 1093, 1094, 1095, 1096, 1097, 1098, 1099, 1100, 1101, 1102, 1103, 1104, 1105, 1106, 1107, 1108, 1109, 1110, 1111] (by decide +kernel) (by decide +kernel)
set_option maxRecDepth 20000 in
theorem xG_X5_rekey : GoodIn wsLL (wsV RL 55 RX5 yX5_rekey wsX5_rekey) := goodIn_app (goodIn_of _ (by decide +kernel)) xg_X5_rekey
set_option maxRecDepth 20000 in
theorem xg_X4_raise : GoodIn wsLL wsX4_raise := goodIn_r _ [349, 350, 351, 17, 233, 105, 106, 2, 107, 116, 117, 118, 119, 25, 352, 353, 354, 16, 355, 124, 41, 39, 146, 147, 148, 149, 38, 42, 150, 151, 152, 153, 154, 43, 44, 129, 130, 131, 132, 45, 133, 134, 135, 136, 137, 138, 139, 140, 141, 46, 142, 143, 144, 145, 321, 322, 323, 324, 1077, 1078, 1079, 1080, 1081, 1082, 1083, 1084, 1112, 1113, 1114, 1115, 1116, 1117, 1118, 1119, 1120, 1121, 1122, 1123, 1124, 1125, 1126, 1127, 1128] (by decide +kernel) (by decide +kernel)
set_option maxRecDepth 20000 in
theorem xG_X4_raise : GoodIn wsLL (wsV RL 56 RX4 yX4_raise wsX4_raise) := goodIn_app (goodIn_of _ (by decide +kernel)) xg_X4_raise
set_option maxRecDepth 20000 in
theorem xg_X5_raise : GoodIn wsLL wsX5_raise := goodIn_r _ [359, 159, 360, 361, 83, 84, 161, 162, 5, 163, 164, 165, 166, 167, 173, 174, 175, 176, 82, 177, 178, 179, 301, 302, 303, 304, 1085, 1086, 1087, 1088, 1089, 1090, 1091, 1092, 1093, 1094, 1095, 1096, 1097, 1098, 1099, 1100, 1101, 1102, 1103, 1104, 1105, 1106, 1107, 1108, 1109, 1110, 1111] (by decide +kernel) (by decide +kernel)
set_option maxRecDepth 20000 in
theorem xG_X5_raise : GoodIn wsLL (wsV RL 59 RX5 yX5_raise wsX5_raise) := goodIn_app (goodIn_of _ (by decide +kernel)) xg_X5_raise
set_option maxRecDepth 20000 in
theorem xg_X4_meld : GoodIn wsLL wsX4_meld := goodIn_r _ [365, 17, 233, 366, 367, 368, 2, 369, 105, 106, 107, 116, 117, 118, 119, 25, 370, 371, 372, 16, 373, 38, 129, 130, 131, 132, 45, 44, 133, 134, 135, 136, 137, 39, 138, 139, 140, 141, 43, 46, 142, 143, 144, 145, 374, 375, 376, 377, 124, 41, 146, 147, 148, 149, 42, 150, 151, 152, 153, 154, 1077, 1078, 1079, 1080, 1081, 1082, 1083, 1084, 1112, 1113, 1114, 1115, 1116, 1117, 1118, 1119, 1120, 1121, 1122, 1123, 1124, 1125, 1126, 1127, 1128] (by decide +kernel) (by decide +kernel)
set_option maxRecDepth 20000 in
theorem xG_X4_meld : GoodIn wsLL (wsV RL 60 RX4 yX4_meld wsX4_meld) := goodIn_app (goodIn_of _ (by decide +kernel)) xg_X4_meld
set_option maxRecDepth 20000 in
theorem xg_X5_meld : GoodIn wsLL wsX5_meld := goodIn_r _ [381, 159, 83, 192, 382, 383, 5, 384, 161, 162, 163, 164, 165, 166, 167, 173, 174, 175, 176, 82, 188, 189, 190, 191, 91, 193, 194, 195, 196, 84, 197, 198, 199, 200, 177, 178, 179, 201, 202, 203, 204, 205, 206, 207, 208, 209, 210, 211, 212, 385, 386, 387, 388, 213, 214, 215, 216, 217, 218, 219, 220, 221, 222, 223, 224, 225, 226, 227, 228, 1085, 1086, 1087, 1088, 1089, 1090, 1091, 1092, 1093, 1094, 1095, 1096, 1097, 1098, 1099, 1100, 1101, 1102, 1103, 1104, 1105, 1106, 1107, 1108, 1109, 1110, 1111] (by decide +kernel) (by decide +kernel)
set_option maxRecDepth 20000 in
theorem xG_X5_meld : GoodIn wsLL (wsV RL 63 RX5 yX5_meld wsX5_meld) := goodIn_app (goodIn_of _ (by decide +kernel)) xg_X5_meld
set_option maxRecDepth 20000 in
theorem xg_X4_part : GoodIn wsLL wsX4_part := goodIn_r _ [392, 17, 367, 368, 2, 369, 105, 106, 107, 116, 117, 118, 119, 25, 281, 282, 283, 16, 284, 124, 285, 286, 287, 288, 41, 42, 393, 394, 395, 396, 151, 152, 153, 154, 38, 43, 44, 129, 130, 131, 132, 45, 133, 134, 135, 136, 137, 39, 138, 139, 140, 141, 46, 142, 143, 144, 145, 239, 147, 148, 149, 150, 397, 126, 127, 128, 1077, 1078, 1079, 1080, 1081, 1082, 1083, 1084, 1112, 1113, 1114, 1115, 1116, 1117, 1118, 1119, 1120, 1121, 1122, 1123, 1124, 1125, 1126, 1127, 1128] (by decide +kernel) (by decide +kernel)
set_option maxRecDepth 20000 in
theorem xG_X4_part : GoodIn wsLL (wsV RL 64 RX4 yX4_part wsX4_part) := goodIn_app (goodIn_of _ (by decide +kernel)) xg_X4_part
set_option maxRecDepth 20000 in
theorem xg_X5_part : GoodIn wsLL wsX5_part := goodIn_r _ [401, 159, 402, 382, 383, 5, 384, 161, 162, 163, 164, 165, 166, 167, 173, 174, 175, 176, 82, 301, 302, 303, 304, 83, 177, 178, 179, 403, 404, 405, 406, 217, 218, 219, 220, 221, 222, 223, 224, 197, 198, 199, 200, 188, 189, 190, 191, 91, 192, 193, 194, 195, 196, 84, 201, 202, 203, 204, 205, 206, 207, 208, 209, 210, 211, 212, 213, 214, 215, 216, 225, 226, 227, 228, 180, 181, 182, 183, 184, 185, 186, 187, 1085, 1086, 1087, 1088, 1089, 1090, 1091, 1092, 1093, 1094, 1095, 1096, 1097, 1098, 1099, 1100, 1101, 1102, 1103, 1104, 1105, 1106, 1107, 1108, 1109, 1110, 1111] (by decide +kernel) (by decide +kernel)
set_option maxRecDepth 20000 in
theorem xG_X5_part : GoodIn wsLL (wsV RL 67 RX5 yX5_part wsX5_part) := goodIn_app (goodIn_of _ (by decide +kernel)) xg_X5_part
set_option maxRecDepth 20000 in
theorem xg_X4_split : GoodIn wsLL wsX4_split := goodIn_r _ [410, 29, 17, 367, 368, 2, 369, 105, 106, 107, 116, 117, 118, 119, 25, 411, 412, 413, 28, 414, 66, 415, 67, 416, 68, 417, 69, 418, 419, 420, 421, 422, 423, 424, 425, 426, 427, 428, 130, 131, 16, 132, 45, 44, 133, 134, 135, 136, 137, 39, 138, 139, 140, 141, 43, 46, 142, 143, 144, 145, 429, 430, 431, 432, 433, 434, 126, 127, 128, 41, 38, 129, 146, 147, 148, 149, 42, 150, 151, 152, 153, 154, 1077, 1078, 1079, 1080, 1081, 1082, 1083, 1084, 1132, 1133, 1134, 1135, 1136, 1137, 1112, 1113, 1114, 1115, 1116, 1117, 1118, 1119, 1120, 1121, 1122, 1123, 1124, 1125, 1126, 1127, 1128] (by decide +kernel) (by decide +kernel)
set_option maxRecDepth 20000 in
theorem xG_X4_split : GoodIn wsLL (wsV RL 68 RX4 yX4_split wsX4_split) := goodIn_app (goodIn_of _ (by decide +kernel)) xg_X4_split
set_option maxRecDepth 20000 in
theorem xg_X5_split : GoodIn wsLL wsX5_split := goodIn_r _ [438, 159, 83, 84, 439, 93, 92, 94, 382, 383, 5, 384, 161, 162, 163, 164, 165, 166, 167, 173, 174, 175, 176, 82, 201, 202, 203, 204, 177, 178, 179, 197, 198, 199, 200, 221, 222, 223, 224, 440, 441, 442, 443, 188, 189, 190, 191, 91, 192, 193, 194, 195, 196, 205, 206, 207, 208, 209, 210, 211, 212, 444, 445, 446, 447, 180, 181, 182, 183, 184, 185, 186, 187, 213, 214, 215, 216, 217, 218, 219, 220, 225, 226, 227, 228, 1085, 1086, 1087, 1088, 1089, 1090, 1091, 1092, 1093, 1094, 1095, 1096, 1097, 1098, 1099, 1100, 1101, 1102, 1103, 1104, 1105, 1106, 1107, 1108, 1109, 1110, 1111] (by decide +kernel) (by decide +kernel)
set_option maxRecDepth 20000 in
theorem xG_X5_split : GoodIn wsLL (wsV RL 71 RX5 yX5_split wsX5_split) := goodIn_app (goodIn_of _ (by decide +kernel)) xg_X5_split
set_option maxRecDepth 20000 in
theorem xg_X4_gather : GoodIn wsLL wsX4_gather := goodIn_r _ [451, 17, 366, 29, 105, 106, 2, 107, 116, 117, 118, 119, 25, 452, 453, 454, 28, 455, 66, 415, 69, 456, 51, 52, 53, 424, 425, 426, 427, 428, 130, 131, 16, 132, 45, 44, 133, 134, 135, 136, 137, 39, 138, 139, 140, 141, 43, 46, 142, 143, 144, 145, 457, 375, 376, 377, 124, 41, 146, 147, 148, 149, 38, 42, 150, 151, 152, 153, 154, 129, 1077, 1078, 1079, 1080, 1081, 1082, 1083, 1084, 1112, 1113, 1114, 1115, 1116, 1117, 1118, 1119, 1120, 1121, 1122, 1123, 1124, 1125, 1126, 1127, 1128, 1132, 1133, 1134, 1135, 1136, 1137] (by decide +kernel) (by decide +kernel)
set_option maxRecDepth 20000 in
theorem xG_X4_gather : GoodIn wsLL (wsV RL 72 RX4 yX4_gather wsX4_gather) := goodIn_app (goodIn_of _ (by decide +kernel)) xg_X4_gather
set_option maxRecDepth 20000 in
theorem xg_X5_gather : GoodIn wsLL wsX5_gather := goodIn_r _ [461, 159, 439, 83, 92, 192, 161, 162, 5, 163, 164, 165, 166, 167, 173, 174, 175, 176, 82, 440, 441, 442, 443, 188, 189, 190, 191, 91, 193, 194, 195, 196, 84, 197, 198, 199, 200, 177, 178, 179, 201, 202, 203, 204, 205, 206, 207, 208, 209, 210, 211, 212, 385, 386, 387, 388, 213, 214, 215, 216, 217, 218, 219, 220, 221, 222, 223, 224, 225, 226, 227, 228, 1085, 1086, 1087, 1088, 1089, 1090, 1091, 1092, 1093, 1094, 1095, 1096, 1097, 1098, 1099, 1100, 1101, 1102, 1103, 1104, 1105, 1106, 1107, 1108, 1109, 1110, 1111] (by decide +kernel) (by decide +kernel)
set_option maxRecDepth 20000 in
theorem xG_X5_gather : GoodIn wsLL (wsV RL 75 RX5 yX5_gather wsX5_gather) := goodIn_app (goodIn_of _ (by decide +kernel)) xg_X5_gather
set_option maxRecDepth 20000 in
theorem xg_X4_even : GoodIn wsLL wsX4_even := goodIn_r _ [465, 29, 466, 467, 468, 28, 469, 70, 66, 470, 282, 283, 16, 284, 124, 285, 286, 287, 288, 41, 42, 471, 394, 395, 396, 151, 152, 153, 154, 38, 43, 44, 129, 130, 131, 132, 45, 133, 134, 135, 136, 137, 39, 138, 139, 140, 141, 46, 142, 143, 144, 145, 239, 147, 148, 149, 150, 397, 126, 127, 128, 1077, 1078, 1079, 1080, 1081, 1082, 1083, 1084, 1132, 1133, 1134, 1135, 1136, 1137, 1112, 1113, 1114, 1115, 1116, 1117, 1118, 1119, 1120, 1121, 1122, 1123, 1124, 1125, 1126, 1127, 1128] (by decide +kernel) (by decide +kernel)
set_option maxRecDepth 20000 in
theorem xG_X4_even : GoodIn wsLL (wsV RL 76 RX4 yX4_even wsX4_even) := goodIn_app (goodIn_of _ (by decide +kernel)) xg_X4_even
set_option maxRecDepth 20000 in
theorem xg_X5_even : GoodIn wsLL wsX5_even := goodIn_r _ [475, 159, 301, 302, 303, 5, 304, 83, 177, 178, 179, 403, 404, 405, 406, 217, 218, 219, 220, 221, 222, 223, 224, 197, 198, 199, 200, 188, 189, 190, 191, 91, 192, 193, 194, 195, 196, 84, 201, 202, 203, 204, 205, 206, 207, 208, 209, 210, 211, 212, 213, 214, 215, 216, 225, 226, 227, 228, 180, 181, 182, 183, 184, 185, 186, 187, 1085, 1086, 1087, 1088, 1089, 1090, 1091, 1092, 1093, 1094, 1095, 1096, 1097, 1098, 1099, 1100, 1101, 1102, 1103, 1104, 1105, 1106, 1107, 1108, 1109, 1110, 1111] (by decide +kernel) (by decide +kernel)
set_option maxRecDepth 20000 in
theorem xG_X5_even : GoodIn wsLL (wsV RL 80 RX5 yX5_even wsX5_even) := goodIn_app (goodIn_of _ (by decide +kernel)) xg_X5_even
set_option maxRecDepth 20000 in
theorem xg_X4_arc : GoodIn wsLL wsX4_arc := goodIn_r _ [479, 22, 480, 481, 482, 483, 484, 2, 485, 486, 487, 488, 351, 116, 117, 118, 119, 25, 489, 490, 491, 21, 492, 58, 1077, 1078, 1079, 1080, 1081, 1082, 1083, 1084, 1129, 1130, 1131] (by decide +kernel) (by decide +kernel)
set_option maxRecDepth 20000 in
theorem xG_X4_arc : GoodIn wsLL (wsV RL 81 RX4 yX4_arc wsX4_arc) := goodIn_app (goodIn_of _ (by decide +kernel)) xg_X4_arc
set_option maxRecDepth 20000 in
theorem xg_X5_arc : GoodIn wsLL wsX5_arc := goodIn_r _ [496, 159, 361, 83, 497, 498, 5, 499, 500, 165, 166, 167, 173, 174, 175, 176, 82, 501, 502, 503, 504, 505, 1085, 1086, 1087, 1088, 1089, 1090, 1091, 1092, 1093, 1094, 1095, 1096, 1097, 1098, 1099, 1100, 1101, 1102, 1103, 1104, 1105, 1106, 1107, 1108, 1109, 1110, 1111] (by decide +kernel) (by decide +kernel)
set_option maxRecDepth 20000 in
theorem xG_X5_arc : GoodIn wsLL (wsV RL 84 RX5 yX5_arc wsX5_arc) := goodIn_app (goodIn_of _ (by decide +kernel)) xg_X5_arc
set_option maxRecDepth 20000 in
theorem xg_X4_unarc : GoodIn wsLL wsX4_unarc := goodIn_r _ [509, 22, 480, 510, 511, 512, 21, 513, 58, 116, 117, 118, 2, 119, 25, 514, 515, 516, 517, 1077, 1078, 1079, 1080, 1081, 1082, 1083, 1084, 1129, 1130, 1131] (by decide +kernel) (by decide +kernel)
set_option maxRecDepth 20000 in
theorem xG_X4_unarc : GoodIn wsLL (wsV RL 85 RX4 yX4_unarc wsX4_unarc) := goodIn_app (goodIn_of _ (by decide +kernel)) xg_X4_unarc
set_option maxRecDepth 20000 in
theorem xg_X5_unarc : GoodIn wsLL wsX5_unarc := goodIn_r _ [521, 159, 83, 501, 502, 503, 5, 504, 505, 165, 166, 167, 173, 174, 175, 176, 82, 522, 523, 524, 525, 1085, 1086, 1087, 1088, 1089, 1090, 1091, 1092, 1093, 1094, 1095, 1096, 1097, 1098, 1099, 1100, 1101, 1102, 1103, 1104, 1105, 1106, 1107, 1108, 1109, 1110, 1111] (by decide +kernel) (by decide +kernel)
set_option maxRecDepth 20000 in
theorem xG_X5_unarc : GoodIn wsLL (wsV RL 88 RX5 yX5_unarc wsX5_unarc) := goodIn_app (goodIn_of _ (by decide +kernel)) xg_X5_unarc
set_option maxRecDepth 20000 in
theorem xg_X4_price : GoodIn wsLL wsX4_price := goodIn_r _ [529, 22, 482, 486, 487, 2, 488, 351, 116, 117, 118, 119, 25, 510, 511, 512, 21, 513, 58, 1077, 1078, 1079, 1080, 1081, 1082, 1083, 1084, 1129, 1130, 1131] (by decide +kernel) (by decide +kernel)
set_option maxRecDepth 20000 in
theorem xG_X4_price : GoodIn wsLL (wsV RL 89 RX4 yX4_price wsX4_price) := goodIn_app (goodIn_of _ (by decide +kernel)) xg_X4_price
set_option maxRecDepth 20000 in
theorem xg_X5_price : GoodIn wsLL wsX5_price := goodIn_r _ [533, 159, 361, 83, 165, 166, 5, 167, 173, 174, 175, 176, 82, 501, 502, 503, 504, 505, 1085, 1086, 1087, 1088, 1089, 1090, 1091, 1092, 1093, 1094, 1095, 1096, 1097, 1098, 1099, 1100, 1101, 1102, 1103, 1104, 1105, 1106, 1107, 1108, 1109, 1110, 1111] (by decide +kernel) (by decide +kernel)
set_option maxRecDepth 20000 in
theorem xG_X5_price : GoodIn wsLL (wsV RL 92 RX5 yX5_price wsX5_price) := goodIn_app (goodIn_of _ (by decide +kernel)) xg_X5_price
set_option maxRecDepth 20000 in
theorem xg_X4_keep : GoodIn wsLL wsX4_keep := goodIn_r _ [537, 18, 23, 14, 15, 16, 19, 20, 21, 17, 22, 34, 35, 36, 37, 12, 13, 24, 38, 6, 39, 40, 41, 42, 43, 44, 45, 46, 47, 48, 49, 50, 51, 52, 53, 54, 55, 56, 57, 58, 59, 60, 61, 538, 539, 540, 541, 124, 256, 150, 238, 542, 543, 544, 545, 546, 547, 548, 549, 550, 1077, 1078, 1079, 1080, 1081, 1082, 1083, 1084, 1112, 1113, 1114, 1115, 1116, 1117, 1118, 1119, 1120, 1121, 1122, 1123, 1124, 1125, 1126, 1127, 1128, 1129, 1130, 1131] (by decide +kernel) (by decide +kernel)
set_option maxRecDepth 20000 in
theorem xG_X4_keep : GoodIn wsLL (wsV RL 93 RX4 yX4_keep wsX4_keep) := goodIn_app (goodIn_of _ (by decide +kernel)) xg_X4_keep
set_option maxRecDepth 20000 in
theorem xg_X5_keep : GoodIn wsLL wsX5_keep := goodIn_r _ [554, 159, 83, 84, 85, 86, 88, 165, 166, 5, 167, 555, 556, 557, 1085, 1086, 1087, 1088, 1089, 1090, 1091, 1092, 1093, 1094, 1095, 1096, 1097, 1098, 1099, 1100, 1101, 1102, 1103, 1104, 1105, 1106, 1107, 1108, 1109, 1110, 1111] (by decide +kernel) (by decide +kernel)
set_option maxRecDepth 20000 in
theorem xG_X5_keep : GoodIn wsLL (wsV RL 97 RX5 yX5_keep wsX5_keep) := goodIn_app (goodIn_of _ (by decide +kernel)) xg_X5_keep
set_option maxRecDepth 20000 in
theorem xg_X4_again : GoodIn wsLL wsX4_again := goodIn_r _ [561, 18, 23, 17, 22, 538, 539, 540, 16, 541, 124, 256, 150, 238, 38, 542, 543, 544, 545, 39, 40, 41, 42, 43, 44, 45, 46, 47, 48, 49, 546, 547, 548, 21, 549, 58, 550, 59, 60, 1077, 1078, 1079, 1080, 1081, 1082, 1083, 1084, 1112, 1113, 1114, 1115, 1116, 1117, 1118, 1119, 1120, 1121, 1122, 1123, 1124, 1125, 1126, 1127, 1128, 1129, 1130, 1131] (by decide +kernel) (by decide +kernel)
set_option maxRecDepth 20000 in
theorem xG_X4_again : GoodIn wsLL (wsV RL 98 RX4 yX4_again wsX4_again) := goodIn_app (goodIn_of _ (by decide +kernel)) xg_X4_again
set_option maxRecDepth 20000 in
theorem xg_X5_again : GoodIn wsLL wsX5_again := goodIn_r _ [565, 159, 88, 85, 86, 83, 84, 165, 166, 5, 167, 555, 556, 557, 1085, 1086, 1087, 1088, 1089, 1090, 1091, 1092, 1093, 1094, 1095, 1096, 1097, 1098, 1099, 1100, 1101, 1102, 1103, 1104, 1105, 1106, 1107, 1108, 1109, 1110, 1111] (by decide +kernel) (by decide +kernel)
set_option maxRecDepth 20000 in
theorem xG_X5_again : GoodIn wsLL (wsV RL 101 RX5 yX5_again wsX5_again) := goodIn_app (goodIn_of _ (by decide +kernel)) xg_X5_again
set_option maxRecDepth 20000 in
theorem xg_L_key : GoodIn wsLL wsKL_key := goodIn_ca (goodIn_r _ [569, 570, 571, 572, 573, 2, 574, 575, 576, 17, 337, 277, 278, 279, 16, 280, 124, 41, 1077, 1078, 1079, 1080, 1081, 1082, 1083, 1084, 1112, 1113, 1114, 1115, 1116, 1117, 1118, 1119, 1120, 1121, 1122, 1123, 1124, 1125, 1126, 1127, 1128] (by decide +kernel) (by decide +kernel)) (goodIn_sub (fun _ h => List.mem_append_right _ h) (by decide +kernel))
set_option maxRecDepth 20000 in
theorem xG_L_key : GoodIn wsLL (va_wsS RL 102 yL_key wsKL_key) := goodIn_app (goodIn_of _ (by decide +kernel)) xg_L_key
set_option maxRecDepth 20000 in
theorem xg_X5_key : GoodIn wsLL wsX5_key := goodIn_r _ [580, 84, 581, 582, 583, 5, 584, 159, 297, 298, 299, 300, 83, 165, 166, 167, 177, 178, 179, 1085, 1086, 1087, 1088, 1089, 1090, 1091, 1092, 1093, 1094, 1095, 1096, 1097, 1098, 1099, 1100, 1101, 1102, 1103, 1104, 1105, 1106, 1107, 1108, 1109, 1110, 1111] (by decide +kernel) (by decide +kernel)
set_option maxRecDepth 20000 in
theorem xG_X5_key : GoodIn wsLL (wsV RL 107 RX5 yX5_key wsX5_key) := goodIn_app (goodIn_of _ (by decide +kernel)) xg_X5_key
set_option maxRecDepth 20000 in
theorem xg_X5_thrown : GoodIn wsLL wsX5_thrown := goodIn_r _ [588, 159, 1085, 1086, 1087, 1088, 1089, 1090, 1091, 1092, 1093, 1094, 1095, 1096, 1097, 1098, 1099, 1100, 1101, 1102, 1103, 1104, 1105, 1106, 1107, 1108, 1109, 1110, 1111] (by decide +kernel) (by decide +kernel)
set_option maxRecDepth 20000 in
theorem xG_X5_thrown : GoodIn wsLL (wsV RL 108 RX5 yX5_thrown wsX5_thrown) := goodIn_app (goodIn_of _ (by decide +kernel)) xg_X5_thrown
set_option maxRecDepth 20000 in
theorem xg_L_item : GoodIn wsLL wsKL_item := goodIn_ca (goodIn_r _ [591, 570, 592, 593, 594, 2, 595, 575, 576, 17, 596, 276, 275, 597, 598, 599, 600, 29, 277, 278, 279, 16, 280, 124, 41, 601, 602, 603, 604, 45, 605, 419, 420, 28, 421, 69, 67, 66, 422, 423, 1077, 1078, 1079, 1080, 1081, 1082, 1083, 1084, 1112, 1113, 1114, 1115, 1116, 1117, 1118, 1119, 1120, 1121, 1122, 1123, 1124, 1125, 1126, 1127, 1128, 1132, 1133, 1134, 1135, 1136, 1137] (by decide +kernel) (by decide +kernel)) (goodIn_sub (fun _ h => List.mem_append_right _ h) (by decide +kernel))
set_option maxRecDepth 20000 in
theorem xG_L_item : GoodIn wsLL (va_wsS RL 111 yL_item wsKL_item) := goodIn_app (goodIn_of _ (by decide +kernel)) xg_L_item
set_option maxRecDepth 20000 in
theorem xg_X5_item : GoodIn wsLL wsX5_item := goodIn_r _ [609, 83, 95, 581, 582, 583, 5, 584, 159, 297, 298, 299, 300, 165, 166, 167, 177, 178, 179, 610, 611, 612, 613, 614, 615, 616, 617, 1085, 1086, 1087, 1088, 1089, 1090, 1091, 1092, 1093, 1094, 1095, 1096, 1097, 1098, 1099, 1100, 1101, 1102, 1103, 1104, 1105, 1106, 1107, 1108, 1109, 1110, 1111] (by decide +kernel) (by decide +kernel)
set_option maxRecDepth 20000 in
theorem xG_X5_item : GoodIn wsLL (wsV RL 114 RX5 yX5_item wsX5_item) := goodIn_app (goodIn_of _ (by decide +kernel)) xg_X5_item
