set_option maxRecDepth 20000 in
theorem xg_X4_desk : GoodIn wsLL wsX4_desk := goodIn_r _ [617, 17, 229, 29, 105, 106, 2, 107, 277, 278, 279, 16, 280, 124, 281, 282, 283, 284, 41, 42, 317, 318, 319, 320, 618, 619, 620, 621, 46, 622, 623, 624, 28, 625, 66, 411, 67, 70, 413, 626, 627, 628, 629, 414, 415, 416, 417, 69, 418, 419, 630, 631, 632, 633, 634, 635, 636, 637, 638, 639, 640, 641, 642, 643, 644, 645, 646, 647, 648, 1077, 1078, 1079, 1080, 1081, 1082, 1083, 1084, 1112, 1113, 1114, 1115, 1116, 1117, 1118, 1119, 1120, 1121, 1122, 1123, 1124, 1125, 1126, 1127, 1128, 1132, 1133, 1134, 1135, 1136, 1137] (by decide +kernel) (by decide +kernel)
set_option maxRecDepth 20000 in
theorem xG_X4_desk : GoodIn wsLL (wsV RL 115 RX4 yX4_desk wsX4_desk) := goodIn_app (goodIn_of _ (by decide +kernel)) xg_X4_desk
set_option maxRecDepth 20000 in
theorem xg_X5_desk : GoodIn wsLL wsX5_desk := goodIn_r _ [652, 155, 653, 83, 157, 158, 5, 159, 160, 161, 162, 163, 297, 298, 299, 300, 173, 174, 175, 205, 206, 207, 208, 654, 655, 656, 657, 606, 607, 608, 609, 193, 194, 195, 196, 658, 659, 660, 661, 610, 611, 612, 613, 95, 293, 294, 295, 296, 662, 663, 664, 665, 217, 218, 219, 220, 666, 667, 668, 669, 1085, 1086, 1087, 1088, 1089, 1090, 1091, 1092, 1093, 1094, 1095, 1096, 1097, 1098, 1099, 1100, 1101, 1102, 1103, 1104, 1105, 1106, 1107, 1108, 1109, 1110, 1111] (by decide +kernel) (by decide +kernel)
set_option maxRecDepth 20000 in
theorem xG_X5_desk : GoodIn wsLL (wsV RL 118 RX5 yX5_desk wsX5_desk) := goodIn_app (goodIn_of _ (by decide +kernel)) xg_X5_desk
set_option maxRecDepth 20000 in
theorem xg_X4_along : GoodIn wsLL wsX4_along := goodIn_r _ [673, 17, 229, 595, 594, 105, 106, 2, 107, 1077, 1078, 1079, 1080, 1081, 1082, 1083, 1084, 1112, 1113, 1114, 1115, 1116, 1117, 1118, 1119, 1120, 1121, 1122, 1123, 1124, 1125, 1126, 1127, 1128] (by decide +kernel) (by decide +kernel)
set_option maxRecDepth 20000 in
theorem xG_X4_along : GoodIn wsLL (wsV RL 119 RX4 yX4_along wsX4_along) := goodIn_app (goodIn_of _ (by decide +kernel)) xg_X4_along
set_option maxRecDepth 20000 in
theorem xg_X5_along : GoodIn wsLL wsX5_along := goodIn_r _ [677, 155, 83, 157, 158, 5, 159, 160, 161, 162, 163, 193, 194, 195, 196, 173, 174, 175, 217, 218, 219, 220, 1085, 1086, 1087, 1088, 1089, 1090, 1091, 1092, 1093, 1094, 1095, 1096, 1097, 1098, 1099, 1100, 1101, 1102, 1103, 1104, 1105, 1106, 1107, 1108, 1109, 1110, 1111] (by decide +kernel) (by decide +kernel)
set_option maxRecDepth 20000 in
theorem xG_X5_along : GoodIn wsLL (wsV RL 122 RX5 yX5_along wsX5_along) := goodIn_app (goodIn_of _ (by decide +kernel)) xg_X5_along
set_option maxRecDepth 20000 in
theorem xg_X4_ranked : GoodIn wsLL wsX4_ranked := goodIn_r _ [681, 17, 105, 106, 2, 107, 682, 683, 684, 16, 685, 124, 41, 46, 1077, 1078, 1079, 1080, 1081, 1082, 1083, 1084, 1112, 1113, 1114, 1115, 1116, 1117, 1118, 1119, 1120, 1121, 1122, 1123, 1124, 1125, 1126, 1127, 1128] (by decide +kernel) (by decide +kernel)
set_option maxRecDepth 20000 in
theorem xG_X4_ranked : GoodIn wsLL (wsV RL 123 RX4 yX4_ranked wsX4_ranked) := goodIn_app (goodIn_of _ (by decide +kernel)) xg_X4_ranked
set_option maxRecDepth 20000 in
theorem xg_X5_ranked : GoodIn wsLL wsX5_ranked := goodIn_r _ [689, 155, 83, 157, 158, 5, 159, 160, 161, 162, 163, 173, 174, 175, 205, 206, 207, 208, 1085, 1086, 1087, 1088, 1089, 1090, 1091, 1092, 1093, 1094, 1095, 1096, 1097, 1098, 1099, 1100, 1101, 1102, 1103, 1104, 1105, 1106, 1107, 1108, 1109, 1110, 1111] (by decide +kernel) (by decide +kernel)
set_option maxRecDepth 20000 in
theorem xG_X5_ranked : GoodIn wsLL (wsV RL 126 RX5 yX5_ranked wsX5_ranked) := goodIn_app (goodIn_of _ (by decide +kernel)) xg_X5_ranked
set_option maxRecDepth 20000 in
theorem xg_X4_least : GoodIn wsLL wsX4_least := goodIn_r _ [693, 29, 694, 105, 106, 2, 107, 695, 696, 697, 28, 698, 67, 699, 700, 701, 702, 66, 638, 703, 282, 283, 16, 284, 41, 42, 425, 426, 427, 428, 429, 135, 136, 137, 39, 1077, 1078, 1079, 1080, 1081, 1082, 1083, 1084, 1132, 1133, 1134, 1135, 1136, 1137, 1112, 1113, 1114, 1115, 1116, 1117, 1118, 1119, 1120, 1121, 1122, 1123, 1124, 1125, 1126, 1127, 1128] (by decide +kernel) (by decide +kernel)
set_option maxRecDepth 20000 in
theorem xG_X4_least : GoodIn wsLL (wsV RL 127 RX4 yX4_least wsX4_least) := goodIn_app (goodIn_of _ (by decide +kernel)) xg_X4_least
set_option maxRecDepth 20000 in
theorem xg_X5_least : GoodIn wsLL wsX5_least := goodIn_r _ [707, 155, 97, 96, 157, 158, 5, 159, 160, 161, 162, 163, 708, 709, 710, 711, 83, 173, 174, 175, 189, 190, 191, 192, 84, 1085, 1086, 1087, 1088, 1089, 1090, 1091, 1092, 1093, 1094, 1095, 1096, 1097, 1098, 1099, 1100, 1101, 1102, 1103, 1104, 1105, 1106, 1107, 1108, 1109, 1110, 1111] (by decide +kernel) (by decide +kernel)
set_option maxRecDepth 20000 in
theorem xG_X5_least : GoodIn wsLL (wsV RL 130 RX5 yX5_least wsX5_least) := goodIn_app (goodIn_of _ (by decide +kernel)) xg_X5_least
set_option maxRecDepth 20000 in
theorem xg_X4_below : GoodIn wsLL wsX4_below := goodIn_r _ [715, 17, 105, 106, 2, 107, 716, 717, 718, 16, 719, 124, 39, 281, 282, 283, 284, 41, 42, 1077, 1078, 1079, 1080, 1081, 1082, 1083, 1084, 1112, 1113, 1114, 1115, 1116, 1117, 1118, 1119, 1120, 1121, 1122, 1123, 1124, 1125, 1126, 1127, 1128] (by decide +kernel) (by decide +kernel)
set_option maxRecDepth 20000 in
theorem xG_X4_below : GoodIn wsLL (wsV RL 133 RX4 yX4_below wsX4_below) := goodIn_app (goodIn_of _ (by decide +kernel)) xg_X4_below
set_option maxRecDepth 20000 in
theorem xg_X5_below : GoodIn wsLL wsX5_below := goodIn_r _ [723, 155, 83, 84, 157, 158, 5, 159, 160, 161, 162, 163, 173, 174, 175, 1085, 1086, 1087, 1088, 1089, 1090, 1091, 1092, 1093, 1094, 1095, 1096, 1097, 1098, 1099, 1100, 1101, 1102, 1103, 1104, 1105, 1106, 1107, 1108, 1109, 1110, 1111] (by decide +kernel) (by decide +kernel)
set_option maxRecDepth 20000 in
theorem xG_X5_below : GoodIn wsLL (wsV RL 137 RX5 yX5_below wsX5_below) := goodIn_app (goodIn_of _ (by decide +kernel)) xg_X5_below
set_option maxRecDepth 20000 in
theorem xg_X4_keys : GoodIn wsLL wsX4_keys := goodIn_r _ [727, 728, 29, 105, 106, 2, 107, 729, 730, 731, 28, 732, 66, 638, 412, 703, 282, 283, 16, 284, 41, 42, 733, 734, 735, 736, 67, 737, 738, 696, 697, 698, 699, 700, 701, 702, 425, 426, 427, 428, 429, 135, 136, 137, 39, 739, 740, 741, 742, 743, 744, 628, 745, 746, 747, 748, 749, 1077, 1078, 1079, 1080, 1081, 1082, 1083, 1084, 1132, 1133, 1134, 1135, 1136, 1137, 1112, 1113, 1114, 1115, 1116, 1117, 1118, 1119, 1120, 1121, 1122, 1123, 1124, 1125, 1126, 1127, 1128] (by decide +kernel) (by decide +kernel)
set_option maxRecDepth 20000 in
theorem xG_X4_keys : GoodIn wsLL (wsV RL 138 RX4 yX4_keys wsX4_keys) := goodIn_app (goodIn_of _ (by decide +kernel)) xg_X4_keys
set_option maxRecDepth 20000 in
theorem xg_X5_keys : GoodIn wsLL wsX5_keys := goodIn_r _ [753, 155, 754, 755, 97, 84, 96, 157, 158, 5, 159, 160, 161, 162, 163, 708, 709, 710, 711, 83, 173, 174, 175, 189, 190, 191, 192, 1085, 1086, 1087, 1088, 1089, 1090, 1091, 1092, 1093, 1094, 1095, 1096, 1097, 1098, 1099, 1100, 1101, 1102, 1103, 1104, 1105, 1106, 1107, 1108, 1109, 1110, 1111] (by decide +kernel) (by decide +kernel)
set_option maxRecDepth 20000 in
theorem xG_X5_keys : GoodIn wsLL (wsV RL 142 RX5 yX5_keys wsX5_keys) := goodIn_app (goodIn_of _ (by decide +kernel)) xg_X5_keys
set_option maxRecDepth 20000 in
theorem xg_X4_pair : GoodIn wsLL wsX4_pair := goodIn_r _ [759, 728, 29, 105, 106, 2, 107, 760, 761, 762, 28, 763, 67, 764, 765, 628, 766, 68, 71, 737, 699, 700, 701, 702, 66, 638, 703, 282, 283, 16, 284, 41, 42, 425, 426, 427, 428, 429, 135, 136, 137, 39, 452, 51, 52, 53, 767, 768, 769, 770, 771, 772, 773, 774, 412, 1077, 1078, 1079, 1080, 1081, 1082, 1083, 1084, 1132, 1133, 1134, 1135, 1136, 1137, 1112, 1113, 1114, 1115, 1116, 1117, 1118, 1119, 1120, 1121, 1122, 1123, 1124, 1125, 1126, 1127, 1128] (by decide +kernel) (by decide +kernel)
set_option maxRecDepth 20000 in
theorem xG_X4_pair : GoodIn wsLL (wsV RL 143 RX4 yX4_pair wsX4_pair) := goodIn_app (goodIn_of _ (by decide +kernel)) xg_X4_pair
set_option maxRecDepth 20000 in
theorem xg_X5_pair : GoodIn wsLL wsX5_pair := goodIn_r _ [778, 155, 779, 780, 755, 97, 98, 96, 157, 158, 5, 159, 160, 161, 162, 163, 708, 709, 710, 711, 83, 173, 174, 175, 189, 190, 191, 192, 84, 781, 782, 783, 784, 1085, 1086, 1087, 1088, 1089, 1090, 1091, 1092, 1093, 1094, 1095, 1096, 1097, 1098, 1099, 1100, 1101, 1102, 1103, 1104, 1105, 1106, 1107, 1108, 1109, 1110, 1111] (by decide +kernel) (by decide +kernel)
set_option maxRecDepth 20000 in
theorem xG_X5_pair : GoodIn wsLL (wsV RL 147 RX5 yX5_pair wsX5_pair) := goodIn_app (goodIn_of _ (by decide +kernel)) xg_X5_pair
set_option maxRecDepth 20000 in
theorem xg_L_above : GoodIn wsLL wsKL_above := goodIn_ca (goodIn_r _ [787, 566, 788, 789, 790, 2, 791, 571, 572, 17, 596, 273, 274, 275, 16, 276, 124, 41, 1077, 1078, 1079, 1080, 1081, 1082, 1083, 1084, 1112, 1113, 1114, 1115, 1116, 1117, 1118, 1119, 1120, 1121, 1122, 1123, 1124, 1125, 1126, 1127, 1128] (by decide +kernel) (by decide +kernel)) (goodIn_sub (fun _ h => List.mem_append_right _ h) (by decide +kernel))
set_option maxRecDepth 20000 in
theorem xG_L_above : GoodIn wsLL (va_wsS RL 148 yL_above wsKL_above) := goodIn_app (goodIn_of _ (by decide +kernel)) xg_L_above
set_option maxRecDepth 20000 in
theorem xg_X5_above : GoodIn wsLL wsX5_above := goodIn_r _ [795, 83, 577, 578, 579, 5, 580, 155, 293, 294, 295, 296, 161, 162, 163, 173, 174, 175, 1085, 1086, 1087, 1088, 1089, 1090, 1091, 1092, 1093, 1094, 1095, 1096, 1097, 1098, 1099, 1100, 1101, 1102, 1103, 1104, 1105, 1106, 1107, 1108, 1109, 1110, 1111] (by decide +kernel) (by decide +kernel)
set_option maxRecDepth 20000 in
theorem xG_X5_above : GoodIn wsLL (wsV RL 150 RX5 yX5_above wsX5_above) := goodIn_app (goodIn_of _ (by decide +kernel)) xg_X5_above
set_option maxRecDepth 20000 in
theorem xg_X4_melding : GoodIn wsLL wsX4_melding := goodIn_r _ [799, 17, 229, 362, 363, 364, 2, 365, 105, 106, 107, 800, 801, 802, 803, 804, 14, 15, 16, 34, 35, 36, 37, 12, 13, 24, 38, 6, 39, 40, 41, 42, 43, 44, 45, 46, 47, 48, 49, 50, 51, 52, 53, 534, 535, 536, 537, 124, 252, 146, 234, 538, 539, 540, 541, 366, 367, 368, 369, 129, 130, 131, 132, 133, 134, 135, 136, 137, 138, 139, 140, 141, 370, 371, 372, 373, 618, 619, 620, 621, 1077, 1078, 1079, 1080, 1081, 1082, 1083, 1084, 1112, 1113, 1114, 1115, 1116, 1117, 1118, 1119, 1120, 1121, 1122, 1123, 1124, 1125, 1126, 1127, 1128] (by decide +kernel) (by decide +kernel)
set_option maxRecDepth 20000 in
theorem xG_X4_melding : GoodIn wsLL (wsV RL 151 RX4 yX4_melding wsX4_melding) := goodIn_app (goodIn_of _ (by decide +kernel)) xg_X4_melding
set_option maxRecDepth 20000 in
theorem xg_X5_melding : GoodIn wsLL wsX5_melding := goodIn_r _ [808, 155, 83, 188, 809, 378, 379, 5, 380, 157, 158, 159, 160, 161, 162, 163, 810, 811, 812, 813, 84, 89, 90, 551, 552, 553, 184, 185, 186, 187, 91, 189, 190, 191, 192, 193, 194, 195, 196, 173, 174, 175, 197, 198, 199, 200, 201, 202, 203, 204, 205, 206, 207, 208, 814, 815, 816, 817, 1085, 1086, 1087, 1088, 1089, 1090, 1091, 1092, 1093, 1094, 1095, 1096, 1097, 1098, 1099, 1100, 1101, 1102, 1103, 1104, 1105, 1106, 1107, 1108, 1109, 1110, 1111] (by decide +kernel) (by decide +kernel)
set_option maxRecDepth 20000 in
theorem xG_X5_melding : GoodIn wsLL (wsV RL 154 RX5 yX5_melding wsX5_melding) := goodIn_app (goodIn_of _ (by decide +kernel)) xg_X5_melding
set_option maxRecDepth 20000 in
theorem xg_X4_taking : GoodIn wsLL wsX4_taking := goodIn_r _ [821, 17, 229, 362, 105, 106, 2, 107, 800, 801, 802, 803, 804, 14, 15, 16, 34, 35, 36, 37, 12, 13, 24, 38, 6, 39, 40, 41, 42, 43, 44, 45, 46, 47, 48, 49, 50, 51, 52, 53, 534, 535, 536, 537, 124, 252, 146, 234, 538, 539, 540, 541, 230, 231, 232, 233, 147, 148, 149, 150, 129, 130, 131, 132, 133, 134, 135, 136, 137, 138, 139, 140, 141, 235, 143, 144, 145, 1077, 1078, 1079, 1080, 1081, 1082, 1083, 1084, 1112, 1113, 1114, 1115, 1116, 1117, 1118, 1119, 1120, 1121, 1122, 1123, 1124, 1125, 1126, 1127, 1128] (by decide +kernel) (by decide +kernel)
set_option maxRecDepth 20000 in
theorem xG_X4_taking : GoodIn wsLL (wsV RL 155 RX4 yX4_taking wsX4_taking) := goodIn_app (goodIn_of _ (by decide +kernel)) xg_X4_taking
set_option maxRecDepth 20000 in
theorem xg_X5_taking : GoodIn wsLL wsX5_taking := goodIn_r _ [825, 155, 83, 188, 809, 157, 158, 5, 159, 160, 161, 162, 163, 810, 811, 812, 813, 84, 89, 90, 551, 552, 553, 213, 214, 215, 216, 217, 218, 219, 220, 173, 174, 175, 193, 194, 195, 196, 184, 185, 186, 187, 91, 189, 190, 191, 192, 197, 198, 199, 200, 201, 202, 203, 204, 205, 206, 207, 208, 221, 222, 223, 224, 209, 210, 211, 212, 814, 815, 816, 817, 1085, 1086, 1087, 1088, 1089, 1090, 1091, 1092, 1093, 1094, 1095, 1096, 1097, 1098, 1099, 1100, 1101, 1102, 1103, 1104, 1105, 1106, 1107, 1108, 1109, 1110, 1111] (by decide +kernel) (by decide +kernel)
set_option maxRecDepth 20000 in
theorem xG_X5_taking : GoodIn wsLL (wsV RL 158 RX5 yX5_taking wsX5_taking) := goodIn_app (goodIn_of _ (by decide +kernel)) xg_X5_taking
set_option maxRecDepth 20000 in
theorem xg_X4_coming : GoodIn wsLL wsX4_coming := goodIn_r _ [829, 800, 801, 802, 2, 803, 804, 14, 15, 16, 17, 362, 34, 35, 36, 37, 12, 13, 24, 38, 6, 39, 40, 41, 42, 43, 44, 45, 46, 47, 48, 49, 50, 51, 52, 53, 534, 535, 536, 537, 124, 252, 146, 234, 538, 539, 540, 541, 248, 249, 250, 251, 253, 231, 232, 233, 147, 148, 149, 150, 129, 130, 131, 132, 133, 134, 135, 136, 137, 138, 139, 140, 141, 235, 143, 144, 145, 1077, 1078, 1079, 1080, 1081, 1082, 1083, 1084, 1112, 1113, 1114, 1115, 1116, 1117, 1118, 1119, 1120, 1121, 1122, 1123, 1124, 1125, 1126, 1127, 1128] (by decide +kernel) (by decide +kernel)
set_option maxRecDepth 20000 in
theorem xG_X4_coming : GoodIn wsLL (wsV RL 159 RX4 yX4_coming wsX4_coming) := goodIn_app (goodIn_of _ (by decide +kernel)) xg_X4_coming
set_option maxRecDepth 20000 in
theorem xg_X5_coming : GoodIn wsLL wsX5_coming := goodIn_r _ [833, 155, 834, 161, 162, 5, 163, 810, 811, 812, 813, 83, 84, 89, 90, 188, 809, 551, 552, 553, 259, 260, 261, 262, 240, 241, 242, 243, 213, 214, 215, 216, 217, 218, 219, 220, 173, 174, 175, 193, 194, 195, 196, 184, 185, 186, 187, 91, 189, 190, 191, 192, 197, 198, 199, 200, 201, 202, 203, 204, 205, 206, 207, 208, 221, 222, 223, 224, 209, 210, 211, 212, 814, 815, 816, 817, 1085, 1086, 1087, 1088, 1089, 1090, 1091, 1092, 1093, 1094, 1095, 1096, 1097, 1098, 1099, 1100, 1101, 1102, 1103, 1104, 1105, 1106, 1107, 1108, 1109, 1110, 1111] (by decide +kernel) (by decide +kernel)
set_option maxRecDepth 20000 in
theorem xG_X5_coming : GoodIn wsLL (wsV RL 162 RX5 yX5_coming wsX5_coming) := goodIn_app (goodIn_of _ (by decide +kernel)) xg_X5_coming
set_option maxRecDepth 20000 in
theorem xg_X4_tagged : GoodIn wsLL wsX4_tagged := goodIn_r _ [838, 17, 113, 114, 2, 115, 839, 840, 841, 16, 842, 124, 40, 281, 282, 283, 284, 41, 42, 1077, 1078, 1079, 1080, 1081, 1082, 1083, 1084, 1112, 1113, 1114, 1115, 1116, 1117, 1118, 1119, 1120, 1121, 1122, 1123, 1124, 1125, 1126, 1127, 1128] (by decide +kernel) (by decide +kernel)
set_option maxRecDepth 20000 in
theorem xG_X4_tagged : GoodIn wsLL (wsV RL 163 RX4 yX4_tagged wsX4_tagged) := goodIn_app (goodIn_of _ (by decide +kernel)) xg_X4_tagged
set_option maxRecDepth 20000 in
theorem xg_X5_tagged : GoodIn wsLL wsX5_tagged := goodIn_r _ [846, 155, 156, 83, 161, 162, 5, 163, 173, 174, 175, 1085, 1086, 1087, 1088, 1089, 1090, 1091, 1092, 1093, 1094, 1095, 1096, 1097, 1098, 1099, 1100, 1101, 1102, 1103, 1104, 1105, 1106, 1107, 1108, 1109, 1110, 1111] (by decide +kernel) (by decide +kernel)
set_option maxRecDepth 20000 in
theorem xG_X5_tagged : GoodIn wsLL (wsV RL 166 RX5 yX5_tagged wsX5_tagged) := goodIn_app (goodIn_of _ (by decide +kernel)) xg_X5_tagged
set_option maxRecDepth 20000 in
theorem xg_X4_log : GoodIn wsLL wsX4_log := goodIn_r _ [850, 17, 728, 851, 852, 853, 854, 855, 856, 16, 857, 234, 858, 765, 628, 766, 859, 860, 861, 862, 1077, 1078, 1079, 1080, 1081, 1082, 1083, 1084, 1112, 1113, 1114, 1115, 1116, 1117, 1118, 1119, 1120, 1121, 1122, 1123, 1124, 1125, 1126, 1127, 1128] (by decide +kernel) (by decide +kernel)
set_option maxRecDepth 20000 in
theorem xG_X4_log : GoodIn wsLL (wsV RL 167 RX4 yX4_log wsX4_log) := goodIn_app (goodIn_of _ (by decide +kernel)) xg_X4_log
set_option maxRecDepth 20000 in
theorem xg_X5_log : GoodIn wsLL wsX5_log := goodIn_r _ [866, 155, 83, 780, 755, 84, 161, 162, 5, 163, 1085, 1086, 1087, 1088, 1089, 1090, 1091, 1092, 1093, 1094, 1095, 1096, 1097, 1098, 1099, 1100, 1101, 1102, 1103, 1104, 1105, 1106, 1107, 1108, 1109, 1110, 1111] (by decide +kernel) (by decide +kernel)
set_option maxRecDepth 20000 in
theorem xG_X5_log : GoodIn wsLL (wsV RL 170 RX5 yX5_log wsX5_log) := goodIn_app (goodIn_of _ (by decide +kernel)) xg_X5_log
set_option maxRecDepth 20000 in
theorem xg_X4_best : GoodIn wsLL wsX4_best := goodIn_r _ [870, 33, 871, 872, 479, 480, 2, 481, 873, 874, 875, 32, 876, 877, 878, 879, 880, 881, 882, 77, 883, 51, 52, 53, 884, 885, 886, 887, 888, 76, 889, 890, 891, 892, 893, 894, 895, 896, 897, 898, 899, 900, 901, 902, 903, 904, 905, 906, 907, 908, 909, 910, 911, 912, 913, 914, 915, 916, 917, 918, 919, 920, 921, 922, 923, 924, 1077, 1078, 1079, 1080, 1081, 1082, 1083, 1084, 1138, 1139, 1140, 1141, 1142, 1143, 1144, 1145, 1129, 1130, 1131] (by decide +kernel) (by decide +kernel)
set_option maxRecDepth 20000 in
theorem xG_X4_best : GoodIn wsLL (wsV RL 171 RX4 yX4_best wsX4_best) := goodIn_app (goodIn_of _ (by decide +kernel)) xg_X4_best
set_option maxRecDepth 20000 in
theorem xg_X5_best : GoodIn wsLL wsX5_best := goodIn_r _ [928, 155, 780, 929, 930, 931, 493, 494, 5, 495, 496, 161, 162, 163, 932, 933, 934, 935, 936, 937, 938, 939, 940, 941, 942, 99, 943, 944, 945, 946, 83, 497, 498, 499, 500, 501, 947, 948, 949, 950, 951, 952, 953, 954, 955, 956, 957, 958, 959, 960, 961, 962, 1085, 1086, 1087, 1088, 1089, 1090, 1091, 1092, 1093, 1094, 1095, 1096, 1097, 1098, 1099, 1100, 1101, 1102, 1103, 1104, 1105, 1106, 1107, 1108, 1109, 1110, 1111] (by decide +kernel) (by decide +kernel)
set_option maxRecDepth 20000 in
theorem xG_X5_best : GoodIn wsLL (wsV RL 174 RX5 yX5_best wsX5_best) := goodIn_app (goodIn_of _ (by decide +kernel)) xg_X5_best
set_option maxRecDepth 20000 in
theorem xg_X4_by : GoodIn wsLL wsX4_by := goodIn_r _ [966, 33, 479, 480, 2, 481, 873, 874, 875, 32, 876, 877, 878, 879, 880, 881, 882, 77, 883, 51, 52, 53, 884, 885, 886, 887, 888, 76, 889, 890, 891, 892, 893, 894, 895, 896, 897, 898, 899, 900, 901, 902, 903, 904, 905, 906, 907, 908, 909, 910, 911, 912, 913, 914, 915, 967, 968, 969, 970, 971, 972, 973, 974, 1077, 1078, 1079, 1080, 1081, 1082, 1083, 1084, 1138, 1139, 1140, 1141, 1142, 1143, 1144, 1145, 1129, 1130, 1131] (by decide +kernel) (by decide +kernel)
set_option maxRecDepth 20000 in
theorem xG_X4_by : GoodIn wsLL (wsV RL 175 RX4 yX4_by wsX4_by) := goodIn_app (goodIn_of _ (by decide +kernel)) xg_X4_by
set_option maxRecDepth 20000 in
theorem xg_X5_by : GoodIn wsLL wsX5_by := goodIn_r _ [978, 155, 930, 83, 493, 494, 5, 495, 496, 161, 162, 163, 932, 933, 934, 935, 936, 937, 929, 938, 939, 940, 941, 942, 931, 99, 943, 944, 945, 946, 497, 498, 499, 500, 501, 947, 948, 949, 950, 951, 952, 953, 954, 955, 956, 957, 958, 959, 960, 961, 962, 1085, 1086, 1087, 1088, 1089, 1090, 1091, 1092, 1093, 1094, 1095, 1096, 1097, 1098, 1099, 1100, 1101, 1102, 1103, 1104, 1105, 1106, 1107, 1108, 1109, 1110, 1111] (by decide +kernel) (by decide +kernel)
set_option maxRecDepth 20000 in
theorem xG_X5_by : GoodIn wsLL (wsV RL 178 RX5 yX5_by wsX5_by) := goodIn_app (goodIn_of _ (by decide +kernel)) xg_X5_by
set_option maxRecDepth 20000 in
theorem xg_X4_dearer : GoodIn wsLL wsX4_dearer := goodIn_r _ [982, 22, 33, 872, 871, 983, 479, 480, 2, 481, 506, 507, 508, 21, 509, 58, 873, 874, 875, 32, 876, 877, 878, 879, 880, 881, 882, 77, 883, 51, 52, 53, 884, 885, 886, 887, 888, 76, 889, 890, 891, 892, 893, 894, 895, 896, 897, 898, 899, 900, 901, 902, 903, 904, 905, 906, 907, 908, 909, 910, 911, 912, 913, 914, 915, 984, 972, 973, 974, 985, 986, 987, 988, 1077, 1078, 1079, 1080, 1081, 1082, 1083, 1084, 1138, 1139, 1140, 1141, 1142, 1143, 1144, 1145, 1129, 1130, 1131] (by decide +kernel) (by decide +kernel)
set_option maxRecDepth 20000 in
theorem xG_X4_dearer : GoodIn wsLL (wsV RL 179 RX4 yX4_dearer wsX4_dearer) := goodIn_app (goodIn_of _ (by decide +kernel)) xg_X4_dearer
set_option maxRecDepth 20000 in
theorem xg_X5_dearer : GoodIn wsLL wsX5_dearer := goodIn_r _ [992, 155, 930, 993, 493, 494, 5, 495, 496, 161, 162, 163, 497, 498, 499, 500, 501, 83, 932, 933, 934, 935, 936, 937, 929, 938, 939, 940, 941, 942, 931, 99, 943, 944, 945, 946, 947, 948, 949, 950, 951, 952, 953, 954, 955, 956, 957, 958, 959, 960, 961, 962, 994, 995, 996, 997, 1085, 1086, 1087, 1088, 1089, 1090, 1091, 1092, 1093, 1094, 1095, 1096, 1097, 1098, 1099, 1100, 1101, 1102, 1103, 1104, 1105, 1106, 1107, 1108, 1109, 1110, 1111] (by decide +kernel) (by decide +kernel)
set_option maxRecDepth 20000 in
theorem xG_X5_dearer : GoodIn wsLL (wsV RL 182 RX5 yX5_dearer wsX5_dearer) := goodIn_app (goodIn_of _ (by decide +kernel)) xg_X5_dearer
set_option maxRecDepth 20000 in
theorem xg_X4_without : GoodIn wsLL wsX4_without := goodIn_r _ [1001, 22, 33, 872, 871, 983, 479, 480, 2, 481, 506, 507, 508, 21, 509, 58, 873, 874, 875, 32, 876, 877, 878, 879, 880, 881, 882, 77, 883, 51, 52, 53, 884, 885, 886, 887, 888, 76, 889, 890, 891, 892, 893, 894, 895, 896, 897, 898, 899, 900, 901, 902, 903, 904, 905, 906, 907, 908, 909, 910, 911, 912, 913, 914, 915, 916, 917, 918, 919, 1077, 1078, 1079, 1080, 1081, 1082, 1083, 1084, 1138, 1139, 1140, 1141, 1142, 1143, 1144, 1145, 1129, 1130, 1131] (by decide +kernel) (by decide +kernel)
set_option maxRecDepth 20000 in
theorem xG_X4_without : GoodIn wsLL (wsV RL 183 RX4 yX4_without wsX4_without) := goodIn_app (goodIn_of _ (by decide +kernel)) xg_X4_without
set_option maxRecDepth 20000 in
theorem xg_X5_without : GoodIn wsLL wsX5_without := goodIn_r _ [1005, 155, 929, 931, 993, 493, 494, 5, 495, 496, 161, 162, 163, 497, 498, 499, 500, 501, 83, 932, 933, 934, 935, 936, 937, 930, 938, 939, 940, 941, 942, 99, 943, 944, 945, 946, 947, 948, 949, 950, 951, 952, 953, 954, 955, 956, 957, 958, 959, 960, 961, 962, 1085, 1086, 1087, 1088, 1089, 1090, 1091, 1092, 1093, 1094, 1095, 1096, 1097, 1098, 1099, 1100, 1101, 1102, 1103, 1104, 1105, 1106, 1107, 1108, 1109, 1110, 1111] (by decide +kernel) (by decide +kernel)
set_option maxRecDepth 20000 in
theorem xG_X5_without : GoodIn wsLL (wsV RL 186 RX5 yX5_without wsX5_without) := goodIn_app (goodIn_of _ (by decide +kernel)) xg_X5_without
set_option maxRecDepth 20000 in
theorem xg_X4_cheaper : GoodIn wsLL wsX4_cheaper := goodIn_r _ [1009, 22, 33, 872, 983, 479, 480, 2, 481, 506, 507, 508, 21, 509, 58, 873, 874, 875, 32, 876, 877, 878, 879, 880, 881, 882, 77, 883, 51, 52, 53, 884, 885, 886, 887, 888, 76, 889, 890, 891, 892, 893, 894, 895, 896, 897, 898, 899, 900, 901, 902, 903, 904, 905, 906, 907, 908, 909, 910, 911, 912, 913, 914, 915, 984, 972, 973, 974, 1010, 1011, 1012, 1013, 1077, 1078, 1079, 1080, 1081, 1082, 1083, 1084, 1138, 1139, 1140, 1141, 1142, 1143, 1144, 1145, 1129, 1130, 1131] (by decide +kernel) (by decide +kernel)
set_option maxRecDepth 20000 in
theorem xG_X4_cheaper : GoodIn wsLL (wsV RL 187 RX4 yX4_cheaper wsX4_cheaper) := goodIn_app (goodIn_of _ (by decide +kernel)) xg_X4_cheaper
set_option maxRecDepth 20000 in
theorem xg_X5_cheaper : GoodIn wsLL wsX5_cheaper := goodIn_r _ [1017, 155, 930, 993, 493, 494, 5, 495, 496, 161, 162, 163, 497, 498, 499, 500, 501, 83, 932, 933, 934, 935, 936, 937, 929, 938, 939, 940, 941, 942, 931, 99, 943, 944, 945, 946, 947, 948, 949, 950, 951, 952, 953, 954, 955, 956, 957, 958, 959, 960, 961, 962, 994, 995, 996, 997, 1085, 1086, 1087, 1088, 1089, 1090, 1091, 1092, 1093, 1094, 1095, 1096, 1097, 1098, 1099, 1100, 1101, 1102, 1103, 1104, 1105, 1106, 1107, 1108, 1109, 1110, 1111] (by decide +kernel) (by decide +kernel)
set_option maxRecDepth 20000 in
theorem xG_X5_cheaper : GoodIn wsLL (wsV RL 190 RX5 yX5_cheaper wsX5_cheaper) := goodIn_app (goodIn_of _ (by decide +kernel)) xg_X5_cheaper
set_option maxRecDepth 20000 in
theorem xg_X4_second : GoodIn wsLL wsX4_second := goodIn_r _ [1021, 33, 1022, 1023, 479, 480, 2, 481, 873, 874, 875, 32, 876, 877, 878, 879, 880, 881, 882, 77, 883, 51, 52, 53, 884, 885, 886, 887, 888, 76, 889, 890, 891, 892, 893, 894, 895, 896, 897, 898, 899, 900, 901, 902, 903, 904, 905, 906, 907, 908, 909, 910, 911, 912, 913, 914, 915, 916, 917, 918, 919, 920, 921, 922, 923, 924, 1077, 1078, 1079, 1080, 1081, 1082, 1083, 1084, 1138, 1139, 1140, 1141, 1142, 1143, 1144, 1145, 1129, 1130, 1131] (by decide +kernel) (by decide +kernel)
set_option maxRecDepth 20000 in
theorem xG_X4_second : GoodIn wsLL (wsV RL 191 RX4 yX4_second wsX4_second) := goodIn_app (goodIn_of _ (by decide +kernel)) xg_X4_second
set_option maxRecDepth 20000 in
theorem xg_X5_second : GoodIn wsLL wsX5_second := goodIn_r _ [1027, 155, 930, 936, 929, 493, 494, 5, 495, 496, 161, 162, 163, 932, 933, 934, 935, 937, 938, 939, 940, 941, 942, 931, 99, 943, 944, 945, 946, 83, 497, 498, 499, 500, 501, 947, 948, 949, 950, 951, 952, 953, 954, 955, 956, 957, 958, 959, 960, 961, 962, 1085, 1086, 1087, 1088, 1089, 1090, 1091, 1092, 1093, 1094, 1095, 1096, 1097, 1098, 1099, 1100, 1101, 1102, 1103, 1104, 1105, 1106, 1107, 1108, 1109, 1110, 1111] (by decide +kernel) (by decide +kernel)
set_option maxRecDepth 20000 in
theorem xG_X5_second : GoodIn wsLL (wsV RL 194 RX5 yX5_second wsX5_second) := goodIn_app (goodIn_of _ (by decide +kernel)) xg_X5_second
set_option maxRecDepth 20000 in
theorem xg_X4_center : GoodIn wsLL wsX4_center := goodIn_r _ [1031, 33, 871, 872, 873, 874, 875, 32, 876, 877, 878, 879, 880, 881, 882, 77, 883, 51, 52, 53, 884, 885, 886, 887, 888, 76, 889, 890, 891, 892, 893, 894, 895, 896, 897, 898, 899, 900, 901, 902, 903, 904, 905, 906, 907, 908, 909, 910, 911, 912, 913, 914, 915, 1032, 1033, 1034, 1035, 1036, 1037, 1038, 916, 917, 918, 919, 1077, 1078, 1079, 1080, 1081, 1082, 1083, 1084, 1138, 1139, 1140, 1141, 1142, 1143, 1144, 1145, 1129, 1130, 1131] (by decide +kernel) (by decide +kernel)
set_option maxRecDepth 20000 in
theorem xG_X4_center : GoodIn wsLL (wsV RL 195 RX4 yX4_center wsX4_center) := goodIn_app (goodIn_of _ (by decide +kernel)) xg_X4_center
set_option maxRecDepth 20000 in
theorem xg_X5_center : GoodIn wsLL wsX5_center := goodIn_r _ [1042, 155, 931, 929, 161, 162, 5, 163, 932, 933, 934, 935, 936, 937, 930, 938, 939, 940, 941, 942, 99, 943, 944, 945, 946, 83, 497, 498, 499, 500, 501, 947, 948, 949, 950, 951, 952, 953, 954, 955, 956, 957, 958, 959, 960, 961, 962, 1043, 1044, 1045, 1085, 1086, 1087, 1088, 1089, 1090, 1091, 1092, 1093, 1094, 1095, 1096, 1097, 1098, 1099, 1100, 1101, 1102, 1103, 1104, 1105, 1106, 1107, 1108, 1109, 1110, 1111] (by decide +kernel) (by decide +kernel)
set_option maxRecDepth 20000 in
theorem xG_X5_center : GoodIn wsLL (wsV RL 198 RX5 yX5_center wsX5_center) := goodIn_app (goodIn_of _ (by decide +kernel)) xg_X5_center
set_option maxRecDepth 20000 in
theorem xg_X4_arcs : GoodIn wsLL wsX4_arcs := goodIn_r _ [1049, 22, 476, 477, 478, 506, 507, 508, 21, 509, 58, 1077, 1078, 1079, 1080, 1081, 1082, 1083, 1084, 1129, 1130, 1131] (by decide +kernel) (by decide +kernel)
set_option maxRecDepth 20000 in
theorem xG_X4_arcs : GoodIn wsLL (wsV RL 199 RX4 yX4_arcs wsX4_arcs) := goodIn_app (goodIn_of _ (by decide +kernel)) xg_X4_arcs
set_option maxRecDepth 20000 in
theorem xg_X5_arcs : GoodIn wsLL wsX5_arcs := goodIn_r _ [1053, 155, 780, 83, 497, 498, 499, 5, 500, 501, 161, 162, 163, 1085, 1086, 1087, 1088, 1089, 1090, 1091, 1092, 1093, 1094, 1095, 1096, 1097, 1098, 1099, 1100, 1101, 1102, 1103, 1104, 1105, 1106, 1107, 1108, 1109, 1110, 1111] (by decide +kernel) (by decide +kernel)
set_option maxRecDepth 20000 in
theorem xG_X5_arcs : GoodIn wsLL (wsV RL 202 RX5 yX5_arcs wsX5_arcs) := goodIn_app (goodIn_of _ (by decide +kernel)) xg_X5_arcs
set_option maxRecDepth 20000 in
theorem xg_X4_count : GoodIn wsLL wsX4_count := goodIn_r _ [1057, 17, 104, 22, 362, 1058, 1059, 25, 1060, 1061, 1062, 16, 1063, 124, 41, 1064, 1065, 1066, 1067, 42, 510, 511, 512, 21, 513, 58, 854, 855, 856, 857, 234, 858, 765, 628, 766, 1077, 1078, 1079, 1080, 1081, 1082, 1083, 1084, 1112, 1113, 1114, 1115, 1116, 1117, 1118, 1119, 1120, 1121, 1122, 1123, 1124, 1125, 1126, 1127, 1128, 1129, 1130, 1131] (by decide +kernel) (by decide +kernel)
set_option maxRecDepth 20000 in
theorem xG_X4_count : GoodIn wsLL (wsV RL 203 RX4 yX4_count wsX4_count) := goodIn_app (goodIn_of _ (by decide +kernel)) xg_X4_count
set_option maxRecDepth 20000 in
theorem xg_X5_count : GoodIn wsLL wsX5_count := goodIn_r _ [1071, 155, 83, 188, 653, 1072, 82, 1073, 1074, 1075, 5, 1076, 297, 298, 299, 300, 173, 174, 175, 518, 519, 520, 521, 497, 498, 499, 500, 501, 161, 162, 163, 1085, 1086, 1087, 1088, 1089, 1090, 1091, 1092, 1093, 1094, 1095, 1096, 1097, 1098, 1099, 1100, 1101, 1102, 1103, 1104, 1105, 1106, 1107, 1108, 1109, 1110, 1111] (by decide +kernel) (by decide +kernel)
set_option maxRecDepth 20000 in
theorem xG_X5_count : GoodIn wsLL (wsV RL 206 RX5 yX5_count wsX5_count) := goodIn_app (goodIn_of _ (by decide +kernel)) xg_X5_count
