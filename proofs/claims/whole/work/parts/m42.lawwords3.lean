set_option maxRecDepth 20000 in
theorem xg_X4_desk : GoodIn wsLL wsX4_desk := goodIn_r _ [621, 17, 233, 29, 105, 106, 2, 107, 281, 282, 283, 16, 284, 124, 285, 286, 287, 288, 41, 42, 321, 322, 323, 324, 622, 623, 624, 625, 46, 626, 627, 628, 28, 629, 66, 415, 67, 70, 417, 630, 631, 144, 632, 418, 419, 420, 421, 69, 422, 423, 633, 634, 635, 636, 637, 638, 639, 640, 641, 642, 643, 644, 645, 646, 647, 648, 649, 650, 651, 1077, 1078, 1079, 1080, 1081, 1082, 1083, 1084, 1112, 1113, 1114, 1115, 1116, 1117, 1118, 1119, 1120, 1121, 1122, 1123, 1124, 1125, 1126, 1127, 1128, 1132, 1133, 1134, 1135, 1136, 1137] (by decide +kernel) (by decide +kernel)
set_option maxRecDepth 20000 in
theorem xG_X4_desk : GoodIn wsLL (wsV RL 115 RX4 yX4_desk wsX4_desk) := goodIn_app (goodIn_of _ (by decide +kernel)) xg_X4_desk
set_option maxRecDepth 20000 in
theorem xg_X5_desk : GoodIn wsLL wsX5_desk := goodIn_r _ [655, 159, 656, 83, 161, 162, 5, 163, 164, 165, 166, 167, 301, 302, 303, 304, 177, 178, 179, 209, 210, 211, 212, 657, 658, 659, 660, 610, 611, 612, 613, 197, 198, 199, 200, 661, 662, 663, 664, 614, 615, 616, 617, 95, 297, 298, 299, 300, 665, 666, 667, 668, 221, 222, 223, 224, 669, 670, 671, 672, 1085, 1086, 1087, 1088, 1089, 1090, 1091, 1092, 1093, 1094, 1095, 1096, 1097, 1098, 1099, 1100, 1101, 1102, 1103, 1104, 1105, 1106, 1107, 1108, 1109, 1110, 1111] (by decide +kernel) (by decide +kernel)
set_option maxRecDepth 20000 in
theorem xG_X5_desk : GoodIn wsLL (wsV RL 118 RX5 yX5_desk wsX5_desk) := goodIn_app (goodIn_of _ (by decide +kernel)) xg_X5_desk
set_option maxRecDepth 20000 in
theorem xg_X4_along : GoodIn wsLL wsX4_along := goodIn_r _ [676, 17, 233, 599, 598, 105, 106, 2, 107, 1077, 1078, 1079, 1080, 1081, 1082, 1083, 1084, 1112, 1113, 1114, 1115, 1116, 1117, 1118, 1119, 1120, 1121, 1122, 1123, 1124, 1125, 1126, 1127, 1128] (by decide +kernel) (by decide +kernel)
set_option maxRecDepth 20000 in
theorem xG_X4_along : GoodIn wsLL (wsV RL 119 RX4 yX4_along wsX4_along) := goodIn_app (goodIn_of _ (by decide +kernel)) xg_X4_along
set_option maxRecDepth 20000 in
theorem xg_X5_along : GoodIn wsLL wsX5_along := goodIn_r _ [680, 159, 83, 161, 162, 5, 163, 164, 165, 166, 167, 197, 198, 199, 200, 177, 178, 179, 221, 222, 223, 224, 1085, 1086, 1087, 1088, 1089, 1090, 1091, 1092, 1093, 1094, 1095, 1096, 1097, 1098, 1099, 1100, 1101, 1102, 1103, 1104, 1105, 1106, 1107, 1108, 1109, 1110, 1111] (by decide +kernel) (by decide +kernel)
set_option maxRecDepth 20000 in
theorem xG_X5_along : GoodIn wsLL (wsV RL 122 RX5 yX5_along wsX5_along) := goodIn_app (goodIn_of _ (by decide +kernel)) xg_X5_along
set_option maxRecDepth 20000 in
theorem xg_X4_ranked : GoodIn wsLL wsX4_ranked := goodIn_r _ [684, 17, 105, 106, 2, 107, 685, 686, 687, 16, 688, 124, 41, 46, 1077, 1078, 1079, 1080, 1081, 1082, 1083, 1084, 1112, 1113, 1114, 1115, 1116, 1117, 1118, 1119, 1120, 1121, 1122, 1123, 1124, 1125, 1126, 1127, 1128] (by decide +kernel) (by decide +kernel)
set_option maxRecDepth 20000 in
theorem xG_X4_ranked : GoodIn wsLL (wsV RL 123 RX4 yX4_ranked wsX4_ranked) := goodIn_app (goodIn_of _ (by decide +kernel)) xg_X4_ranked
set_option maxRecDepth 20000 in
theorem xg_X5_ranked : GoodIn wsLL wsX5_ranked := goodIn_r _ [692, 159, 83, 161, 162, 5, 163, 164, 165, 166, 167, 177, 178, 179, 209, 210, 211, 212, 1085, 1086, 1087, 1088, 1089, 1090, 1091, 1092, 1093, 1094, 1095, 1096, 1097, 1098, 1099, 1100, 1101, 1102, 1103, 1104, 1105, 1106, 1107, 1108, 1109, 1110, 1111] (by decide +kernel) (by decide +kernel)
set_option maxRecDepth 20000 in
theorem xG_X5_ranked : GoodIn wsLL (wsV RL 126 RX5 yX5_ranked wsX5_ranked) := goodIn_app (goodIn_of _ (by decide +kernel)) xg_X5_ranked
set_option maxRecDepth 20000 in
theorem xg_X4_least : GoodIn wsLL wsX4_least := goodIn_r _ [696, 29, 697, 105, 106, 2, 107, 698, 699, 700, 28, 701, 67, 702, 703, 704, 705, 66, 641, 706, 286, 287, 16, 288, 41, 42, 429, 430, 431, 432, 433, 135, 136, 137, 39, 1077, 1078, 1079, 1080, 1081, 1082, 1083, 1084, 1132, 1133, 1134, 1135, 1136, 1137, 1112, 1113, 1114, 1115, 1116, 1117, 1118, 1119, 1120, 1121, 1122, 1123, 1124, 1125, 1126, 1127, 1128] (by decide +kernel) (by decide +kernel)
set_option maxRecDepth 20000 in
theorem xG_X4_least : GoodIn wsLL (wsV RL 127 RX4 yX4_least wsX4_least) := goodIn_app (goodIn_of _ (by decide +kernel)) xg_X4_least
set_option maxRecDepth 20000 in
theorem xg_X5_least : GoodIn wsLL wsX5_least := goodIn_r _ [710, 159, 97, 96, 161, 162, 5, 163, 164, 165, 166, 167, 711, 712, 713, 714, 83, 177, 178, 179, 193, 194, 195, 196, 84, 1085, 1086, 1087, 1088, 1089, 1090, 1091, 1092, 1093, 1094, 1095, 1096, 1097, 1098, 1099, 1100, 1101, 1102, 1103, 1104, 1105, 1106, 1107, 1108, 1109, 1110, 1111] (by decide +kernel) (by decide +kernel)
set_option maxRecDepth 20000 in
theorem xG_X5_least : GoodIn wsLL (wsV RL 130 RX5 yX5_least wsX5_least) := goodIn_app (goodIn_of _ (by decide +kernel)) xg_X5_least
set_option maxRecDepth 20000 in
theorem xg_X4_below : GoodIn wsLL wsX4_below := goodIn_r _ [718, 17, 105, 106, 2, 107, 719, 720, 721, 16, 722, 124, 39, 285, 286, 287, 288, 41, 42, 1077, 1078, 1079, 1080, 1081, 1082, 1083, 1084, 1112, 1113, 1114, 1115, 1116, 1117, 1118, 1119, 1120, 1121, 1122, 1123, 1124, 1125, 1126, 1127, 1128] (by decide +kernel) (by decide +kernel)
set_option maxRecDepth 20000 in
theorem xG_X4_below : GoodIn wsLL (wsV RL 133 RX4 yX4_below wsX4_below) := goodIn_app (goodIn_of _ (by decide +kernel)) xg_X4_below
set_option maxRecDepth 20000 in
theorem xg_X5_below : GoodIn wsLL wsX5_below := goodIn_r _ [726, 159, 83, 84, 161, 162, 5, 163, 164, 165, 166, 167, 177, 178, 179, 1085, 1086, 1087, 1088, 1089, 1090, 1091, 1092, 1093, 1094, 1095, 1096, 1097, 1098, 1099, 1100, 1101, 1102, 1103, 1104, 1105, 1106, 1107, 1108, 1109, 1110, 1111] (by decide +kernel) (by decide +kernel)
set_option maxRecDepth 20000 in
theorem xG_X5_below : GoodIn wsLL (wsV RL 137 RX5 yX5_below wsX5_below) := goodIn_app (goodIn_of _ (by decide +kernel)) xg_X5_below
set_option maxRecDepth 20000 in
theorem xg_X4_keys : GoodIn wsLL wsX4_keys := goodIn_r _ [730, 731, 29, 105, 106, 2, 107, 732, 733, 734, 28, 735, 66, 641, 416, 706, 286, 287, 16, 288, 41, 42, 736, 737, 738, 739, 67, 740, 741, 699, 700, 701, 702, 703, 704, 705, 429, 430, 431, 432, 433, 135, 136, 137, 39, 742, 743, 744, 745, 746, 747, 144, 748, 749, 750, 751, 752, 1077, 1078, 1079, 1080, 1081, 1082, 1083, 1084, 1132, 1133, 1134, 1135, 1136, 1137, 1112, 1113, 1114, 1115, 1116, 1117, 1118, 1119, 1120, 1121, 1122, 1123, 1124, 1125, 1126, 1127, 1128] (by decide +kernel) (by decide +kernel)
set_option maxRecDepth 20000 in
theorem xG_X4_keys : GoodIn wsLL (wsV RL 138 RX4 yX4_keys wsX4_keys) := goodIn_app (goodIn_of _ (by decide +kernel)) xg_X4_keys
set_option maxRecDepth 20000 in
theorem xg_X5_keys : GoodIn wsLL wsX5_keys := goodIn_r _ [756, 159, 757, 758, 97, 84, 96, 161, 162, 5, 163, 164, 165, 166, 167, 711, 712, 713, 714, 83, 177, 178, 179, 193, 194, 195, 196, 1085, 1086, 1087, 1088, 1089, 1090, 1091, 1092, 1093, 1094, 1095, 1096, 1097, 1098, 1099, 1100, 1101, 1102, 1103, 1104, 1105, 1106, 1107, 1108, 1109, 1110, 1111] (by decide +kernel) (by decide +kernel)
set_option maxRecDepth 20000 in
theorem xG_X5_keys : GoodIn wsLL (wsV RL 142 RX5 yX5_keys wsX5_keys) := goodIn_app (goodIn_of _ (by decide +kernel)) xg_X5_keys
set_option maxRecDepth 20000 in
theorem xg_X4_pair : GoodIn wsLL wsX4_pair := goodIn_r _ [762, 731, 29, 105, 106, 2, 107, 763, 764, 765, 28, 766, 67, 767, 143, 144, 145, 68, 71, 740, 702, 703, 704, 705, 66, 641, 706, 286, 287, 16, 288, 41, 42, 429, 430, 431, 432, 433, 135, 136, 137, 39, 456, 51, 52, 53, 768, 769, 770, 771, 772, 773, 774, 775, 416, 1077, 1078, 1079, 1080, 1081, 1082, 1083, 1084, 1132, 1133, 1134, 1135, 1136, 1137, 1112, 1113, 1114, 1115, 1116, 1117, 1118, 1119, 1120, 1121, 1122, 1123, 1124, 1125, 1126, 1127, 1128] (by decide +kernel) (by decide +kernel)
set_option maxRecDepth 20000 in
theorem xG_X4_pair : GoodIn wsLL (wsV RL 143 RX4 yX4_pair wsX4_pair) := goodIn_app (goodIn_of _ (by decide +kernel)) xg_X4_pair
set_option maxRecDepth 20000 in
theorem xg_X5_pair : GoodIn wsLL wsX5_pair := goodIn_r _ [779, 159, 780, 781, 758, 97, 98, 96, 161, 162, 5, 163, 164, 165, 166, 167, 711, 712, 713, 714, 83, 177, 178, 179, 193, 194, 195, 196, 84, 782, 783, 784, 785, 1085, 1086, 1087, 1088, 1089, 1090, 1091, 1092, 1093, 1094, 1095, 1096, 1097, 1098, 1099, 1100, 1101, 1102, 1103, 1104, 1105, 1106, 1107, 1108, 1109, 1110, 1111] (by decide +kernel) (by decide +kernel)
set_option maxRecDepth 20000 in
theorem xG_X5_pair : GoodIn wsLL (wsV RL 147 RX5 yX5_pair wsX5_pair) := goodIn_app (goodIn_of _ (by decide +kernel)) xg_X5_pair
set_option maxRecDepth 20000 in
theorem xg_L_above : GoodIn wsLL wsKL_above := goodIn_ca (goodIn_r _ [788, 570, 789, 790, 791, 2, 792, 575, 576, 17, 600, 277, 278, 279, 16, 280, 124, 41, 1077, 1078, 1079, 1080, 1081, 1082, 1083, 1084, 1112, 1113, 1114, 1115, 1116, 1117, 1118, 1119, 1120, 1121, 1122, 1123, 1124, 1125, 1126, 1127, 1128] (by decide +kernel) (by decide +kernel)) (goodIn_sub (fun _ h => List.mem_append_right _ h) (by decide +kernel))
set_option maxRecDepth 20000 in
theorem xG_L_above : GoodIn wsLL (va_wsS RL 148 yL_above wsKL_above) := goodIn_app (goodIn_of _ (by decide +kernel)) xg_L_above
set_option maxRecDepth 20000 in
theorem xg_X5_above : GoodIn wsLL wsX5_above := goodIn_r _ [796, 83, 581, 582, 583, 5, 584, 159, 297, 298, 299, 300, 165, 166, 167, 177, 178, 179, 1085, 1086, 1087, 1088, 1089, 1090, 1091, 1092, 1093, 1094, 1095, 1096, 1097, 1098, 1099, 1100, 1101, 1102, 1103, 1104, 1105, 1106, 1107, 1108, 1109, 1110, 1111] (by decide +kernel) (by decide +kernel)
set_option maxRecDepth 20000 in
theorem xG_X5_above : GoodIn wsLL (wsV RL 150 RX5 yX5_above wsX5_above) := goodIn_app (goodIn_of _ (by decide +kernel)) xg_X5_above
set_option maxRecDepth 20000 in
theorem xg_X4_melding : GoodIn wsLL wsX4_melding := goodIn_r _ [800, 17, 233, 366, 367, 368, 2, 369, 105, 106, 107, 801, 802, 803, 804, 805, 14, 15, 16, 34, 35, 36, 37, 12, 13, 24, 38, 6, 39, 40, 41, 42, 43, 44, 45, 46, 47, 48, 49, 50, 51, 52, 53, 538, 539, 540, 541, 124, 256, 150, 238, 542, 543, 544, 545, 370, 371, 372, 373, 129, 130, 131, 132, 133, 134, 135, 136, 137, 138, 139, 140, 141, 142, 143, 144, 145, 374, 375, 376, 377, 622, 623, 624, 625, 1077, 1078, 1079, 1080, 1081, 1082, 1083, 1084, 1112, 1113, 1114, 1115, 1116, 1117, 1118, 1119, 1120, 1121, 1122, 1123, 1124, 1125, 1126, 1127, 1128] (by decide +kernel) (by decide +kernel)
set_option maxRecDepth 20000 in
theorem xG_X4_melding : GoodIn wsLL (wsV RL 151 RX4 yX4_melding wsX4_melding) := goodIn_app (goodIn_of _ (by decide +kernel)) xg_X4_melding
set_option maxRecDepth 20000 in
theorem xg_X5_melding : GoodIn wsLL wsX5_melding := goodIn_r _ [809, 159, 83, 192, 810, 382, 383, 5, 384, 161, 162, 163, 164, 165, 166, 167, 811, 812, 813, 814, 84, 89, 90, 555, 556, 557, 188, 189, 190, 191, 91, 193, 194, 195, 196, 197, 198, 199, 200, 177, 178, 179, 201, 202, 203, 204, 205, 206, 207, 208, 209, 210, 211, 212, 815, 816, 817, 818, 1085, 1086, 1087, 1088, 1089, 1090, 1091, 1092, 1093, 1094, 1095, 1096, 1097, 1098, 1099, 1100, 1101, 1102, 1103, 1104, 1105, 1106, 1107, 1108, 1109, 1110, 1111] (by decide +kernel) (by decide +kernel)
set_option maxRecDepth 20000 in
theorem xG_X5_melding : GoodIn wsLL (wsV RL 154 RX5 yX5_melding wsX5_melding) := goodIn_app (goodIn_of _ (by decide +kernel)) xg_X5_melding
set_option maxRecDepth 20000 in
theorem xg_X4_taking : GoodIn wsLL wsX4_taking := goodIn_r _ [822, 17, 233, 366, 105, 106, 2, 107, 801, 802, 803, 804, 805, 14, 15, 16, 34, 35, 36, 37, 12, 13, 24, 38, 6, 39, 40, 41, 42, 43, 44, 45, 46, 47, 48, 49, 50, 51, 52, 53, 538, 539, 540, 541, 124, 256, 150, 238, 542, 543, 544, 545, 234, 235, 236, 237, 151, 152, 153, 154, 129, 130, 131, 132, 133, 134, 135, 136, 137, 138, 139, 140, 141, 142, 143, 144, 145, 239, 147, 148, 149, 1077, 1078, 1079, 1080, 1081, 1082, 1083, 1084, 1112, 1113, 1114, 1115, 1116, 1117, 1118, 1119, 1120, 1121, 1122, 1123, 1124, 1125, 1126, 1127, 1128] (by decide +kernel) (by decide +kernel)
set_option maxRecDepth 20000 in
theorem xG_X4_taking : GoodIn wsLL (wsV RL 155 RX4 yX4_taking wsX4_taking) := goodIn_app (goodIn_of _ (by decide +kernel)) xg_X4_taking
set_option maxRecDepth 20000 in
theorem xg_X5_taking : GoodIn wsLL wsX5_taking := goodIn_r _ [826, 159, 83, 192, 810, 161, 162, 5, 163, 164, 165, 166, 167, 811, 812, 813, 814, 84, 89, 90, 555, 556, 557, 217, 218, 219, 220, 221, 222, 223, 224, 177, 178, 179, 197, 198, 199, 200, 188, 189, 190, 191, 91, 193, 194, 195, 196, 201, 202, 203, 204, 205, 206, 207, 208, 209, 210, 211, 212, 225, 226, 227, 228, 213, 214, 215, 216, 815, 816, 817, 818, 1085, 1086, 1087, 1088, 1089, 1090, 1091, 1092, 1093, 1094, 1095, 1096, 1097, 1098, 1099, 1100, 1101, 1102, 1103, 1104, 1105, 1106, 1107, 1108, 1109, 1110, 1111] (by decide +kernel) (by decide +kernel)
set_option maxRecDepth 20000 in
theorem xG_X5_taking : GoodIn wsLL (wsV RL 158 RX5 yX5_taking wsX5_taking) := goodIn_app (goodIn_of _ (by decide +kernel)) xg_X5_taking
set_option maxRecDepth 20000 in
theorem xg_X4_coming : GoodIn wsLL wsX4_coming := goodIn_r _ [830, 801, 802, 803, 2, 804, 805, 14, 15, 16, 17, 366, 34, 35, 36, 37, 12, 13, 24, 38, 6, 39, 40, 41, 42, 43, 44, 45, 46, 47, 48, 49, 50, 51, 52, 53, 538, 539, 540, 541, 124, 256, 150, 238, 542, 543, 544, 545, 252, 253, 254, 255, 257, 235, 236, 237, 151, 152, 153, 154, 129, 130, 131, 132, 133, 134, 135, 136, 137, 138, 139, 140, 141, 142, 143, 144, 145, 239, 147, 148, 149, 1077, 1078, 1079, 1080, 1081, 1082, 1083, 1084, 1112, 1113, 1114, 1115, 1116, 1117, 1118, 1119, 1120, 1121, 1122, 1123, 1124, 1125, 1126, 1127, 1128] (by decide +kernel) (by decide +kernel)
set_option maxRecDepth 20000 in
theorem xG_X4_coming : GoodIn wsLL (wsV RL 159 RX4 yX4_coming wsX4_coming) := goodIn_app (goodIn_of _ (by decide +kernel)) xg_X4_coming
set_option maxRecDepth 20000 in
theorem xg_X5_coming : GoodIn wsLL wsX5_coming := goodIn_r _ [834, 159, 835, 165, 166, 5, 167, 811, 812, 813, 814, 83, 84, 89, 90, 192, 810, 555, 556, 557, 263, 264, 265, 266, 244, 245, 246, 247, 217, 218, 219, 220, 221, 222, 223, 224, 177, 178, 179, 197, 198, 199, 200, 188, 189, 190, 191, 91, 193, 194, 195, 196, 201, 202, 203, 204, 205, 206, 207, 208, 209, 210, 211, 212, 225, 226, 227, 228, 213, 214, 215, 216, 815, 816, 817, 818, 1085, 1086, 1087, 1088, 1089, 1090, 1091, 1092, 1093, 1094, 1095, 1096, 1097, 1098, 1099, 1100, 1101, 1102, 1103, 1104, 1105, 1106, 1107, 1108, 1109, 1110, 1111] (by decide +kernel) (by decide +kernel)
set_option maxRecDepth 20000 in
theorem xG_X5_coming : GoodIn wsLL (wsV RL 162 RX5 yX5_coming wsX5_coming) := goodIn_app (goodIn_of _ (by decide +kernel)) xg_X5_coming
set_option maxRecDepth 20000 in
theorem xg_X4_tagged : GoodIn wsLL wsX4_tagged := goodIn_r _ [839, 17, 113, 114, 2, 115, 840, 841, 842, 16, 843, 124, 40, 285, 286, 287, 288, 41, 42, 1077, 1078, 1079, 1080, 1081, 1082, 1083, 1084, 1112, 1113, 1114, 1115, 1116, 1117, 1118, 1119, 1120, 1121, 1122, 1123, 1124, 1125, 1126, 1127, 1128] (by decide +kernel) (by decide +kernel)
set_option maxRecDepth 20000 in
theorem xG_X4_tagged : GoodIn wsLL (wsV RL 163 RX4 yX4_tagged wsX4_tagged) := goodIn_app (goodIn_of _ (by decide +kernel)) xg_X4_tagged
set_option maxRecDepth 20000 in
theorem xg_X5_tagged : GoodIn wsLL wsX5_tagged := goodIn_r _ [847, 159, 160, 83, 165, 166, 5, 167, 177, 178, 179, 1085, 1086, 1087, 1088, 1089, 1090, 1091, 1092, 1093, 1094, 1095, 1096, 1097, 1098, 1099, 1100, 1101, 1102, 1103, 1104, 1105, 1106, 1107, 1108, 1109, 1110, 1111] (by decide +kernel) (by decide +kernel)
set_option maxRecDepth 20000 in
theorem xG_X5_tagged : GoodIn wsLL (wsV RL 166 RX5 yX5_tagged wsX5_tagged) := goodIn_app (goodIn_of _ (by decide +kernel)) xg_X5_tagged
set_option maxRecDepth 20000 in
theorem xg_X4_log : GoodIn wsLL wsX4_log := goodIn_r _ [851, 17, 731, 852, 853, 854, 855, 856, 857, 16, 858, 238, 142, 143, 144, 145, 859, 860, 861, 862, 1077, 1078, 1079, 1080, 1081, 1082, 1083, 1084, 1112, 1113, 1114, 1115, 1116, 1117, 1118, 1119, 1120, 1121, 1122, 1123, 1124, 1125, 1126, 1127, 1128] (by decide +kernel) (by decide +kernel)
set_option maxRecDepth 20000 in
theorem xG_X4_log : GoodIn wsLL (wsV RL 167 RX4 yX4_log wsX4_log) := goodIn_app (goodIn_of _ (by decide +kernel)) xg_X4_log
set_option maxRecDepth 20000 in
theorem xg_X5_log : GoodIn wsLL wsX5_log := goodIn_r _ [866, 159, 83, 781, 758, 84, 165, 166, 5, 167, 1085, 1086, 1087, 1088, 1089, 1090, 1091, 1092, 1093, 1094, 1095, 1096, 1097, 1098, 1099, 1100, 1101, 1102, 1103, 1104, 1105, 1106, 1107, 1108, 1109, 1110, 1111] (by decide +kernel) (by decide +kernel)
set_option maxRecDepth 20000 in
theorem xG_X5_log : GoodIn wsLL (wsV RL 170 RX5 yX5_log wsX5_log) := goodIn_app (goodIn_of _ (by decide +kernel)) xg_X5_log
set_option maxRecDepth 20000 in
theorem xg_X4_best : GoodIn wsLL wsX4_best := goodIn_r _ [870, 33, 871, 872, 483, 484, 2, 485, 873, 874, 875, 32, 876, 877, 878, 879, 880, 881, 882, 77, 883, 51, 52, 53, 884, 885, 886, 887, 888, 76, 889, 890, 891, 892, 893, 894, 895, 896, 897, 898, 899, 900, 901, 902, 903, 904, 905, 906, 907, 908, 909, 910, 911, 912, 913, 914, 915, 916, 917, 918, 919, 920, 921, 922, 923, 924, 1077, 1078, 1079, 1080, 1081, 1082, 1083, 1084, 1138, 1139, 1140, 1141, 1142, 1143, 1144, 1145, 1129, 1130, 1131] (by decide +kernel) (by decide +kernel)
set_option maxRecDepth 20000 in
theorem xG_X4_best : GoodIn wsLL (wsV RL 171 RX4 yX4_best wsX4_best) := goodIn_app (goodIn_of _ (by decide +kernel)) xg_X4_best
set_option maxRecDepth 20000 in
theorem xg_X5_best : GoodIn wsLL wsX5_best := goodIn_r _ [928, 159, 781, 929, 930, 931, 497, 498, 5, 499, 500, 165, 166, 167, 932, 933, 934, 935, 936, 937, 938, 939, 940, 941, 942, 99, 943, 944, 945, 946, 83, 501, 502, 503, 504, 505, 947, 948, 949, 950, 951, 952, 953, 954, 955, 956, 957, 958, 959, 960, 961, 962, 1085, 1086, 1087, 1088, 1089, 1090, 1091, 1092, 1093, 1094, 1095, 1096, 1097, 1098, 1099, 1100, 1101, 1102, 1103, 1104, 1105, 1106, 1107, 1108, 1109, 1110, 1111] (by decide +kernel) (by decide +kernel)
set_option maxRecDepth 20000 in
theorem xG_X5_best : GoodIn wsLL (wsV RL 174 RX5 yX5_best wsX5_best) := goodIn_app (goodIn_of _ (by decide +kernel)) xg_X5_best
set_option maxRecDepth 20000 in
theorem xg_X4_by : GoodIn wsLL wsX4_by := goodIn_r _ [966, 33, 483, 484, 2, 485, 873, 874, 875, 32, 876, 877, 878, 879, 880, 881, 882, 77, 883, 51, 52, 53, 884, 885, 886, 887, 888, 76, 889, 890, 891, 892, 893, 894, 895, 896, 897, 898, 899, 900, 901, 902, 903, 904, 905, 906, 907, 908, 909, 910, 911, 912, 913, 914, 915, 967, 968, 969, 970, 971, 972, 973, 974, 1077, 1078, 1079, 1080, 1081, 1082, 1083, 1084, 1138, 1139, 1140, 1141, 1142, 1143, 1144, 1145, 1129, 1130, 1131] (by decide +kernel) (by decide +kernel)
set_option maxRecDepth 20000 in
theorem xG_X4_by : GoodIn wsLL (wsV RL 175 RX4 yX4_by wsX4_by) := goodIn_app (goodIn_of _ (by decide +kernel)) xg_X4_by
set_option maxRecDepth 20000 in
theorem xg_X5_by : GoodIn wsLL wsX5_by := goodIn_r _ [978, 159, 930, 83, 497, 498, 5, 499, 500, 165, 166, 167, 932, 933, 934, 935, 936, 937, 929, 938, 939, 940, 941, 942, 931, 99, 943, 944, 945, 946, 501, 502, 503, 504, 505, 947, 948, 949, 950, 951, 952, 953, 954, 955, 956, 957, 958, 959, 960, 961, 962, 1085, 1086, 1087, 1088, 1089, 1090, 1091, 1092, 1093, 1094, 1095, 1096, 1097, 1098, 1099, 1100, 1101, 1102, 1103, 1104, 1105, 1106, 1107, 1108, 1109, 1110, 1111] (by decide +kernel) (by decide +kernel)
set_option maxRecDepth 20000 in
theorem xG_X5_by : GoodIn wsLL (wsV RL 178 RX5 yX5_by wsX5_by) := goodIn_app (goodIn_of _ (by decide +kernel)) xg_X5_by
set_option maxRecDepth 20000 in
theorem xg_X4_dearer : GoodIn wsLL wsX4_dearer := goodIn_r _ [982, 22, 33, 872, 871, 983, 483, 484, 2, 485, 510, 511, 512, 21, 513, 58, 873, 874, 875, 32, 876, 877, 878, 879, 880, 881, 882, 77, 883, 51, 52, 53, 884, 885, 886, 887, 888, 76, 889, 890, 891, 892, 893, 894, 895, 896, 897, 898, 899, 900, 901, 902, 903, 904, 905, 906, 907, 908, 909, 910, 911, 912, 913, 914, 915, 984, 972, 973, 974, 985, 986, 987, 988, 1077, 1078, 1079, 1080, 1081, 1082, 1083, 1084, 1138, 1139, 1140, 1141, 1142, 1143, 1144, 1145, 1129, 1130, 1131] (by decide +kernel) (by decide +kernel)
set_option maxRecDepth 20000 in
theorem xG_X4_dearer : GoodIn wsLL (wsV RL 179 RX4 yX4_dearer wsX4_dearer) := goodIn_app (goodIn_of _ (by decide +kernel)) xg_X4_dearer
set_option maxRecDepth 20000 in
theorem xg_X5_dearer : GoodIn wsLL wsX5_dearer := goodIn_r _ [992, 159, 930, 993, 497, 498, 5, 499, 500, 165, 166, 167, 501, 502, 503, 504, 505, 83, 932, 933, 934, 935, 936, 937, 929, 938, 939, 940, 941, 942, 931, 99, 943, 944, 945, 946, 947, 948, 949, 950, 951, 952, 953, 954, 955, 956, 957, 958, 959, 960, 961, 962, 994, 995, 996, 997, 1085, 1086, 1087, 1088, 1089, 1090, 1091, 1092, 1093, 1094, 1095, 1096, 1097, 1098, 1099, 1100, 1101, 1102, 1103, 1104, 1105, 1106, 1107, 1108, 1109, 1110, 1111] (by decide +kernel) (by decide +kernel)
set_option maxRecDepth 20000 in
theorem xG_X5_dearer : GoodIn wsLL (wsV RL 182 RX5 yX5_dearer wsX5_dearer) := goodIn_app (goodIn_of _ (by decide +kernel)) xg_X5_dearer
set_option maxRecDepth 20000 in
theorem xg_X4_without : GoodIn wsLL wsX4_without := goodIn_r _ [1001, 22, 33, 872, 871, 983, 483, 484, 2, 485, 510, 511, 512, 21, 513, 58, 873, 874, 875, 32, 876, 877, 878, 879, 880, 881, 882, 77, 883, 51, 52, 53, 884, 885, 886, 887, 888, 76, 889, 890, 891, 892, 893, 894, 895, 896, 897, 898, 899, 900, 901, 902, 903, 904, 905, 906, 907, 908, 909, 910, 911, 912, 913, 914, 915, 916, 917, 918, 919, 1077, 1078, 1079, 1080, 1081, 1082, 1083, 1084, 1138, 1139, 1140, 1141, 1142, 1143, 1144, 1145, 1129, 1130, 1131] (by decide +kernel) (by decide +kernel)
set_option maxRecDepth 20000 in
theorem xG_X4_without : GoodIn wsLL (wsV RL 183 RX4 yX4_without wsX4_without) := goodIn_app (goodIn_of _ (by decide +kernel)) xg_X4_without
set_option maxRecDepth 20000 in
theorem xg_X5_without : GoodIn wsLL wsX5_without := goodIn_r _ [1005, 159, 929, 931, 993, 497, 498, 5, 499, 500, 165, 166, 167, 501, 502, 503, 504, 505, 83, 932, 933, 934, 935, 936, 937, 930, 938, 939, 940, 941, 942, 99, 943, 944, 945, 946, 947, 948, 949, 950, 951, 952, 953, 954, 955, 956, 957, 958, 959, 960, 961, 962, 1085, 1086, 1087, 1088, 1089, 1090, 1091, 1092, 1093, 1094, 1095, 1096, 1097, 1098, 1099, 1100, 1101, 1102, 1103, 1104, 1105, 1106, 1107, 1108, 1109, 1110, 1111] (by decide +kernel) (by decide +kernel)
set_option maxRecDepth 20000 in
theorem xG_X5_without : GoodIn wsLL (wsV RL 186 RX5 yX5_without wsX5_without) := goodIn_app (goodIn_of _ (by decide +kernel)) xg_X5_without
set_option maxRecDepth 20000 in
theorem xg_X4_cheaper : GoodIn wsLL wsX4_cheaper := goodIn_r _ [1009, 22, 33, 872, 983, 483, 484, 2, 485, 510, 511, 512, 21, 513, 58, 873, 874, 875, 32, 876, 877, 878, 879, 880, 881, 882, 77, 883, 51, 52, 53, 884, 885, 886, 887, 888, 76, 889, 890, 891, 892, 893, 894, 895, 896, 897, 898, 899, 900, 901, 902, 903, 904, 905, 906, 907, 908, 909, 910, 911, 912, 913, 914, 915, 984, 972, 973, 974, 1010, 1011, 1012, 1013, 1077, 1078, 1079, 1080, 1081, 1082, 1083, 1084, 1138, 1139, 1140, 1141, 1142, 1143, 1144, 1145, 1129, 1130, 1131] (by decide +kernel) (by decide +kernel)
set_option maxRecDepth 20000 in
theorem xG_X4_cheaper : GoodIn wsLL (wsV RL 187 RX4 yX4_cheaper wsX4_cheaper) := goodIn_app (goodIn_of _ (by decide +kernel)) xg_X4_cheaper
set_option maxRecDepth 20000 in
theorem xg_X5_cheaper : GoodIn wsLL wsX5_cheaper := goodIn_r _ [1017, 159, 930, 993, 497, 498, 5, 499, 500, 165, 166, 167, 501, 502, 503, 504, 505, 83, 932, 933, 934, 935, 936, 937, 929, 938, 939, 940, 941, 942, 931, 99, 943, 944, 945, 946, 947, 948, 949, 950, 951, 952, 953, 954, 955, 956, 957, 958, 959, 960, 961, 962, 994, 995, 996, 997, 1085, 1086, 1087, 1088, 1089, 1090, 1091, 1092, 1093, 1094, 1095, 1096, 1097, 1098, 1099, 1100, 1101, 1102, 1103, 1104, 1105, 1106, 1107, 1108, 1109, 1110, 1111] (by decide +kernel) (by decide +kernel)
set_option maxRecDepth 20000 in
theorem xG_X5_cheaper : GoodIn wsLL (wsV RL 190 RX5 yX5_cheaper wsX5_cheaper) := goodIn_app (goodIn_of _ (by decide +kernel)) xg_X5_cheaper
set_option maxRecDepth 20000 in
theorem xg_X4_second : GoodIn wsLL wsX4_second := goodIn_r _ [1021, 33, 1022, 1023, 483, 484, 2, 485, 873, 874, 875, 32, 876, 877, 878, 879, 880, 881, 882, 77, 883, 51, 52, 53, 884, 885, 886, 887, 888, 76, 889, 890, 891, 892, 893, 894, 895, 896, 897, 898, 899, 900, 901, 902, 903, 904, 905, 906, 907, 908, 909, 910, 911, 912, 913, 914, 915, 916, 917, 918, 919, 920, 921, 922, 923, 924, 1077, 1078, 1079, 1080, 1081, 1082, 1083, 1084, 1138, 1139, 1140, 1141, 1142, 1143, 1144, 1145, 1129, 1130, 1131] (by decide +kernel) (by decide +kernel)
set_option maxRecDepth 20000 in
theorem xG_X4_second : GoodIn wsLL (wsV RL 191 RX4 yX4_second wsX4_second) := goodIn_app (goodIn_of _ (by decide +kernel)) xg_X4_second
set_option maxRecDepth 20000 in
theorem xg_X5_second : GoodIn wsLL wsX5_second := goodIn_r _ [1027, 159, 930, 936, 929, 497, 498, 5, 499, 500, 165, 166, 167, 932, 933, 934, 935, 937, 938, 939, 940, 941, 942, 931, 99, 943, 944, 945, 946, 83, 501, 502, 503, 504, 505, 947, 948, 949, 950, 951, 952, 953, 954, 955, 956, 957, 958, 959, 960, 961, 962, 1085, 1086, 1087, 1088, 1089, 1090, 1091, 1092, 1093, 1094, 1095, 1096, 1097, 1098, 1099, 1100, 1101, 1102, 1103, 1104, 1105, 1106, 1107, 1108, 1109, 1110, 1111] (by decide +kernel) (by decide +kernel)
set_option maxRecDepth 20000 in
theorem xG_X5_second : GoodIn wsLL (wsV RL 194 RX5 yX5_second wsX5_second) := goodIn_app (goodIn_of _ (by decide +kernel)) xg_X5_second
set_option maxRecDepth 20000 in
theorem xg_X4_center : GoodIn wsLL wsX4_center := goodIn_r _ [1031, 33, 871, 872, 873, 874, 875, 32, 876, 877, 878, 879, 880, 881, 882, 77, 883, 51, 52, 53, 884, 885, 886, 887, 888, 76, 889, 890, 891, 892, 893, 894, 895, 896, 897, 898, 899, 900, 901, 902, 903, 904, 905, 906, 907, 908, 909, 910, 911, 912, 913, 914, 915, 1032, 1033, 1034, 1035, 1036, 1037, 1038, 916, 917, 918, 919, 1077, 1078, 1079, 1080, 1081, 1082, 1083, 1084, 1138, 1139, 1140, 1141, 1142, 1143, 1144, 1145, 1129, 1130, 1131] (by decide +kernel) (by decide +kernel)
set_option maxRecDepth 20000 in
theorem xG_X4_center : GoodIn wsLL (wsV RL 195 RX4 yX4_center wsX4_center) := goodIn_app (goodIn_of _ (by decide +kernel)) xg_X4_center
set_option maxRecDepth 20000 in
theorem xg_X5_center : GoodIn wsLL wsX5_center := goodIn_r _ [1042, 159, 931, 929, 165, 166, 5, 167, 932, 933, 934, 935, 936, 937, 930, 938, 939, 940, 941, 942, 99, 943, 944, 945, 946, 83, 501, 502, 503, 504, 505, 947, 948, 949, 950, 951, 952, 953, 954, 955, 956, 957, 958, 959, 960, 961, 962, 1043, 1044, 1045, 1085, 1086, 1087, 1088, 1089, 1090, 1091, 1092, 1093, 1094, 1095, 1096, 1097, 1098, 1099, 1100, 1101, 1102, 1103, 1104, 1105, 1106, 1107, 1108, 1109, 1110, 1111] (by decide +kernel) (by decide +kernel)
set_option maxRecDepth 20000 in
theorem xG_X5_center : GoodIn wsLL (wsV RL 198 RX5 yX5_center wsX5_center) := goodIn_app (goodIn_of _ (by decide +kernel)) xg_X5_center
set_option maxRecDepth 20000 in
theorem xg_X4_arcs : GoodIn wsLL wsX4_arcs := goodIn_r _ [1049, 22, 480, 481, 482, 510, 511, 512, 21, 513, 58, 1077, 1078, 1079, 1080, 1081, 1082, 1083, 1084, 1129, 1130, 1131] (by decide +kernel) (by decide +kernel)
set_option maxRecDepth 20000 in
theorem xG_X4_arcs : GoodIn wsLL (wsV RL 199 RX4 yX4_arcs wsX4_arcs) := goodIn_app (goodIn_of _ (by decide +kernel)) xg_X4_arcs
set_option maxRecDepth 20000 in
theorem xg_X5_arcs : GoodIn wsLL wsX5_arcs := goodIn_r _ [1053, 159, 781, 83, 501, 502, 503, 5, 504, 505, 165, 166, 167, 1085, 1086, 1087, 1088, 1089, 1090, 1091, 1092, 1093, 1094, 1095, 1096, 1097, 1098, 1099, 1100, 1101, 1102, 1103, 1104, 1105, 1106, 1107, 1108, 1109, 1110, 1111] (by decide +kernel) (by decide +kernel)
set_option maxRecDepth 20000 in
theorem xG_X5_arcs : GoodIn wsLL (wsV RL 202 RX5 yX5_arcs wsX5_arcs) := goodIn_app (goodIn_of _ (by decide +kernel)) xg_X5_arcs
set_option maxRecDepth 20000 in
theorem xg_X4_count : GoodIn wsLL wsX4_count := goodIn_r _ [1057, 17, 104, 22, 366, 1058, 1059, 25, 1060, 1061, 1062, 16, 1063, 124, 41, 1064, 1065, 1066, 1067, 42, 514, 515, 516, 21, 517, 58, 855, 856, 857, 858, 238, 142, 143, 144, 145, 1077, 1078, 1079, 1080, 1081, 1082, 1083, 1084, 1112, 1113, 1114, 1115, 1116, 1117, 1118, 1119, 1120, 1121, 1122, 1123, 1124, 1125, 1126, 1127, 1128, 1129, 1130, 1131] (by decide +kernel) (by decide +kernel)
set_option maxRecDepth 20000 in
theorem xG_X4_count : GoodIn wsLL (wsV RL 203 RX4 yX4_count wsX4_count) := goodIn_app (goodIn_of _ (by decide +kernel)) xg_X4_count
set_option maxRecDepth 20000 in
theorem xg_X5_count : GoodIn wsLL wsX5_count := goodIn_r _ [1071, 159, 83, 192, 656, 1072, 82, 1073, 1074, 1075, 5, 1076, 301, 302, 303, 304, 177, 178, 179, 522, 523, 524, 525, 501, 502, 503, 504, 505, 165, 166, 167, 1085, 1086, 1087, 1088, 1089, 1090, 1091, 1092, 1093, 1094, 1095, 1096, 1097, 1098, 1099, 1100, 1101, 1102, 1103, 1104, 1105, 1106, 1107, 1108, 1109, 1110, 1111] (by decide +kernel) (by decide +kernel)
set_option maxRecDepth 20000 in
theorem xG_X5_count : GoodIn wsLL (wsV RL 206 RX5 yX5_count wsX5_count) := goodIn_app (goodIn_of _ (by decide +kernel)) xg_X5_count
