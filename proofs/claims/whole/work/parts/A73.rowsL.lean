set_option maxRecDepth 20000 in
theorem ggL_law_X11_lay : GoodIn wsL_law wsX11_lay := goodIn_r _ [604, 15, 253, 254, 255, 14, 256, 225, 257, 258, 259, 260, 230, 261, 2, 262, 121, 122, 123, 124, 32, 351, 182, 183, 184, 185, 1051, 1052, 1053, 1054, 1055, 1056, 1089, 1090, 1091, 1092, 1093, 1094, 1095, 1096, 1097, 1098, 1099, 1100, 1101, 1102, 1103, 1104, 1105, 1106] (by decide +kernel) (by decide +kernel)
set_option maxRecDepth 20000 in
theorem gL_law_X11_lay : GoodIn wsL_law (wsV RL 77 RX11 yX11_lay wsX11_lay) := goodIn_app (goodIn_of _ (by decide +kernel)) ggL_law_X11_lay
set_option maxRecDepth 20000 in
theorem ggL_law_X12_lay : GoodIn wsL_law wsX12_lay := goodIn_r _ [608, 248, 276, 277, 278, 279, 5, 280, 235, 191, 192, 193, 281, 282, 283, 194, 195, 196, 197, 198, 205, 206, 207, 208, 1057, 1058, 1059, 1060, 1061, 1062, 1063, 1064, 1065, 1066, 1067, 1068, 1069, 1070, 1071, 1072, 1073, 1074, 1075, 1076, 1077, 1078, 1079, 1080, 1081, 1082, 1083, 1084, 1085, 1086, 1087, 1088] (by decide +kernel) (by decide +kernel)
set_option maxRecDepth 20000 in
theorem gL_law_X12_lay : GoodIn wsL_law (wsV RL 80 RX12 yX12_lay wsX12_lay) := goodIn_app (goodIn_of _ (by decide +kernel)) ggL_law_X12_lay
set_option maxRecDepth 20000 in
theorem ggL_law_X11_clear : GoodIn wsL_law wsX11_clear := goodIn_r _ [612, 15, 360, 333, 334, 335, 336, 337, 338, 182, 183, 184, 2, 185, 32, 1051, 1052, 1053, 1054, 1055, 1056, 1089, 1090, 1091, 1092, 1093, 1094, 1095, 1096, 1097, 1098, 1099, 1100, 1101, 1102, 1103, 1104, 1105, 1106] (by decide +kernel) (by decide +kernel)
set_option maxRecDepth 20000 in
theorem gL_law_X11_clear : GoodIn wsL_law (wsV RL 81 RX11 yX11_clear wsX11_clear) := goodIn_app (goodIn_of _ (by decide +kernel)) ggL_law_X11_clear
set_option maxRecDepth 20000 in
theorem ggL_law_X12_clear : GoodIn wsL_law wsX12_clear := goodIn_r _ [616, 276, 366, 367, 5, 368, 205, 206, 207, 208, 198, 1057, 1058, 1059, 1060, 1061, 1062, 1063, 1064, 1065, 1066, 1067, 1068, 1069, 1070, 1071, 1072, 1073, 1074, 1075, 1076, 1077, 1078, 1079, 1080, 1081, 1082, 1083, 1084, 1085, 1086, 1087, 1088] (by decide +kernel) (by decide +kernel)
set_option maxRecDepth 20000 in
theorem gL_law_X12_clear : GoodIn wsL_law (wsV RL 84 RX12 yX12_clear wsX12_clear) := goodIn_app (goodIn_of _ (by decide +kernel)) ggL_law_X12_clear
set_option maxRecDepth 20000 in
theorem ggL_law_X11_why : GoodIn wsL_law wsX11_why := goodIn_r _ [620, 23, 15, 621, 622, 623, 22, 624, 71, 67, 261, 2, 262, 625, 626, 627, 628, 629, 630, 631, 632, 633, 634, 635, 636, 637, 333, 334, 335, 336, 337, 338, 1051, 1052, 1053, 1054, 1055, 1056, 1089, 1090, 1091, 1092, 1093, 1094, 1095, 1096, 1097, 1098, 1099, 1100, 1101, 1102, 1103, 1104, 1105, 1106, 1110, 1111, 1112, 1113, 1114, 1115, 1116, 1117, 1118] (by decide +kernel) (by decide +kernel)
set_option maxRecDepth 20000 in
theorem gL_law_X11_why : GoodIn wsL_law (wsV RL 85 RX11 yX11_why wsX11_why) := goodIn_app (goodIn_of _ (by decide +kernel)) ggL_law_X11_why
set_option maxRecDepth 20000 in
theorem ggL_law_X12_why : GoodIn wsL_law wsX12_why := goodIn_r _ [641, 276, 533, 534, 535, 5, 536, 190, 102, 537, 235, 94, 95, 281, 282, 283, 369, 370, 371, 372, 373, 374, 375, 376, 92, 366, 367, 368, 1057, 1058, 1059, 1060, 1061, 1062, 1063, 1064, 1065, 1066, 1067, 1068, 1069, 1070, 1071, 1072, 1073, 1074, 1075, 1076, 1077, 1078, 1079, 1080, 1081, 1082, 1083, 1084, 1085, 1086, 1087, 1088] (by decide +kernel) (by decide +kernel)
set_option maxRecDepth 20000 in
theorem gL_law_X12_why : GoodIn wsL_law (wsV RL 88 RX12 yX12_why wsX12_why) := goodIn_app (goodIn_of _ (by decide +kernel)) ggL_law_X12_why
set_option maxRecDepth 20000 in
theorem ggL_law_X11_tag : GoodIn wsL_law wsX11_tag := goodIn_r _ [645, 23, 15, 381, 621, 622, 623, 22, 624, 71, 67, 261, 2, 262, 625, 626, 627, 628, 629, 630, 631, 632, 633, 634, 635, 636, 637, 333, 334, 335, 336, 337, 338, 646, 647, 648, 649, 1051, 1052, 1053, 1054, 1055, 1056, 1089, 1090, 1091, 1092, 1093, 1094, 1095, 1096, 1097, 1098, 1099, 1100, 1101, 1102, 1103, 1104, 1105, 1106, 1110, 1111, 1112, 1113, 1114, 1115, 1116, 1117, 1118] (by decide +kernel) (by decide +kernel)
set_option maxRecDepth 20000 in
theorem gL_law_X11_tag : GoodIn wsL_law (wsV RL 89 RX11 yX11_tag wsX11_tag) := goodIn_app (goodIn_of _ (by decide +kernel)) ggL_law_X11_tag
set_option maxRecDepth 20000 in
theorem ggL_law_X12_tag : GoodIn wsL_law wsX12_tag := goodIn_r _ [653, 276, 654, 655, 656, 5, 657, 410, 533, 534, 535, 536, 190, 102, 537, 235, 94, 95, 281, 282, 283, 369, 370, 371, 372, 373, 374, 375, 376, 92, 366, 367, 368, 538, 539, 540, 541, 96, 93, 542, 543, 544, 545, 1057, 1058, 1059, 1060, 1061, 1062, 1063, 1064, 1065, 1066, 1067, 1068, 1069, 1070, 1071, 1072, 1073, 1074, 1075, 1076, 1077, 1078, 1079, 1080, 1081, 1082, 1083, 1084, 1085, 1086, 1087, 1088] (by decide +kernel) (by decide +kernel)
set_option maxRecDepth 20000 in
theorem gL_law_X12_tag : GoodIn wsL_law (wsV RL 92 RX12 yX12_tag wsX12_tag) := goodIn_app (goodIn_of _ (by decide +kernel)) ggL_law_X12_tag
set_option maxRecDepth 20000 in
theorem ggL_law_X11_trim : GoodIn wsL_law wsX11_trim := goodIn_r _ [661, 23, 15, 621, 622, 623, 22, 624, 71, 67, 261, 2, 262, 625, 626, 627, 628, 629, 630, 631, 632, 633, 634, 635, 636, 637, 333, 334, 335, 336, 337, 338, 121, 122, 123, 124, 32, 360, 662, 663, 664, 665, 666, 667, 668, 669, 670, 671, 672, 14, 673, 130, 488, 453, 454, 455, 182, 183, 184, 185, 1051, 1052, 1053, 1054, 1055, 1056, 1089, 1090, 1091, 1092, 1093, 1094, 1095, 1096, 1097, 1098, 1099, 1100, 1101, 1102, 1103, 1104, 1105, 1106, 1110, 1111, 1112, 1113, 1114, 1115, 1116, 1117, 1118] (by decide +kernel) (by decide +kernel)
set_option maxRecDepth 20000 in
theorem gL_law_X11_trim : GoodIn wsL_law (wsV RL 93 RX11 yX11_trim wsX11_trim) := goodIn_app (goodIn_of _ (by decide +kernel)) ggL_law_X11_trim
set_option maxRecDepth 20000 in
theorem ggL_law_X12_trim : GoodIn wsL_law wsX12_trim := goodIn_r _ [677, 276, 190, 533, 534, 535, 5, 536, 102, 537, 235, 94, 95, 281, 282, 283, 369, 370, 371, 372, 373, 374, 375, 376, 92, 366, 367, 368, 194, 195, 196, 197, 198, 678, 679, 680, 681, 96, 93, 343, 344, 345, 346, 205, 206, 207, 208, 1057, 1058, 1059, 1060, 1061, 1062, 1063, 1064, 1065, 1066, 1067, 1068, 1069, 1070, 1071, 1072, 1073, 1074, 1075, 1076, 1077, 1078, 1079, 1080, 1081, 1082, 1083, 1084, 1085, 1086, 1087, 1088] (by decide +kernel) (by decide +kernel)
set_option maxRecDepth 20000 in
theorem gL_law_X12_trim : GoodIn wsL_law (wsV RL 96 RX12 yX12_trim wsX12_trim) := goodIn_app (goodIn_of _ (by decide +kernel)) ggL_law_X12_trim
set_option maxRecDepth 20000 in
theorem ggL_law_X11_better : GoodIn wsL_law wsX11_better := goodIn_r _ [685, 23, 15, 621, 622, 623, 22, 624, 71, 67, 261, 2, 262, 625, 626, 627, 628, 629, 630, 631, 632, 633, 634, 635, 636, 637, 333, 334, 335, 336, 337, 338, 121, 122, 123, 124, 32, 646, 647, 648, 649, 686, 687, 688, 689, 690, 691, 258, 259, 14, 260, 230, 692, 182, 183, 184, 185, 1051, 1052, 1053, 1054, 1055, 1056, 1089, 1090, 1091, 1092, 1093, 1094, 1095, 1096, 1097, 1098, 1099, 1100, 1101, 1102, 1103, 1104, 1105, 1106, 1110, 1111, 1112, 1113, 1114, 1115, 1116, 1117, 1118] (by decide +kernel) (by decide +kernel)
set_option maxRecDepth 20000 in
theorem gL_law_X11_better : GoodIn wsL_law (wsV RL 97 RX11 yX11_better wsX11_better) := goodIn_app (goodIn_of _ (by decide +kernel)) ggL_law_X11_better
set_option maxRecDepth 20000 in
theorem ggL_law_X12_better : GoodIn wsL_law wsX12_better := goodIn_r _ [696, 276, 410, 235, 248, 654, 655, 656, 5, 657, 533, 534, 535, 536, 190, 102, 537, 94, 95, 281, 282, 283, 369, 370, 371, 372, 373, 374, 375, 376, 92, 366, 367, 368, 538, 539, 540, 541, 96, 93, 542, 543, 544, 545, 194, 195, 196, 197, 198, 205, 206, 207, 208, 1057, 1058, 1059, 1060, 1061, 1062, 1063, 1064, 1065, 1066, 1067, 1068, 1069, 1070, 1071, 1072, 1073, 1074, 1075, 1076, 1077, 1078, 1079, 1080, 1081, 1082, 1083, 1084, 1085, 1086, 1087, 1088] (by decide +kernel) (by decide +kernel)
set_option maxRecDepth 20000 in
theorem gL_law_X12_better : GoodIn wsL_law (wsV RL 100 RX12 yX12_better wsX12_better) := goodIn_app (goodIn_of _ (by decide +kernel)) ggL_law_X12_better
set_option maxRecDepth 20000 in
theorem ggL_law_X11_walls : GoodIn wsL_law wsX11_walls := goodIn_r _ [700, 27, 701, 702, 703, 26, 704, 705, 706, 77, 707, 708, 709, 710, 79, 80, 711, 712, 713, 334, 714, 715, 716, 717, 718, 719, 720, 721, 722, 76, 78, 261, 2, 262, 723, 724, 725, 726, 727, 728, 729, 730, 731, 732, 733, 734, 735, 736, 461, 462, 463, 737, 738, 739, 740, 741, 258, 259, 14, 260, 230, 742, 743, 744, 745, 746, 333, 335, 336, 337, 338, 747, 748, 749, 750, 751, 453, 454, 455, 1051, 1052, 1053, 1054, 1055, 1056, 1119, 1120, 1121, 1122, 1123, 1124, 1125, 1126, 1089, 1090, 1091, 1092, 1093, 1094, 1095, 1096, 1097, 1098, 1099, 1100, 1101, 1102, 1103, 1104, 1105, 1106] (by decide +kernel) (by decide +kernel)
set_option maxRecDepth 20000 in
theorem gL_law_X11_walls : GoodIn wsL_law (wsV RL 101 RX11 yX11_walls wsX11_walls) := goodIn_app (goodIn_of _ (by decide +kernel)) ggL_law_X11_walls
set_option maxRecDepth 20000 in
theorem ggL_law_X12_walls : GoodIn wsL_law wsX12_walls := goodIn_r _ [755, 756, 109, 757, 758, 759, 5, 760, 761, 762, 763, 764, 765, 190, 108, 110, 92, 373, 374, 375, 376, 766, 767, 768, 769, 770, 771, 772, 773, 369, 370, 371, 372, 281, 282, 283, 774, 775, 776, 777, 411, 235, 778, 779, 780, 781, 94, 95, 248, 782, 783, 784, 785, 96, 786, 787, 788, 789, 790, 791, 792, 793, 1057, 1058, 1059, 1060, 1061, 1062, 1063, 1064, 1065, 1066, 1067, 1068, 1069, 1070, 1071, 1072, 1073, 1074, 1075, 1076, 1077, 1078, 1079, 1080, 1081, 1082, 1083, 1084, 1085, 1086, 1087, 1088] (by decide +kernel) (by decide +kernel)
set_option maxRecDepth 20000 in
theorem gL_law_X12_walls : GoodIn wsL_law (wsV RL 104 RX12 yX12_walls wsX12_walls) := goodIn_app (goodIn_of _ (by decide +kernel)) ggL_law_X12_walls
set_option maxRecDepth 20000 in
theorem ggL_law_X11_wall : GoodIn wsL_law wsX11_wall := goodIn_r _ [797, 27, 798, 799, 800, 26, 801, 705, 706, 77, 76, 707, 708, 709, 710, 79, 80, 711, 712, 713, 334, 714, 715, 716, 717, 718, 719, 720, 721, 722, 78, 261, 2, 262, 723, 724, 725, 726, 727, 728, 729, 730, 731, 732, 733, 734, 735, 736, 461, 462, 463, 737, 738, 739, 740, 741, 258, 259, 14, 260, 230, 742, 743, 744, 745, 746, 333, 335, 336, 337, 338, 747, 748, 749, 750, 751, 453, 454, 455, 1051, 1052, 1053, 1054, 1055, 1056, 1119, 1120, 1121, 1122, 1123, 1124, 1125, 1126, 1089, 1090, 1091, 1092, 1093, 1094, 1095, 1096, 1097, 1098, 1099, 1100, 1101, 1102, 1103, 1104, 1105, 1106] (by decide +kernel) (by decide +kernel)
set_option maxRecDepth 20000 in
theorem gL_law_X11_wall : GoodIn wsL_law (wsV RL 105 RX11 yX11_wall wsX11_wall) := goodIn_app (goodIn_of _ (by decide +kernel)) ggL_law_X11_wall
set_option maxRecDepth 20000 in
theorem ggL_law_X12_wall : GoodIn wsL_law wsX12_wall := goodIn_r _ [805, 756, 109, 108, 757, 758, 759, 5, 760, 761, 762, 763, 764, 765, 190, 110, 92, 373, 374, 375, 376, 766, 767, 768, 769, 770, 771, 772, 773, 369, 370, 371, 372, 281, 282, 283, 774, 775, 776, 777, 411, 235, 778, 779, 780, 781, 94, 95, 248, 782, 783, 784, 785, 96, 786, 787, 788, 789, 790, 791, 792, 793, 191, 192, 193, 1057, 1058, 1059, 1060, 1061, 1062, 1063, 1064, 1065, 1066, 1067, 1068, 1069, 1070, 1071, 1072, 1073, 1074, 1075, 1076, 1077, 1078, 1079, 1080, 1081, 1082, 1083, 1084, 1085, 1086, 1087, 1088] (by decide +kernel) (by decide +kernel)
set_option maxRecDepth 20000 in
theorem gL_law_X12_wall : GoodIn wsL_law (wsV RL 108 RX12 yX12_wall wsX12_wall) := goodIn_app (goodIn_of _ (by decide +kernel)) ggL_law_X12_wall
