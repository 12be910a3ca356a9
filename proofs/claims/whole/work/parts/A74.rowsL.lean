set_option maxRecDepth 20000 in
theorem ggL_law_X11_bound : GoodIn wsL_law wsX11_bound := goodIn_r _ [809, 27, 810, 811, 812, 26, 813, 705, 814, 706, 77, 707, 708, 709, 710, 79, 80, 711, 712, 713, 334, 714, 715, 716, 717, 718, 719, 720, 721, 722, 76, 78, 261, 2, 262, 723, 724, 725, 726, 727, 728, 729, 730, 731, 732, 733, 734, 735, 736, 461, 462, 463, 737, 738, 739, 740, 741, 258, 259, 14, 260, 230, 742, 743, 744, 745, 746, 333, 335, 336, 337, 338, 747, 748, 749, 750, 751, 453, 454, 455, 1051, 1052, 1053, 1054, 1055, 1056, 1119, 1120, 1121, 1122, 1123, 1124, 1125, 1126, 1089, 1090, 1091, 1092, 1093, 1094, 1095, 1096, 1097, 1098, 1099, 1100, 1101, 1102, 1103, 1104, 1105, 1106] (by decide +kernel) (by decide +kernel)
set_option maxRecDepth 20000 in
theorem gL_law_X11_bound : GoodIn wsL_law (wsV RL 109 RX11 yX11_bound wsX11_bound) := goodIn_app (goodIn_of _ (by decide +kernel)) ggL_law_X11_bound
set_option maxRecDepth 20000 in
theorem ggL_law_X12_bound : GoodIn wsL_law wsX12_bound := goodIn_r _ [818, 410, 756, 109, 757, 758, 759, 5, 760, 761, 762, 763, 764, 765, 190, 108, 110, 92, 373, 374, 375, 376, 766, 767, 768, 769, 770, 771, 772, 773, 369, 370, 371, 372, 281, 282, 283, 774, 775, 776, 777, 411, 235, 778, 779, 780, 781, 94, 95, 248, 782, 783, 784, 785, 96, 786, 787, 788, 789, 790, 791, 792, 793, 1057, 1058, 1059, 1060, 1061, 1062, 1063, 1064, 1065, 1066, 1067, 1068, 1069, 1070, 1071, 1072, 1073, 1074, 1075, 1076, 1077, 1078, 1079, 1080, 1081, 1082, 1083, 1084, 1085, 1086, 1087, 1088] (by decide +kernel) (by decide +kernel)
set_option maxRecDepth 20000 in
theorem gL_law_X12_bound : GoodIn wsL_law (wsV RL 112 RX12 yX12_bound wsX12_bound) := goodIn_app (goodIn_of _ (by decide +kernel)) ggL_law_X12_bound
set_option maxRecDepth 20000 in
theorem ggL_law_X11_act : GoodIn wsL_law wsX11_act := goodIn_r _ [822, 15, 823, 305, 306, 307, 14, 308, 37, 217, 218, 219, 220, 129, 121, 122, 123, 2, 124, 32, 328, 329, 330, 331, 41, 332, 333, 334, 335, 336, 337, 338, 824, 825, 826, 827, 148, 828, 158, 829, 830, 831, 832, 49, 833, 834, 55, 835, 836, 837, 838, 839, 840, 143, 841, 842, 843, 844, 845, 182, 183, 184, 185, 846, 847, 848, 849, 850, 146, 851, 852, 853, 854, 855, 856, 857, 858, 859, 860, 861, 862, 863, 864, 865, 866, 137, 867, 868, 869, 870, 871, 872, 873, 874, 875, 876, 877, 878, 879, 156, 880, 881, 882, 883, 884, 885, 886, 887, 888, 140, 889, 890, 891, 892, 893, 894, 895, 896, 897, 898, 899, 900, 901, 902, 903, 904, 905, 906, 907, 908, 909, 910, 911, 912, 913, 914, 915, 916, 917, 918, 919, 920, 1051, 1052, 1053, 1054, 1055, 1056, 1144, 1145, 1146, 1147, 1148, 1149, 1150, 1151, 1132, 1133, 1134, 1135, 1140, 1141, 1142, 1143, 1136, 1137, 1138, 1139, 1089, 1090, 1091, 1092, 1093, 1094, 1095, 1096, 1097, 1098, 1099, 1100, 1101, 1102, 1103, 1104, 1105, 1106, 1130, 1131] (by decide +kernel) (by decide +kernel)
set_option maxRecDepth 20000 in
theorem gL_law_X11_act : GoodIn wsL_law (wsV RL 113 RX11 yX11_act wsX11_act) := goodIn_app (goodIn_of _ (by decide +kernel)) ggL_law_X11_act
set_option maxRecDepth 20000 in
theorem ggL_law_X12_act : GoodIn wsL_law wsX12_act := goodIn_r _ [924, 365, 240, 241, 242, 5, 243, 190, 191, 192, 193, 194, 195, 196, 197, 198, 925, 926, 927, 928, 92, 248, 929, 930, 931, 932, 101, 343, 344, 345, 346, 235, 94, 95, 281, 282, 283, 933, 934, 935, 936, 93, 373, 374, 375, 376, 937, 938, 939, 940, 941, 942, 943, 944, 945, 946, 947, 948, 205, 206, 207, 208, 1057, 1058, 1059, 1060, 1061, 1062, 1063, 1064, 1065, 1066, 1067, 1068, 1069, 1070, 1071, 1072, 1073, 1074, 1075, 1076, 1077, 1078, 1079, 1080, 1081, 1082, 1083, 1084, 1085, 1086, 1087, 1088] (by decide +kernel) (by decide +kernel)
set_option maxRecDepth 20000 in
theorem gL_law_X12_act : GoodIn wsL_law (wsV RL 116 RX12 yX12_act wsX12_act) := goodIn_app (goodIn_of _ (by decide +kernel)) ggL_law_X12_act
set_option maxRecDepth 20000 in
theorem ggL_law_X11_trace : GoodIn wsL_law wsX11_trace := goodIn_r _ [952, 15, 953, 954, 955, 49, 956, 834, 55, 1051, 1052, 1053, 1054, 1055, 1056, 1089, 1090, 1091, 1092, 1093, 1094, 1095, 1096, 1097, 1098, 1099, 1100, 1101, 1102, 1103, 1104, 1105, 1106, 1130, 1131] (by decide +kernel) (by decide +kernel)
set_option maxRecDepth 20000 in
theorem gL_law_X11_trace : GoodIn wsL_law (wsV RL 117 RX11 yX11_trace wsX11_trace) := goodIn_app (goodIn_of _ (by decide +kernel)) ggL_law_X11_trace
set_option maxRecDepth 20000 in
theorem ggL_law_X12_trace : GoodIn wsL_law wsX12_trace := goodIn_r _ [960, 365, 101, 191, 192, 5, 193, 1057, 1058, 1059, 1060, 1061, 1062, 1063, 1064, 1065, 1066, 1067, 1068, 1069, 1070, 1071, 1072, 1073, 1074, 1075, 1076, 1077, 1078, 1079, 1080, 1081, 1082, 1083, 1084, 1085, 1086, 1087, 1088] (by decide +kernel) (by decide +kernel)
set_option maxRecDepth 20000 in
theorem gL_law_X12_trace : GoodIn wsL_law (wsV RL 120 RX12 yX12_trace wsX12_trace) := goodIn_app (goodIn_of _ (by decide +kernel)) ggL_law_X12_trace
set_option maxRecDepth 20000 in
theorem ggL_law_X11_map : GoodIn wsL_law wsX11_map := goodIn_r _ [964, 31, 965, 966, 2, 967, 121, 122, 123, 124, 32, 968, 969, 970, 30, 971, 84, 85, 87, 972, 394, 395, 396, 182, 183, 184, 185, 1051, 1052, 1053, 1054, 1055, 1056, 1127, 1128, 1129] (by decide +kernel) (by decide +kernel)
set_option maxRecDepth 20000 in
theorem gL_law_X11_map : GoodIn wsL_law (wsV RL 121 RX11 yX11_map wsX11_map) := goodIn_app (goodIn_of _ (by decide +kernel)) ggL_law_X11_map
set_option maxRecDepth 20000 in
theorem ggL_law_X12_map : GoodIn wsL_law wsX12_map := goodIn_r _ [976, 98, 99, 100, 191, 192, 5, 193, 194, 195, 196, 197, 198, 205, 206, 207, 208, 1057, 1058, 1059, 1060, 1061, 1062, 1063, 1064, 1065, 1066, 1067, 1068, 1069, 1070, 1071, 1072, 1073, 1074, 1075, 1076, 1077, 1078, 1079, 1080, 1081, 1082, 1083, 1084, 1085, 1086, 1087, 1088] (by decide +kernel) (by decide +kernel)
set_option maxRecDepth 20000 in
theorem gL_law_X12_map : GoodIn wsL_law (wsV RL 124 RX12 yX12_map wsX12_map) := goodIn_app (goodIn_of _ (by decide +kernel)) ggL_law_X12_map
set_option maxRecDepth 20000 in
theorem ggL_law_X11_cell : GoodIn wsL_law wsX11_cell := goodIn_r _ [980, 31, 965, 966, 2, 967, 121, 122, 123, 124, 32, 981, 982, 983, 30, 984, 84, 85, 182, 183, 184, 185, 1051, 1052, 1053, 1054, 1055, 1056, 1127, 1128, 1129] (by decide +kernel) (by decide +kernel)
set_option maxRecDepth 20000 in
theorem gL_law_X11_cell : GoodIn wsL_law (wsV RL 125 RX11 yX11_cell wsX11_cell) := goodIn_app (goodIn_of _ (by decide +kernel)) ggL_law_X11_cell
set_option maxRecDepth 20000 in
theorem ggL_law_X12_cell : GoodIn wsL_law wsX12_cell := goodIn_r _ [988, 98, 99, 100, 191, 192, 5, 193, 194, 195, 196, 197, 198, 205, 206, 207, 208, 1057, 1058, 1059, 1060, 1061, 1062, 1063, 1064, 1065, 1066, 1067, 1068, 1069, 1070, 1071, 1072, 1073, 1074, 1075, 1076, 1077, 1078, 1079, 1080, 1081, 1082, 1083, 1084, 1085, 1086, 1087, 1088] (by decide +kernel) (by decide +kernel)
set_option maxRecDepth 20000 in
theorem gL_law_X12_cell : GoodIn wsL_law (wsV RL 128 RX12 yX12_cell wsX12_cell) := goodIn_app (goodIn_of _ (by decide +kernel)) ggL_law_X12_cell
set_option maxRecDepth 20000 in
theorem ggL_law_X11_fromMap : GoodIn wsL_law wsX11_fromMap := goodIn_r _ [992, 15, 31, 965, 966, 2, 967, 121, 122, 123, 124, 32, 981, 982, 983, 30, 984, 84, 85, 213, 214, 215, 14, 216, 217, 218, 219, 220, 129, 119, 120, 221, 222, 223, 224, 225, 42, 43, 44, 45, 226, 227, 228, 229, 230, 41, 172, 173, 174, 175, 176, 46, 177, 178, 179, 180, 181, 182, 183, 184, 185, 1051, 1052, 1053, 1054, 1055, 1056, 1089, 1090, 1091, 1092, 1093, 1094, 1095, 1096, 1097, 1098, 1099, 1100, 1101, 1102, 1103, 1104, 1105, 1106, 1127, 1128, 1129] (by decide +kernel) (by decide +kernel)
set_option maxRecDepth 20000 in
theorem gL_law_X11_fromMap : GoodIn wsL_law (wsV RL 129 RX11 yX11_fromMap wsX11_fromMap) := goodIn_app (goodIn_of _ (by decide +kernel)) ggL_law_X11_fromMap
set_option maxRecDepth 20000 in
theorem ggL_law_X12_fromMap : GoodIn wsL_law wsX12_fromMap := goodIn_r _ [996, 235, 98, 99, 100, 191, 192, 5, 193, 194, 195, 196, 197, 198, 236, 237, 238, 239, 240, 241, 242, 243, 190, 244, 245, 246, 247, 94, 95, 96, 248, 199, 200, 201, 202, 203, 97, 204, 205, 206, 207, 208, 1057, 1058, 1059, 1060, 1061, 1062, 1063, 1064, 1065, 1066, 1067, 1068, 1069, 1070, 1071, 1072, 1073, 1074, 1075, 1076, 1077, 1078, 1079, 1080, 1081, 1082, 1083, 1084, 1085, 1086, 1087, 1088] (by decide +kernel) (by decide +kernel)
set_option maxRecDepth 20000 in
theorem gL_law_X12_fromMap : GoodIn wsL_law (wsV RL 132 RX12 yX12_fromMap wsX12_fromMap) := goodIn_app (goodIn_of _ (by decide +kernel)) ggL_law_X12_fromMap
set_option maxRecDepth 20000 in
theorem ggL_law_X11_forge : GoodIn wsL_law wsX11_forge := goodIn_r _ [1000, 121, 122, 123, 2, 124, 32, 1001, 1002, 1003, 1004, 1005, 1006, 1007, 1008, 15, 305, 306, 307, 14, 308, 37, 217, 218, 219, 220, 129, 1009, 1010, 1011, 1012, 1013, 1014, 1015, 309, 310, 311, 312, 313, 146, 314, 315, 316, 317, 318, 148, 319, 320, 137, 321, 322, 323, 143, 324, 325, 326, 140, 327, 182, 183, 184, 185, 1016, 1017, 1018, 1019, 31, 981, 982, 983, 30, 984, 84, 85, 1020, 1021, 1022, 1023, 1024, 1025, 1026, 1027, 1051, 1052, 1053, 1054, 1055, 1056, 1089, 1090, 1091, 1092, 1093, 1094, 1095, 1096, 1097, 1098, 1099, 1100, 1101, 1102, 1103, 1104, 1105, 1106, 1127, 1128, 1129] (by decide +kernel) (by decide +kernel)
set_option maxRecDepth 20000 in
theorem gL_law_X11_forge : GoodIn wsL_law (wsV RL 133 RX11 yX11_forge wsX11_forge) := goodIn_app (goodIn_of _ (by decide +kernel)) ggL_law_X11_forge
set_option maxRecDepth 20000 in
theorem ggL_law_X12_forge : GoodIn wsL_law wsX12_forge := goodIn_r _ [1031, 98, 99, 100, 92, 191, 192, 5, 193, 194, 195, 196, 197, 198, 1032, 1033, 1034, 1035, 1036, 1037, 1038, 240, 241, 242, 243, 190, 205, 206, 207, 208, 1039, 1040, 1041, 1042, 373, 374, 375, 376, 1057, 1058, 1059, 1060, 1061, 1062, 1063, 1064, 1065, 1066, 1067, 1068, 1069, 1070, 1071, 1072, 1073, 1074, 1075, 1076, 1077, 1078, 1079, 1080, 1081, 1082, 1083, 1084, 1085, 1086, 1087, 1088] (by decide +kernel) (by decide +kernel)
set_option maxRecDepth 20000 in
theorem gL_law_X12_forge : GoodIn wsL_law (wsV RL 136 RX12 yX12_forge wsX12_forge) := goodIn_app (goodIn_of _ (by decide +kernel)) ggL_law_X12_forge
set_option maxRecDepth 20000 in
theorem ggL_law_X11_status : GoodIn wsL_law wsX11_status := goodIn_r _ [1046, 32, 1051, 1052, 1053, 1054, 1055, 1056] (by decide +kernel) (by decide +kernel)
set_option maxRecDepth 20000 in
theorem gL_law_X11_status : GoodIn wsL_law (wsV RL 137 RX11 yX11_status wsX11_status) := goodIn_app (goodIn_of _ (by decide +kernel)) ggL_law_X11_status
set_option maxRecDepth 20000 in
theorem ggL_law_X12_status : GoodIn wsL_law wsX12_status := goodIn_r _ [1050, 198, 1057, 1058, 1059, 1060, 1061, 1062, 1063, 1064, 1065, 1066, 1067, 1068, 1069, 1070, 1071, 1072, 1073, 1074, 1075, 1076, 1077, 1078, 1079, 1080, 1081, 1082, 1083, 1084, 1085, 1086, 1087, 1088] (by decide +kernel) (by decide +kernel)
set_option maxRecDepth 20000 in
theorem gL_law_X12_status : GoodIn wsL_law (wsV RL 140 RX12 yX12_status wsX12_status) := goodIn_app (goodIn_of _ (by decide +kernel)) ggL_law_X12_status
