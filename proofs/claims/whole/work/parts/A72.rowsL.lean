set_option maxRecDepth 20000 in
theorem ggL_law_X11_apart : GoodIn wsL_law wsX11_apart := goodIn_r _ [380, 15, 19, 381, 382, 218, 219, 14, 220, 129, 383, 384, 385, 18, 386, 60, 387, 388, 389, 390, 391, 392, 62, 393, 394, 395, 396, 397, 258, 259, 260, 230, 261, 2, 262, 398, 399, 400, 401, 402, 403, 404, 405, 1051, 1052, 1053, 1054, 1055, 1056, 1089, 1090, 1091, 1092, 1093, 1094, 1095, 1096, 1097, 1098, 1099, 1100, 1101, 1102, 1103, 1104, 1105, 1106, 1107, 1108, 1109] (by decide +kernel) (by decide +kernel)
set_option maxRecDepth 20000 in
theorem gL_law_X11_apart : GoodIn wsL_law (wsV RL 45 RX11 yX11_apart wsX11_apart) := goodIn_app (goodIn_of _ (by decide +kernel)) ggL_law_X11_apart
set_option maxRecDepth 20000 in
theorem ggL_law_X12_apart : GoodIn wsL_law wsX12_apart := goodIn_r _ [409, 410, 411, 240, 241, 242, 5, 243, 190, 191, 192, 193, 412, 413, 414, 415, 107, 416, 417, 418, 419, 420, 421, 422, 423, 92, 93, 424, 425, 426, 427, 235, 248, 94, 95, 96, 281, 282, 283, 1057, 1058, 1059, 1060, 1061, 1062, 1063, 1064, 1065, 1066, 1067, 1068, 1069, 1070, 1071, 1072, 1073, 1074, 1075, 1076, 1077, 1078, 1079, 1080, 1081, 1082, 1083, 1084, 1085, 1086, 1087, 1088] (by decide +kernel) (by decide +kernel)
set_option maxRecDepth 20000 in
theorem gL_law_X12_apart : GoodIn wsL_law (wsV RL 48 RX12 yX12_apart wsX12_apart) := goodIn_app (goodIn_of _ (by decide +kernel)) ggL_law_X12_apart
set_option maxRecDepth 20000 in
theorem ggL_law_X11_way : GoodIn wsL_law wsX11_way := goodIn_r _ [431, 15, 19, 382, 218, 219, 14, 220, 129, 432, 433, 434, 18, 435, 62, 60, 387, 389, 390, 391, 392, 393, 394, 395, 396, 397, 258, 259, 260, 230, 261, 2, 262, 398, 399, 400, 401, 402, 403, 404, 405, 436, 437, 438, 439, 1051, 1052, 1053, 1054, 1055, 1056, 1089, 1090, 1091, 1092, 1093, 1094, 1095, 1096, 1097, 1098, 1099, 1100, 1101, 1102, 1103, 1104, 1105, 1106, 1107, 1108, 1109] (by decide +kernel) (by decide +kernel)
set_option maxRecDepth 20000 in
theorem gL_law_X11_way : GoodIn wsL_law (wsV RL 49 RX11 yX11_way wsX11_way) := goodIn_app (goodIn_of _ (by decide +kernel)) ggL_law_X11_way
set_option maxRecDepth 20000 in
theorem ggL_law_X12_way : GoodIn wsL_law wsX12_way := goodIn_r _ [443, 411, 107, 240, 241, 242, 5, 243, 190, 191, 192, 193, 412, 413, 414, 415, 416, 417, 418, 419, 420, 421, 422, 423, 92, 93, 424, 425, 426, 427, 235, 248, 94, 95, 96, 281, 282, 283, 1057, 1058, 1059, 1060, 1061, 1062, 1063, 1064, 1065, 1066, 1067, 1068, 1069, 1070, 1071, 1072, 1073, 1074, 1075, 1076, 1077, 1078, 1079, 1080, 1081, 1082, 1083, 1084, 1085, 1086, 1087, 1088] (by decide +kernel) (by decide +kernel)
set_option maxRecDepth 20000 in
theorem gL_law_X12_way : GoodIn wsL_law (wsV RL 52 RX12 yX12_way wsX12_way) := goodIn_app (goodIn_of _ (by decide +kernel)) ggL_law_X12_way
set_option maxRecDepth 20000 in
theorem ggL_law_X11_span : GoodIn wsL_law wsX11_span := goodIn_r _ [447, 19, 448, 449, 450, 18, 451, 62, 388, 61, 387, 393, 394, 395, 396, 452, 453, 334, 454, 455, 456, 457, 458, 459, 60, 460, 461, 462, 463, 389, 390, 391, 392, 397, 258, 259, 14, 260, 230, 261, 2, 262, 398, 399, 400, 401, 402, 403, 404, 405, 464, 465, 466, 467, 1051, 1052, 1053, 1054, 1055, 1056, 1107, 1108, 1109, 1089, 1090, 1091, 1092, 1093, 1094, 1095, 1096, 1097, 1098, 1099, 1100, 1101, 1102, 1103, 1104, 1105, 1106] (by decide +kernel) (by decide +kernel)
set_option maxRecDepth 20000 in
theorem gL_law_X11_span : GoodIn wsL_law (wsV RL 53 RX11 yX11_span wsX11_span) := goodIn_app (goodIn_of _ (by decide +kernel)) ggL_law_X11_span
set_option maxRecDepth 20000 in
theorem ggL_law_X12_span : GoodIn wsL_law wsX12_span := goodIn_r _ [471, 410, 411, 190, 107, 369, 370, 371, 5, 372, 373, 374, 375, 376, 92, 416, 417, 418, 419, 420, 421, 422, 423, 93, 424, 425, 426, 427, 235, 248, 94, 95, 96, 281, 282, 283, 1057, 1058, 1059, 1060, 1061, 1062, 1063, 1064, 1065, 1066, 1067, 1068, 1069, 1070, 1071, 1072, 1073, 1074, 1075, 1076, 1077, 1078, 1079, 1080, 1081, 1082, 1083, 1084, 1085, 1086, 1087, 1088] (by decide +kernel) (by decide +kernel)
set_option maxRecDepth 20000 in
theorem gL_law_X12_span : GoodIn wsL_law (wsV RL 56 RX12 yX12_span wsX12_span) := goodIn_app (goodIn_of _ (by decide +kernel)) ggL_law_X12_span
set_option maxRecDepth 20000 in
theorem ggL_law_X11_least : GoodIn wsL_law wsX11_least := goodIn_r _ [475, 23, 476, 477, 478, 22, 479, 480, 481, 482, 483, 484, 485, 486, 70, 71, 68, 487, 394, 395, 396, 488, 453, 334, 454, 455, 489, 490, 491, 492, 493, 494, 495, 496, 497, 498, 499, 500, 501, 502, 69, 503, 504, 505, 506, 507, 508, 509, 510, 511, 38, 512, 461, 462, 463, 513, 178, 179, 180, 514, 515, 516, 517, 261, 2, 262, 1051, 1052, 1053, 1054, 1055, 1056, 1110, 1111, 1112, 1113, 1114, 1115, 1116, 1117, 1118, 1089, 1090, 1091, 1092, 1093, 1094, 1095, 1096, 1097, 1098, 1099, 1100, 1101, 1102, 1103, 1104, 1105, 1106] (by decide +kernel) (by decide +kernel)
set_option maxRecDepth 20000 in
theorem gL_law_X11_least : GoodIn wsL_law (wsV RL 57 RX11 yX11_least wsX11_least) := goodIn_app (goodIn_of _ (by decide +kernel)) ggL_law_X11_least
set_option maxRecDepth 20000 in
theorem ggL_law_X12_least : GoodIn wsL_law wsX12_least := goodIn_r _ [521, 522, 410, 523, 524, 525, 526, 5, 527, 204, 528, 248, 104, 105, 106, 529, 530, 531, 532, 281, 282, 283, 533, 534, 535, 536, 190, 102, 537, 235, 94, 95, 369, 370, 371, 372, 373, 374, 375, 376, 92, 366, 367, 368, 538, 539, 540, 541, 96, 93, 542, 543, 544, 545, 1057, 1058, 1059, 1060, 1061, 1062, 1063, 1064, 1065, 1066, 1067, 1068, 1069, 1070, 1071, 1072, 1073, 1074, 1075, 1076, 1077, 1078, 1079, 1080, 1081, 1082, 1083, 1084, 1085, 1086, 1087, 1088] (by decide +kernel) (by decide +kernel)
set_option maxRecDepth 20000 in
theorem gL_law_X12_least : GoodIn wsL_law (wsV RL 60 RX12 yX12_least wsX12_least) := goodIn_app (goodIn_of _ (by decide +kernel)) ggL_law_X12_least
set_option maxRecDepth 20000 in
theorem ggL_law_X11_many : GoodIn wsL_law wsX11_many := goodIn_r _ [549, 23, 550, 551, 552, 22, 553, 480, 483, 484, 485, 486, 70, 71, 68, 487, 394, 395, 396, 488, 453, 334, 454, 455, 489, 490, 491, 492, 493, 494, 495, 496, 482, 497, 498, 499, 500, 501, 502, 69, 503, 504, 505, 506, 507, 508, 509, 510, 511, 38, 512, 461, 462, 463, 513, 178, 179, 180, 514, 515, 516, 517, 261, 2, 262, 1051, 1052, 1053, 1054, 1055, 1056, 1110, 1111, 1112, 1113, 1114, 1115, 1116, 1117, 1118, 1089, 1090, 1091, 1092, 1093, 1094, 1095, 1096, 1097, 1098, 1099, 1100, 1101, 1102, 1103, 1104, 1105, 1106] (by decide +kernel) (by decide +kernel)
set_option maxRecDepth 20000 in
theorem gL_law_X11_many : GoodIn wsL_law (wsV RL 61 RX11 yX11_many wsX11_many) := goodIn_app (goodIn_of _ (by decide +kernel)) ggL_law_X11_many
set_option maxRecDepth 20000 in
theorem ggL_law_X12_many : GoodIn wsL_law wsX12_many := goodIn_r _ [557, 529, 524, 525, 526, 5, 527, 204, 522, 528, 248, 104, 105, 106, 410, 523, 530, 531, 532, 281, 282, 283, 533, 534, 535, 536, 190, 102, 537, 235, 94, 95, 369, 370, 371, 372, 373, 374, 375, 376, 92, 366, 367, 368, 538, 539, 540, 541, 96, 93, 542, 543, 544, 545, 1057, 1058, 1059, 1060, 1061, 1062, 1063, 1064, 1065, 1066, 1067, 1068, 1069, 1070, 1071, 1072, 1073, 1074, 1075, 1076, 1077, 1078, 1079, 1080, 1081, 1082, 1083, 1084, 1085, 1086, 1087, 1088] (by decide +kernel) (by decide +kernel)
set_option maxRecDepth 20000 in
theorem gL_law_X12_many : GoodIn wsL_law (wsV RL 64 RX12 yX12_many wsX12_many) := goodIn_app (goodIn_of _ (by decide +kernel)) ggL_law_X12_many
set_option maxRecDepth 20000 in
theorem ggL_law_X11_best : GoodIn wsL_law wsX11_best := goodIn_r _ [561, 23, 562, 563, 564, 22, 565, 480, 71, 69, 483, 484, 485, 486, 70, 68, 487, 394, 395, 396, 488, 453, 334, 454, 455, 489, 490, 491, 492, 493, 494, 495, 496, 482, 497, 498, 499, 500, 501, 502, 503, 504, 505, 506, 507, 508, 509, 510, 511, 38, 512, 461, 462, 463, 513, 178, 179, 180, 514, 515, 516, 517, 261, 2, 262, 1051, 1052, 1053, 1054, 1055, 1056, 1110, 1111, 1112, 1113, 1114, 1115, 1116, 1117, 1118, 1089, 1090, 1091, 1092, 1093, 1094, 1095, 1096, 1097, 1098, 1099, 1100, 1101, 1102, 1103, 1104, 1105, 1106] (by decide +kernel) (by decide +kernel)
set_option maxRecDepth 20000 in
theorem gL_law_X11_best : GoodIn wsL_law (wsV RL 65 RX11 yX11_best wsX11_best) := goodIn_app (goodIn_of _ (by decide +kernel)) ggL_law_X11_best
set_option maxRecDepth 20000 in
theorem ggL_law_X12_best : GoodIn wsL_law wsX12_best := goodIn_r _ [569, 522, 104, 524, 525, 526, 5, 527, 204, 528, 248, 105, 106, 410, 523, 529, 530, 531, 532, 281, 282, 283, 533, 534, 535, 536, 190, 102, 537, 235, 94, 95, 369, 370, 371, 372, 373, 374, 375, 376, 92, 366, 367, 368, 538, 539, 540, 541, 96, 93, 542, 543, 544, 545, 570, 571, 572, 573, 574, 575, 576, 1057, 1058, 1059, 1060, 1061, 1062, 1063, 1064, 1065, 1066, 1067, 1068, 1069, 1070, 1071, 1072, 1073, 1074, 1075, 1076, 1077, 1078, 1079, 1080, 1081, 1082, 1083, 1084, 1085, 1086, 1087, 1088] (by decide +kernel) (by decide +kernel)
set_option maxRecDepth 20000 in
theorem gL_law_X12_best : GoodIn wsL_law (wsV RL 68 RX12 yX12_best wsX12_best) := goodIn_app (goodIn_of _ (by decide +kernel)) ggL_law_X12_best
set_option maxRecDepth 20000 in
theorem ggL_law_X11_must : GoodIn wsL_law wsX11_must := goodIn_r _ [580, 15, 23, 253, 254, 255, 14, 256, 225, 581, 582, 583, 22, 584, 480, 497, 498, 483, 484, 485, 486, 70, 71, 68, 487, 394, 395, 396, 488, 453, 334, 454, 455, 489, 490, 491, 492, 493, 494, 495, 496, 482, 499, 500, 501, 502, 69, 503, 504, 505, 506, 507, 508, 509, 510, 511, 38, 512, 461, 462, 463, 513, 178, 179, 180, 514, 515, 516, 517, 261, 2, 262, 1051, 1052, 1053, 1054, 1055, 1056, 1089, 1090, 1091, 1092, 1093, 1094, 1095, 1096, 1097, 1098, 1099, 1100, 1101, 1102, 1103, 1104, 1105, 1106, 1110, 1111, 1112, 1113, 1114, 1115, 1116, 1117, 1118] (by decide +kernel) (by decide +kernel)
set_option maxRecDepth 20000 in
theorem gL_law_X11_must : GoodIn wsL_law (wsV RL 69 RX11 yX11_must wsX11_must) := goodIn_app (goodIn_of _ (by decide +kernel)) ggL_law_X11_must
set_option maxRecDepth 20000 in
theorem ggL_law_X12_must : GoodIn wsL_law wsX12_must := goodIn_r _ [588, 522, 104, 529, 524, 525, 526, 5, 527, 204, 528, 248, 105, 106, 410, 523, 530, 531, 532, 281, 282, 283, 533, 534, 535, 536, 190, 102, 537, 235, 94, 95, 369, 370, 371, 372, 373, 374, 375, 376, 92, 366, 367, 368, 538, 539, 540, 541, 96, 93, 542, 543, 544, 545, 277, 278, 279, 280, 191, 192, 193, 570, 571, 572, 573, 1057, 1058, 1059, 1060, 1061, 1062, 1063, 1064, 1065, 1066, 1067, 1068, 1069, 1070, 1071, 1072, 1073, 1074, 1075, 1076, 1077, 1078, 1079, 1080, 1081, 1082, 1083, 1084, 1085, 1086, 1087, 1088] (by decide +kernel) (by decide +kernel)
set_option maxRecDepth 20000 in
theorem gL_law_X12_must : GoodIn wsL_law (wsV RL 72 RX12 yX12_must wsX12_must) := goodIn_app (goodIn_of _ (by decide +kernel)) ggL_law_X12_must
set_option maxRecDepth 20000 in
theorem ggL_law_X11_most : GoodIn wsL_law wsX11_most := goodIn_r _ [592, 23, 593, 594, 595, 22, 596, 68, 481, 483, 484, 485, 486, 70, 71, 480, 487, 394, 395, 396, 488, 453, 334, 454, 455, 489, 490, 491, 492, 493, 494, 495, 496, 482, 497, 498, 499, 500, 501, 502, 69, 503, 504, 505, 506, 507, 508, 509, 510, 511, 38, 512, 461, 462, 463, 513, 178, 179, 180, 514, 515, 516, 517, 261, 2, 262, 1051, 1052, 1053, 1054, 1055, 1056, 1110, 1111, 1112, 1113, 1114, 1115, 1116, 1117, 1118, 1089, 1090, 1091, 1092, 1093, 1094, 1095, 1096, 1097, 1098, 1099, 1100, 1101, 1102, 1103, 1104, 1105, 1106] (by decide +kernel) (by decide +kernel)
set_option maxRecDepth 20000 in
theorem gL_law_X11_most : GoodIn wsL_law (wsV RL 73 RX11 yX11_most wsX11_most) := goodIn_app (goodIn_of _ (by decide +kernel)) ggL_law_X11_most
set_option maxRecDepth 20000 in
theorem ggL_law_X12_most : GoodIn wsL_law wsX12_most := goodIn_r _ [600, 410, 522, 105, 106, 524, 525, 526, 5, 527, 204, 528, 248, 104, 523, 529, 530, 531, 532, 281, 282, 283, 533, 534, 535, 536, 190, 102, 537, 235, 94, 95, 369, 370, 371, 372, 373, 374, 375, 376, 92, 366, 367, 368, 538, 539, 540, 541, 96, 93, 542, 543, 544, 545, 1057, 1058, 1059, 1060, 1061, 1062, 1063, 1064, 1065, 1066, 1067, 1068, 1069, 1070, 1071, 1072, 1073, 1074, 1075, 1076, 1077, 1078, 1079, 1080, 1081, 1082, 1083, 1084, 1085, 1086, 1087, 1088] (by decide +kernel) (by decide +kernel)
set_option maxRecDepth 20000 in
theorem gL_law_X12_most : GoodIn wsL_law (wsV RL 76 RX12 yX12_most wsX12_most) := goodIn_app (goodIn_of _ (by decide +kernel)) ggL_law_X12_most
