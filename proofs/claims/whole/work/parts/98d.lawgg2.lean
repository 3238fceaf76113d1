/-! words of the law's callees -/
set_option maxRecDepth 20000 in
theorem gL_law_X7_chart : GoodIn wsL_law0 (wsV RL 33 RX7 yX7_chart wsX7_chart) := goodIn_app (goodIn_of _ (by decide +kernel)) ggL_law_X7_chart
set_option maxRecDepth 20000 in
theorem ggL_law_X6_place : GoodIn wsL_law0 wsX6_place := goodIn_r _ [375, 20, 376, 143, 377, 378, 379, 380, 19, 381, 62, 63, 230, 2, 231, 366, 382, 248, 249, 383, 251, 252, 253, 64, 46, 47, 384, 385, 386, 387, 262, 263, 264, 265, 48, 388, 255, 256, 257, 258, 259, 260, 261, 274, 275, 276, 277, 25, 278, 29, 279, 30, 31, 32, 1033, 1034, 1035, 1036, 1037, 1038, 1039, 1040, 1041, 1085, 1086, 1087, 1088, 1089, 1090, 1091, 1092, 1093, 1094, 1095, 1096, 1097, 1098, 1099, 1100, 1101, 1102, 1103, 1104, 1105, 1106, 1107, 1108, 1109, 1110] (by decide +kernel) (by decide +kernel)
set_option maxRecDepth 20000 in
theorem gL_law_X6_place : GoodIn wsL_law0 (wsV RL 34 RX6 yX6_place wsX6_place) := goodIn_app (goodIn_of _ (by decide +kernel)) ggL_law_X6_place
set_option maxRecDepth 20000 in
theorem ggL_law_X7_place : GoodIn wsL_law0 wsX7_place := goodIn_r _ [392, 133, 90, 89, 111, 393, 394, 395, 5, 396, 109, 110, 290, 291, 292, 343, 344, 345, 397, 398, 399, 400, 87, 88, 401, 402, 403, 404, 358, 359, 360, 361, 354, 355, 356, 357, 1042, 1043, 1044, 1045, 1046, 1047, 1048, 1049, 1050, 1051, 1052, 1053, 1054, 1055, 1056, 1057, 1058, 1059, 1060, 1061, 1062, 1063, 1064, 1065, 1066, 1067, 1068, 1069, 1070, 1071, 1072, 1073, 1074, 1075, 1076] (by decide +kernel) (by decide +kernel)
set_option maxRecDepth 20000 in
theorem gL_law_X7_place : GoodIn wsL_law0 (wsV RL 38 RX7 yX7_place wsX7_place) := goodIn_app (goodIn_of _ (by decide +kernel)) ggL_law_X7_place
set_option maxRecDepth 20000 in
theorem ggL_law_X6_rock : GoodIn wsL_law0 wsX6_rock := goodIn_r _ [408, 20, 376, 378, 379, 380, 19, 381, 62, 63, 230, 2, 231, 382, 248, 249, 383, 251, 252, 253, 64, 46, 47, 274, 275, 276, 277, 25, 278, 29, 279, 30, 31, 32, 1033, 1034, 1035, 1036, 1037, 1038, 1039, 1040, 1041, 1085, 1086, 1087, 1088, 1089, 1090, 1091, 1092, 1093, 1094, 1095, 1096, 1097, 1098, 1099, 1100, 1101, 1102, 1103, 1104, 1105, 1106, 1107, 1108, 1109, 1110] (by decide +kernel) (by decide +kernel)
set_option maxRecDepth 20000 in
theorem gL_law_X6_rock : GoodIn wsL_law0 (wsV RL 39 RX6 yX6_rock wsX6_rock) := goodIn_app (goodIn_of _ (by decide +kernel)) ggL_law_X6_rock
set_option maxRecDepth 20000 in
theorem ggL_law_X7_rock : GoodIn wsL_law0 wsX7_rock := goodIn_r _ [412, 133, 90, 393, 394, 395, 5, 396, 109, 110, 290, 291, 292, 343, 344, 345, 397, 398, 399, 400, 111, 87, 88, 1042, 1043, 1044, 1045, 1046, 1047, 1048, 1049, 1050, 1051, 1052, 1053, 1054, 1055, 1056, 1057, 1058, 1059, 1060, 1061, 1062, 1063, 1064, 1065, 1066, 1067, 1068, 1069, 1070, 1071, 1072, 1073, 1074, 1075, 1076] (by decide +kernel) (by decide +kernel)
set_option maxRecDepth 20000 in
theorem gL_law_X7_rock : GoodIn wsL_law0 (wsV RL 43 RX7 yX7_rock wsX7_rock) := goodIn_app (goodIn_of _ (by decide +kernel)) ggL_law_X7_rock
set_option maxRecDepth 20000 in
theorem ggL_law_X6_set : GoodIn wsL_law0 wsX6_set := goodIn_r _ [416, 20, 417, 418, 419, 366, 230, 2, 231, 274, 275, 276, 277, 25, 278, 29, 279, 30, 31, 32, 1033, 1034, 1035, 1036, 1037, 1038, 1039, 1040, 1041, 1085, 1086, 1087, 1088, 1089, 1090, 1091, 1092, 1093, 1094, 1095, 1096, 1097, 1098, 1099, 1100, 1101, 1102, 1103, 1104, 1105, 1106, 1107, 1108, 1109, 1110] (by decide +kernel) (by decide +kernel)
set_option maxRecDepth 20000 in
theorem gL_law_X6_set : GoodIn wsL_law0 (wsV RL 44 RX6 yX6_set wsX6_set) := goodIn_app (goodIn_of _ (by decide +kernel)) ggL_law_X6_set
set_option maxRecDepth 20000 in
theorem ggL_law_X7_set : GoodIn wsL_law0 wsX7_set := goodIn_r _ [423, 133, 116, 117, 118, 290, 291, 5, 292, 1042, 1043, 1044, 1045, 1046, 1047, 1048, 1049, 1050, 1051, 1052, 1053, 1054, 1055, 1056, 1057, 1058, 1059, 1060, 1061, 1062, 1063, 1064, 1065, 1066, 1067, 1068, 1069, 1070, 1071, 1072, 1073, 1074, 1075, 1076] (by decide +kernel) (by decide +kernel)
set_option maxRecDepth 20000 in
theorem gL_law_X7_set : GoodIn wsL_law0 (wsV RL 47 RX7 yX7_set wsX7_set) := goodIn_app (goodIn_of _ (by decide +kernel)) ggL_law_X7_set
set_option maxRecDepth 20000 in
theorem ggL_law_L_at : GoodIn wsL_law0 wsL_at2 := goodIn_r _ [427, 428, 429, 430, 431, 2, 432, 433, 434, 20, 435, 436, 377, 437, 438, 439, 440, 143, 366, 230, 231, 1033, 1034, 1035, 1036, 1037, 1038, 1039, 1040, 1041, 1085, 1086, 1087, 1088, 1089, 1090, 1091, 1092, 1093, 1094] (by decide +kernel) (by decide +kernel)
set_option maxRecDepth 20000 in
theorem gL_law_L_at : GoodIn wsL_law0 (va_wsS RL 48 yL_at wsL_at2) := goodIn_app (goodIn_of _ (by decide +kernel)) ggL_law_L_at
