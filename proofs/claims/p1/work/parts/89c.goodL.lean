set_option maxRecDepth 20000 in
theorem ggL_law_X10_removePart : GoodIn wsL_law wsX10_removePart := goodIn_r _ [477, 15, 414, 416, 169, 172, 173, 2, 174, 417, 418, 419, 420, 19, 50, 421, 422, 423, 18, 424, 87, 88, 425, 426, 427, 428, 429, 430, 431, 432, 86, 433, 434, 435, 14, 436, 58, 59, 60, 61, 62, 63, 64, 437, 438, 439, 57, 440, 77, 78, 79, 80, 69, 441, 70, 71, 72, 478, 479, 480, 481, 482, 483, 351, 252, 253, 352, 180, 181, 1016, 1017, 1018, 1019, 1020, 1021, 1022, 1023, 1024, 1025, 1026, 1060, 1061, 1062, 1109, 1110, 1111, 1112, 1113, 1114, 1115, 1116, 1063, 1064, 1065] (by decide +kernel) (by decide +kernel)
set_option maxRecDepth 20000 in
theorem gL_law_X10_removePart : GoodIn wsL_law (wsV RL 36 RX10 yX10_removePart wsX10_removePart) := goodIn_app (goodIn_of _ (by decide +kernel)) ggL_law_X10_removePart
set_option maxRecDepth 20000 in
theorem ggL_law_X11_removePart : GoodIn wsL_law wsX11_removePart := goodIn_r _ [487, 188, 140, 488, 489, 490, 5, 491, 191, 192, 193, 448, 449, 450, 451, 452, 141, 1027, 1028, 1029, 1030, 1031, 1032, 1033, 1034, 1035, 1036, 1037, 1038, 1039, 1040, 1041, 1042, 1043, 1044, 1045, 1046, 1047, 1048, 1049, 1050, 1051, 1052, 1053, 1054, 1055, 1056, 1057, 1058, 1059] (by decide +kernel) (by decide +kernel)
set_option maxRecDepth 20000 in
theorem gL_law_X11_removePart : GoodIn wsL_law (wsV RL 39 RX11 yX11_removePart wsX11_removePart) := goodIn_app (goodIn_of _ (by decide +kernel)) ggL_law_X11_removePart
set_option maxRecDepth 20000 in
theorem ggL_law_X10_set : GoodIn wsL_law wsX10_set := goodIn_r _ [495, 496, 497, 169, 15, 498, 172, 173, 2, 174, 351, 252, 253, 417, 418, 419, 420, 19, 50, 421, 422, 423, 18, 424, 87, 88, 425, 426, 427, 428, 429, 430, 431, 432, 86, 433, 434, 435, 14, 436, 58, 59, 60, 61, 62, 63, 64, 437, 438, 439, 57, 440, 77, 78, 79, 80, 69, 441, 70, 71, 72, 352, 180, 181, 1016, 1017, 1018, 1019, 1020, 1021, 1022, 1023, 1024, 1025, 1026, 1060, 1061, 1062, 1063, 1064, 1065, 1109, 1110, 1111, 1112, 1113, 1114, 1115, 1116] (by decide +kernel) (by decide +kernel)
set_option maxRecDepth 20000 in
theorem gL_law_X10_set : GoodIn wsL_law (wsV RL 40 RX10 yX10_set wsX10_set) := goodIn_app (goodIn_of _ (by decide +kernel)) ggL_law_X10_set
set_option maxRecDepth 20000 in
theorem ggL_law_X11_set : GoodIn wsL_law wsX11_set := goodIn_r _ [502, 503, 188, 140, 191, 192, 5, 193, 504, 505, 506, 507, 508, 509, 510, 511, 448, 449, 450, 451, 452, 141, 512, 513, 514, 515, 1027, 1028, 1029, 1030, 1031, 1032, 1033, 1034, 1035, 1036, 1037, 1038, 1039, 1040, 1041, 1042, 1043, 1044, 1045, 1046, 1047, 1048, 1049, 1050, 1051, 1052, 1053, 1054, 1055, 1056, 1057, 1058, 1059] (by decide +kernel) (by decide +kernel)
set_option maxRecDepth 20000 in
theorem gL_law_X11_set : GoodIn wsL_law (wsV RL 44 RX11 yX11_set wsX11_set) := goodIn_app (goodIn_of _ (by decide +kernel)) ggL_law_X11_set
set_option maxRecDepth 20000 in
theorem ggL_law_X10_undo : GoodIn wsL_law wsX10_undo := goodIn_r _ [519, 19, 520, 413, 50, 15, 521, 522, 523, 18, 524, 87, 88, 429, 430, 431, 432, 86, 433, 434, 435, 14, 436, 58, 59, 60, 61, 62, 63, 64, 437, 438, 439, 57, 440, 77, 78, 79, 80, 69, 441, 70, 71, 72, 1016, 1017, 1018, 1019, 1020, 1021, 1022, 1023, 1024, 1025, 1026, 1063, 1064, 1065, 1060, 1061, 1062, 1109, 1110, 1111, 1112, 1113, 1114, 1115, 1116] (by decide +kernel) (by decide +kernel)
set_option maxRecDepth 20000 in
theorem gL_law_X10_undo : GoodIn wsL_law (wsV RL 45 RX10 yX10_undo wsX10_undo) := goodIn_app (goodIn_of _ (by decide +kernel)) ggL_law_X10_undo
set_option maxRecDepth 20000 in
theorem ggL_law_X11_undo : GoodIn wsL_law wsX11_undo := goodIn_r _ [528, 452, 447, 140, 141, 1027, 1028, 1029, 1030, 1031, 1032, 1033, 1034, 1035, 1036, 1037, 1038, 1039, 1040, 1041, 1042, 1043, 1044, 1045, 1046, 1047, 1048, 1049, 1050, 1051, 1052, 1053, 1054, 1055, 1056, 1057, 1058, 1059] (by decide +kernel) (by decide +kernel)
set_option maxRecDepth 20000 in
theorem gL_law_X11_undo : GoodIn wsL_law (wsV RL 48 RX11 yX11_undo wsX11_undo) := goodIn_app (goodIn_of _ (by decide +kernel)) ggL_law_X11_undo
