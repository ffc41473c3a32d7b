set_option maxRecDepth 20000 in
theorem lwi_wsL_law_r1 : ∀ w ∈ wsL_law_r1, w ∈ lw_tbl := fun w h => (goodIn_r wsL_law_r1 [80, 81, 62, 971, 972, 74, 82, 83, 84, 85, 86, 87, 88, 89, 63, 405, 169, 170, 66, 406, 189, 190, 67, 407] (by decide +kernel) (by decide +kernel) w h).1
set_option maxRecDepth 20000 in
theorem lwi_wsL_law_r2 : ∀ w ∈ wsL_law_r2, w ∈ lw_tbl := fun w h => (goodIn_r wsL_law_r2 [230, 231, 68, 408, 243, 244, 69, 409, 266, 267, 70, 410, 279, 280, 71, 411, 316, 317, 72, 412, 359, 360, 73, 413] (by decide +kernel) (by decide +kernel) w h).1
set_option maxRecDepth 20000 in
theorem lwi_wsL_law_r3 : ∀ w ∈ wsL_law_r3, w ∈ lw_tbl := fun w h => (goodIn_r wsL_law_r3 [150, 414, 415, 90, 91, 92, 93, 94, 95, 64, 156, 158, 153, 155, 154, 65, 160, 96, 97, 98, 99, 121, 124, 128] (by decide +kernel) (by decide +kernel) w h).1
set_option maxRecDepth 20000 in
theorem lwi_wsL_law_r4 : ∀ w ∈ wsL_law_r4, w ∈ lw_tbl := fun w h => (goodIn_r wsL_law_r4 [130, 100, 101, 102, 103, 105, 109, 112, 116, 171, 172, 173, 174, 175, 178, 179, 180, 177, 192, 193, 194, 197, 198, 199] (by decide +kernel) (by decide +kernel) w h).1
set_option maxRecDepth 20000 in
theorem lwi_wsL_law_r5 : ∀ w ∈ wsL_law_r5, w ∈ lw_tbl := fun w h => (goodIn_r wsL_law_r5 [195, 200, 196, 233, 234, 235, 236, 237, 246, 247, 248, 269, 270, 271, 282, 283, 284, 285, 287, 291, 293, 295, 319, 320] (by decide +kernel) (by decide +kernel) w h).1
set_option maxRecDepth 20000 in
theorem lwi_wsL_law_r6 : ∀ w ∈ wsL_law_r6, w ∈ lw_tbl := fun w h => (goodIn_r wsL_law_r6 [321, 322, 324, 326, 328, 362, 363, 364, 365, 367, 369, 371, 373, 375, 377, 379, 973, 974, 975, 976, 980, 981, 983, 985] (by decide +kernel) (by decide +kernel) w h).1
set_option maxRecDepth 20000 in
theorem lwi_wsL_law_r7 : ∀ w ∈ wsL_law_r7, w ∈ lw_tbl := fun w h => (goodIn_r wsL_law_r7 [990, 992, 993, 994, 996, 997, 999, 1000, 1001, 1002, 1005, 1006, 1007, 1008, 1009, 1010, 1011, 1012, 977, 978, 979, 439, 440, 441] (by decide +kernel) (by decide +kernel) w h).1
set_option maxRecDepth 20000 in
theorem lwi_wsL_law_r8 : ∀ w ∈ wsL_law_r8, w ∈ lw_tbl := fun w h => (goodIn_r wsL_law_r8 [442, 446, 203, 447, 443, 444, 445, 448, 449, 450, 451, 202, 453, 454, 1085, 1086, 1087, 1088, 1089, 1090, 1094, 984, 1095, 1091] (by decide +kernel) (by decide +kernel) w h).1
set_option maxRecDepth 20000 in
theorem lwi_wsL_law_r9 : ∀ w ∈ wsL_law_r9, w ∈ lw_tbl := fun w h => (goodIn_r wsL_law_r9 [1092, 1093, 455, 456, 457, 458, 459, 460, 461, 462, 1096, 1097, 1098, 1099, 463, 464, 465, 466, 204, 608, 206, 208, 467, 468] (by decide +kernel) (by decide +kernel) w h).1
set_option maxRecDepth 20000 in
theorem lwi_wsL_law_r10 : ∀ w ∈ wsL_law_r10, w ∈ lw_tbl := fun w h => (goodIn_r wsL_law_r10 [469, 470, 205, 210, 471, 472, 474, 0, 475, 476, 478, 1, 479, 480, 481, 482, 489, 491, 2, 492, 493, 494, 495, 75] (by decide +kernel) (by decide +kernel) w h).1
set_option maxRecDepth 20000 in
theorem lwi_wsL_law_r11 : ∀ w ∈ wsL_law_r11, w ∈ lw_tbl := fun w h => (goodIn_r wsL_law_r11 [496, 1334, 497, 498, 499, 500, 501, 1335, 503, 505, 3, 506, 508, 509, 510, 511, 512, 513, 514, 515, 516, 517, 518, 519] (by decide +kernel) (by decide +kernel) w h).1
set_option maxRecDepth 20000 in
theorem lwi_wsL_law_r12 : ∀ w ∈ wsL_law_r12, w ∈ lw_tbl := fun w h => (goodIn_r wsL_law_r12 [76, 520, 521, 522, 523, 524, 526, 527, 77, 528, 529, 530, 78, 531, 532, 533, 534, 535, 536, 537, 538, 539, 540, 541] (by decide +kernel) (by decide +kernel) w h).1
set_option maxRecDepth 20000 in
theorem lwi_wsL_law_r13 : ∀ w ∈ wsL_law_r13, w ∈ lw_tbl := fun w h => (goodIn_r wsL_law_r13 [542, 544, 546, 548, 549, 550, 552, 553, 554, 555, 557, 4, 558, 207, 209, 559, 561, 5, 562, 563, 565, 6, 566, 567] (by decide +kernel) (by decide +kernel) w h).1
set_option maxRecDepth 20000 in
theorem lwi_wsL_law_r14 : ∀ w ∈ wsL_law_r14, w ∈ lw_tbl := fun w h => (goodIn_r wsL_law_r14 [569, 7, 570, 571, 573, 8, 574, 575, 576, 577, 578, 580, 581, 582, 583, 584, 585, 586, 588, 9, 589, 120, 590, 591] (by decide +kernel) (by decide +kernel) w h).1
set_option maxRecDepth 20000 in
theorem lwi_wsL_law_r15 : ∀ w ∈ wsL_law_r15, w ∈ lw_tbl := fun w h => (goodIn_r wsL_law_r15 [592, 593, 595, 597, 10, 598, 108, 111, 115, 599, 600, 601, 602, 604, 605, 606, 607, 1100, 1101, 1102, 1103, 1104, 1150, 987] (by decide +kernel) (by decide +kernel) w h).1
set_option maxRecDepth 20000 in
theorem lwi_wsL_law_r16 : ∀ w ∈ wsL_law_r16, w ∈ lw_tbl := fun w h => (goodIn_r wsL_law_r16 [988, 989, 1105, 1107, 33, 1108, 986, 1109, 1111, 34, 1112, 991, 1113, 1115, 35, 1116, 1117, 1118, 1119, 1120, 1121, 1122, 1123, 1124] (by decide +kernel) (by decide +kernel) w h).1
set_option maxRecDepth 20000 in
theorem lwi_wsL_law_r17 : ∀ w ∈ wsL_law_r17, w ∈ lw_tbl := fun w h => (goodIn_r wsL_law_r17 [1125, 1126, 1127, 1128, 1130, 36, 1131, 1132, 1133, 1134, 1136, 37, 1137, 1138, 1139, 1140, 1141, 1142, 1143, 1145, 38, 1146, 1147, 1148] (by decide +kernel) (by decide +kernel) w h).1
set_option maxRecDepth 20000 in
theorem lwi_wsL_law_r18 : ∀ w ∈ wsL_law_r18, w ∈ lw_tbl := fun w h => (goodIn_r wsL_law_r18 [1149, 610, 611, 612, 613, 614, 157, 201, 118, 615, 617, 11, 618, 619, 620, 621, 622, 636, 637, 79, 638, 623, 625, 12] (by decide +kernel) (by decide +kernel) w h).1
set_option maxRecDepth 20000 in
theorem lwi_wsL_law_r19 : ∀ w ∈ wsL_law_r19, w ∈ lw_tbl := fun w h => (goodIn_r wsL_law_r19 [626, 627, 628, 629, 630, 631, 632, 633, 634, 635, 639, 1151, 1152, 1153, 1154, 1084, 1155, 1157, 39, 1158, 982, 640, 641, 642] (by decide +kernel) (by decide +kernel) w h).1
set_option maxRecDepth 20000 in
theorem lwi_wsL_law_r20 : ∀ w ∈ wsL_law_r20, w ∈ lw_tbl := fun w h => (goodIn_r wsL_law_r20 [643, 644, 645, 646, 647, 648, 1159, 1160, 1161, 1162, 1163, 1165, 40, 1166, 1167, 1169, 41, 1170, 649, 650, 651, 652, 653, 654] (by decide +kernel) (by decide +kernel) w h).1
set_option maxRecDepth 20000 in
theorem lwi_wsL_law_r21 : ∀ w ∈ wsL_law_r21, w ∈ lw_tbl := fun w h => (goodIn_r wsL_law_r21 [655, 656, 658, 659, 1171, 1172, 1173, 1174, 1175, 1177, 42, 1178, 660, 661, 662, 663, 664, 666, 159, 1179, 1180, 1181, 1182, 1183] (by decide +kernel) (by decide +kernel) w h).1
set_option maxRecDepth 20000 in
theorem lwi_wsL_law_r22 : ∀ w ∈ wsL_law_r22, w ∈ lw_tbl := fun w h => (goodIn_r wsL_law_r22 [1184, 1185, 1186, 1187, 1188, 1189, 1190, 1191, 1192, 1194, 43, 1195, 668, 669, 670, 671, 181, 672, 673, 674, 675, 1080, 1081, 1082] (by decide +kernel) (by decide +kernel) w h).1
set_option maxRecDepth 20000 in
theorem lwi_wsL_law_r23 : ∀ w ∈ wsL_law_r23, w ∈ lw_tbl := fun w h => (goodIn_r wsL_law_r23 [1083, 676, 677, 678, 679, 107, 110, 114, 680, 681, 682, 683, 684, 1196, 1197, 1198, 1199, 1200, 1201, 1203, 44, 1204, 685, 686] (by decide +kernel) (by decide +kernel) w h).1
set_option maxRecDepth 20000 in
theorem lwi_wsL_law_r24 : ∀ w ∈ wsL_law_r24, w ∈ lw_tbl := fun w h => (goodIn_r wsL_law_r24 [687, 688, 123, 126, 129, 132, 689, 691, 13, 692, 693, 695, 14, 696, 331, 335, 697, 698, 699, 700, 298, 289, 701, 703] (by decide +kernel) (by decide +kernel) w h).1
set_option maxRecDepth 20000 in
theorem lwi_wsL_law_r25 : ∀ w ∈ wsL_law_r25, w ∈ lw_tbl := fun w h => (goodIn_r wsL_law_r25 [15, 704, 117, 122, 125, 131, 113, 106, 706, 708, 16, 709, 711, 713, 17, 714, 715, 716, 717, 718, 720, 721, 722, 723] (by decide +kernel) (by decide +kernel) w h).1
set_option maxRecDepth 20000 in
theorem lwi_wsL_law_r26 : ∀ w ∈ wsL_law_r26, w ∈ lw_tbl := fun w h => (goodIn_r wsL_law_r26 [104, 332, 725, 727, 18, 728, 729, 730, 731, 732, 733, 734, 735, 736, 737, 739, 740, 742, 744, 19, 745, 290, 286, 288] (by decide +kernel) (by decide +kernel) w h).1
set_option maxRecDepth 20000 in
theorem lwi_wsL_law_r27 : ∀ w ∈ wsL_law_r27, w ∈ lw_tbl := fun w h => (goodIn_r wsL_law_r27 [299, 296, 746, 748, 20, 749, 750, 751, 752, 753, 754, 756, 21, 757, 336, 337, 338, 339, 758, 760, 22, 761, 762, 763] (by decide +kernel) (by decide +kernel) w h).1
set_option maxRecDepth 20000 in
theorem lwi_wsL_law_r28 : ∀ w ∈ wsL_law_r28, w ∈ lw_tbl := fun w h => (goodIn_r wsL_law_r28 [764, 765, 272, 273, 767, 768, 769, 770, 771, 773, 774, 775, 776, 381, 383, 792, 778, 779, 780, 781, 782, 783, 784, 786] (by decide +kernel) (by decide +kernel) w h).1
set_option maxRecDepth 20000 in
theorem lwi_wsL_law_r29 : ∀ w ∈ wsL_law_r29, w ∈ lw_tbl := fun w h => (goodIn_r wsL_law_r29 [23, 787, 789, 790, 791, 793, 794, 795, 796, 797, 799, 24, 800, 801, 803, 25, 804, 805, 806, 807, 808, 127, 809, 810] (by decide +kernel) (by decide +kernel) w h).1
set_option maxRecDepth 20000 in
theorem lwi_wsL_law_r30 : ∀ w ∈ wsL_law_r30, w ∈ lw_tbl := fun w h => (goodIn_r wsL_law_r30 [811, 812, 813, 815, 26, 816, 817, 819, 27, 820, 821, 822, 823, 824, 826, 827, 828, 829, 830, 831, 832, 833, 1297, 1298] (by decide +kernel) (by decide +kernel) w h).1
set_option maxRecDepth 20000 in
theorem lwi_wsL_law_r31 : ∀ w ∈ wsL_law_r31, w ∈ lw_tbl := fun w h => (goodIn_r wsL_law_r31 [1299, 1300, 1284, 1259, 1261, 52, 1262, 1003, 1004, 1218, 1220, 46, 1221, 1235, 995, 998, 1222, 1224, 47, 1225, 1226, 1228, 48, 1229] (by decide +kernel) (by decide +kernel) w h).1
set_option maxRecDepth 20000 in
theorem lwi_wsL_law_r32 : ∀ w ∈ wsL_law_r32, w ∈ lw_tbl := fun w h => (goodIn_r wsL_law_r32 [1230, 1232, 49, 1233, 1234, 1209, 1211, 45, 1212, 1236, 1238, 50, 1239, 1240, 1242, 51, 1243, 1263, 1265, 53, 1266, 1267, 1269, 54] (by decide +kernel) (by decide +kernel) w h).1
set_option maxRecDepth 20000 in
theorem lwi_wsL_law_r33 : ∀ w ∈ wsL_law_r33, w ∈ lw_tbl := fun w h => (goodIn_r wsL_law_r33 [1270, 1252, 1253, 1254, 1271, 1273, 55, 1274, 1301, 1303, 57, 1304, 1305, 1307, 58, 1308, 1289, 1291, 56, 1292, 834, 835, 836, 837] (by decide +kernel) (by decide +kernel) w h).1
set_option maxRecDepth 20000 in
theorem lwi_wsL_law_r34 : ∀ w ∈ wsL_law_r34, w ∈ lw_tbl := fun w h => (goodIn_r wsL_law_r34 [838, 839, 840, 841, 842, 843, 1205, 1206, 1207, 1208, 844, 845, 846, 847, 323, 325, 327, 848, 850, 28, 851, 1213, 1214, 1215] (by decide +kernel) (by decide +kernel) w h).1
set_option maxRecDepth 20000 in
theorem lwi_wsL_law_r35 : ∀ w ∈ wsL_law_r35, w ∈ lw_tbl := fun w h => (goodIn_r wsL_law_r35 [1216, 1217, 852, 853, 854, 855, 300, 297, 292, 294, 856, 1244, 1245, 1246, 1247, 857, 858, 859, 860, 861, 863, 29, 864, 867] (by decide +kernel) (by decide +kernel) w h).1
set_option maxRecDepth 20000 in
theorem lwi_wsL_law_r36 : ∀ w ∈ wsL_law_r36, w ∈ lw_tbl := fun w h => (goodIn_r wsL_law_r36 [865, 866, 1248, 1249, 1250, 1251, 868, 869, 870, 871, 382, 1255, 1256, 1257, 1258, 872, 873, 874, 875, 366, 368, 370, 372, 374] (by decide +kernel) (by decide +kernel) w h).1
set_option maxRecDepth 20000 in
theorem lwi_wsL_law_r37 : ∀ w ∈ wsL_law_r37, w ∈ lw_tbl := fun w h => (goodIn_r wsL_law_r37 [376, 378, 380, 1275, 1276, 1277, 1278, 1279, 876, 877, 878, 879, 880, 881, 882, 883, 884, 885, 886, 887, 888, 889, 890, 891] (by decide +kernel) (by decide +kernel) w h).1
set_option maxRecDepth 20000 in
theorem lwi_wsL_law_r38 : ∀ w ∈ wsL_law_r38, w ∈ lw_tbl := fun w h => (goodIn_r wsL_law_r38 [893, 30, 894, 1280, 1281, 1282, 1283, 895, 896, 897, 898, 899, 1285, 1286, 1287, 1288, 900, 901, 902, 903, 904, 905, 906, 907] (by decide +kernel) (by decide +kernel) w h).1
set_option maxRecDepth 20000 in
theorem lwi_wsL_law_r39 : ∀ w ∈ wsL_law_r39, w ∈ lw_tbl := fun w h => (goodIn_r wsL_law_r39 [1293, 1294, 1295, 1296, 908, 909, 910, 911, 912, 913, 914, 915, 916, 918, 31, 919, 119, 920, 921, 922, 923, 1309, 1310, 1311] (by decide +kernel) (by decide +kernel) w h).1
set_option maxRecDepth 20000 in
theorem lwi_wsL_law_r40 : ∀ w ∈ wsL_law_r40, w ∈ lw_tbl := fun w h => (goodIn_r wsL_law_r40 [1312, 1313, 1315, 59, 1316, 1317, 1319, 60, 1320, 924, 925, 926, 927, 928, 929, 930, 931, 932, 933, 1321, 1322, 1323, 1324, 934] (by decide +kernel) (by decide +kernel) w h).1
set_option maxRecDepth 20000 in
theorem lwi_wsL_law_r41 : ∀ w ∈ wsL_law_r41, w ∈ lw_tbl := fun w h => (goodIn_r wsL_law_r41 [935, 936, 937, 161, 938, 939, 940, 941, 333, 329, 942, 943, 79, 944, 1325, 1326, 1327, 1328, 947, 948, 949, 950, 951, 250] (by decide +kernel) (by decide +kernel) w h).1
set_option maxRecDepth 20000 in
theorem lwi_wsL_law_r42 : ∀ w ∈ wsL_law_r42, w ∈ lw_tbl := fun w h => (goodIn_r wsL_law_r42 [252, 254, 256, 952, 953, 954, 955, 249, 251, 253, 255, 334, 960, 330, 966, 956, 957, 958, 959, 962, 963, 964, 965, 967] (by decide +kernel) (by decide +kernel) w h).1
set_option maxRecDepth 20000 in
theorem lwi_wsL_law_r43 : ∀ w ∈ wsL_law_r43, w ∈ lw_tbl := fun w h => (goodIn_r wsL_law_r43 [969, 32, 970, 1329, 1330, 1331, 1332, 1333] (by decide +kernel) (by decide +kernel) w h).1
set_option maxRecDepth 20000 in
theorem lwi_wsX100 : ∀ w ∈ wsX100, w ∈ lw_tbl := fun w h => (goodIn_r wsX100 [416, 418, 420, 422, 424, 426, 428, 430, 432, 434, 436] (by decide +kernel) (by decide +kernel) w h).1
set_option maxRecDepth 20000 in
theorem lwi_wsX110 : ∀ w ∈ wsX110, w ∈ lw_tbl := fun w h => (goodIn_r wsX110 [1013, 1015, 1017, 1019, 1021, 1023, 1025, 1027, 1029, 1031, 1033, 1035, 1037, 1039, 1041, 1043, 1045, 1047, 1049, 1051, 1053, 1055, 1057, 1059, 1061, 1063, 1065, 1067, 1069, 1071, 1073, 1075, 1077] (by decide +kernel) (by decide +kernel) w h).1
set_option maxRecDepth 20000 in
theorem lwi_wsX80 : ∀ w ∈ wsX80, w ∈ lw_tbl := fun w h => (goodIn_r wsX80 [162, 164, 166] (by decide +kernel) (by decide +kernel) w h).1
set_option maxRecDepth 20000 in
theorem lwi_wsX20 : ∀ w ∈ wsX20, w ∈ lw_tbl := fun w h => (goodIn_r wsX20 [182, 184, 186] (by decide +kernel) (by decide +kernel) w h).1
set_option maxRecDepth 20000 in
theorem lwi_wsX50 : ∀ w ∈ wsX50, w ∈ lw_tbl := fun w h => (goodIn_r wsX50 [211, 213, 215, 217, 219, 221, 223, 225, 227] (by decide +kernel) (by decide +kernel) w h).1
set_option maxRecDepth 20000 in
theorem lwi_wsX30 : ∀ w ∈ wsX30, w ∈ lw_tbl := fun w h => (goodIn_r wsX30 [238, 240] (by decide +kernel) (by decide +kernel) w h).1
set_option maxRecDepth 20000 in
theorem lwi_wsX00 : ∀ w ∈ wsX00, w ∈ lw_tbl := fun w h => (goodIn_r wsX00 [257, 259, 261, 263] (by decide +kernel) (by decide +kernel) w h).1
set_option maxRecDepth 20000 in
theorem lwi_wsX60 : ∀ w ∈ wsX60, w ∈ lw_tbl := fun w h => (goodIn_r wsX60 [274, 276] (by decide +kernel) (by decide +kernel) w h).1
set_option maxRecDepth 20000 in
theorem lwi_wsX10 : ∀ w ∈ wsX10, w ∈ lw_tbl := fun w h => (goodIn_r wsX10 [301, 303, 305, 307, 309, 311, 313] (by decide +kernel) (by decide +kernel) w h).1
set_option maxRecDepth 20000 in
theorem lwi_wsX90 : ∀ w ∈ wsX90, w ∈ lw_tbl := fun w h => (goodIn_r wsX90 [340, 342, 344, 346, 348, 350, 352, 354, 356] (by decide +kernel) (by decide +kernel) w h).1
set_option maxRecDepth 20000 in
theorem lwi_wsX70 : ∀ w ∈ wsX70, w ∈ lw_tbl := fun w h => (goodIn_r wsX70 [384, 386, 388, 390, 392, 394, 396, 398, 400, 402] (by decide +kernel) (by decide +kernel) w h).1
set_option maxRecDepth 20000 in
theorem lwi_wsX40 : ∀ w ∈ wsX40, w ∈ lw_tbl := fun w h => (goodIn_r wsX40 [133, 135, 137, 139, 141, 143, 145, 147] (by decide +kernel) (by decide +kernel) w h).1
set_option maxRecDepth 20000 in
theorem wsL_law_in : ∀ w ∈ wsL_law, w ∈ lw_tbl := fun w h => (List.mem_append.mp h).elim (fun h => (List.mem_append.mp h).elim (fun h => (List.mem_append.mp h).elim (fun h => (List.mem_append.mp h).elim (fun h => (List.mem_append.mp h).elim (fun h => (List.mem_append.mp h).elim (fun h => (List.mem_append.mp h).elim (fun h => (List.mem_append.mp h).elim (fun h => (List.mem_append.mp h).elim (fun h => (List.mem_append.mp h).elim (fun h => (List.mem_append.mp h).elim (fun h => (List.mem_append.mp h).elim (fun h => (List.mem_append.mp h).elim (fun h => (List.mem_append.mp h).elim (lwi_wsL_law_r1 w) (fun h => (List.mem_append.mp h).elim (lwi_wsL_law_r2 w) (fun h => (List.mem_append.mp h).elim (lwi_wsL_law_r3 w) (fun h => (List.mem_append.mp h).elim (lwi_wsL_law_r4 w) (fun h => (List.mem_append.mp h).elim (lwi_wsL_law_r5 w) (fun h => (List.mem_append.mp h).elim (lwi_wsL_law_r6 w) (fun h => (List.mem_append.mp h).elim (lwi_wsL_law_r7 w) (fun h => (List.mem_append.mp h).elim (lwi_wsL_law_r8 w) (fun h => (List.mem_append.mp h).elim (lwi_wsL_law_r9 w) (fun h => (List.mem_append.mp h).elim (lwi_wsL_law_r10 w) (fun h => (List.mem_append.mp h).elim (lwi_wsL_law_r11 w) (fun h => (List.mem_append.mp h).elim (lwi_wsL_law_r12 w) (fun h => (List.mem_append.mp h).elim (lwi_wsL_law_r13 w) (fun h => (List.mem_append.mp h).elim (lwi_wsL_law_r14 w) (fun h => (List.mem_append.mp h).elim (lwi_wsL_law_r15 w) (fun h => (List.mem_append.mp h).elim (lwi_wsL_law_r16 w) (fun h => (List.mem_append.mp h).elim (lwi_wsL_law_r17 w) (fun h => (List.mem_append.mp h).elim (lwi_wsL_law_r18 w) (fun h => (List.mem_append.mp h).elim (lwi_wsL_law_r19 w) (fun h => (List.mem_append.mp h).elim (lwi_wsL_law_r20 w) (fun h => (List.mem_append.mp h).elim (lwi_wsL_law_r21 w) (fun h => (List.mem_append.mp h).elim (lwi_wsL_law_r22 w) (fun h => (List.mem_append.mp h).elim (lwi_wsL_law_r23 w) (fun h => (List.mem_append.mp h).elim (lwi_wsL_law_r24 w) (fun h => (List.mem_append.mp h).elim (lwi_wsL_law_r25 w) (fun h => (List.mem_append.mp h).elim (lwi_wsL_law_r26 w) (fun h => (List.mem_append.mp h).elim (lwi_wsL_law_r27 w) (fun h => (List.mem_append.mp h).elim (lwi_wsL_law_r28 w) (fun h => (List.mem_append.mp h).elim (lwi_wsL_law_r29 w) (fun h => (List.mem_append.mp h).elim (lwi_wsL_law_r30 w) (fun h => (List.mem_append.mp h).elim (lwi_wsL_law_r31 w) (fun h => (List.mem_append.mp h).elim (lwi_wsL_law_r32 w) (fun h => (List.mem_append.mp h).elim (lwi_wsL_law_r33 w) (fun h => (List.mem_append.mp h).elim (lwi_wsL_law_r34 w) (fun h => (List.mem_append.mp h).elim (lwi_wsL_law_r35 w) (fun h => (List.mem_append.mp h).elim (lwi_wsL_law_r36 w) (fun h => (List.mem_append.mp h).elim (lwi_wsL_law_r37 w) (fun h => (List.mem_append.mp h).elim (lwi_wsL_law_r38 w) (fun h => (List.mem_append.mp h).elim (lwi_wsL_law_r39 w) (fun h => (List.mem_append.mp h).elim (lwi_wsL_law_r40 w) (fun h => (List.mem_append.mp h).elim (lwi_wsL_law_r41 w) (fun h => (List.mem_append.mp h).elim (lwi_wsL_law_r42 w) (fun h => lwi_wsL_law_r43 w h))))))))))))))))))))))))))))))))))))))))))) (lwi_wsX100 w)) (lwi_wsX110 w)) (lwi_wsX80 w)) (lwi_wsX20 w)) (lwi_wsX50 w)) (lwi_wsX30 w)) (lwi_wsX00 w)) (lwi_wsX60 w)) (lwi_wsX10 w)) (lwi_wsX90 w)) (lwi_wsX70 w)) (lwi_wsX40 w)) (fun h => absurd h List.not_mem_nil)
theorem inlX0 : ∀ w ∈ wsX00, w ∈ wsL_law := fun _ h => List.mem_append_left _ (List.mem_append_left _ (List.mem_append_left _ (List.mem_append_left _ (List.mem_append_left _ (List.mem_append_left _ (List.mem_append_right _ h))))))
theorem inX0 : ∀ w ∈ wsX00, w ∈ lw_tbl := fun w h => wsL_law_in w (inlX0 w h)
theorem inlX1 : ∀ w ∈ wsX10, w ∈ wsL_law := fun _ h => List.mem_append_left _ (List.mem_append_left _ (List.mem_append_left _ (List.mem_append_left _ (List.mem_append_right _ h))))
theorem inX1 : ∀ w ∈ wsX10, w ∈ lw_tbl := fun w h => wsL_law_in w (inlX1 w h)
theorem inlX2 : ∀ w ∈ wsX20, w ∈ wsL_law := fun _ h => List.mem_append_left _ (List.mem_append_left _ (List.mem_append_left _ (List.mem_append_left _ (List.mem_append_left _ (List.mem_append_left _ (List.mem_append_left _ (List.mem_append_left _ (List.mem_append_left _ (List.mem_append_right _ h)))))))))
theorem inX2 : ∀ w ∈ wsX20, w ∈ lw_tbl := fun w h => wsL_law_in w (inlX2 w h)
theorem inlX3 : ∀ w ∈ wsX30, w ∈ wsL_law := fun _ h => List.mem_append_left _ (List.mem_append_left _ (List.mem_append_left _ (List.mem_append_left _ (List.mem_append_left _ (List.mem_append_left _ (List.mem_append_left _ (List.mem_append_right _ h)))))))
theorem inX3 : ∀ w ∈ wsX30, w ∈ lw_tbl := fun w h => wsL_law_in w (inlX3 w h)
theorem inlX4 : ∀ w ∈ wsX40, w ∈ wsL_law := fun _ h => List.mem_append_left _ (List.mem_append_right _ h)
theorem inX4 : ∀ w ∈ wsX40, w ∈ lw_tbl := fun w h => wsL_law_in w (inlX4 w h)
theorem inlX5 : ∀ w ∈ wsX50, w ∈ wsL_law := fun _ h => List.mem_append_left _ (List.mem_append_left _ (List.mem_append_left _ (List.mem_append_left _ (List.mem_append_left _ (List.mem_append_left _ (List.mem_append_left _ (List.mem_append_left _ (List.mem_append_right _ h))))))))
theorem inX5 : ∀ w ∈ wsX50, w ∈ lw_tbl := fun w h => wsL_law_in w (inlX5 w h)
theorem inlX6 : ∀ w ∈ wsX60, w ∈ wsL_law := fun _ h => List.mem_append_left _ (List.mem_append_left _ (List.mem_append_left _ (List.mem_append_left _ (List.mem_append_left _ (List.mem_append_right _ h)))))
theorem inX6 : ∀ w ∈ wsX60, w ∈ lw_tbl := fun w h => wsL_law_in w (inlX6 w h)
theorem inlX7 : ∀ w ∈ wsX70, w ∈ wsL_law := fun _ h => List.mem_append_left _ (List.mem_append_left _ (List.mem_append_right _ h))
theorem inX7 : ∀ w ∈ wsX70, w ∈ lw_tbl := fun w h => wsL_law_in w (inlX7 w h)
theorem inlX8 : ∀ w ∈ wsX80, w ∈ wsL_law := fun _ h => List.mem_append_left _ (List.mem_append_left _ (List.mem_append_left _ (List.mem_append_left _ (List.mem_append_left _ (List.mem_append_left _ (List.mem_append_left _ (List.mem_append_left _ (List.mem_append_left _ (List.mem_append_left _ (List.mem_append_right _ h))))))))))
theorem inX8 : ∀ w ∈ wsX80, w ∈ lw_tbl := fun w h => wsL_law_in w (inlX8 w h)
theorem inlX9 : ∀ w ∈ wsX90, w ∈ wsL_law := fun _ h => List.mem_append_left _ (List.mem_append_left _ (List.mem_append_left _ (List.mem_append_right _ h)))
theorem inX9 : ∀ w ∈ wsX90, w ∈ lw_tbl := fun w h => wsL_law_in w (inlX9 w h)
theorem inlX10 : ∀ w ∈ wsX100, w ∈ wsL_law := fun _ h => List.mem_append_left _ (List.mem_append_left _ (List.mem_append_left _ (List.mem_append_left _ (List.mem_append_left _ (List.mem_append_left _ (List.mem_append_left _ (List.mem_append_left _ (List.mem_append_left _ (List.mem_append_left _ (List.mem_append_left _ (List.mem_append_left _ (List.mem_append_right _ h))))))))))))
theorem inX10 : ∀ w ∈ wsX100, w ∈ lw_tbl := fun w h => wsL_law_in w (inlX10 w h)
theorem inlX11 : ∀ w ∈ wsX110, w ∈ wsL_law := fun _ h => List.mem_append_left _ (List.mem_append_left _ (List.mem_append_left _ (List.mem_append_left _ (List.mem_append_left _ (List.mem_append_left _ (List.mem_append_left _ (List.mem_append_left _ (List.mem_append_left _ (List.mem_append_left _ (List.mem_append_left _ (List.mem_append_right _ h)))))))))))
theorem inX11 : ∀ w ∈ wsX110, w ∈ lw_tbl := fun w h => wsL_law_in w (inlX11 w h)
theorem inJ9 : ∀ w ∈ wsJ90, w ∈ lw_tbl := by decide +kernel
theorem inJ0 : ∀ w ∈ wsJ00, w ∈ lw_tbl := by decide +kernel
theorem inJ1 : ∀ w ∈ wsJ10, w ∈ lw_tbl := by decide +kernel
theorem inJ2 : ∀ w ∈ wsJ20, w ∈ lw_tbl := by decide +kernel
theorem inJ10 : ∀ w ∈ wsJ100, w ∈ lw_tbl := by decide +kernel
theorem inJ3 : ∀ w ∈ wsJ30, w ∈ lw_tbl := by decide +kernel
