set_option maxRecDepth 20000 in
theorem wsL_in_1 : ∀ w ∈ wsL_law_r1, w ∈ lw_tbl := fun w h => (goodIn_r wsL_law_r1 [103, 104, 91, 950, 951, 97, 1402, 105, 106, 107, 108, 109, 110, 111, 112, 92, 245, 131, 132, 93, 246, 151, 152, 94] (by decide +kernel) (by decide +kernel) w h).1
set_option maxRecDepth 20000 in
theorem wsL_in_2 : ∀ w ∈ wsL_law_r2, w ∈ lw_tbl := fun w h => (goodIn_r wsL_law_r2 [247, 248, 209, 210, 95, 249, 222, 223, 96, 250, 251, 130, 252, 253, 254, 255, 256, 257, 113, 114, 115, 116, 117, 133] (by decide +kernel) (by decide +kernel) w h).1
set_option maxRecDepth 20000 in
theorem wsL_in_3 : ∀ w ∈ wsL_law_r3, w ∈ lw_tbl := fun w h => (goodIn_r wsL_law_r3 [134, 135, 136, 137, 150, 138, 153, 154, 155, 156, 157, 159, 161, 162, 163, 164, 165, 166, 167, 168, 169, 158, 211, 212] (by decide +kernel) (by decide +kernel) w h).1
set_option maxRecDepth 20000 in
theorem wsL_in_4 : ∀ w ∈ wsL_law_r4, w ∈ lw_tbl := fun w h => (goodIn_r wsL_law_r4 [213, 214, 215, 224, 225, 226, 227, 228, 244, 229, 230, 231, 232, 952, 953, 954, 955, 957, 960, 961, 962, 963, 964, 966] (by decide +kernel) (by decide +kernel) w h).1
set_option maxRecDepth 20000 in
theorem wsL_in_5 : ∀ w ∈ wsL_law_r5, w ∈ lw_tbl := fun w h => (goodIn_r wsL_law_r5 [967, 969, 970, 971, 973, 974, 975, 976, 978, 979, 981, 982, 297, 298, 299, 300, 301, 302, 303, 304, 118, 305, 306, 307] (by decide +kernel) (by decide +kernel) w h).1
set_option maxRecDepth 20000 in
theorem wsL_in_6 : ∀ w ∈ wsL_law_r6, w ∈ lw_tbl := fun w h => (goodIn_r wsL_law_r6 [308, 1041, 1042, 1043, 1044, 956, 1045, 958, 1046, 1047, 1048, 309, 310, 311, 312, 313, 314, 315, 316, 1049, 1050, 1051, 1052, 317] (by decide +kernel) (by decide +kernel) w h).1
set_option maxRecDepth 20000 in
theorem wsL_in_7 : ∀ w ∈ wsL_law_r7, w ∈ lw_tbl := fun w h => (goodIn_r wsL_law_r7 [318, 319, 320, 321, 322, 323, 324, 119, 362, 120, 325, 327, 0, 328, 329, 330, 331, 332, 140, 139, 333, 334, 335, 336] (by decide +kernel) (by decide +kernel) w h).1
set_option maxRecDepth 20000 in
theorem wsL_in_8 : ∀ w ∈ wsL_law_r8, w ∈ lw_tbl := fun w h => (goodIn_r wsL_law_r8 [337, 339, 1, 340, 341, 342, 343, 344, 346, 2, 347, 348, 349, 98, 350, 351, 353, 3, 354, 355, 357, 4, 358, 359] (by decide +kernel) (by decide +kernel) w h).1
set_option maxRecDepth 20000 in
theorem wsL_in_9 : ∀ w ∈ wsL_law_r9, w ∈ lw_tbl := fun w h => (goodIn_r wsL_law_r9 [360, 361, 363, 364, 365, 366, 367, 369, 5, 370, 371, 372, 373, 375, 376, 377, 379, 6, 380, 381, 382, 383, 384, 385] (by decide +kernel) (by decide +kernel) w h).1
set_option maxRecDepth 20000 in
theorem wsL_in_10 : ∀ w ∈ wsL_law_r10, w ∈ lw_tbl := fun w h => (goodIn_r wsL_law_r10 [386, 387, 388, 389, 390, 391, 392, 393, 394, 395, 396, 397, 398, 399, 400, 401, 402, 403, 404, 405, 406, 407, 1053, 1054] (by decide +kernel) (by decide +kernel) w h).1
set_option maxRecDepth 20000 in
theorem wsL_in_11 : ∀ w ∈ wsL_law_r11, w ∈ lw_tbl := fun w h => (goodIn_r wsL_law_r11 [1055, 1056, 1057, 1059, 45, 1060, 959, 1061, 1063, 46, 1064, 1065, 1067, 47, 1068, 1069, 1071, 48, 1072, 1073, 1075, 49, 1076, 1077] (by decide +kernel) (by decide +kernel) w h).1
set_option maxRecDepth 20000 in
theorem wsL_in_12 : ∀ w ∈ wsL_law_r12, w ∈ lw_tbl := fun w h => (goodIn_r wsL_law_r12 [1079, 50, 1080, 1081, 1082, 1083, 1085, 51, 1086, 1087, 1089, 52, 1090, 1091, 1093, 53, 1094, 408, 409, 410, 411, 259, 412, 413] (by decide +kernel) (by decide +kernel) w h).1
set_option maxRecDepth 20000 in
theorem wsL_in_13 : ∀ w ∈ wsL_law_r13, w ∈ lw_tbl := fun w h => (goodIn_r wsL_law_r13 [414, 415, 416, 418, 417, 99, 419, 420, 421, 422, 423, 1095, 1096, 1097, 1098, 965, 1099, 1100, 1101, 424, 425, 426, 427, 428] (by decide +kernel) (by decide +kernel) w h).1
set_option maxRecDepth 20000 in
theorem wsL_in_14 : ∀ w ∈ wsL_law_r14, w ∈ lw_tbl := fun w h => (goodIn_r wsL_law_r14 [429, 430, 431, 432, 433, 434, 435, 436, 437, 438, 439, 440, 441, 442, 443, 444, 445, 446, 1102, 1103, 1104, 1105, 1109, 1106] (by decide +kernel) (by decide +kernel) w h).1
set_option maxRecDepth 20000 in
theorem wsL_in_15 : ∀ w ∈ wsL_law_r15, w ∈ lw_tbl := fun w h => (goodIn_r wsL_law_r15 [1107, 1108, 1110, 1111, 1112, 447, 448, 449, 450, 451, 452, 453, 454, 456, 7, 457, 260, 467, 468, 100, 469, 458, 459, 460] (by decide +kernel) (by decide +kernel) w h).1
set_option maxRecDepth 20000 in
theorem wsL_in_16 : ∀ w ∈ wsL_law_r16, w ∈ lw_tbl := fun w h => (goodIn_r wsL_law_r16 [461, 462, 463, 464, 465, 466, 470, 471, 472, 473, 474, 476, 8, 477, 478, 479, 480, 481, 482, 483, 484, 485, 486, 487] (by decide +kernel) (by decide +kernel) w h).1
set_option maxRecDepth 20000 in
theorem wsL_in_17 : ∀ w ∈ wsL_law_r17, w ∈ lw_tbl := fun w h => (goodIn_r wsL_law_r17 [488, 490, 9, 491, 492, 494, 10, 495, 1263, 1264, 1265, 1266, 1267, 1269, 79, 1270, 1271, 1273, 80, 1274, 1275, 1276, 1277, 496] (by decide +kernel) (by decide +kernel) w h).1
set_option maxRecDepth 20000 in
theorem wsL_in_18 : ∀ w ∈ wsL_law_r18, w ∈ lw_tbl := fun w h => (goodIn_r wsL_law_r18 [497, 498, 499, 500, 501, 502, 503, 504, 505, 506, 507, 508, 1278, 1279, 1280, 1281, 1282, 1284, 81, 1285, 509, 510, 511, 512] (by decide +kernel) (by decide +kernel) w h).1
set_option maxRecDepth 20000 in
theorem wsL_in_19 : ∀ w ∈ wsL_law_r19, w ∈ lw_tbl := fun w h => (goodIn_r wsL_law_r19 [513, 514, 515, 516, 517, 518, 519, 520, 521, 522, 523, 524, 525, 526, 527, 528, 170, 174, 175, 173, 529, 531, 11, 532] (by decide +kernel) (by decide +kernel) w h).1
set_option maxRecDepth 20000 in
theorem wsL_in_20 : ∀ w ∈ wsL_law_r20, w ∈ lw_tbl := fun w h => (goodIn_r wsL_law_r20 [171, 533, 534, 535, 536, 537, 538, 540, 12, 541, 542, 543, 544, 545, 546, 547, 548, 549, 550, 551, 552, 553, 555, 13] (by decide +kernel) (by decide +kernel) w h).1
set_option maxRecDepth 20000 in
theorem wsL_in_21 : ∀ w ∈ wsL_law_r21, w ∈ lw_tbl := fun w h => (goodIn_r wsL_law_r21 [556, 172, 557, 558, 101, 559, 560, 562, 14, 563, 564, 566, 15, 567, 568, 569, 571, 16, 572, 573, 575, 17, 576, 577] (by decide +kernel) (by decide +kernel) w h).1
set_option maxRecDepth 20000 in
theorem wsL_in_22 : ∀ w ∈ wsL_law_r22, w ∈ lw_tbl := fun w h => (goodIn_r wsL_law_r22 [578, 579, 580, 581, 583, 18, 584, 585, 586, 588, 19, 589, 590, 591, 592, 593, 594, 595, 597, 20, 598, 599, 601, 21] (by decide +kernel) (by decide +kernel) w h).1
set_option maxRecDepth 20000 in
theorem wsL_in_23 : ∀ w ∈ wsL_law_r23, w ∈ lw_tbl := fun w h => (goodIn_r wsL_law_r23 [602, 603, 604, 102, 605, 606, 607, 608, 609, 611, 22, 612, 613, 615, 23, 616, 617, 618, 619, 620, 1286, 1287, 1288, 1289] (by decide +kernel) (by decide +kernel) w h).1
set_option maxRecDepth 20000 in
theorem wsL_in_24 : ∀ w ∈ wsL_law_r24, w ∈ lw_tbl := fun w h => (goodIn_r wsL_law_r24 [1290, 1292, 82, 1293, 1294, 1296, 83, 1297, 1117, 1119, 54, 1120, 1121, 1122, 1123, 1124, 1126, 55, 1127, 983, 1128, 1130, 56, 1131] (by decide +kernel) (by decide +kernel) w h).1
set_option maxRecDepth 20000 in
theorem wsL_in_25 : ∀ w ∈ wsL_law_r25, w ∈ lw_tbl := fun w h => (goodIn_r wsL_law_r25 [977, 1132, 1133, 1134, 1135, 1136, 1137, 1138, 1139, 1140, 1141, 1142, 1143, 1144, 1145, 1146, 1147, 1149, 57, 1150, 1151, 1153, 58, 1154] (by decide +kernel) (by decide +kernel) w h).1
set_option maxRecDepth 20000 in
theorem wsL_in_26 : ∀ w ∈ wsL_law_r26, w ∈ lw_tbl := fun w h => (goodIn_r wsL_law_r26 [1155, 1156, 1157, 1158, 1159, 1160, 1161, 1163, 59, 1164, 1165, 1167, 60, 1168, 1169, 1171, 61, 1172, 1298, 1299, 1300, 1301, 1303, 84] (by decide +kernel) (by decide +kernel) w h).1
set_option maxRecDepth 20000 in
theorem wsL_in_27 : ∀ w ∈ wsL_law_r27, w ∈ lw_tbl := fun w h => (goodIn_r wsL_law_r27 [1304, 621, 622, 623, 624, 625, 626, 627, 628, 629, 630, 632, 24, 633, 634, 635, 636, 637, 639, 25, 640, 641, 642, 643] (by decide +kernel) (by decide +kernel) w h).1
set_option maxRecDepth 20000 in
theorem wsL_in_28 : ∀ w ∈ wsL_law_r28, w ∈ lw_tbl := fun w h => (goodIn_r wsL_law_r28 [644, 645, 646, 648, 26, 649, 650, 651, 652, 653, 654, 655, 656, 657, 658, 1305, 1306, 1307, 1308, 1217, 1219, 70, 1220, 1221] (by decide +kernel) (by decide +kernel) w h).1
set_option maxRecDepth 20000 in
theorem wsL_in_29 : ∀ w ∈ wsL_law_r29, w ∈ lw_tbl := fun w h => (goodIn_r wsL_law_r29 [1222, 1223, 1224, 1225, 1226, 1227, 1229, 71, 1230, 1231, 1233, 72, 1234, 1309, 1311, 85, 1312, 659, 660, 661, 662, 663, 664, 665] (by decide +kernel) (by decide +kernel) w h).1
set_option maxRecDepth 20000 in
theorem wsL_in_30 : ∀ w ∈ wsL_law_r30, w ∈ lw_tbl := fun w h => (goodIn_r wsL_law_r30 [666, 667, 668, 669, 670, 1313, 1314, 1315, 1316, 671, 672, 673, 674, 675, 676, 677, 678, 679, 680, 681, 682, 683, 684, 686] (by decide +kernel) (by decide +kernel) w h).1
set_option maxRecDepth 20000 in
theorem wsL_in_31 : ∀ w ∈ wsL_law_r31, w ∈ lw_tbl := fun w h => (goodIn_r wsL_law_r31 [27, 687, 688, 690, 28, 691, 692, 694, 29, 695, 696, 1113, 1114, 1115, 1116, 1173, 1175, 62, 1176, 1177, 1179, 63, 1180, 697] (by decide +kernel) (by decide +kernel) w h).1
set_option maxRecDepth 20000 in
theorem wsL_in_32 : ∀ w ∈ wsL_law_r32, w ∈ lw_tbl := fun w h => (goodIn_r wsL_law_r32 [698, 699, 700, 701, 702, 703, 704, 705, 706, 707, 708, 709, 710, 711, 712, 713, 714, 715, 717, 30, 718, 719, 720, 721] (by decide +kernel) (by decide +kernel) w h).1
set_option maxRecDepth 20000 in
theorem wsL_in_33 : ∀ w ∈ wsL_law_r33, w ∈ lw_tbl := fun w h => (goodIn_r wsL_law_r33 [722, 723, 724, 725, 726, 727, 728, 729, 730, 731, 732, 733, 734, 735, 737, 31, 738, 739, 740, 741, 742, 743, 1181, 1182] (by decide +kernel) (by decide +kernel) w h).1
set_option maxRecDepth 20000 in
theorem wsL_in_34 : ∀ w ∈ wsL_law_r34, w ∈ lw_tbl := fun w h => (goodIn_r wsL_law_r34 [1183, 1184, 1185, 1187, 64, 1188, 1189, 1191, 65, 1192, 1193, 1195, 66, 1196, 1197, 1199, 67, 1200, 1201, 1203, 68, 1204, 744, 745] (by decide +kernel) (by decide +kernel) w h).1
set_option maxRecDepth 20000 in
theorem wsL_in_35 : ∀ w ∈ wsL_law_r35, w ∈ lw_tbl := fun w h => (goodIn_r wsL_law_r35 [746, 747, 748, 749, 750, 751, 752, 754, 32, 755, 757, 1205, 1206, 1207, 1208, 1209, 1211, 69, 1212, 758, 759, 760, 761, 762] (by decide +kernel) (by decide +kernel) w h).1
set_option maxRecDepth 20000 in
theorem wsL_in_36 : ∀ w ∈ wsL_law_r36, w ∈ lw_tbl := fun w h => (goodIn_r wsL_law_r36 [763, 764, 765, 766, 1213, 1214, 1215, 1216, 1235, 1237, 73, 1238, 767, 768, 769, 770, 771, 773, 33, 774, 775, 776, 777, 778] (by decide +kernel) (by decide +kernel) w h).1
set_option maxRecDepth 20000 in
theorem wsL_in_37 : ∀ w ∈ wsL_law_r37, w ∈ lw_tbl := fun w h => (goodIn_r wsL_law_r37 [216, 779, 780, 781, 782, 783, 784, 785, 786, 787, 788, 789, 791, 34, 792, 793, 794, 795, 796, 797, 799, 35, 800, 802] (by decide +kernel) (by decide +kernel) w h).1
set_option maxRecDepth 20000 in
theorem wsL_in_38 : ∀ w ∈ wsL_law_r38, w ∈ lw_tbl := fun w h => (goodIn_r wsL_law_r38 [804, 36, 805, 806, 807, 808, 809, 810, 811, 812, 813, 814, 815, 816, 1239, 1240, 1241, 1242, 980, 1243, 1245, 74, 1246, 1247] (by decide +kernel) (by decide +kernel) w h).1
set_option maxRecDepth 20000 in
theorem wsL_in_39 : ∀ w ∈ wsL_law_r39, w ∈ lw_tbl := fun w h => (goodIn_r wsL_law_r39 [1249, 75, 1250, 1251, 1253, 76, 1254, 1255, 1257, 77, 1258, 1259, 1261, 78, 1262, 817, 818, 819, 820, 824, 821, 822, 823, 825] (by decide +kernel) (by decide +kernel) w h).1
set_option maxRecDepth 20000 in
theorem wsL_in_40 : ∀ w ∈ wsL_law_r40, w ∈ lw_tbl := fun w h => (goodIn_r wsL_law_r40 [826, 827, 828, 829, 830, 832, 37, 833, 834, 836, 837, 839, 38, 840, 841, 842, 843, 844, 846, 39, 847, 848, 849, 1317] (by decide +kernel) (by decide +kernel) w h).1
set_option maxRecDepth 20000 in
theorem wsL_in_41 : ∀ w ∈ wsL_law_r41, w ∈ lw_tbl := fun w h => (goodIn_r wsL_law_r41 [1318, 1319, 1320, 1321, 1322, 1323, 1324, 1325, 1326, 1328, 86, 1329, 850, 851, 852, 853, 258, 1330, 1331, 1332, 1333, 1334, 968, 854] (by decide +kernel) (by decide +kernel) w h).1
set_option maxRecDepth 20000 in
theorem wsL_in_42 : ∀ w ∈ wsL_law_r42, w ∈ lw_tbl := fun w h => (goodIn_r wsL_law_r42 [855, 856, 857, 1335, 1336, 1337, 1338, 858, 859, 860, 861, 862, 864, 40, 865, 866, 867, 868, 869, 870, 872, 41, 873, 875] (by decide +kernel) (by decide +kernel) w h).1
set_option maxRecDepth 20000 in
theorem wsL_in_43 : ∀ w ∈ wsL_law_r43, w ∈ lw_tbl := fun w h => (goodIn_r wsL_law_r43 [876, 1339, 1340, 1341, 1342, 1343, 1345, 87, 1346, 1347, 1349, 88, 1350, 877, 878, 879, 880, 881, 883, 42, 884, 885, 886, 887] (by decide +kernel) (by decide +kernel) w h).1
set_option maxRecDepth 20000 in
theorem wsL_in_44 : ∀ w ∈ wsL_law_r44, w ∈ lw_tbl := fun w h => (goodIn_r wsL_law_r44 [888, 889, 890, 891, 892, 893, 894, 895, 896, 897, 898, 899, 900, 901, 902, 903, 1351, 1352, 1353, 1354, 1355, 1356, 1357, 1358] (by decide +kernel) (by decide +kernel) w h).1
set_option maxRecDepth 20000 in
theorem wsL_in_45 : ∀ w ∈ wsL_law_r45, w ∈ lw_tbl := fun w h => (goodIn_r wsL_law_r45 [1359, 1360, 1361, 1362, 1363, 1364, 1365, 1366, 904, 905, 906, 907, 908, 909, 910, 1367, 1368, 1369, 1370, 1371, 1372, 1373, 1374, 911] (by decide +kernel) (by decide +kernel) w h).1
set_option maxRecDepth 20000 in
theorem wsL_in_46 : ∀ w ∈ wsL_law_r46, w ∈ lw_tbl := fun w h => (goodIn_r wsL_law_r46 [912, 913, 914, 261, 1375, 1376, 1377, 1378, 972, 915, 916, 917, 918, 919, 920, 921, 923, 43, 924, 1379, 1380, 1381, 1382, 1383] (by decide +kernel) (by decide +kernel) w h).1
set_option maxRecDepth 20000 in
theorem wsL_in_47 : ∀ w ∈ wsL_law_r47, w ∈ lw_tbl := fun w h => (goodIn_r wsL_law_r47 [1384, 1385, 925, 926, 927, 928, 1386, 1387, 1388, 1389, 929, 930, 931, 932, 933, 934, 935, 936, 1390, 1391, 1392, 1393, 937, 938] (by decide +kernel) (by decide +kernel) w h).1
set_option maxRecDepth 20000 in
theorem wsL_in_48 : ∀ w ∈ wsL_law_r48, w ∈ lw_tbl := fun w h => (goodIn_r wsL_law_r48 [939, 940, 941, 943, 44, 944, 945, 946, 947, 948, 949, 1394, 1395, 1396, 1397, 1398, 1400, 89, 1401] (by decide +kernel) (by decide +kernel) w h).1
set_option maxRecDepth 20000 in
theorem inX6 : ∀ w ∈ wsX60, w ∈ lw_tbl := fun w h => (goodIn_r wsX60 [262, 264, 266, 268, 270, 272, 274, 276, 278, 280, 282, 284, 286, 288, 290, 292, 294] (by decide +kernel) (by decide +kernel) w h).1
set_option maxRecDepth 20000 in
theorem inX7 : ∀ w ∈ wsX70, w ∈ lw_tbl := fun w h => (goodIn_r wsX70 [984, 986, 988, 990, 992, 994, 996, 998, 1000, 1002, 1004, 1006, 1008, 1010, 1012, 1014, 1016, 1018, 1020, 1022, 1024, 1026, 1028, 1030, 1032, 1034, 1036, 1038] (by decide +kernel) (by decide +kernel) w h).1
set_option maxRecDepth 20000 in
theorem inX5 : ∀ w ∈ wsX50, w ∈ lw_tbl := fun w h => (goodIn_r wsX50 [121, 123, 125, 127] (by decide +kernel) (by decide +kernel) w h).1
set_option maxRecDepth 20000 in
theorem inX1 : ∀ w ∈ wsX10, w ∈ lw_tbl := fun w h => (goodIn_r wsX10 [141, 143, 145, 147] (by decide +kernel) (by decide +kernel) w h).1
set_option maxRecDepth 20000 in
theorem inX4 : ∀ w ∈ wsX40, w ∈ lw_tbl := fun w h => (goodIn_r wsX40 [176, 178, 180, 182, 184, 186, 188, 190, 192, 194, 196, 198, 200, 202, 204, 206] (by decide +kernel) (by decide +kernel) w h).1
set_option maxRecDepth 20000 in
theorem inX2 : ∀ w ∈ wsX20, w ∈ lw_tbl := fun w h => (goodIn_r wsX20 [217, 219] (by decide +kernel) (by decide +kernel) w h).1
set_option maxRecDepth 20000 in
theorem inX3 : ∀ w ∈ wsX30, w ∈ lw_tbl := fun w h => (goodIn_r wsX30 [233, 235, 237, 239, 241] (by decide +kernel) (by decide +kernel) w h).1
set_option maxRecDepth 20000 in
theorem wsL_law_in : ∀ w ∈ wsL_law, w ∈ lw_tbl := fun w h => (List.mem_append.mp h).elim (fun h => (List.mem_append.mp h).elim (fun h => (List.mem_append.mp h).elim (fun h => (List.mem_append.mp h).elim (fun h => (List.mem_append.mp h).elim (fun h => (List.mem_append.mp h).elim (fun h => (List.mem_append.mp h).elim (fun h => (List.mem_append.mp h).elim (fun h => (List.mem_append.mp h).elim (fun h => wsL_in_1 w h) (fun h => (List.mem_append.mp h).elim (fun h => wsL_in_2 w h) (fun h => (List.mem_append.mp h).elim (fun h => wsL_in_3 w h) (fun h => (List.mem_append.mp h).elim (fun h => wsL_in_4 w h) (fun h => (List.mem_append.mp h).elim (fun h => wsL_in_5 w h) (fun h => (List.mem_append.mp h).elim (fun h => wsL_in_6 w h) (fun h => (List.mem_append.mp h).elim (fun h => wsL_in_7 w h) (fun h => (List.mem_append.mp h).elim (fun h => wsL_in_8 w h) (fun h => (List.mem_append.mp h).elim (fun h => wsL_in_9 w h) (fun h => (List.mem_append.mp h).elim (fun h => wsL_in_10 w h) (fun h => (List.mem_append.mp h).elim (fun h => wsL_in_11 w h) (fun h => (List.mem_append.mp h).elim (fun h => wsL_in_12 w h) (fun h => (List.mem_append.mp h).elim (fun h => wsL_in_13 w h) (fun h => (List.mem_append.mp h).elim (fun h => wsL_in_14 w h) (fun h => (List.mem_append.mp h).elim (fun h => wsL_in_15 w h) (fun h => (List.mem_append.mp h).elim (fun h => wsL_in_16 w h) (fun h => (List.mem_append.mp h).elim (fun h => wsL_in_17 w h) (fun h => (List.mem_append.mp h).elim (fun h => wsL_in_18 w h) (fun h => (List.mem_append.mp h).elim (fun h => wsL_in_19 w h) (fun h => (List.mem_append.mp h).elim (fun h => wsL_in_20 w h) (fun h => (List.mem_append.mp h).elim (fun h => wsL_in_21 w h) (fun h => (List.mem_append.mp h).elim (fun h => wsL_in_22 w h) (fun h => (List.mem_append.mp h).elim (fun h => wsL_in_23 w h) (fun h => (List.mem_append.mp h).elim (fun h => wsL_in_24 w h) (fun h => (List.mem_append.mp h).elim (fun h => wsL_in_25 w h) (fun h => (List.mem_append.mp h).elim (fun h => wsL_in_26 w h) (fun h => (List.mem_append.mp h).elim (fun h => wsL_in_27 w h) (fun h => (List.mem_append.mp h).elim (fun h => wsL_in_28 w h) (fun h => (List.mem_append.mp h).elim (fun h => wsL_in_29 w h) (fun h => (List.mem_append.mp h).elim (fun h => wsL_in_30 w h) (fun h => (List.mem_append.mp h).elim (fun h => wsL_in_31 w h) (fun h => (List.mem_append.mp h).elim (fun h => wsL_in_32 w h) (fun h => (List.mem_append.mp h).elim (fun h => wsL_in_33 w h) (fun h => (List.mem_append.mp h).elim (fun h => wsL_in_34 w h) (fun h => (List.mem_append.mp h).elim (fun h => wsL_in_35 w h) (fun h => (List.mem_append.mp h).elim (fun h => wsL_in_36 w h) (fun h => (List.mem_append.mp h).elim (fun h => wsL_in_37 w h) (fun h => (List.mem_append.mp h).elim (fun h => wsL_in_38 w h) (fun h => (List.mem_append.mp h).elim (fun h => wsL_in_39 w h) (fun h => (List.mem_append.mp h).elim (fun h => wsL_in_40 w h) (fun h => (List.mem_append.mp h).elim (fun h => wsL_in_41 w h) (fun h => (List.mem_append.mp h).elim (fun h => wsL_in_42 w h) (fun h => (List.mem_append.mp h).elim (fun h => wsL_in_43 w h) (fun h => (List.mem_append.mp h).elim (fun h => wsL_in_44 w h) (fun h => (List.mem_append.mp h).elim (fun h => wsL_in_45 w h) (fun h => (List.mem_append.mp h).elim (fun h => wsL_in_46 w h) (fun h => (List.mem_append.mp h).elim (fun h => wsL_in_47 w h) (fun h => wsL_in_48 w h)))))))))))))))))))))))))))))))))))))))))))))))) (fun h => inX6 w h)) (fun h => inX7 w h)) (fun h => inX5 w h)) (fun h => inX1 w h)) (fun h => inX4 w h)) (fun h => inX2 w h)) (fun h => inX3 w h)) (fun h => absurd h List.not_mem_nil)
theorem inX0 : ∀ w ∈ wsX00, w ∈ lw_tbl := by decide +kernel
theorem inJ6 : ∀ w ∈ wsJ60, w ∈ lw_tbl := by decide +kernel
theorem inJ9 : ∀ w ∈ wsJ90, w ∈ lw_tbl := by decide +kernel
theorem inJ10 : ∀ w ∈ wsJ100, w ∈ lw_tbl := by decide +kernel
theorem inJ7 : ∀ w ∈ wsJ70, w ∈ lw_tbl := by decide +kernel
