set_option maxRecDepth 20000 in
theorem wsL_in_1 : ∀ w ∈ wsL_law_r1, w ∈ lw_tbl := fun w h => (goodIn_r wsL_law_r1 [103, 104, 91, 953, 954, 98, 1405, 105, 106, 107, 108, 109, 110, 111, 112, 92, 248, 131, 132, 93, 249, 151, 152, 94] (by decide +kernel) (by decide +kernel) w h).1
set_option maxRecDepth 20000 in
theorem wsL_in_2 : ∀ w ∈ wsL_law_r2, w ∈ lw_tbl := fun w h => (goodIn_r wsL_law_r2 [250, 251, 209, 210, 95, 252, 222, 223, 96, 253, 254, 130, 255, 256, 257, 258, 259, 260, 113, 114, 115, 116, 117, 133] (by decide +kernel) (by decide +kernel) w h).1
set_option maxRecDepth 20000 in
theorem wsL_in_3 : ∀ w ∈ wsL_law_r3, w ∈ lw_tbl := fun w h => (goodIn_r wsL_law_r3 [134, 135, 136, 137, 150, 138, 153, 154, 155, 156, 157, 159, 161, 162, 163, 164, 165, 166, 167, 168, 169, 158, 211, 212] (by decide +kernel) (by decide +kernel) w h).1
set_option maxRecDepth 20000 in
theorem wsL_in_4 : ∀ w ∈ wsL_law_r4, w ∈ lw_tbl := fun w h => (goodIn_r wsL_law_r4 [213, 214, 215, 224, 225, 226, 227, 228, 229, 97, 230, 231, 247, 232, 233, 234, 235, 955, 956, 957, 958, 960, 963, 964] (by decide +kernel) (by decide +kernel) w h).1
set_option maxRecDepth 20000 in
theorem wsL_in_5 : ∀ w ∈ wsL_law_r5, w ∈ lw_tbl := fun w h => (goodIn_r wsL_law_r5 [965, 966, 967, 969, 970, 972, 973, 974, 976, 977, 978, 979, 981, 982, 984, 985, 300, 301, 302, 303, 304, 305, 306, 307] (by decide +kernel) (by decide +kernel) w h).1
set_option maxRecDepth 20000 in
theorem wsL_in_6 : ∀ w ∈ wsL_law_r6, w ∈ lw_tbl := fun w h => (goodIn_r wsL_law_r6 [118, 308, 309, 310, 311, 1044, 1045, 1046, 1047, 959, 1048, 961, 1049, 1050, 1051, 312, 313, 314, 315, 316, 317, 318, 319, 1052] (by decide +kernel) (by decide +kernel) w h).1
set_option maxRecDepth 20000 in
theorem wsL_in_7 : ∀ w ∈ wsL_law_r7, w ∈ lw_tbl := fun w h => (goodIn_r wsL_law_r7 [1053, 1054, 1055, 320, 321, 322, 323, 324, 325, 326, 327, 119, 365, 120, 328, 330, 0, 331, 332, 333, 334, 335, 140, 139] (by decide +kernel) (by decide +kernel) w h).1
set_option maxRecDepth 20000 in
theorem wsL_in_8 : ∀ w ∈ wsL_law_r8, w ∈ lw_tbl := fun w h => (goodIn_r wsL_law_r8 [336, 337, 338, 339, 340, 342, 1, 343, 344, 345, 346, 347, 349, 2, 350, 351, 352, 99, 353, 354, 356, 3, 357, 358] (by decide +kernel) (by decide +kernel) w h).1
set_option maxRecDepth 20000 in
theorem wsL_in_9 : ∀ w ∈ wsL_law_r9, w ∈ lw_tbl := fun w h => (goodIn_r wsL_law_r9 [360, 4, 361, 362, 363, 364, 366, 367, 368, 369, 370, 372, 5, 373, 374, 375, 376, 378, 379, 380, 382, 6, 383, 384] (by decide +kernel) (by decide +kernel) w h).1
set_option maxRecDepth 20000 in
theorem wsL_in_10 : ∀ w ∈ wsL_law_r10, w ∈ lw_tbl := fun w h => (goodIn_r wsL_law_r10 [385, 386, 387, 388, 389, 390, 391, 392, 393, 394, 395, 396, 397, 398, 399, 400, 401, 402, 403, 404, 405, 406, 407, 408] (by decide +kernel) (by decide +kernel) w h).1
set_option maxRecDepth 20000 in
theorem wsL_in_11 : ∀ w ∈ wsL_law_r11, w ∈ lw_tbl := fun w h => (goodIn_r wsL_law_r11 [409, 410, 1056, 1057, 1058, 1059, 1060, 1062, 45, 1063, 962, 1064, 1066, 46, 1067, 1068, 1070, 47, 1071, 1072, 1074, 48, 1075, 1076] (by decide +kernel) (by decide +kernel) w h).1
set_option maxRecDepth 20000 in
theorem wsL_in_12 : ∀ w ∈ wsL_law_r12, w ∈ lw_tbl := fun w h => (goodIn_r wsL_law_r12 [1078, 49, 1079, 1080, 1082, 50, 1083, 1084, 1085, 1086, 1088, 51, 1089, 1090, 1092, 52, 1093, 1094, 1096, 53, 1097, 411, 412, 413] (by decide +kernel) (by decide +kernel) w h).1
set_option maxRecDepth 20000 in
theorem wsL_in_13 : ∀ w ∈ wsL_law_r13, w ∈ lw_tbl := fun w h => (goodIn_r wsL_law_r13 [414, 262, 415, 416, 417, 418, 419, 421, 420, 100, 422, 423, 424, 425, 426, 1098, 1099, 1100, 1101, 968, 1102, 1103, 1104, 427] (by decide +kernel) (by decide +kernel) w h).1
set_option maxRecDepth 20000 in
theorem wsL_in_14 : ∀ w ∈ wsL_law_r14, w ∈ lw_tbl := fun w h => (goodIn_r wsL_law_r14 [428, 429, 430, 431, 432, 433, 434, 435, 436, 437, 438, 439, 440, 441, 442, 443, 444, 445, 446, 447, 448, 449, 1105, 1106] (by decide +kernel) (by decide +kernel) w h).1
set_option maxRecDepth 20000 in
theorem wsL_in_15 : ∀ w ∈ wsL_law_r15, w ∈ lw_tbl := fun w h => (goodIn_r wsL_law_r15 [1107, 1108, 1112, 1109, 1110, 1111, 1113, 1114, 1115, 450, 451, 452, 453, 454, 455, 456, 457, 459, 7, 460, 263, 470, 471, 472] (by decide +kernel) (by decide +kernel) w h).1
set_option maxRecDepth 20000 in
theorem wsL_in_16 : ∀ w ∈ wsL_law_r16, w ∈ lw_tbl := fun w h => (goodIn_r wsL_law_r16 [461, 462, 463, 464, 465, 466, 467, 468, 469, 473, 474, 475, 476, 477, 479, 8, 480, 481, 482, 483, 484, 485, 486, 487] (by decide +kernel) (by decide +kernel) w h).1
set_option maxRecDepth 20000 in
theorem wsL_in_17 : ∀ w ∈ wsL_law_r17, w ∈ lw_tbl := fun w h => (goodIn_r wsL_law_r17 [488, 489, 490, 491, 493, 9, 494, 495, 497, 10, 498, 1266, 1267, 1268, 1269, 1270, 1272, 79, 1273, 1274, 1276, 80, 1277, 1278] (by decide +kernel) (by decide +kernel) w h).1
set_option maxRecDepth 20000 in
theorem wsL_in_18 : ∀ w ∈ wsL_law_r18, w ∈ lw_tbl := fun w h => (goodIn_r wsL_law_r18 [1279, 1280, 499, 500, 501, 502, 503, 504, 505, 506, 507, 508, 509, 510, 511, 1281, 1282, 1283, 1284, 1285, 1287, 81, 1288, 512] (by decide +kernel) (by decide +kernel) w h).1
set_option maxRecDepth 20000 in
theorem wsL_in_19 : ∀ w ∈ wsL_law_r19, w ∈ lw_tbl := fun w h => (goodIn_r wsL_law_r19 [513, 514, 515, 516, 517, 518, 519, 520, 521, 522, 523, 524, 525, 526, 527, 528, 529, 530, 531, 170, 174, 175, 173, 532] (by decide +kernel) (by decide +kernel) w h).1
set_option maxRecDepth 20000 in
theorem wsL_in_20 : ∀ w ∈ wsL_law_r20, w ∈ lw_tbl := fun w h => (goodIn_r wsL_law_r20 [534, 11, 535, 171, 536, 537, 538, 539, 540, 541, 543, 12, 544, 545, 546, 547, 548, 549, 550, 551, 552, 553, 554, 555] (by decide +kernel) (by decide +kernel) w h).1
set_option maxRecDepth 20000 in
theorem wsL_in_21 : ∀ w ∈ wsL_law_r21, w ∈ lw_tbl := fun w h => (goodIn_r wsL_law_r21 [556, 558, 13, 559, 172, 560, 561, 101, 562, 563, 565, 14, 566, 567, 569, 15, 570, 571, 572, 574, 16, 575, 576, 578] (by decide +kernel) (by decide +kernel) w h).1
set_option maxRecDepth 20000 in
theorem wsL_in_22 : ∀ w ∈ wsL_law_r22, w ∈ lw_tbl := fun w h => (goodIn_r wsL_law_r22 [17, 579, 580, 581, 582, 583, 584, 586, 18, 587, 588, 589, 591, 19, 592, 593, 594, 595, 596, 597, 598, 600, 20, 601] (by decide +kernel) (by decide +kernel) w h).1
set_option maxRecDepth 20000 in
theorem wsL_in_23 : ∀ w ∈ wsL_law_r23, w ∈ lw_tbl := fun w h => (goodIn_r wsL_law_r23 [602, 604, 21, 605, 606, 607, 102, 608, 609, 610, 611, 612, 614, 22, 615, 616, 618, 23, 619, 620, 621, 622, 623, 1289] (by decide +kernel) (by decide +kernel) w h).1
set_option maxRecDepth 20000 in
theorem wsL_in_24 : ∀ w ∈ wsL_law_r24, w ∈ lw_tbl := fun w h => (goodIn_r wsL_law_r24 [1290, 1291, 1292, 1293, 1295, 82, 1296, 1297, 1299, 83, 1300, 1120, 1122, 54, 1123, 1124, 1125, 1126, 1127, 1129, 55, 1130, 986, 1131] (by decide +kernel) (by decide +kernel) w h).1
set_option maxRecDepth 20000 in
theorem wsL_in_25 : ∀ w ∈ wsL_law_r25, w ∈ lw_tbl := fun w h => (goodIn_r wsL_law_r25 [1133, 56, 1134, 980, 1135, 1136, 1137, 1138, 1139, 1140, 1141, 1142, 1143, 1144, 1145, 1146, 1147, 1148, 1149, 1150, 1152, 57, 1153, 1154] (by decide +kernel) (by decide +kernel) w h).1
set_option maxRecDepth 20000 in
theorem wsL_in_26 : ∀ w ∈ wsL_law_r26, w ∈ lw_tbl := fun w h => (goodIn_r wsL_law_r26 [1156, 58, 1157, 1158, 1159, 1160, 1161, 1162, 1163, 1164, 1166, 59, 1167, 1168, 1170, 60, 1171, 1172, 1174, 61, 1175, 1301, 1302, 1303] (by decide +kernel) (by decide +kernel) w h).1
set_option maxRecDepth 20000 in
theorem wsL_in_27 : ∀ w ∈ wsL_law_r27, w ∈ lw_tbl := fun w h => (goodIn_r wsL_law_r27 [1304, 1306, 84, 1307, 624, 625, 626, 627, 628, 629, 630, 631, 632, 633, 635, 24, 636, 637, 638, 639, 640, 642, 25, 643] (by decide +kernel) (by decide +kernel) w h).1
set_option maxRecDepth 20000 in
theorem wsL_in_28 : ∀ w ∈ wsL_law_r28, w ∈ lw_tbl := fun w h => (goodIn_r wsL_law_r28 [644, 645, 646, 647, 648, 649, 651, 26, 652, 653, 654, 655, 656, 657, 658, 659, 660, 661, 1308, 1309, 1310, 1311, 1220, 1222] (by decide +kernel) (by decide +kernel) w h).1
set_option maxRecDepth 20000 in
theorem wsL_in_29 : ∀ w ∈ wsL_law_r29, w ∈ lw_tbl := fun w h => (goodIn_r wsL_law_r29 [70, 1223, 1224, 1225, 1226, 1227, 1228, 1229, 1230, 1232, 71, 1233, 1234, 1236, 72, 1237, 1312, 1314, 85, 1315, 662, 663, 664, 665] (by decide +kernel) (by decide +kernel) w h).1
set_option maxRecDepth 20000 in
theorem wsL_in_30 : ∀ w ∈ wsL_law_r30, w ∈ lw_tbl := fun w h => (goodIn_r wsL_law_r30 [666, 667, 668, 669, 670, 671, 672, 673, 1316, 1317, 1318, 1319, 674, 675, 676, 677, 678, 679, 680, 681, 682, 683, 684, 685] (by decide +kernel) (by decide +kernel) w h).1
set_option maxRecDepth 20000 in
theorem wsL_in_31 : ∀ w ∈ wsL_law_r31, w ∈ lw_tbl := fun w h => (goodIn_r wsL_law_r31 [686, 687, 689, 27, 690, 691, 693, 28, 694, 695, 697, 29, 698, 699, 1116, 1117, 1118, 1119, 1176, 1178, 62, 1179, 1180, 1182] (by decide +kernel) (by decide +kernel) w h).1
set_option maxRecDepth 20000 in
theorem wsL_in_32 : ∀ w ∈ wsL_law_r32, w ∈ lw_tbl := fun w h => (goodIn_r wsL_law_r32 [63, 1183, 700, 701, 702, 703, 704, 705, 706, 707, 708, 709, 710, 711, 712, 713, 714, 715, 716, 717, 718, 720, 30, 721] (by decide +kernel) (by decide +kernel) w h).1
set_option maxRecDepth 20000 in
theorem wsL_in_33 : ∀ w ∈ wsL_law_r33, w ∈ lw_tbl := fun w h => (goodIn_r wsL_law_r33 [722, 723, 724, 725, 726, 727, 728, 729, 730, 731, 732, 733, 734, 735, 736, 737, 738, 740, 31, 741, 742, 743, 744, 745] (by decide +kernel) (by decide +kernel) w h).1
set_option maxRecDepth 20000 in
theorem wsL_in_34 : ∀ w ∈ wsL_law_r34, w ∈ lw_tbl := fun w h => (goodIn_r wsL_law_r34 [746, 1184, 1185, 1186, 1187, 1188, 1190, 64, 1191, 1192, 1194, 65, 1195, 1196, 1198, 66, 1199, 1200, 1202, 67, 1203, 1204, 1206, 68] (by decide +kernel) (by decide +kernel) w h).1
set_option maxRecDepth 20000 in
theorem wsL_in_35 : ∀ w ∈ wsL_law_r35, w ∈ lw_tbl := fun w h => (goodIn_r wsL_law_r35 [1207, 747, 748, 749, 750, 751, 752, 753, 754, 755, 757, 32, 758, 760, 1208, 1209, 1210, 1211, 1212, 1214, 69, 1215, 761, 762] (by decide +kernel) (by decide +kernel) w h).1
set_option maxRecDepth 20000 in
theorem wsL_in_36 : ∀ w ∈ wsL_law_r36, w ∈ lw_tbl := fun w h => (goodIn_r wsL_law_r36 [763, 764, 765, 766, 767, 768, 769, 1216, 1217, 1218, 1219, 1238, 1240, 73, 1241, 770, 771, 772, 773, 774, 776, 33, 777, 778] (by decide +kernel) (by decide +kernel) w h).1
set_option maxRecDepth 20000 in
theorem wsL_in_37 : ∀ w ∈ wsL_law_r37, w ∈ lw_tbl := fun w h => (goodIn_r wsL_law_r37 [779, 780, 781, 216, 782, 783, 784, 785, 786, 787, 788, 789, 790, 791, 792, 794, 34, 795, 796, 797, 798, 799, 800, 802] (by decide +kernel) (by decide +kernel) w h).1
set_option maxRecDepth 20000 in
theorem wsL_in_38 : ∀ w ∈ wsL_law_r38, w ∈ lw_tbl := fun w h => (goodIn_r wsL_law_r38 [35, 803, 805, 807, 36, 808, 809, 810, 811, 812, 813, 814, 815, 816, 817, 818, 819, 1242, 1243, 1244, 1245, 983, 1246, 1248] (by decide +kernel) (by decide +kernel) w h).1
set_option maxRecDepth 20000 in
theorem wsL_in_39 : ∀ w ∈ wsL_law_r39, w ∈ lw_tbl := fun w h => (goodIn_r wsL_law_r39 [74, 1249, 1250, 1252, 75, 1253, 1254, 1256, 76, 1257, 1258, 1260, 77, 1261, 1262, 1264, 78, 1265, 820, 821, 822, 823, 827, 824] (by decide +kernel) (by decide +kernel) w h).1
set_option maxRecDepth 20000 in
theorem wsL_in_40 : ∀ w ∈ wsL_law_r40, w ∈ lw_tbl := fun w h => (goodIn_r wsL_law_r40 [825, 826, 828, 829, 830, 831, 832, 833, 835, 37, 836, 837, 839, 840, 842, 38, 843, 844, 845, 846, 847, 849, 39, 850] (by decide +kernel) (by decide +kernel) w h).1
set_option maxRecDepth 20000 in
theorem wsL_in_41 : ∀ w ∈ wsL_law_r41, w ∈ lw_tbl := fun w h => (goodIn_r wsL_law_r41 [851, 852, 1320, 1321, 1322, 1323, 1324, 1325, 1326, 1327, 1328, 1329, 1331, 86, 1332, 853, 854, 855, 856, 261, 1333, 1334, 1335, 1336] (by decide +kernel) (by decide +kernel) w h).1
set_option maxRecDepth 20000 in
theorem wsL_in_42 : ∀ w ∈ wsL_law_r42, w ∈ lw_tbl := fun w h => (goodIn_r wsL_law_r42 [1337, 971, 857, 858, 859, 860, 1338, 1339, 1340, 1341, 861, 862, 863, 864, 865, 867, 40, 868, 869, 870, 871, 872, 873, 875] (by decide +kernel) (by decide +kernel) w h).1
set_option maxRecDepth 20000 in
theorem wsL_in_43 : ∀ w ∈ wsL_law_r43, w ∈ lw_tbl := fun w h => (goodIn_r wsL_law_r43 [41, 876, 878, 879, 1342, 1343, 1344, 1345, 1346, 1348, 87, 1349, 1350, 1352, 88, 1353, 880, 881, 882, 883, 884, 886, 42, 887] (by decide +kernel) (by decide +kernel) w h).1
set_option maxRecDepth 20000 in
theorem wsL_in_44 : ∀ w ∈ wsL_law_r44, w ∈ lw_tbl := fun w h => (goodIn_r wsL_law_r44 [888, 889, 890, 891, 892, 893, 894, 895, 896, 897, 898, 899, 900, 901, 902, 903, 904, 905, 906, 1354, 1355, 1356, 1357, 1358] (by decide +kernel) (by decide +kernel) w h).1
set_option maxRecDepth 20000 in
theorem wsL_in_45 : ∀ w ∈ wsL_law_r45, w ∈ lw_tbl := fun w h => (goodIn_r wsL_law_r45 [1359, 1360, 1361, 1362, 1363, 1364, 1365, 1366, 1367, 1368, 1369, 907, 908, 909, 910, 911, 912, 913, 1370, 1371, 1372, 1373, 1374, 1375] (by decide +kernel) (by decide +kernel) w h).1
set_option maxRecDepth 20000 in
theorem wsL_in_46 : ∀ w ∈ wsL_law_r46, w ∈ lw_tbl := fun w h => (goodIn_r wsL_law_r46 [1376, 1377, 914, 915, 916, 917, 264, 1378, 1379, 1380, 1381, 975, 918, 919, 920, 921, 922, 923, 924, 926, 43, 927, 1382, 1383] (by decide +kernel) (by decide +kernel) w h).1
set_option maxRecDepth 20000 in
theorem wsL_in_47 : ∀ w ∈ wsL_law_r47, w ∈ lw_tbl := fun w h => (goodIn_r wsL_law_r47 [1384, 1385, 1386, 1387, 1388, 928, 929, 930, 931, 1389, 1390, 1391, 1392, 932, 933, 934, 935, 936, 937, 938, 939, 1393, 1394, 1395] (by decide +kernel) (by decide +kernel) w h).1
set_option maxRecDepth 20000 in
theorem wsL_in_48 : ∀ w ∈ wsL_law_r48, w ∈ lw_tbl := fun w h => (goodIn_r wsL_law_r48 [1396, 940, 941, 942, 943, 944, 946, 44, 947, 948, 949, 950, 951, 952, 1397, 1398, 1399, 1400, 1401, 1403, 89, 1404] (by decide +kernel) (by decide +kernel) w h).1
set_option maxRecDepth 20000 in
theorem inX6 : ∀ w ∈ wsX60, w ∈ lw_tbl := fun w h => (goodIn_r wsX60 [265, 267, 269, 271, 273, 275, 277, 279, 281, 283, 285, 287, 289, 291, 293, 295, 297] (by decide +kernel) (by decide +kernel) w h).1
set_option maxRecDepth 20000 in
theorem inX7 : ∀ w ∈ wsX70, w ∈ lw_tbl := fun w h => (goodIn_r wsX70 [987, 989, 991, 993, 995, 997, 999, 1001, 1003, 1005, 1007, 1009, 1011, 1013, 1015, 1017, 1019, 1021, 1023, 1025, 1027, 1029, 1031, 1033, 1035, 1037, 1039, 1041] (by decide +kernel) (by decide +kernel) w h).1
set_option maxRecDepth 20000 in
theorem inX5 : ∀ w ∈ wsX50, w ∈ lw_tbl := fun w h => (goodIn_r wsX50 [121, 123, 125, 127] (by decide +kernel) (by decide +kernel) w h).1
set_option maxRecDepth 20000 in
theorem inX1 : ∀ w ∈ wsX10, w ∈ lw_tbl := fun w h => (goodIn_r wsX10 [141, 143, 145, 147] (by decide +kernel) (by decide +kernel) w h).1
set_option maxRecDepth 20000 in
theorem inX4 : ∀ w ∈ wsX40, w ∈ lw_tbl := fun w h => (goodIn_r wsX40 [176, 178, 180, 182, 184, 186, 188, 190, 192, 194, 196, 198, 200, 202, 204, 206] (by decide +kernel) (by decide +kernel) w h).1
set_option maxRecDepth 20000 in
theorem inX2 : ∀ w ∈ wsX20, w ∈ lw_tbl := fun w h => (goodIn_r wsX20 [217, 219] (by decide +kernel) (by decide +kernel) w h).1
set_option maxRecDepth 20000 in
theorem inX3 : ∀ w ∈ wsX30, w ∈ lw_tbl := fun w h => (goodIn_r wsX30 [236, 238, 240, 242, 244] (by decide +kernel) (by decide +kernel) w h).1
set_option maxRecDepth 20000 in
theorem wsL_law_in : ∀ w ∈ wsL_law, w ∈ lw_tbl := fun w h => (List.mem_append.mp h).elim (fun h => (List.mem_append.mp h).elim (fun h => (List.mem_append.mp h).elim (fun h => (List.mem_append.mp h).elim (fun h => (List.mem_append.mp h).elim (fun h => (List.mem_append.mp h).elim (fun h => (List.mem_append.mp h).elim (fun h => (List.mem_append.mp h).elim (fun h => (List.mem_append.mp h).elim (fun h => wsL_in_1 w h) (fun h => (List.mem_append.mp h).elim (fun h => wsL_in_2 w h) (fun h => (List.mem_append.mp h).elim (fun h => wsL_in_3 w h) (fun h => (List.mem_append.mp h).elim (fun h => wsL_in_4 w h) (fun h => (List.mem_append.mp h).elim (fun h => wsL_in_5 w h) (fun h => (List.mem_append.mp h).elim (fun h => wsL_in_6 w h) (fun h => (List.mem_append.mp h).elim (fun h => wsL_in_7 w h) (fun h => (List.mem_append.mp h).elim (fun h => wsL_in_8 w h) (fun h => (List.mem_append.mp h).elim (fun h => wsL_in_9 w h) (fun h => (List.mem_append.mp h).elim (fun h => wsL_in_10 w h) (fun h => (List.mem_append.mp h).elim (fun h => wsL_in_11 w h) (fun h => (List.mem_append.mp h).elim (fun h => wsL_in_12 w h) (fun h => (List.mem_append.mp h).elim (fun h => wsL_in_13 w h) (fun h => (List.mem_append.mp h).elim (fun h => wsL_in_14 w h) (fun h => (List.mem_append.mp h).elim (fun h => wsL_in_15 w h) (fun h => (List.mem_append.mp h).elim (fun h => wsL_in_16 w h) (fun h => (List.mem_append.mp h).elim (fun h => wsL_in_17 w h) (fun h => (List.mem_append.mp h).elim (fun h => wsL_in_18 w h) (fun h => (List.mem_append.mp h).elim (fun h => wsL_in_19 w h) (fun h => (List.mem_append.mp h).elim (fun h => wsL_in_20 w h) (fun h => (List.mem_append.mp h).elim (fun h => wsL_in_21 w h) (fun h => (List.mem_append.mp h).elim (fun h => wsL_in_22 w h) (fun h => (List.mem_append.mp h).elim (fun h => wsL_in_23 w h) (fun h => (List.mem_append.mp h).elim (fun h => wsL_in_24 w h) (fun h => (List.mem_append.mp h).elim (fun h => wsL_in_25 w h) (fun h => (List.mem_append.mp h).elim (fun h => wsL_in_26 w h) (fun h => (List.mem_append.mp h).elim (fun h => wsL_in_27 w h) (fun h => (List.mem_append.mp h).elim (fun h => wsL_in_28 w h) (fun h => (List.mem_append.mp h).elim (fun h => wsL_in_29 w h) (fun h => (List.mem_append.mp h).elim (fun h => wsL_in_30 w h) (fun h => (List.mem_append.mp h).elim (fun h => wsL_in_31 w h) (fun h => (List.mem_append.mp h).elim (fun h => wsL_in_32 w h) (fun h => (List.mem_append.mp h).elim (fun h => wsL_in_33 w h) (fun h => (List.mem_append.mp h).elim (fun h => wsL_in_34 w h) (fun h => (List.mem_append.mp h).elim (fun h => wsL_in_35 w h) (fun h => (List.mem_append.mp h).elim (fun h => wsL_in_36 w h) (fun h => (List.mem_append.mp h).elim (fun h => wsL_in_37 w h) (fun h => (List.mem_append.mp h).elim (fun h => wsL_in_38 w h) (fun h => (List.mem_append.mp h).elim (fun h => wsL_in_39 w h) (fun h => (List.mem_append.mp h).elim (fun h => wsL_in_40 w h) (fun h => (List.mem_append.mp h).elim (fun h => wsL_in_41 w h) (fun h => (List.mem_append.mp h).elim (fun h => wsL_in_42 w h) (fun h => (List.mem_append.mp h).elim (fun h => wsL_in_43 w h) (fun h => (List.mem_append.mp h).elim (fun h => wsL_in_44 w h) (fun h => (List.mem_append.mp h).elim (fun h => wsL_in_45 w h) (fun h => (List.mem_append.mp h).elim (fun h => wsL_in_46 w h) (fun h => (List.mem_append.mp h).elim (fun h => wsL_in_47 w h) (fun h => wsL_in_48 w h)))))))))))))))))))))))))))))))))))))))))))))))) (fun h => inX6 w h)) (fun h => inX7 w h)) (fun h => inX5 w h)) (fun h => inX1 w h)) (fun h => inX4 w h)) (fun h => inX2 w h)) (fun h => inX3 w h)) (fun h => absurd h List.not_mem_nil)
theorem inX0 : ∀ w ∈ wsX00, w ∈ lw_tbl := by decide +kernel
theorem inJ6 : ∀ w ∈ wsJ60, w ∈ lw_tbl := by decide +kernel
theorem inJ9 : ∀ w ∈ wsJ90, w ∈ lw_tbl := by decide +kernel
theorem inJ10 : ∀ w ∈ wsJ100, w ∈ lw_tbl := by decide +kernel
theorem inJ7 : ∀ w ∈ wsJ70, w ∈ lw_tbl := by decide +kernel
