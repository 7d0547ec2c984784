/-! ===== the words of the law among the tables' ===== -/
theorem mem_r {big : List Cond} (ws : List Cond) (ps : List Nat) (hp : ws = ps.filterMap (fun i => big[i]?)) : ∀ w ∈ ws, w ∈ big := by
  intro w hw
  rw [hp] at hw
  obtain ⟨i, -, hi⟩ := List.mem_filterMap.mp hw
  first | exact List.mem_of_getElem? hi | exact List.getElem?_mem hi
set_option maxRecDepth 20000 in
theorem in_wsL_law_r1 : ∀ w ∈ wsL_law_r1, w ∈ lw_tbl := mem_r _ [95, 96, 77, 980, 981, 90, 97, 98, 99, 100, 101, 102, 103, 104, 78, 416, 417, 418, 125, 126, 80, 419, 152, 153] (by decide +kernel)
set_option maxRecDepth 20000 in
theorem in_wsL_law_r2 : ∀ w ∈ wsL_law_r2, w ∈ lw_tbl := mem_r _ [81, 425, 426, 225, 226, 84, 420, 293, 294, 86, 421, 391, 392, 89, 422, 423, 414, 233, 85, 424, 105, 106, 107, 108] (by decide +kernel)
set_option maxRecDepth 20000 in
theorem in_wsL_law_r3 : ∀ w ∈ wsL_law_r3, w ∈ lw_tbl := mem_r _ [109, 110, 79, 111, 124, 112, 127, 128, 129, 130, 131, 155, 156, 157, 158, 159, 82, 200, 205, 209, 213, 160, 161, 162] (by decide +kernel)
set_option maxRecDepth 20000 in
theorem in_wsL_law_r4 : ∀ w ∈ wsL_law_r4, w ∈ lw_tbl := mem_r _ [163, 164, 165, 190, 167, 83, 169, 170, 171, 172, 174, 180, 173, 227, 228, 229, 230, 231, 285, 234, 235, 236, 237, 238] (by decide +kernel)
set_option maxRecDepth 20000 in
theorem in_wsL_law_r5 : ∀ w ∈ wsL_law_r5, w ∈ lw_tbl := mem_r _ [244, 247, 240, 239, 295, 296, 297, 298, 299, 300, 87, 363, 335, 336, 88, 365, 361, 367, 368, 369, 302, 303, 304, 305] (by decide +kernel)
set_option maxRecDepth 20000 in
theorem in_wsL_law_r6 : ∀ w ∈ wsL_law_r6, w ∈ lw_tbl := mem_r _ [306, 334, 307, 338, 339, 340, 341, 343, 345, 346, 342, 362, 394, 395, 396, 397, 401, 399, 403, 400, 415, 982, 983, 984] (by decide +kernel)
set_option maxRecDepth 20000 in
theorem in_wsL_law_r7 : ∀ w ∈ wsL_law_r7, w ∈ lw_tbl := mem_r _ [985, 992, 993, 994, 995, 996, 997, 998, 1008, 1009, 1010, 1011, 1012, 1016, 1017, 1018, 1019, 1020, 1162, 1021, 1022, 1023, 1024, 1025] (by decide +kernel)
set_option maxRecDepth 20000 in
theorem in_wsL_law_r8 : ∀ w ∈ wsL_law_r8, w ∈ lw_tbl := mem_r _ [1026, 1028, 1030, 1032, 1034, 1035, 1036, 1038, 1040, 1041, 1043, 1044, 1045, 986, 988, 24, 989, 1013, 1014, 1015, 1027, 1029, 1033, 1037] (by decide +kernel)
set_option maxRecDepth 20000 in
theorem in_wsL_law_r9 : ∀ w ∈ wsL_law_r9, w ∈ lw_tbl := mem_r _ [1042, 1046, 450, 451, 452, 453, 116, 454, 455, 456, 457, 113, 1163, 1164, 1165, 1166, 1167, 999, 1168, 1169, 1170, 458, 459, 460] (by decide +kernel)
set_option maxRecDepth 20000 in
theorem in_wsL_law_r10 : ∀ w ∈ wsL_law_r10, w ∈ lw_tbl := mem_r _ [461, 462, 463, 464, 465, 1171, 1172, 1173, 1174, 466, 467, 468, 469, 137, 135, 470, 471, 472, 473, 132, 133, 134, 138, 136] (by decide +kernel)
set_option maxRecDepth 20000 in
theorem in_wsL_law_r11 : ∀ w ∈ wsL_law_r11, w ∈ lw_tbl := mem_r _ [115, 474, 475, 476, 477, 191, 478, 480, 0, 481, 482, 483, 484, 485, 486, 487, 488, 489, 490, 491, 492, 494, 1, 495] (by decide +kernel)
set_option maxRecDepth 20000 in
theorem in_wsL_law_r12 : ∀ w ∈ wsL_law_r12, w ∈ lw_tbl := mem_r _ [210, 214, 206, 201, 497, 499, 2, 500, 501, 502, 503, 91, 504, 1509, 505, 506, 507, 508, 509, 1510, 511, 512, 513, 514] (by decide +kernel)
set_option maxRecDepth 20000 in
theorem in_wsL_law_r13 : ∀ w ∈ wsL_law_r13, w ∈ lw_tbl := mem_r _ [515, 516, 517, 518, 519, 520, 92, 521, 522, 523, 524, 525, 527, 528, 93, 529, 530, 531, 94, 532, 533, 534, 535, 536] (by decide +kernel)
set_option maxRecDepth 20000 in
theorem in_wsL_law_r14 : ∀ w ∈ wsL_law_r14, w ∈ lw_tbl := mem_r _ [537, 538, 539, 540, 541, 542, 543, 545, 547, 549, 551, 3, 552, 553, 555, 4, 556, 559, 561, 5, 562, 176, 181, 193] (by decide +kernel)
set_option maxRecDepth 20000 in
theorem in_wsL_law_r15 : ∀ w ∈ wsL_law_r15, w ∈ lw_tbl := mem_r _ [563, 564, 565, 566, 192, 567, 569, 6, 570, 571, 573, 7, 574, 575, 576, 577, 578, 579, 580, 175, 182, 581, 582, 583] (by decide +kernel)
set_option maxRecDepth 20000 in
theorem in_wsL_law_r16 : ∀ w ∈ wsL_law_r16, w ∈ lw_tbl := mem_r _ [584, 585, 586, 587, 588, 590, 592, 8, 593, 287, 594, 595, 596, 597, 370, 598, 599, 600, 601, 308, 312, 314, 316, 602] (by decide +kernel)
set_option maxRecDepth 20000 in
theorem in_wsL_law_r17 : ∀ w ∈ wsL_law_r17, w ∈ lw_tbl := mem_r _ [603, 604, 605, 347, 348, 606, 607, 608, 609, 610, 405, 611, 612, 1175, 1176, 1177, 1178, 1001, 1004, 990, 1005, 991, 1006, 1007] (by decide +kernel)
set_option maxRecDepth 20000 in
theorem in_wsL_law_r18 : ∀ w ∈ wsL_law_r18, w ∈ lw_tbl := mem_r _ [1003, 1179, 1181, 25, 1182, 1000, 1002, 1183, 1185, 26, 1186, 1187, 1188, 1189, 1190, 1191, 1192, 1193, 1194, 1195, 1196, 1197, 1199, 27] (by decide +kernel)
set_option maxRecDepth 20000 in
theorem in_wsL_law_r19 : ∀ w ∈ wsL_law_r19, w ∈ lw_tbl := mem_r _ [1200, 1206, 1207, 1222, 1239, 1201, 1203, 28, 1204, 1205, 1208, 1210, 29, 1211, 1216, 1212, 1214, 30, 1215, 1217, 1219, 31, 1220, 1221] (by decide +kernel)
set_option maxRecDepth 20000 in
theorem in_wsL_law_r20 : ∀ w ∈ wsL_law_r20, w ∈ lw_tbl := mem_r _ [1223, 1225, 32, 1226, 1227, 1229, 33, 1230, 1231, 1233, 34, 1234, 1235, 1237, 35, 1238, 1240, 1242, 36, 1243, 1244, 1246, 37, 1247] (by decide +kernel)
set_option maxRecDepth 20000 in
theorem in_wsL_law_r21 : ∀ w ∈ wsL_law_r21, w ∈ lw_tbl := mem_r _ [1248, 1250, 38, 1251, 614, 615, 616, 617, 203, 208, 178, 183, 618, 619, 1252, 1253, 1254, 1255, 620, 621, 622, 623, 624, 625] (by decide +kernel)
set_option maxRecDepth 20000 in
theorem in_wsL_law_r22 : ∀ w ∈ wsL_law_r22, w ∈ lw_tbl := mem_r _ [626, 627, 211, 317, 628, 629, 630, 631, 632, 633, 634, 635, 636, 637, 638, 639, 640, 641, 642, 643, 644, 645, 646, 647] (by decide +kernel)
set_option maxRecDepth 20000 in
theorem in_wsL_law_r23 : ∀ w ∈ wsL_law_r23, w ∈ lw_tbl := mem_r _ [648, 649, 650, 651, 652, 117, 653, 654, 655, 656, 657, 658, 659, 660, 661, 662, 663, 664, 665, 666, 668, 9, 669, 1256] (by decide +kernel)
set_option maxRecDepth 20000 in
theorem in_wsL_law_r24 : ∀ w ∈ wsL_law_r24, w ∈ lw_tbl := mem_r _ [1257, 1258, 1259, 1039, 1260, 1262, 39, 1263, 1264, 1266, 40, 1267, 1268, 1270, 41, 1271, 1272, 1274, 42, 1275, 1276, 1278, 43, 1279] (by decide +kernel)
set_option maxRecDepth 20000 in
theorem in_wsL_law_r25 : ∀ w ∈ wsL_law_r25, w ∈ lw_tbl := mem_r _ [1280, 1282, 44, 1283, 1284, 1286, 45, 1287, 1288, 1290, 46, 1291, 1292, 1294, 47, 1295, 1296, 1298, 48, 1299, 1300, 1302, 49, 1303] (by decide +kernel)
set_option maxRecDepth 20000 in
theorem in_wsL_law_r26 : ∀ w ∈ wsL_law_r26, w ∈ lw_tbl := mem_r _ [1304, 1306, 50, 1307, 670, 671, 672, 673, 674, 675, 676, 677, 202, 678, 679, 681, 10, 682, 207, 177, 310, 184, 683, 684] (by decide +kernel)
set_option maxRecDepth 20000 in
theorem in_wsL_law_r27 : ∀ w ∈ wsL_law_r27, w ∈ lw_tbl := mem_r _ [685, 686, 687, 688, 689, 690, 179, 691, 692, 693, 694, 695, 696, 697, 698, 699, 700, 701, 702, 703, 704, 705, 114, 706] (by decide +kernel)
set_option maxRecDepth 20000 in
theorem in_wsL_law_r28 : ∀ w ∈ wsL_law_r28, w ∈ lw_tbl := mem_r _ [708, 11, 709, 710, 711, 712, 713, 714, 715, 716, 717, 1308, 1309, 1310, 1311, 1312, 1314, 51, 1315, 1316, 1318, 52, 1319, 1320] (by decide +kernel)
set_option maxRecDepth 20000 in
theorem in_wsL_law_r29 : ∀ w ∈ wsL_law_r29, w ∈ lw_tbl := mem_r _ [1322, 53, 1323, 1324, 1326, 54, 1327, 1328, 1329, 1330, 1331, 1333, 55, 1334, 1335, 1337, 56, 1338, 1339, 1341, 57, 1342, 1343, 1345] (by decide +kernel)
set_option maxRecDepth 20000 in
theorem in_wsL_law_r30 : ∀ w ∈ wsL_law_r30, w ∈ lw_tbl := mem_r _ [58, 1346, 718, 719, 720, 721, 722, 723, 724, 725, 726, 727, 728, 729, 730, 731, 732, 733, 734, 1347, 1348, 1349, 1350, 1351] (by decide +kernel)
set_option maxRecDepth 20000 in
theorem in_wsL_law_r31 : ∀ w ∈ wsL_law_r31, w ∈ lw_tbl := mem_r _ [1353, 59, 1354, 735, 736, 737, 738, 1355, 1356, 1357, 1358, 739, 740, 741, 742, 743, 744, 745, 746, 747, 1359, 1360, 1361, 1362] (by decide +kernel)
set_option maxRecDepth 20000 in
theorem in_wsL_law_r32 : ∀ w ∈ wsL_law_r32, w ∈ lw_tbl := mem_r _ [748, 749, 750, 751, 242, 752, 753, 754, 755, 286, 756, 757, 758, 759, 250, 255, 258, 260, 264, 760, 761, 762, 764, 12] (by decide +kernel)
set_option maxRecDepth 20000 in
theorem in_wsL_law_r33 : ∀ w ∈ wsL_law_r33, w ∈ lw_tbl := mem_r _ [765, 371, 215, 766, 767, 768, 769, 265, 252, 770, 771, 772, 773, 774, 775, 776, 777, 372, 373, 256, 245, 118, 248, 778] (by decide +kernel)
set_option maxRecDepth 20000 in
theorem in_wsL_law_r34 : ∀ w ∈ wsL_law_r34, w ∈ lw_tbl := mem_r _ [779, 781, 13, 782, 783, 784, 786, 14, 787, 788, 789, 790, 791, 792, 793, 795, 15, 796, 797, 799, 16, 800, 253, 801] (by decide +kernel)
set_option maxRecDepth 20000 in
theorem in_wsL_law_r35 : ∀ w ∈ wsL_law_r35, w ∈ lw_tbl := mem_r _ [243, 802, 803, 804, 805, 806, 808, 17, 809, 810, 1363, 1364, 1365, 1366, 1367, 1031, 1368, 1370, 60, 1371, 1372, 1374, 61, 1375] (by decide +kernel)
set_option maxRecDepth 20000 in
theorem in_wsL_law_r36 : ∀ w ∈ wsL_law_r36, w ∈ lw_tbl := mem_r _ [1376, 1378, 62, 1379, 1380, 1382, 63, 1383, 1384, 1386, 64, 1387, 1388, 1390, 65, 1391, 1392, 1394, 66, 1395, 1396, 1398, 67, 1399] (by decide +kernel)
set_option maxRecDepth 20000 in
theorem in_wsL_law_r37 : ∀ w ∈ wsL_law_r37, w ∈ lw_tbl := mem_r _ [1400, 1401, 1402, 811, 812, 813, 814, 366, 344, 249, 815, 816, 817, 818, 819, 820, 821, 822, 823, 824, 825, 826, 1403, 1404] (by decide +kernel)
set_option maxRecDepth 20000 in
theorem in_wsL_law_r38 : ∀ w ∈ wsL_law_r38, w ∈ lw_tbl := mem_r _ [1405, 1406, 827, 828, 829, 830, 364, 831, 1407, 1408, 1409, 1410, 832, 833, 834, 835, 349, 836, 402, 837, 838, 839, 840, 204] (by decide +kernel)
set_option maxRecDepth 20000 in
theorem in_wsL_law_r39 : ∀ w ∈ wsL_law_r39, w ∈ lw_tbl := mem_r _ [841, 842, 843, 844, 845, 846, 847, 848, 251, 309, 849, 850, 851, 852, 853, 855, 18, 856, 262, 857, 859, 19, 860, 861] (by decide +kernel)
set_option maxRecDepth 20000 in
theorem in_wsL_law_r40 : ∀ w ∈ wsL_law_r40, w ∈ lw_tbl := mem_r _ [863, 20, 864, 865, 866, 868, 21, 869, 261, 241, 871, 870, 872, 873, 874, 875, 876, 1411, 1412, 1413, 1414, 1415, 1416, 1418] (by decide +kernel)
set_option maxRecDepth 20000 in
theorem in_wsL_law_r41 : ∀ w ∈ wsL_law_r41, w ∈ lw_tbl := mem_r _ [68, 1419, 1420, 1422, 69, 1423, 1424, 1426, 70, 1427, 1428, 1430, 71, 1431, 1432, 1434, 72, 1435, 877, 878, 879, 880, 263, 259] (by decide +kernel)
set_option maxRecDepth 20000 in
theorem in_wsL_law_r42 : ∀ w ∈ wsL_law_r42, w ∈ lw_tbl := mem_r _ [881, 882, 883, 884, 885, 1436, 1437, 1438, 1439, 1440, 1442, 73, 1443, 886, 887, 888, 889, 890, 891, 892, 893, 1444, 1445, 1446] (by decide +kernel)
set_option maxRecDepth 20000 in
theorem in_wsL_law_r43 : ∀ w ∈ wsL_law_r43, w ∈ lw_tbl := mem_r _ [1447, 894, 895, 896, 897, 311, 406, 404, 898, 1448, 1449, 1450, 1451, 899, 900, 901, 902, 903, 904, 905, 906, 266, 907, 908] (by decide +kernel)
set_option maxRecDepth 20000 in
theorem in_wsL_law_r44 : ∀ w ∈ wsL_law_r44, w ∈ lw_tbl := mem_r _ [909, 910, 911, 912, 1452, 1453, 1454, 1455, 1456, 1458, 74, 1459, 913, 914, 915, 916, 313, 315, 318, 917, 919, 22, 920, 1460] (by decide +kernel)
set_option maxRecDepth 20000 in
theorem in_wsL_law_r45 : ∀ w ∈ wsL_law_r45, w ∈ lw_tbl := mem_r _ [1461, 1462, 1463, 921, 922, 923, 924, 925, 926, 927, 1464, 1465, 1466, 1467, 928, 929, 930, 931, 936, 932, 933, 934, 935, 1468] (by decide +kernel)
set_option maxRecDepth 20000 in
theorem in_wsL_law_r46 : ∀ w ∈ wsL_law_r46, w ∈ lw_tbl := mem_r _ [1469, 1470, 1471, 1472, 937, 938, 939, 940, 254, 257, 267, 246, 1473, 1474, 1475, 1476, 941, 942, 943, 944, 1477, 1478, 1479, 1480] (by decide +kernel)
set_option maxRecDepth 20000 in
theorem in_wsL_law_r47 : ∀ w ∈ wsL_law_r47, w ∈ lw_tbl := mem_r _ [945, 946, 947, 948, 949, 1481, 1482, 1483, 1484, 950, 951, 952, 953, 1485, 1486, 1487, 1488, 954, 955, 956, 957, 958, 1489, 1490] (by decide +kernel)
set_option maxRecDepth 20000 in
theorem in_wsL_law_r48 : ∀ w ∈ wsL_law_r48, w ∈ lw_tbl := mem_r _ [1491, 1492, 1493, 959, 960, 961, 962, 963, 965, 23, 966, 971, 967, 968, 969, 970, 1494, 1495, 1496, 1497, 1498, 1499, 1500, 972] (by decide +kernel)
set_option maxRecDepth 20000 in
theorem in_wsL_law_r49 : ∀ w ∈ wsL_law_r49, w ∈ lw_tbl := mem_r _ [973, 974, 975, 194, 212, 976, 977, 978, 979, 1501, 1502, 1503, 1504, 1505, 1507, 75, 1508] (by decide +kernel)
set_option maxRecDepth 20000 in
theorem in_wsX110 : ∀ w ∈ wsX110, w ∈ lw_tbl := mem_r _ [427, 429, 431, 433, 435, 437, 439, 441, 443, 445, 447] (by decide +kernel)
set_option maxRecDepth 20000 in
theorem in_wsX120 : ∀ w ∈ wsX120, w ∈ lw_tbl := mem_r _ [1047, 1049, 1051, 1053, 1055, 1057, 1059, 1061, 1063, 1065, 1067, 1069, 1071, 1073, 1075, 1077, 1079, 1081, 1083, 1085, 1087, 1089, 1091, 1093, 1095, 1097, 1099, 1101, 1103, 1105, 1107, 1109, 1111, 1113, 1115, 1117, 1119, 1121, 1123, 1125, 1127, 1129, 1131, 1133, 1135, 1137, 1139, 1141, 1143, 1145, 1147, 1149, 1151, 1153, 1155, 1157, 1159] (by decide +kernel)
set_option maxRecDepth 20000 in
theorem in_wsX60 : ∀ w ∈ wsX60, w ∈ lw_tbl := mem_r _ [119, 121] (by decide +kernel)
set_option maxRecDepth 20000 in
theorem in_wsX40 : ∀ w ∈ wsX40, w ∈ lw_tbl := mem_r _ [139, 141, 143, 145, 147, 149] (by decide +kernel)
set_option maxRecDepth 20000 in
theorem in_wsX70 : ∀ w ∈ wsX70, w ∈ lw_tbl := mem_r _ [216, 218, 220, 222] (by decide +kernel)
set_option maxRecDepth 20000 in
theorem in_wsX10 : ∀ w ∈ wsX10, w ∈ lw_tbl := mem_r _ [288, 290] (by decide +kernel)
set_option maxRecDepth 20000 in
theorem in_wsX100 : ∀ w ∈ wsX100, w ∈ lw_tbl := mem_r _ [374, 376, 378, 380, 382, 384, 386, 388] (by decide +kernel)
set_option maxRecDepth 20000 in
theorem in_wsX50 : ∀ w ∈ wsX50, w ∈ lw_tbl := mem_r _ [407, 409, 411] (by decide +kernel)
set_option maxRecDepth 20000 in
theorem in_wsX00 : ∀ w ∈ wsX00, w ∈ lw_tbl := mem_r _ [268, 270, 272, 274, 276, 278, 280, 282] (by decide +kernel)
set_option maxRecDepth 20000 in
theorem in_wsX30 : ∀ w ∈ wsX30, w ∈ lw_tbl := mem_r _ [195, 197] (by decide +kernel)
set_option maxRecDepth 20000 in
theorem in_wsX20 : ∀ w ∈ wsX20, w ∈ lw_tbl := mem_r _ [185, 187] (by decide +kernel)
set_option maxRecDepth 20000 in
theorem in_wsX90 : ∀ w ∈ wsX90, w ∈ lw_tbl := mem_r _ [319, 321, 323, 325, 327, 329, 331] (by decide +kernel)
set_option maxRecDepth 20000 in
theorem in_wsX80 : ∀ w ∈ wsX80, w ∈ lw_tbl := mem_r _ [350, 352, 354, 356, 358] (by decide +kernel)
theorem in_wsL_r : ∀ w ∈ (wsL_law_r1 ++ (wsL_law_r2 ++ (wsL_law_r3 ++ (wsL_law_r4 ++ (wsL_law_r5 ++ (wsL_law_r6 ++ (wsL_law_r7 ++ (wsL_law_r8 ++ (wsL_law_r9 ++ (wsL_law_r10 ++ (wsL_law_r11 ++ (wsL_law_r12 ++ (wsL_law_r13 ++ (wsL_law_r14 ++ (wsL_law_r15 ++ (wsL_law_r16 ++ (wsL_law_r17 ++ (wsL_law_r18 ++ (wsL_law_r19 ++ (wsL_law_r20 ++ (wsL_law_r21 ++ (wsL_law_r22 ++ (wsL_law_r23 ++ (wsL_law_r24 ++ (wsL_law_r25 ++ (wsL_law_r26 ++ (wsL_law_r27 ++ (wsL_law_r28 ++ (wsL_law_r29 ++ (wsL_law_r30 ++ (wsL_law_r31 ++ (wsL_law_r32 ++ (wsL_law_r33 ++ (wsL_law_r34 ++ (wsL_law_r35 ++ (wsL_law_r36 ++ (wsL_law_r37 ++ (wsL_law_r38 ++ (wsL_law_r39 ++ (wsL_law_r40 ++ (wsL_law_r41 ++ (wsL_law_r42 ++ (wsL_law_r43 ++ (wsL_law_r44 ++ (wsL_law_r45 ++ (wsL_law_r46 ++ (wsL_law_r47 ++ (wsL_law_r48 ++ (wsL_law_r49))))))))))))))))))))))))))))))))))))))))))))))))), w ∈ lw_tbl :=
  List.forall_mem_append.mpr ⟨in_wsL_law_r1, List.forall_mem_append.mpr ⟨in_wsL_law_r2, List.forall_mem_append.mpr ⟨in_wsL_law_r3, List.forall_mem_append.mpr ⟨in_wsL_law_r4, List.forall_mem_append.mpr ⟨in_wsL_law_r5, List.forall_mem_append.mpr ⟨in_wsL_law_r6, List.forall_mem_append.mpr ⟨in_wsL_law_r7, List.forall_mem_append.mpr ⟨in_wsL_law_r8, List.forall_mem_append.mpr ⟨in_wsL_law_r9, List.forall_mem_append.mpr ⟨in_wsL_law_r10, List.forall_mem_append.mpr ⟨in_wsL_law_r11, List.forall_mem_append.mpr ⟨in_wsL_law_r12, List.forall_mem_append.mpr ⟨in_wsL_law_r13, List.forall_mem_append.mpr ⟨in_wsL_law_r14, List.forall_mem_append.mpr ⟨in_wsL_law_r15, List.forall_mem_append.mpr ⟨in_wsL_law_r16, List.forall_mem_append.mpr ⟨in_wsL_law_r17, List.forall_mem_append.mpr ⟨in_wsL_law_r18, List.forall_mem_append.mpr ⟨in_wsL_law_r19, List.forall_mem_append.mpr ⟨in_wsL_law_r20, List.forall_mem_append.mpr ⟨in_wsL_law_r21, List.forall_mem_append.mpr ⟨in_wsL_law_r22, List.forall_mem_append.mpr ⟨in_wsL_law_r23, List.forall_mem_append.mpr ⟨in_wsL_law_r24, List.forall_mem_append.mpr ⟨in_wsL_law_r25, List.forall_mem_append.mpr ⟨in_wsL_law_r26, List.forall_mem_append.mpr ⟨in_wsL_law_r27, List.forall_mem_append.mpr ⟨in_wsL_law_r28, List.forall_mem_append.mpr ⟨in_wsL_law_r29, List.forall_mem_append.mpr ⟨in_wsL_law_r30, List.forall_mem_append.mpr ⟨in_wsL_law_r31, List.forall_mem_append.mpr ⟨in_wsL_law_r32, List.forall_mem_append.mpr ⟨in_wsL_law_r33, List.forall_mem_append.mpr ⟨in_wsL_law_r34, List.forall_mem_append.mpr ⟨in_wsL_law_r35, List.forall_mem_append.mpr ⟨in_wsL_law_r36, List.forall_mem_append.mpr ⟨in_wsL_law_r37, List.forall_mem_append.mpr ⟨in_wsL_law_r38, List.forall_mem_append.mpr ⟨in_wsL_law_r39, List.forall_mem_append.mpr ⟨in_wsL_law_r40, List.forall_mem_append.mpr ⟨in_wsL_law_r41, List.forall_mem_append.mpr ⟨in_wsL_law_r42, List.forall_mem_append.mpr ⟨in_wsL_law_r43, List.forall_mem_append.mpr ⟨in_wsL_law_r44, List.forall_mem_append.mpr ⟨in_wsL_law_r45, List.forall_mem_append.mpr ⟨in_wsL_law_r46, List.forall_mem_append.mpr ⟨in_wsL_law_r47, List.forall_mem_append.mpr ⟨in_wsL_law_r48, in_wsL_law_r49⟩⟩⟩⟩⟩⟩⟩⟩⟩⟩⟩⟩⟩⟩⟩⟩⟩⟩⟩⟩⟩⟩⟩⟩⟩⟩⟩⟩⟩⟩⟩⟩⟩⟩⟩⟩⟩⟩⟩⟩⟩⟩⟩⟩⟩⟩⟩⟩
theorem wsL_law_in : ∀ w ∈ wsL_law, w ∈ lw_tbl := by
  unfold wsL_law
  exact List.forall_mem_append.mpr ⟨List.forall_mem_append.mpr ⟨List.forall_mem_append.mpr ⟨List.forall_mem_append.mpr ⟨List.forall_mem_append.mpr ⟨List.forall_mem_append.mpr ⟨List.forall_mem_append.mpr ⟨List.forall_mem_append.mpr ⟨List.forall_mem_append.mpr ⟨List.forall_mem_append.mpr ⟨List.forall_mem_append.mpr ⟨List.forall_mem_append.mpr ⟨List.forall_mem_append.mpr ⟨List.forall_mem_append.mpr ⟨in_wsL_r, in_wsX110⟩, in_wsX120⟩, in_wsX60⟩, in_wsX40⟩, in_wsX70⟩, in_wsX10⟩, in_wsX100⟩, in_wsX50⟩, in_wsX00⟩, in_wsX30⟩, in_wsX20⟩, in_wsX90⟩, in_wsX80⟩, fun _ h => absurd h List.not_mem_nil⟩
