/-! THE LAW: the words of both sides are among its own (printed by wip/gen/lwords.py) -/
theorem lw_sub {ws : List Cond} (is : List Nat) (h : ws = is.filterMap (fun i => lw_tbl[i]?)) : ∀ w ∈ ws, w ∈ lw_tbl := by
  subst h
  intro w hw
  obtain ⟨i, -, hi⟩ := List.mem_filterMap.mp hw
  exact List.mem_of_getElem? hi
theorem lw_two {a b : List Cond} (ha : ∀ w ∈ a, w ∈ lw_tbl) (hb : ∀ w ∈ b, w ∈ lw_tbl) : ∀ w ∈ a ++ b, w ∈ lw_tbl := fun w hw => (List.mem_append.mp hw).elim (ha w) (hb w)
set_option maxRecDepth 100000 in
theorem lwm_cek0 : ∀ w ∈ cek0, w ∈ lw_tbl := lw_sub [372, 162, 163, 373, 374, 147, 375, 376, 270, 377, 271, 378, 333, 315, 334, 335, 337, 339, 341, 343, 344, 345, 484, 485, 487, 489, 491, 493, 495, 496, 497, 498, 535, 536, 538, 540, 542, 544, 546, 642] rfl
set_option maxRecDepth 100000 in
theorem lwm_cek1 : ∀ w ∈ cek1, w ∈ lw_tbl := lw_sub [643, 645, 272, 648, 654, 657, 659, 663, 669, 670, 672, 447, 450, 452, 455, 448, 368, 146, 449, 370, 371, 456, 327, 328, 329, 145, 331, 332, 386, 390, 393, 395, 398, 399, 400, 405, 407, 367, 369, 408] rfl
set_option maxRecDepth 100000 in
theorem lwm_cek2 : ∀ w ∈ cek2, w ∈ lw_tbl := lw_sub [321, 322, 323, 144, 325, 326, 571, 442, 443, 148, 445, 446, 573, 479, 480, 149, 482, 483, 575, 530, 531, 150, 533, 534, 577, 569, 570, 579, 583, 585, 586, 175, 177, 178, 138, 179, 239, 240, 241, 242] rfl
set_option maxRecDepth 100000 in
theorem lwm_cek3 : ∀ w ∈ cek3, w ∈ lw_tbl := lw_sub [245, 169, 170, 171, 173, 174, 273, 278, 282, 284, 285, 286, 161, 749, 164, 165, 137, 167, 168, 751, 316, 317, 143, 319, 320, 752, 637, 638, 151, 640, 641, 753, 754, 206, 207, 141, 208, 201, 202, 139] rfl
set_option maxRecDepth 100000 in
theorem lwm_cek4 : ∀ w ∈ cek4, w ∈ lw_tbl := lw_sub [203, 198, 199, 140, 200, 190, 191, 192, 193, 184, 185, 186, 187, 194, 195, 196, 197, 180, 181, 182, 183, 204, 2161] rfl
set_option maxRecDepth 100000 in
theorem lwm_uE : ∀ w ∈ u_ws ce_RE ce_TE 7, w ∈ lw_tbl := lw_sub [756, 758, 760, 762, 764, 766, 768] rfl
set_option maxRecDepth 100000 in
theorem lwm_uC : ∀ w ∈ u_ws ce_RC ce_TC 13, w ∈ lw_tbl := lw_sub [288, 290, 292, 294, 296, 298, 300, 302, 304, 306, 308, 310, 312] rfl
set_option maxRecDepth 100000 in
theorem lwm_uX : ∀ w ∈ u_ws ce_RX ce_TX 9, w ∈ lw_tbl := lw_sub [251, 253, 255, 257, 259, 261, 263, 265, 267] rfl
set_option maxRecDepth 100000 in
theorem lwm_uP : ∀ w ∈ u_ws ce_RP ce_TP 16, w ∈ lw_tbl := lw_sub [687, 689, 691, 693, 695, 697, 699, 701, 703, 705, 707, 709, 711, 713, 715, 717] rfl
set_option maxRecDepth 100000 in
theorem lwm_uM : ∀ w ∈ u_ws ce_RM ce_TM 20, w ∈ lw_tbl := lw_sub [596, 598, 600, 602, 604, 606, 608, 610, 612, 614, 616, 618, 620, 622, 624, 626, 628, 630, 632, 634] rfl
set_option maxRecDepth 100000 in
theorem lwm_uH : ∀ w ∈ u_ws ce_RH ce_TH 14, w ∈ lw_tbl := lw_sub [413, 415, 417, 419, 421, 423, 425, 427, 429, 431, 433, 435, 437, 439] rfl
set_option maxRecDepth 100000 in
theorem lwm_uS : ∀ w ∈ u_ws ce_RS ce_TS 9, w ∈ lw_tbl := lw_sub [348, 350, 352, 354, 356, 358, 360, 362, 364] rfl
set_option maxRecDepth 100000 in
theorem lwm_uR : ∀ w ∈ u_ws ce_RR ce_TR 7, w ∈ lw_tbl := lw_sub [464, 466, 468, 470, 472, 474, 476] rfl
set_option maxRecDepth 100000 in
theorem lwm_uT : ∀ w ∈ u_ws ce_RT ce_TT 12, w ∈ lw_tbl := lw_sub [505, 507, 509, 511, 513, 515, 517, 519, 521, 523, 525, 527] rfl
set_option maxRecDepth 100000 in
theorem lwm_uF : ∀ w ∈ u_ws ce_RF ce_TF 8, w ∈ lw_tbl := lw_sub [552, 554, 556, 558, 560, 562, 564, 566] rfl
set_option maxRecDepth 100000 in
theorem lwm_uV : ∀ w ∈ u_ws ce_RV ce_TV 3, w ∈ lw_tbl := lw_sub [379, 381, 383] rfl
set_option maxRecDepth 100000 in
theorem lwm_ce_gl0 : ∀ w ∈ ce_gl0, w ∈ lw_tbl := lw_sub [818, 817, 982, 374, 147, 375, 1217, 841, 842, 1218, 373, 1086, 1154, 1155, 1249, 1338, 1371, 1372, 1109, 1430, 651, 665, 676, 679, 682, 685, 274, 275, 276, 278, 280, 287, 239, 243, 240, 241, 242, 244, 245, 247] rfl
set_option maxRecDepth 100000 in
theorem lwm_ce_gl1 : ∀ w ∈ ce_gl1, w ∈ lw_tbl := lw_sub [249, 273, 248, 246, 669, 670, 672, 283, 282, 250, 281, 677, 643, 645, 648, 284, 285, 286, 654, 657, 659, 663, 652, 650, 674, 647, 680, 683, 536, 538, 540, 542, 544, 546, 548, 550, 334, 346, 386, 401] rfl
set_option maxRecDepth 100000 in
theorem lwm_ce_gl2 : ∀ w ∈ ce_gl2, w ∈ lw_tbl := lw_sub [403, 411, 412, 335, 337, 339, 341, 343, 344, 345, 393, 390, 395, 398, 399, 400, 405, 407, 376, 377, 378, 408, 459, 460, 462, 485, 487, 489, 491, 493, 498, 499, 501, 503, 582, 571, 573, 575, 577, 581] rfl
set_option maxRecDepth 100000 in
theorem lwm_ce_gl3 : ∀ w ∈ ce_gl3, w ∈ lw_tbl := lw_sub [584, 587, 588, 591, 592, 594, 595, 585, 590, 593, 583, 667, 660, 662, 495, 496, 497, 664, 392, 410, 387, 668, 450, 452, 455, 456, 458, 397, 454, 655, 586, 589, 675, 671, 579, 653, 644, 646, 649, 681] rfl
set_option maxRecDepth 100000 in
theorem lwm_ce_gl4 : ∀ w ∈ ce_gl4, w ∈ lw_tbl := lw_sub [402, 389, 347, 461, 404, 500, 502, 504, 549, 551, 463, 750, 749, 751, 754, 277, 753, 755, 752, 666, 279, 580, 572, 391, 394, 396, 409, 406, 574, 451, 453, 457, 388, 336, 338, 340, 342, 576, 656, 658] rfl
set_option maxRecDepth 100000 in
theorem lwm_ce_gl5 : ∀ w ∈ ce_gl5, w ∈ lw_tbl := lw_sub [486, 488, 494, 490, 492, 661, 578, 673, 537, 539, 541, 543, 545, 547, 686, 678, 684, 787, 790, 151, 788, 789, 795, 797, 138, 796, 802, 804, 803, 809, 812, 811, 3, 805, 808, 807, 2, 819, 822, 821] rfl
set_option maxRecDepth 100000 in
theorem lwm_ce_gl6 : ∀ w ∈ ce_gl6, w ∈ lw_tbl := lw_sub [5, 813, 816, 815, 4, 798, 801, 800, 1, 881, 884, 882, 883, 893, 889, 892, 137, 891, 7, 898, 901, 900, 8, 926, 929, 927, 928, 910, 913, 912, 10, 934, 937, 936, 14, 914, 917, 916, 11, 918] rfl
set_option maxRecDepth 100000 in
theorem lwm_ce_gl7 : ∀ w ∈ ce_gl7, w ∈ lw_tbl := lw_sub [921, 920, 12, 922, 925, 923, 924, 930, 933, 932, 13, 894, 897, 895, 896, 902, 905, 903, 904, 906, 909, 908, 9, 999, 1002, 1000, 1001, 995, 998, 997, 28, 946, 949, 947, 948, 954, 957, 956, 18, 958] rfl
set_option maxRecDepth 100000 in
theorem lwm_ce_gl8 : ∀ w ∈ ce_gl8, w ∈ lw_tbl := lw_sub [961, 960, 19, 1007, 1010, 1009, 30, 1011, 1014, 1013, 31, 962, 965, 964, 20, 1015, 1017, 1016, 966, 969, 968, 21, 991, 994, 993, 27, 1003, 1006, 1005, 29, 987, 990, 989, 26, 970, 973, 972, 22, 983, 986] rfl
set_option maxRecDepth 100000 in
theorem lwm_ce_gl9 : ∀ w ∈ ce_gl9, w ∈ lw_tbl := lw_sub [985, 25, 974, 977, 976, 23, 978, 981, 980, 24, 1046, 1049, 1047, 1048, 1038, 1041, 1039, 1040, 1042, 1045, 1043, 1044, 1050, 1053, 1051, 1052, 942, 945, 944, 16, 950, 953, 952, 17, 1018, 1021, 1020, 32, 1026, 1029] rfl
set_option maxRecDepth 100000 in
theorem lwm_ce_gl10 : ∀ w ∈ ce_gl10, w ∈ lw_tbl := lw_sub [1028, 33, 1030, 1033, 1032, 34, 1034, 1037, 1036, 35, 1054, 1057, 1056, 36, 938, 941, 940, 15, 1022, 1025, 1023, 1024, 783, 786, 785, 0, 791, 794, 792, 793, 1058, 1061, 1060, 37, 885, 888, 887, 6, 748, 733] rfl
set_option maxRecDepth 100000 in
theorem lwm_ce_gl11 : ∀ w ∈ ce_gl11, w ∈ lw_tbl := lw_sub [152, 734, 1386, 1389, 150, 1387, 1388, 732, 728, 731, 145, 729, 730, 1219, 1220, 1221, 1227, 1102, 1103, 1213, 1216, 1215, 54, 1209, 1212, 1211, 53, 1205, 1208, 1206, 1207, 1244, 1239, 144, 1237, 1238, 1245, 1248, 1246, 1247] rfl
set_option maxRecDepth 100000 in
theorem lwm_ce_gl12 : ∀ w ∈ ce_gl12, w ∈ lw_tbl := lw_sub [1311, 1312, 1307, 1310, 1309, 62, 1291, 1294, 1292, 1293, 1087, 1088, 1089, 1101, 1082, 1085, 146, 1084, 39, 1303, 1306, 1305, 61, 1313, 1316, 1315, 63, 1321, 1081, 1079, 1080, 1317, 1320, 1318, 1319, 743, 724, 727, 725, 726] rfl
set_option maxRecDepth 100000 in
theorem lwm_ce_gl13 : ∀ w ∈ ce_gl13, w ∈ lw_tbl := lw_sub [735, 738, 148, 736, 737, 739, 742, 149, 740, 741, 744, 747, 745, 746, 1078, 1126, 1129, 1127, 1128, 1130, 1133, 1131, 1132, 1118, 1121, 143, 1120, 42, 1146, 1151, 1153, 1152, 1142, 1145, 1143, 1144, 1156, 1159, 1158, 47] rfl
set_option maxRecDepth 100000 in
theorem lwm_ce_gl14 : ∀ w ∈ ce_gl14, w ∈ lw_tbl := lw_sub [1147, 1150, 1149, 46, 1180, 1181, 1184, 1182, 1183, 1185, 1188, 1186, 1187, 1164, 1165, 1167, 1166, 1168, 1171, 1169, 1170, 1172, 1175, 1173, 1174, 1176, 1179, 1178, 49, 1201, 1204, 1202, 1203, 1236, 1258, 1261, 1260, 58, 1254, 1257] rfl
set_option maxRecDepth 100000 in
theorem lwm_ce_gl15 : ∀ w ∈ ce_gl15, w ∈ lw_tbl := lw_sub [1256, 57, 1232, 1235, 1234, 56, 1240, 1243, 1241, 1242, 1250, 1253, 1251, 1252, 1266, 1262, 1265, 1263, 1264, 1287, 1290, 1288, 1289, 1295, 1298, 1296, 1297, 1279, 1282, 1280, 1281, 1283, 1286, 1285, 60, 1271, 1274, 1272, 1273, 1275] rfl
set_option maxRecDepth 100000 in
theorem lwm_ce_gl16 : ∀ w ∈ ce_gl16, w ∈ lw_tbl := lw_sub [1278, 1276, 1277, 1299, 1302, 1300, 1301, 1326, 1329, 1327, 1328, 1330, 1333, 1331, 1332, 1343, 1339, 1342, 1340, 1341, 1356, 1359, 1357, 1358, 1352, 1355, 1353, 1354, 1348, 1351, 1350, 67, 1368, 1370, 1369, 1364, 1367, 1365, 1366, 1377] rfl
set_option maxRecDepth 100000 in
theorem lwm_ce_gl17 : ∀ w ∈ ce_gl17, w ∈ lw_tbl := lw_sub [1394, 1397, 1396, 71, 1114, 1117, 1116, 41, 1382, 1385, 1383, 1384, 1074, 1077, 1076, 38, 1390, 1393, 1391, 1392, 1122, 1125, 1124, 43, 1134, 1137, 1136, 44, 1138, 1141, 1140, 45, 1160, 1163, 1162, 48, 1189, 1192, 1191, 50] rfl
set_option maxRecDepth 100000 in
theorem lwm_ce_gl18 : ∀ w ∈ ce_gl18, w ∈ lw_tbl := lw_sub [1193, 1196, 1195, 51, 1197, 1200, 1199, 52, 1228, 1231, 1230, 55, 1267, 1270, 1269, 59, 1322, 1325, 1324, 64, 1334, 1337, 1336, 65, 1344, 1347, 1346, 66, 1360, 1363, 1362, 68, 1373, 1376, 1375, 69, 1378, 1381, 1380, 70] rfl
set_option maxRecDepth 100000 in
theorem lwm_ce_gl19 : ∀ w ∈ ce_gl19, w ∈ lw_tbl := lw_sub [1398, 1401, 1400, 72, 1402, 1405, 1404, 73, 1406, 1409, 1408, 74, 1110, 1113, 1112, 40, 1436, 1437, 779, 782, 780, 781, 720, 723, 721, 722, 1070, 1073, 1071, 1072, 1414, 1417, 1415, 1416, 1418, 1421, 1419, 1420, 1426, 1429] rfl
set_option maxRecDepth 100000 in
theorem lwm_ce_gl20 : ∀ w ∈ ce_gl20, w ∈ lw_tbl := lw_sub [1427, 1428, 1431, 1432, 1435, 1433, 1434, 1442, 1445, 1443, 1444, 1450, 1455, 1458, 1456, 1457, 1471, 1472, 1481, 1486, 1487, 1488, 1491, 1489, 1490, 1496, 1497, 839, 840, 188, 2162, 2161, 836, 838, 140, 837, 843, 845, 844, 184] rfl
set_option maxRecDepth 100000 in
theorem lwm_ce_gl21 : ∀ w ∈ ce_gl21, w ∈ lw_tbl := lw_sub [187, 139, 185, 186, 194, 197, 195, 196, 832, 183, 181, 182, 833, 835, 834, 828, 831, 829, 830, 824, 827, 825, 826, 270, 315, 271, 1097, 1098, 1100, 1099, 155] rfl
theorem lwm_cegw : ∀ w ∈ ce_gw, w ∈ lw_tbl := lw_two lwm_ce_gl0 (lw_two lwm_ce_gl1 (lw_two lwm_ce_gl2 (lw_two lwm_ce_gl3 (lw_two lwm_ce_gl4 (lw_two lwm_ce_gl5 (lw_two lwm_ce_gl6 (lw_two lwm_ce_gl7 (lw_two lwm_ce_gl8 (lw_two lwm_ce_gl9 (lw_two lwm_ce_gl10 (lw_two lwm_ce_gl11 (lw_two lwm_ce_gl12 (lw_two lwm_ce_gl13 (lw_two lwm_ce_gl14 (lw_two lwm_ce_gl15 (lw_two lwm_ce_gl16 (lw_two lwm_ce_gl17 (lw_two lwm_ce_gl18 (lw_two lwm_ce_gl19 (lw_two lwm_ce_gl20 (lwm_ce_gl21)))))))))))))))))))))
theorem lwm_cegl : ∀ w ∈ ce_gl, w ∈ lw_tbl := lw_two lwm_uE (lw_two lwm_uC (lw_two lwm_uX (lw_two lwm_uP (lw_two lwm_uM (lw_two lwm_uH (lw_two lwm_uS (lw_two lwm_uR (lw_two lwm_uT (lw_two lwm_uF (lw_two lwm_uV (lwm_cegw)))))))))))
theorem lwm_cegk : ∀ w ∈ ce_gk, w ∈ lw_tbl := lw_two lwm_cek0 (lw_two lwm_cek1 (lw_two lwm_cek2 (lw_two lwm_cek3 (lw_two lwm_cek4 (lwm_cegl)))))
set_option maxRecDepth 100000 in
theorem lwm_rfk0 : ∀ w ∈ rfk0, w ∈ lw_tbl := lw_sub [1507, 162, 163, 315, 1512, 1513, 1514, 1518, 1519, 1520, 1523, 1524, 1526, 1532, 1533, 1534, 1535, 1540, 1541, 1542, 1543, 1544, 1547, 1548, 1549, 1550, 1552, 1553, 1554, 1555, 1557, 1558, 1559, 1560, 271, 1561, 1562, 1581, 1582, 1583] rfl
set_option maxRecDepth 100000 in
theorem lwm_rfk1 : ∀ w ∈ rfk1, w ∈ lw_tbl := lw_sub [1584, 1585, 1586, 1587, 1588, 1589, 1590, 1591, 1593, 1594, 1595, 1596, 1597, 1598, 1599, 1600, 1601, 1602, 1603, 1604, 1605, 1606, 1828, 1607, 1608, 1609, 1610, 1611, 1612, 1613, 1614, 1615, 1616, 1531] rfl
set_option maxRecDepth 100000 in
theorem lwm_rfu : ∀ w ∈ u_ws rf_C rf_T 105, w ∈ lw_tbl := lw_sub [1617, 1619, 1621, 1623, 1625, 1627, 1629, 1631, 1633, 1635, 1637, 1639, 1641, 1643, 1645, 1647, 1649, 1651, 1653, 1655, 1657, 1659, 1661, 1663, 1665, 1667, 1669, 1671, 1673, 1675, 1677, 1679, 1681, 1683, 1685, 1687, 1689, 1691, 1693, 1695, 1697, 1699, 1701, 1703, 1705, 1707, 1709, 1711, 1713, 1715, 1717, 1719, 1721, 1723, 1725, 1727, 1729, 1731, 1733, 1735, 1737, 1739, 1741, 1743, 1745, 1747, 1749, 1751, 1753, 1755, 1757, 1759, 1761, 1763, 1765, 1767, 1769, 1771, 1773, 1775, 1777, 1779, 1781, 1783, 1785, 1787, 1789, 1791, 1793, 1795, 1797, 1799, 1801, 1803, 1805, 1807, 1809, 1811, 1813, 1815, 1817, 1819, 1821, 1823, 1825] rfl
set_option maxRecDepth 100000 in
theorem lwm_rf_gl0 : ∀ w ∈ rf_gl0, w ∈ lw_tbl := lw_sub [1833, 1874, 1872, 1873, 2013, 2014, 2031, 2051, 2052, 1512, 1513, 1514, 1515, 1516, 1517, 1518, 1519, 1520, 1521, 1522, 1523, 1524, 1525, 1526, 1527, 1528, 1529, 1530, 1531, 1532, 1533, 1534, 1535, 1536, 1537, 1538, 1539, 1540, 1541, 1542] rfl
set_option maxRecDepth 100000 in
theorem lwm_rf_gl1 : ∀ w ∈ rf_gl1, w ∈ lw_tbl := lw_sub [1543, 1544, 1545, 1546, 1547, 1548, 1549, 1550, 1551, 1552, 1553, 1554, 1555, 1556, 1557, 1558, 1559, 1560, 1561, 1562, 1563, 1564, 1565, 1566, 1567, 1568, 1569, 1570, 1571, 1572, 1573, 1574, 1575, 1576, 1577, 1578, 1579, 1580, 1581, 1582] rfl
set_option maxRecDepth 100000 in
theorem lwm_rf_gl2 : ∀ w ∈ rf_gl2, w ∈ lw_tbl := lw_sub [1583, 1584, 1585, 1586, 1587, 1588, 1589, 1590, 1591, 1592, 1593, 1594, 1595, 1596, 1597, 1598, 1599, 1600, 1601, 1602, 1603, 1604, 1605, 1606, 1607, 1608, 1609, 1610, 1611, 1612, 1613, 1614, 1615, 1616, 153, 1846, 1847, 1848, 1853, 1854] rfl
set_option maxRecDepth 100000 in
theorem lwm_rf_gl3 : ∀ w ∈ rf_gl3, w ∈ lw_tbl := lw_sub [1855, 1856, 1858, 79, 1859, 1860, 1862, 80, 1863, 1864, 1866, 81, 1867, 1875, 1876, 1877, 1868, 1870, 82, 1871, 1849, 1851, 78, 1852, 1894, 1896, 87, 1897, 1878, 1880, 83, 1881, 1882, 1884, 84, 1885, 1890, 1892, 86, 1893] rfl
set_option maxRecDepth 100000 in
theorem lwm_rf_gl4 : ∀ w ∈ rf_gl4, w ∈ lw_tbl := lw_sub [1914, 1916, 92, 1917, 1898, 1900, 88, 1901, 1906, 1908, 90, 1909, 1926, 1928, 95, 1929, 1938, 1940, 98, 1941, 1942, 1944, 99, 1945, 1962, 1964, 104, 1965, 1946, 1948, 100, 1949, 1950, 1952, 101, 1953, 1902, 1904, 89, 1905] rfl
set_option maxRecDepth 100000 in
theorem lwm_rf_gl5 : ∀ w ∈ rf_gl5, w ∈ lw_tbl := lw_sub [1934, 1936, 97, 1937, 1910, 1912, 91, 1913, 1954, 1956, 102, 1957, 1958, 1960, 103, 1961, 1966, 1968, 105, 1969, 1922, 1924, 94, 1925, 1930, 1932, 96, 1933, 1918, 1920, 93, 1921, 1970, 1972, 106, 1973, 1842, 1844, 77, 1845] rfl
set_option maxRecDepth 100000 in
theorem lwm_rf_gl6 : ∀ w ∈ rf_gl6, w ∈ lw_tbl := lw_sub [1886, 1888, 85, 1889, 1974, 1976, 107, 1977, 1838, 1840, 76, 1841, 1508, 1510, 75, 1511, 1994, 1996, 110, 1997, 2010, 2011, 2012, 2015, 2017, 114, 2018, 1986, 1988, 108, 1989, 2023, 2025, 116, 2026, 1998, 2000, 111, 2001, 2040] rfl
set_option maxRecDepth 100000 in
theorem lwm_rf_gl7 : ∀ w ∈ rf_gl7, w ∈ lw_tbl := lw_sub [2042, 120, 2043, 2048, 2049, 2050, 2073, 2075, 127, 2076, 2061, 2063, 124, 2064, 2065, 2067, 125, 2068, 2069, 2071, 126, 2072, 2057, 2059, 123, 2060, 2089, 2091, 131, 2092, 2081, 2083, 129, 2084, 2085, 2087, 130, 2088, 2053, 2055] rfl
set_option maxRecDepth 100000 in
theorem lwm_rf_gl8 : ∀ w ∈ rf_gl8, w ∈ lw_tbl := lw_sub [122, 2056, 2077, 2079, 128, 2080, 2093, 2095, 132, 2096, 2006, 2008, 113, 2009, 2019, 2021, 115, 2022, 2027, 2029, 117, 2030, 2032, 2034, 118, 2035, 2036, 2038, 119, 2039, 2044, 2046, 121, 2047, 1990, 1992, 109, 1993, 2002, 2004] rfl
set_option maxRecDepth 100000 in
theorem lwm_rf_gl9 : ∀ w ∈ rf_gl9, w ∈ lw_tbl := lw_sub [112, 2005, 2105, 2107, 133, 2108, 2109, 2110, 2111, 2124, 2126, 134, 2127] rfl
theorem lwm_rfgw : ∀ w ∈ rf_gw, w ∈ lw_tbl := lw_two lwm_rf_gl0 (lw_two lwm_rf_gl1 (lw_two lwm_rf_gl2 (lw_two lwm_rf_gl3 (lw_two lwm_rf_gl4 (lw_two lwm_rf_gl5 (lw_two lwm_rf_gl6 (lw_two lwm_rf_gl7 (lw_two lwm_rf_gl8 (lwm_rf_gl9)))))))))
theorem lwm_rfgl : ∀ w ∈ rf_gl, w ∈ lw_tbl := lw_two lwm_rfu lwm_rfgw
theorem lwm_rfgk : ∀ w ∈ rf_gk, w ∈ lw_tbl := lw_two lwm_rfk0 (lw_two lwm_rfk1 lwm_rfgl)
theorem lw_Gce : GoodIn lw_tbl ce_gl := fun c hc => ⟨lwm_cegl c hc, (ce_goodIn c hc).2⟩
theorem lw_Gck : GoodIn lw_tbl ce_gk := fun c hc => ⟨lwm_cegk c hc, (cek_goodIn c hc).2⟩
theorem lw_Grf : GoodIn lw_tbl rf_gl := fun c hc => ⟨lwm_rfgl c hc, (rf_goodIn c hc).2⟩
theorem lw_Grk : GoodIn lw_tbl rf_gk := fun c hc => ⟨lwm_rfgk c hc, (rfk_goodIn c hc).2⟩
