/-! THE LAW: the words of both sides are among its own (printed by wip/gen/lwords.py) -/
theorem lw_sub {ws : List Cond} (is : List Nat) (h : ws = is.filterMap (fun i => lw_tbl[i]?)) : ∀ w ∈ ws, w ∈ lw_tbl := by
  subst h
  intro w hw
  obtain ⟨i, -, hi⟩ := List.mem_filterMap.mp hw
  exact List.mem_of_getElem? hi
theorem lw_two {a b : List Cond} (ha : ∀ w ∈ a, w ∈ lw_tbl) (hb : ∀ w ∈ b, w ∈ lw_tbl) : ∀ w ∈ a ++ b, w ∈ lw_tbl := fun w hw => (List.mem_append.mp hw).elim (ha w) (hb w)
set_option maxRecDepth 100000 in
theorem lwm_cek0 : ∀ w ∈ cek0, w ∈ lw_tbl := lw_sub [372, 162, 163, 373, 374, 147, 375, 376, 270, 377, 271, 378, 333, 315, 334, 335, 337, 339, 341, 343, 344, 345, 484, 485, 487, 489, 491, 493, 495, 496, 497, 498, 535, 536, 538, 540, 542, 544, 546, 642] rfl
set_option maxRecDepth 100000 in
theorem lwm_cek1 : ∀ w ∈ cek1, w ∈ lw_tbl := lw_sub [643, 645, 272, 648, 654, 657, 659, 663, 669, 670, 672, 447, 450, 452, 455, 448, 368, 146, 449, 370, 371, 456, 327, 328, 329, 145, 331, 332, 386, 390, 393, 395, 398, 399, 400, 405, 407, 367, 369, 408] rfl
set_option maxRecDepth 100000 in
theorem lwm_cek2 : ∀ w ∈ cek2, w ∈ lw_tbl := lw_sub [321, 322, 323, 144, 325, 326, 571, 442, 443, 148, 445, 446, 573, 479, 480, 149, 482, 483, 575, 530, 531, 150, 533, 534, 577, 569, 570, 579, 583, 585, 586, 175, 177, 178, 138, 179, 239, 240, 241, 242] rfl
set_option maxRecDepth 100000 in
theorem lwm_cek3 : ∀ w ∈ cek3, w ∈ lw_tbl := lw_sub [245, 169, 170, 171, 173, 174, 273, 278, 282, 284, 285, 286, 161, 749, 164, 165, 137, 167, 168, 751, 316, 317, 143, 319, 320, 752, 637, 638, 151, 640, 641, 753, 754, 206, 207, 141, 208, 201, 202, 139] rfl
set_option maxRecDepth 100000 in
theorem lwm_cek4 : ∀ w ∈ cek4, w ∈ lw_tbl := lw_sub [203, 198, 199, 140, 200, 190, 191, 192, 193, 184, 185, 186, 187, 194, 195, 196, 197, 180, 181, 182, 183, 204, 2165] rfl
set_option maxRecDepth 100000 in
theorem lwm_uE : ∀ w ∈ u_ws ce_RE ce_TE 7, w ∈ lw_tbl := lw_sub [756, 758, 760, 762, 764, 766, 768] rfl
set_option maxRecDepth 100000 in
theorem lwm_uC : ∀ w ∈ u_ws ce_RC ce_TC 13, w ∈ lw_tbl := lw_sub [288, 290, 292, 294, 296, 298, 300, 302, 304, 306, 308, 310, 312] rfl
set_option maxRecDepth 100000 in
theorem lwm_uX : ∀ w ∈ u_ws ce_RX ce_TX 9, w ∈ lw_tbl := lw_sub [251, 253, 255, 257, 259, 261, 263, 265, 267] rfl
set_option maxRecDepth 100000 in
theorem lwm_uP : ∀ w ∈ u_ws ce_RP ce_TP 16, w ∈ lw_tbl := lw_sub [687, 689, 691, 693, 695, 697, 699, 701, 703, 705, 707, 709, 711, 713, 715, 717] rfl
set_option maxRecDepth 100000 in
theorem lwm_uM : ∀ w ∈ u_ws ce_RM ce_TM 20, w ∈ lw_tbl := lw_sub [596, 598, 600, 602, 604, 606, 608, 610, 612, 614, 616, 618, 620, 622, 624, 626, 628, 630, 632, 634] rfl
set_option maxRecDepth 100000 in
theorem lwm_uH : ∀ w ∈ u_ws ce_RH ce_TH 14, w ∈ lw_tbl := lw_sub [413, 415, 417, 419, 421, 423, 425, 427, 429, 431, 433, 435, 437, 439] rfl
set_option maxRecDepth 100000 in
theorem lwm_uS : ∀ w ∈ u_ws ce_RS ce_TS 9, w ∈ lw_tbl := lw_sub [348, 350, 352, 354, 356, 358, 360, 362, 364] rfl
set_option maxRecDepth 100000 in
theorem lwm_uR : ∀ w ∈ u_ws ce_RR ce_TR 7, w ∈ lw_tbl := lw_sub [464, 466, 468, 470, 472, 474, 476] rfl
set_option maxRecDepth 100000 in
theorem lwm_uT : ∀ w ∈ u_ws ce_RT ce_TT 12, w ∈ lw_tbl := lw_sub [505, 507, 509, 511, 513, 515, 517, 519, 521, 523, 525, 527] rfl
set_option maxRecDepth 100000 in
theorem lwm_uF : ∀ w ∈ u_ws ce_RF ce_TF 8, w ∈ lw_tbl := lw_sub [552, 554, 556, 558, 560, 562, 564, 566] rfl
set_option maxRecDepth 100000 in
theorem lwm_uV : ∀ w ∈ u_ws ce_RV ce_TV 3, w ∈ lw_tbl := lw_sub [379, 381, 383] rfl
set_option maxRecDepth 100000 in
theorem lwm_ce_gl0 : ∀ w ∈ ce_gl0, w ∈ lw_tbl := lw_sub [814, 813, 982, 374, 147, 375, 1221, 837, 838, 1222, 373, 1090, 1158, 1159, 1253, 1342, 1375, 1376, 1113, 1434, 651, 665, 676, 679, 682, 685, 239, 243, 240, 241, 242, 244, 245, 247, 249, 275, 276, 273, 248, 278] rfl
set_option maxRecDepth 100000 in
theorem lwm_ce_gl1 : ∀ w ∈ ce_gl1, w ∈ lw_tbl := lw_sub [669, 670, 672, 246, 280, 283, 282, 250, 274, 281, 643, 645, 648, 287, 284, 285, 286, 654, 657, 659, 663, 652, 677, 681, 683, 650, 674, 647, 536, 538, 540, 542, 544, 546, 548, 550, 334, 346, 386, 401] rfl
set_option maxRecDepth 100000 in
theorem lwm_ce_gl2 : ∀ w ∈ ce_gl2, w ∈ lw_tbl := lw_sub [403, 411, 412, 335, 337, 339, 341, 343, 344, 345, 393, 390, 395, 398, 399, 400, 405, 407, 376, 377, 378, 408, 459, 460, 462, 485, 487, 489, 491, 493, 498, 499, 501, 503, 582, 571, 573, 575, 577, 581] rfl
set_option maxRecDepth 100000 in
theorem lwm_ce_gl3 : ∀ w ∈ ce_gl3, w ∈ lw_tbl := lw_sub [584, 587, 588, 591, 592, 594, 595, 585, 590, 593, 583, 667, 660, 662, 495, 496, 497, 664, 392, 410, 387, 668, 450, 452, 455, 456, 458, 397, 454, 655, 586, 589, 675, 671, 579, 653, 644, 646, 649, 680] rfl
set_option maxRecDepth 100000 in
theorem lwm_ce_gl4 : ∀ w ∈ ce_gl4, w ∈ lw_tbl := lw_sub [402, 389, 347, 461, 404, 500, 502, 504, 549, 551, 463, 750, 749, 751, 754, 277, 753, 755, 752, 666, 279, 580, 572, 391, 394, 396, 409, 406, 574, 451, 453, 457, 388, 336, 338, 340, 342, 576, 656, 658] rfl
set_option maxRecDepth 100000 in
theorem lwm_ce_gl5 : ∀ w ∈ ce_gl5, w ∈ lw_tbl := lw_sub [486, 488, 494, 490, 492, 661, 578, 673, 537, 539, 541, 543, 545, 547, 686, 678, 684, 791, 793, 138, 792, 798, 800, 799, 805, 808, 807, 2, 801, 804, 803, 1, 815, 818, 817, 4, 809, 812, 811, 3] rfl
set_option maxRecDepth 100000 in
theorem lwm_ce_gl6 : ∀ w ∈ ce_gl6, w ∈ lw_tbl := lw_sub [794, 797, 796, 0, 877, 880, 878, 879, 889, 892, 890, 891, 893, 885, 888, 137, 887, 6, 898, 901, 900, 7, 926, 929, 151, 927, 928, 938, 941, 940, 14, 910, 913, 912, 9, 934, 937, 936, 13, 914] rfl
set_option maxRecDepth 100000 in
theorem lwm_ce_gl7 : ∀ w ∈ ce_gl7, w ∈ lw_tbl := lw_sub [917, 916, 10, 918, 921, 920, 11, 922, 925, 923, 924, 930, 933, 932, 12, 999, 1002, 1000, 1001, 995, 998, 997, 27, 950, 953, 951, 952, 958, 961, 960, 18, 1007, 1010, 1009, 29, 1011, 1014, 1013, 30, 962] rfl
set_option maxRecDepth 100000 in
theorem lwm_ce_gl8 : ∀ w ∈ ce_gl8, w ∈ lw_tbl := lw_sub [965, 964, 19, 1015, 1017, 1016, 966, 969, 968, 20, 991, 994, 993, 26, 1003, 1006, 1005, 28, 987, 990, 989, 25, 970, 973, 972, 21, 983, 986, 985, 24, 974, 977, 976, 22, 978, 981, 980, 23, 1046, 1049] rfl
set_option maxRecDepth 100000 in
theorem lwm_ce_gl9 : ∀ w ∈ ce_gl9, w ∈ lw_tbl := lw_sub [1047, 1048, 1038, 1041, 1039, 1040, 1042, 1045, 1043, 1044, 1050, 1053, 1051, 1052, 946, 949, 948, 16, 954, 957, 956, 17, 1018, 1021, 1020, 31, 1026, 1029, 1028, 32, 1030, 1033, 1032, 33, 1034, 1037, 1036, 34, 1054, 1057] rfl
set_option maxRecDepth 100000 in
theorem lwm_ce_gl10 : ∀ w ∈ ce_gl10, w ∈ lw_tbl := lw_sub [1056, 35, 942, 945, 944, 15, 1022, 1025, 1023, 1024, 894, 897, 895, 896, 902, 905, 903, 904, 906, 909, 908, 8, 783, 786, 784, 785, 787, 790, 788, 789, 1058, 1061, 1060, 36, 1062, 1065, 1064, 37, 881, 884] rfl
set_option maxRecDepth 100000 in
theorem lwm_ce_gl11 : ∀ w ∈ ce_gl11, w ∈ lw_tbl := lw_sub [883, 5, 748, 733, 152, 734, 1390, 1393, 150, 1391, 1392, 732, 728, 731, 145, 729, 730, 1223, 1224, 1225, 1231, 1106, 1107, 1217, 1220, 1219, 54, 1213, 1216, 1215, 53, 1209, 1212, 1210, 1211, 1248, 1243, 144, 1241, 1242] rfl
set_option maxRecDepth 100000 in
theorem lwm_ce_gl12 : ∀ w ∈ ce_gl12, w ∈ lw_tbl := lw_sub [1249, 1252, 1250, 1251, 1315, 1316, 1311, 1314, 1313, 62, 1295, 1298, 1296, 1297, 1091, 1092, 1093, 1105, 1086, 1089, 146, 1088, 39, 1307, 1310, 1309, 61, 1317, 1320, 1319, 63, 1325, 1085, 1083, 1084, 1321, 1324, 1322, 1323, 743] rfl
set_option maxRecDepth 100000 in
theorem lwm_ce_gl13 : ∀ w ∈ ce_gl13, w ∈ lw_tbl := lw_sub [724, 727, 725, 726, 735, 738, 148, 736, 737, 739, 742, 149, 740, 741, 744, 747, 745, 746, 1082, 1130, 1133, 1131, 1132, 1134, 1137, 1135, 1136, 1122, 1125, 143, 1124, 42, 1150, 1155, 1157, 1156, 1146, 1149, 1147, 1148] rfl
set_option maxRecDepth 100000 in
theorem lwm_ce_gl14 : ∀ w ∈ ce_gl14, w ∈ lw_tbl := lw_sub [1160, 1163, 1162, 47, 1151, 1154, 1153, 46, 1184, 1185, 1188, 1186, 1187, 1189, 1192, 1190, 1191, 1168, 1169, 1171, 1170, 1172, 1175, 1173, 1174, 1176, 1179, 1177, 1178, 1180, 1183, 1182, 49, 1205, 1208, 1206, 1207, 1240, 1262, 1265] rfl
set_option maxRecDepth 100000 in
theorem lwm_ce_gl15 : ∀ w ∈ ce_gl15, w ∈ lw_tbl := lw_sub [1264, 58, 1258, 1261, 1260, 57, 1236, 1239, 1238, 56, 1244, 1247, 1245, 1246, 1254, 1257, 1255, 1256, 1270, 1266, 1269, 1267, 1268, 1291, 1294, 1292, 1293, 1299, 1302, 1300, 1301, 1283, 1286, 1284, 1285, 1287, 1290, 1289, 60, 1275] rfl
set_option maxRecDepth 100000 in
theorem lwm_ce_gl16 : ∀ w ∈ ce_gl16, w ∈ lw_tbl := lw_sub [1278, 1276, 1277, 1279, 1282, 1280, 1281, 1303, 1306, 1304, 1305, 1330, 1333, 1331, 1332, 1334, 1337, 1335, 1336, 1347, 1343, 1346, 1344, 1345, 1360, 1363, 1361, 1362, 1356, 1359, 1357, 1358, 1352, 1355, 1354, 67, 1372, 1374, 1373, 1368] rfl
set_option maxRecDepth 100000 in
theorem lwm_ce_gl17 : ∀ w ∈ ce_gl17, w ∈ lw_tbl := lw_sub [1371, 1369, 1370, 1381, 1398, 1401, 1400, 71, 1118, 1121, 1120, 41, 1386, 1389, 1387, 1388, 1078, 1081, 1080, 38, 1394, 1397, 1395, 1396, 1126, 1129, 1128, 43, 1138, 1141, 1140, 44, 1142, 1145, 1144, 45, 1164, 1167, 1166, 48] rfl
set_option maxRecDepth 100000 in
theorem lwm_ce_gl18 : ∀ w ∈ ce_gl18, w ∈ lw_tbl := lw_sub [1193, 1196, 1195, 50, 1197, 1200, 1199, 51, 1201, 1204, 1203, 52, 1232, 1235, 1234, 55, 1271, 1274, 1273, 59, 1326, 1329, 1328, 64, 1338, 1341, 1340, 65, 1348, 1351, 1350, 66, 1364, 1367, 1366, 68, 1377, 1380, 1379, 69] rfl
set_option maxRecDepth 100000 in
theorem lwm_ce_gl19 : ∀ w ∈ ce_gl19, w ∈ lw_tbl := lw_sub [1382, 1385, 1384, 70, 1402, 1405, 1404, 72, 1406, 1409, 1408, 73, 1410, 1413, 1412, 74, 1114, 1117, 1116, 40, 1440, 1441, 779, 782, 780, 781, 720, 723, 721, 722, 1074, 1077, 1075, 1076, 1418, 1421, 1419, 1420, 1422, 1425] rfl
set_option maxRecDepth 100000 in
theorem lwm_ce_gl20 : ∀ w ∈ ce_gl20, w ∈ lw_tbl := lw_sub [1423, 1424, 1430, 1433, 1431, 1432, 1435, 1436, 1439, 1437, 1438, 1446, 1449, 1447, 1448, 1454, 1459, 1462, 1460, 1461, 1475, 1476, 1485, 1490, 1491, 1492, 1495, 1493, 1494, 1500, 1501, 835, 836, 188, 2166, 2165, 832, 834, 140, 833] rfl
set_option maxRecDepth 100000 in
theorem lwm_ce_gl21 : ∀ w ∈ ce_gl21, w ∈ lw_tbl := lw_sub [839, 841, 840, 184, 187, 139, 185, 186, 194, 197, 195, 196, 828, 183, 181, 182, 829, 831, 830, 824, 827, 825, 826, 820, 823, 821, 822, 270, 315, 271, 1101, 1102, 1104, 1103, 155] rfl
theorem lwm_cegw : ∀ w ∈ ce_gw, w ∈ lw_tbl := lw_two lwm_ce_gl0 (lw_two lwm_ce_gl1 (lw_two lwm_ce_gl2 (lw_two lwm_ce_gl3 (lw_two lwm_ce_gl4 (lw_two lwm_ce_gl5 (lw_two lwm_ce_gl6 (lw_two lwm_ce_gl7 (lw_two lwm_ce_gl8 (lw_two lwm_ce_gl9 (lw_two lwm_ce_gl10 (lw_two lwm_ce_gl11 (lw_two lwm_ce_gl12 (lw_two lwm_ce_gl13 (lw_two lwm_ce_gl14 (lw_two lwm_ce_gl15 (lw_two lwm_ce_gl16 (lw_two lwm_ce_gl17 (lw_two lwm_ce_gl18 (lw_two lwm_ce_gl19 (lw_two lwm_ce_gl20 (lwm_ce_gl21)))))))))))))))))))))
theorem lwm_cegl : ∀ w ∈ ce_gl, w ∈ lw_tbl := lw_two lwm_uE (lw_two lwm_uC (lw_two lwm_uX (lw_two lwm_uP (lw_two lwm_uM (lw_two lwm_uH (lw_two lwm_uS (lw_two lwm_uR (lw_two lwm_uT (lw_two lwm_uF (lw_two lwm_uV (lwm_cegw)))))))))))
theorem lwm_cegk : ∀ w ∈ ce_gk, w ∈ lw_tbl := lw_two lwm_cek0 (lw_two lwm_cek1 (lw_two lwm_cek2 (lw_two lwm_cek3 (lw_two lwm_cek4 (lwm_cegl)))))
set_option maxRecDepth 100000 in
theorem lwm_rfk0 : ∀ w ∈ rfk0, w ∈ lw_tbl := lw_sub [1511, 162, 163, 315, 1516, 1517, 1518, 1522, 1523, 1524, 1527, 1528, 1530, 1536, 1537, 1538, 1539, 1544, 1545, 1546, 1547, 1548, 1551, 1552, 1553, 1554, 1556, 1557, 1558, 1559, 1561, 1562, 1563, 1564, 271, 1565, 1566, 1585, 1586, 1587] rfl
set_option maxRecDepth 100000 in
theorem lwm_rfk1 : ∀ w ∈ rfk1, w ∈ lw_tbl := lw_sub [1588, 1589, 1590, 1591, 1592, 1593, 1594, 1595, 1597, 1598, 1599, 1600, 1601, 1602, 1603, 1604, 1605, 1606, 1607, 1608, 1609, 1610, 1832, 1611, 1612, 1613, 1614, 1615, 1616, 1617, 1618, 1619, 1620, 1535] rfl
set_option maxRecDepth 100000 in
theorem lwm_rfu : ∀ w ∈ u_ws rf_C rf_T 105, w ∈ lw_tbl := lw_sub [1621, 1623, 1625, 1627, 1629, 1631, 1633, 1635, 1637, 1639, 1641, 1643, 1645, 1647, 1649, 1651, 1653, 1655, 1657, 1659, 1661, 1663, 1665, 1667, 1669, 1671, 1673, 1675, 1677, 1679, 1681, 1683, 1685, 1687, 1689, 1691, 1693, 1695, 1697, 1699, 1701, 1703, 1705, 1707, 1709, 1711, 1713, 1715, 1717, 1719, 1721, 1723, 1725, 1727, 1729, 1731, 1733, 1735, 1737, 1739, 1741, 1743, 1745, 1747, 1749, 1751, 1753, 1755, 1757, 1759, 1761, 1763, 1765, 1767, 1769, 1771, 1773, 1775, 1777, 1779, 1781, 1783, 1785, 1787, 1789, 1791, 1793, 1795, 1797, 1799, 1801, 1803, 1805, 1807, 1809, 1811, 1813, 1815, 1817, 1819, 1821, 1823, 1825, 1827, 1829] rfl
set_option maxRecDepth 100000 in
theorem lwm_rf_gl0 : ∀ w ∈ rf_gl0, w ∈ lw_tbl := lw_sub [1837, 1878, 1876, 1877, 2017, 2018, 2035, 2055, 2056, 1516, 1517, 1518, 1519, 1520, 1521, 1522, 1523, 1524, 1525, 1526, 1527, 1528, 1529, 1530, 1531, 1532, 1533, 1534, 1535, 1536, 1537, 1538, 1539, 1540, 1541, 1542, 1543, 1544, 1545, 1546] rfl
set_option maxRecDepth 100000 in
theorem lwm_rf_gl1 : ∀ w ∈ rf_gl1, w ∈ lw_tbl := lw_sub [1547, 1548, 1549, 1550, 1551, 1552, 1553, 1554, 1555, 1556, 1557, 1558, 1559, 1560, 1561, 1562, 1563, 1564, 1565, 1566, 1567, 1568, 1569, 1570, 1571, 1572, 1573, 1574, 1575, 1576, 1577, 1578, 1579, 1580, 1581, 1582, 1583, 1584, 1585, 1586] rfl
set_option maxRecDepth 100000 in
theorem lwm_rf_gl2 : ∀ w ∈ rf_gl2, w ∈ lw_tbl := lw_sub [1587, 1588, 1589, 1590, 1591, 1592, 1593, 1594, 1595, 1596, 1597, 1598, 1599, 1600, 1601, 1602, 1603, 1604, 1605, 1606, 1607, 1608, 1609, 1610, 1611, 1612, 1613, 1614, 1615, 1616, 1617, 1618, 1619, 1620, 153, 1850, 1851, 1852, 1857, 1858] rfl
set_option maxRecDepth 100000 in
theorem lwm_rf_gl3 : ∀ w ∈ rf_gl3, w ∈ lw_tbl := lw_sub [1859, 1860, 1862, 79, 1863, 1864, 1866, 80, 1867, 1868, 1870, 81, 1871, 1879, 1880, 1881, 1872, 1874, 82, 1875, 1853, 1855, 78, 1856, 1898, 1900, 87, 1901, 1882, 1884, 83, 1885, 1886, 1888, 84, 1889, 1894, 1896, 86, 1897] rfl
set_option maxRecDepth 100000 in
theorem lwm_rf_gl4 : ∀ w ∈ rf_gl4, w ∈ lw_tbl := lw_sub [1918, 1920, 92, 1921, 1902, 1904, 88, 1905, 1910, 1912, 90, 1913, 1930, 1932, 95, 1933, 1942, 1944, 98, 1945, 1946, 1948, 99, 1949, 1966, 1968, 104, 1969, 1950, 1952, 100, 1953, 1954, 1956, 101, 1957, 1906, 1908, 89, 1909] rfl
set_option maxRecDepth 100000 in
theorem lwm_rf_gl5 : ∀ w ∈ rf_gl5, w ∈ lw_tbl := lw_sub [1938, 1940, 97, 1941, 1914, 1916, 91, 1917, 1958, 1960, 102, 1961, 1962, 1964, 103, 1965, 1970, 1972, 105, 1973, 1926, 1928, 94, 1929, 1934, 1936, 96, 1937, 1922, 1924, 93, 1925, 1974, 1976, 106, 1977, 1846, 1848, 77, 1849] rfl
set_option maxRecDepth 100000 in
theorem lwm_rf_gl6 : ∀ w ∈ rf_gl6, w ∈ lw_tbl := lw_sub [1890, 1892, 85, 1893, 1978, 1980, 107, 1981, 1842, 1844, 76, 1845, 1512, 1514, 75, 1515, 1998, 2000, 110, 2001, 2014, 2015, 2016, 2019, 2021, 114, 2022, 1990, 1992, 108, 1993, 2027, 2029, 116, 2030, 2002, 2004, 111, 2005, 2044] rfl
set_option maxRecDepth 100000 in
theorem lwm_rf_gl7 : ∀ w ∈ rf_gl7, w ∈ lw_tbl := lw_sub [2046, 120, 2047, 2052, 2053, 2054, 2077, 2079, 127, 2080, 2065, 2067, 124, 2068, 2069, 2071, 125, 2072, 2073, 2075, 126, 2076, 2061, 2063, 123, 2064, 2093, 2095, 131, 2096, 2085, 2087, 129, 2088, 2089, 2091, 130, 2092, 2057, 2059] rfl
set_option maxRecDepth 100000 in
theorem lwm_rf_gl8 : ∀ w ∈ rf_gl8, w ∈ lw_tbl := lw_sub [122, 2060, 2081, 2083, 128, 2084, 2097, 2099, 132, 2100, 2010, 2012, 113, 2013, 2023, 2025, 115, 2026, 2031, 2033, 117, 2034, 2036, 2038, 118, 2039, 2040, 2042, 119, 2043, 2048, 2050, 121, 2051, 1994, 1996, 109, 1997, 2006, 2008] rfl
set_option maxRecDepth 100000 in
theorem lwm_rf_gl9 : ∀ w ∈ rf_gl9, w ∈ lw_tbl := lw_sub [112, 2009, 2109, 2111, 133, 2112, 2113, 2114, 2115, 2128, 2130, 134, 2131] rfl
theorem lwm_rfgw : ∀ w ∈ rf_gw, w ∈ lw_tbl := lw_two lwm_rf_gl0 (lw_two lwm_rf_gl1 (lw_two lwm_rf_gl2 (lw_two lwm_rf_gl3 (lw_two lwm_rf_gl4 (lw_two lwm_rf_gl5 (lw_two lwm_rf_gl6 (lw_two lwm_rf_gl7 (lw_two lwm_rf_gl8 (lwm_rf_gl9)))))))))
theorem lwm_rfgl : ∀ w ∈ rf_gl, w ∈ lw_tbl := lw_two lwm_rfu lwm_rfgw
theorem lwm_rfgk : ∀ w ∈ rf_gk, w ∈ lw_tbl := lw_two lwm_rfk0 (lw_two lwm_rfk1 lwm_rfgl)
theorem lw_Gce : GoodIn lw_tbl ce_gl := fun c hc => ⟨lwm_cegl c hc, (ce_goodIn c hc).2⟩
theorem lw_Gck : GoodIn lw_tbl ce_gk := fun c hc => ⟨lwm_cegk c hc, (cek_goodIn c hc).2⟩
theorem lw_Grf : GoodIn lw_tbl rf_gl := fun c hc => ⟨lwm_rfgl c hc, (rf_goodIn c hc).2⟩
theorem lw_Grk : GoodIn lw_tbl rf_gk := fun c hc => ⟨lwm_rfgk c hc, (rfk_goodIn c hc).2⟩
