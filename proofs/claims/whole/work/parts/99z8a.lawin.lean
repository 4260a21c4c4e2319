/-! the law's words are the tables' -/
theorem in_pl {big ws : List Cond} (pc pn : List Nat) (hc : ws.filter k2_isCode = pc.filterMap (fun i => big[i]?)) (hn : ws.filter (fun w => !k2_isCode w) = pn.filterMap (fun i => big[i]?)) : ∀ w ∈ ws, w ∈ big := by
  intro w hw
  by_cases h : k2_isCode w = true
  · have h1 : w ∈ ws.filter k2_isCode := List.mem_filter.mpr ⟨hw, h⟩
    rw [hc] at h1
    obtain ⟨i, -, hi⟩ := List.mem_filterMap.mp h1
    exact List.mem_of_getElem? hi
  · have h1 : w ∈ ws.filter (fun w => !k2_isCode w) := List.mem_filter.mpr ⟨hw, by simp [h]⟩
    rw [hn] at h1
    obtain ⟨i, -, hi⟩ := List.mem_filterMap.mp h1
    exact List.mem_of_getElem? hi
set_option maxRecDepth 20000 in
theorem in_wsL_law0_r1 : ∀ w ∈ wsL_law0_r1, w ∈ lw_tbl := in_pl [131, 134] [127, 128, 101, 1409, 1410, 114, 368, 2160, 129, 130, 132, 133, 135, 136, 102, 423, 159, 160, 104, 424, 174, 142] rfl (by decide +kernel)
set_option maxRecDepth 20000 in
theorem in_wsL_law0_r2 : ∀ w ∈ wsL_law0_r2, w ∈ lw_tbl := in_pl [] [103, 425, 176, 177, 105, 426, 194, 195, 106, 427, 432, 208, 433, 209, 210, 107, 224, 225, 108, 323, 324, 110, 421, 428] rfl (by decide +kernel)
set_option maxRecDepth 20000 in
theorem in_wsL_law0_r3 : ∀ w ∈ wsL_law0_r3, w ∈ lw_tbl := in_pl [139, 145, 163, 180] [429, 430, 431, 343, 344, 111, 422, 138, 140, 141, 155, 144, 146, 154, 147, 162, 164, 165, 167, 179] rfl (by decide +kernel)
set_option maxRecDepth 20000 in
theorem in_wsL_law0_r4 : ∀ w ∈ wsL_law0_r4, w ∈ lw_tbl := in_pl [198, 213, 228] [181, 182, 184, 185, 197, 199, 207, 200, 212, 214, 215, 226, 227, 229, 265, 267, 269, 272, 274, 277, 279] rfl (by decide +kernel)
set_option maxRecDepth 20000 in
theorem in_wsL_law0_r5 : ∀ w ∈ wsL_law0_r5, w ∈ lw_tbl := in_pl [233, 236, 327] [281, 283, 287, 230, 231, 232, 237, 242, 246, 249, 253, 259, 234, 235, 109, 325, 326, 328, 331, 332, 333] rfl (by decide +kernel)
set_option maxRecDepth 20000 in
theorem in_wsL_law0_r6 : ∀ w ∈ wsL_law0_r6, w ∈ lw_tbl := in_pl [347, 353] [330, 329, 345, 346, 348, 349, 350, 112, 403, 369, 407, 370, 371, 113, 402, 404, 405, 352, 354, 355, 356, 357] rfl (by decide +kernel)
set_option maxRecDepth 20000 in
theorem in_wsL_law0_r7 : ∀ w ∈ wsL_law0_r7, w ∈ lw_tbl := in_pl [374, 1413] [372, 373, 375, 376, 1411, 1412, 1414, 1419, 1420, 1421, 1422, 1423, 1426, 1415, 1429, 1439, 1442, 1443, 1444, 1445, 1446, 1447] rfl (by decide +kernel)
set_option maxRecDepth 20000 in
theorem in_wsL_law0_r8 : ∀ w ∈ wsL_law0_r8, w ∈ lw_tbl := in_pl [1418, 464, 468, 473] [1448, 1450, 1454, 1455, 1456, 1416, 1417, 461, 462, 463, 469, 465, 466, 467, 217, 470, 471, 472, 474, 475] rfl (by decide +kernel)
set_option maxRecDepth 20000 in
theorem in_wsL_law0_r9 : ∀ w ∈ wsL_law0_r9, w ∈ lw_tbl := in_pl [477, 1551, 1556, 816] [476, 1548, 1549, 1550, 1425, 1427, 1552, 1553, 1555, 29, 809, 810, 100, 811, 812, 813, 814, 815, 817, 118] rfl (by decide +kernel)
set_option maxRecDepth 20000 in
theorem in_wsL_law0_r10 : ∀ w ∈ wsL_law0_r10, w ∈ lw_tbl := in_pl [886, 588, 592, 596, 603] [1025, 883, 884, 885, 406, 887, 888, 586, 587, 589, 590, 591, 593, 594, 595, 601, 602, 119, 597] rfl (by decide +kernel)
set_option maxRecDepth 20000 in
theorem in_wsL_law0_r11 : ∀ w ∈ wsL_law0_r11, w ∈ lw_tbl := in_pl [600, 892, 896, 901] [598, 599, 889, 890, 891, 358, 893, 894, 895, 897, 377, 378, 380, 381, 898, 899, 900, 902, 904, 6] rfl (by decide +kernel)
set_option maxRecDepth 20000 in
theorem in_wsL_law0_r12 : ∀ w ∈ wsL_law0_r12, w ∈ lw_tbl := in_pl [905, 909, 913, 917] [385, 906, 908, 7, 383, 910, 912, 8, 918, 935, 947, 948, 949, 950, 951, 914, 916, 9, 919, 921] rfl (by decide +kernel)
set_option maxRecDepth 20000 in
theorem in_wsL_law0_r13 : ∀ w ∈ wsL_law0_r13, w ∈ lw_tbl := in_pl [922, 926, 930, 934, 939, 943] [10, 923, 925, 11, 927, 929, 12, 931, 933, 13, 936, 938, 14, 953, 940, 942, 15, 944] rfl (by decide +kernel)
set_option maxRecDepth 20000 in
theorem in_wsL_law0_r14 : ∀ w ∈ wsL_law0_r14, w ∈ lw_tbl := in_pl [946, 957, 961, 965, 969, 973] [945, 952, 954, 955, 956, 958, 959, 960, 962, 963, 964, 966, 968, 16, 970, 972, 17, 974] rfl (by decide +kernel)
set_option maxRecDepth 20000 in
theorem in_wsL_law0_r15 : ∀ w ∈ wsL_law0_r15, w ∈ lw_tbl := in_pl [977, 981, 985, 989, 993, 997] [976, 18, 978, 979, 980, 982, 983, 984, 986, 988, 19, 990, 991, 992, 994, 996, 20, 998] rfl (by decide +kernel)
set_option maxRecDepth 20000 in
theorem in_wsL_law0_r16 : ∀ w ∈ wsL_law0_r16, w ∈ lw_tbl := in_pl [1001, 1005, 1009, 659, 1016] [1000, 21, 1002, 1004, 22, 1006, 1008, 23, 1010, 1011, 657, 658, 1012, 1013, 1014, 1015, 1017, 1018, 1019] rfl (by decide +kernel)
set_option maxRecDepth 20000 in
theorem in_wsL_law0_r17 : ∀ w ∈ wsL_law0_r17, w ∈ lw_tbl := in_pl [1020, 1024, 689, 1029, 1560] [1021, 1022, 1023, 686, 688, 3, 1026, 1027, 1028, 186, 1557, 1558, 1559, 1430, 1432, 1436, 1437, 1433, 1428] rfl (by decide +kernel)
set_option maxRecDepth 20000 in
theorem in_wsL_law0_r18 : ∀ w ∈ wsL_law0_r18, w ∈ lw_tbl := in_pl [1563, 1567, 1571, 1574] [1693, 1424, 1561, 1562, 1564, 1566, 30, 1431, 1434, 1438, 1575, 1576, 1435, 1568, 1570, 31, 1572, 1573, 1577, 1579] rfl (by decide +kernel)
set_option maxRecDepth 20000 in
theorem in_wsL_law0_r19 : ∀ w ∈ wsL_law0_r19, w ∈ lw_tbl := in_pl [1580, 1585, 1589, 1595, 1599] [32, 1582, 1583, 1584, 120, 2162, 1586, 1587, 1588, 1590, 2163, 1592, 1593, 1594, 1596, 1597, 1598, 1600, 1601] rfl (by decide +kernel)
set_option maxRecDepth 20000 in
theorem in_wsL_law0_r20 : ∀ w ∈ wsL_law0_r20, w ∈ lw_tbl := in_pl [1602, 1605, 1610, 1613, 1616, 1619, 1623] [121, 1603, 1604, 1606, 1608, 1609, 122, 1611, 1612, 123, 1614, 1615, 1617, 1618, 1620, 1621, 1622] rfl (by decide +kernel)
set_option maxRecDepth 20000 in
theorem in_wsL_law0_r21 : ∀ w ∈ wsL_law0_r21, w ∈ lw_tbl := in_pl [1632, 1636, 1640, 1644, 1648] [1624, 1626, 1628, 1630, 1631, 1633, 1635, 33, 1637, 1639, 34, 1641, 1643, 35, 1645, 1647, 36, 1440, 1649] rfl (by decide +kernel)
set_option maxRecDepth 20000 in
theorem in_wsL_law0_r22 : ∀ w ∈ wsL_law0_r22, w ∈ lw_tbl := in_pl [1652, 1656, 1660, 1664, 1668, 1672] [1651, 37, 1653, 1655, 38, 1657, 1659, 39, 1661, 1663, 40, 1665, 1667, 41, 1669, 1671, 42, 1441] rfl (by decide +kernel)
set_option maxRecDepth 20000 in
theorem in_wsL_law0_r23 : ∀ w ∈ wsL_law0_r23, w ∈ lw_tbl := in_pl [1676, 1680, 1684, 1688, 1692, 1547] [1673, 1675, 43, 1677, 1679, 44, 1681, 1683, 45, 1685, 1687, 46, 1689, 1691, 47, 1545, 1546, 1537] rfl (by decide +kernel)
set_option maxRecDepth 20000 in
theorem in_wsL_law0_r24 : ∀ w ∈ wsL_law0_r24, w ∈ lw_tbl := in_pl [1540, 481, 1697, 485, 1701] [1538, 1539, 478, 479, 480, 1694, 1695, 1696, 482, 483, 484, 1698, 1699, 1700, 1030, 1031, 1032, 1033, 1034] rfl (by decide +kernel)
set_option maxRecDepth 20000 in
theorem in_wsL_law0_r25 : ∀ w ∈ wsL_law0_r25, w ∈ lw_tbl := in_pl [1037, 1041, 1061, 617, 1705] [1035, 1036, 1038, 1040, 24, 1042, 124, 1058, 1060, 25, 1063, 615, 616, 1702, 1703, 1704, 1706, 1708, 48] rfl (by decide +kernel)
set_option maxRecDepth 20000 in
theorem in_wsL_law0_r26 : ∀ w ∈ wsL_law0_r26, w ∈ lw_tbl := in_pl [1709, 1713, 1717, 1721, 1725, 1729] [1710, 1712, 49, 1714, 1716, 50, 1718, 1720, 51, 1722, 1724, 52, 1726, 1728, 53, 1730, 1732, 54] rfl (by decide +kernel)
set_option maxRecDepth 20000 in
theorem in_wsL_law0_r27 : ∀ w ∈ wsL_law0_r27, w ∈ lw_tbl := in_pl [1733, 1737, 1741, 1070, 1074] [1734, 1736, 55, 1742, 1738, 1740, 56, 1064, 1065, 1066, 1067, 1068, 1069, 1071, 1072, 1073, 1743, 1744, 1745] rfl (by decide +kernel)
set_option maxRecDepth 20000 in
theorem in_wsL_law0_r28 : ∀ w ∈ wsL_law0_r28, w ∈ lw_tbl := in_pl [1746, 1081, 1085, 1750, 1092] [1075, 1076, 1077, 1078, 1079, 1080, 1082, 1083, 1084, 1747, 1748, 1749, 1086, 1087, 1088, 1089, 1090, 1091, 1093] rfl (by decide +kernel)
set_option maxRecDepth 20000 in
theorem in_wsL_law0_r29 : ∀ w ∈ wsL_law0_r29, w ∈ lw_tbl := in_pl [497, 501, 1754, 1758, 1762, 489] [495, 496, 502, 498, 499, 500, 1751, 1752, 1753, 1755, 1757, 57, 1759, 1761, 58, 486, 487, 488] rfl (by decide +kernel)
set_option maxRecDepth 20000 in
theorem in_wsL_law0_r30 : ∀ w ∈ wsL_law0_r30, w ∈ lw_tbl := in_pl [493, 1766, 1770, 1100] [490, 491, 492, 494, 1763, 1764, 1765, 1767, 1769, 59, 1094, 1095, 1096, 1097, 1098, 1099, 1101, 1771, 1772, 1773] rfl (by decide +kernel)
set_option maxRecDepth 20000 in
theorem in_wsL_law0_r31 : ∀ w ∈ wsL_law0_r31, w ∈ lw_tbl := in_pl [1774, 1108, 1778, 1153, 1115] [1102, 1103, 1104, 1105, 1106, 1107, 1775, 1776, 1777, 1779, 1152, 1109, 1110, 1111, 1112, 1113, 1114, 1780, 1781] rfl (by decide +kernel)
set_option maxRecDepth 20000 in
theorem in_wsL_law0_r32 : ∀ w ∈ wsL_law0_r32, w ∈ lw_tbl := in_pl [1783, 1122, 611, 621, 629] [1782, 1116, 1117, 1118, 1119, 1120, 1121, 1124, 609, 610, 148, 1125, 619, 620, 1126, 627, 628, 1784, 1785] rfl (by decide +kernel)
set_option maxRecDepth 20000 in
theorem in_wsL_law0_r33 : ∀ w ∈ wsL_law0_r33, w ∈ lw_tbl := in_pl [1787, 1791, 1795, 1133, 1137] [1786, 1788, 1790, 60, 1792, 1794, 61, 1127, 1128, 1129, 1130, 1131, 1132, 1134, 1135, 1136, 1138, 1139, 1796] rfl (by decide +kernel)
set_option maxRecDepth 20000 in
theorem in_wsL_law0_r34 : ∀ w ∈ wsL_law0_r34, w ∈ lw_tbl := in_pl [1799, 1803, 1146, 1150, 1807] [1797, 1798, 1800, 1802, 62, 1140, 1141, 1142, 1143, 1144, 1145, 1147, 1148, 1149, 1151, 1804, 1805, 1806, 1808] rfl (by decide +kernel)
set_option maxRecDepth 20000 in
theorem in_wsL_law0_r35 : ∀ w ∈ wsL_law0_r35, w ∈ lw_tbl := in_pl [1810, 1160, 1814, 1818, 1167] [1809, 1154, 1155, 1156, 1157, 1158, 1159, 1811, 1812, 1813, 1815, 1817, 63, 1161, 1162, 1163, 1164, 1165, 1166] rfl (by decide +kernel)
set_option maxRecDepth 20000 in
theorem in_wsL_law0_r36 : ∀ w ∈ wsL_law0_r36, w ∈ lw_tbl := in_pl [1822, 1174, 530, 1826, 1830] [1819, 1820, 1821, 1168, 1169, 1170, 1171, 1172, 1173, 1175, 528, 529, 1823, 1824, 1825, 1827, 1829, 64, 1176] rfl (by decide +kernel)
set_option maxRecDepth 20000 in
theorem in_wsL_law0_r37 : ∀ w ∈ wsL_law0_r37, w ∈ lw_tbl := in_pl [1182, 1186, 571, 1834, 1838] [1177, 1178, 1179, 1180, 1181, 1183, 1185, 26, 1188, 569, 570, 1831, 1832, 1833, 1835, 1837, 65, 1839, 1841] rfl (by decide +kernel)
set_option maxRecDepth 20000 in
theorem in_wsL_law0_r38 : ∀ w ∈ wsL_law0_r38, w ∈ lw_tbl := in_pl [1842, 1846, 1850, 1195, 554] [66, 1843, 1845, 67, 1847, 1849, 68, 1189, 1190, 1191, 1192, 1193, 1194, 551, 552, 553, 523, 524, 525] rfl (by decide +kernel)
set_option maxRecDepth 20000 in
theorem in_wsL_law0_r39 : ∀ w ∈ wsL_law0_r39, w ∈ lw_tbl := in_pl [526, 1854, 1858, 1202, 1862] [527, 1851, 1852, 1853, 1855, 1857, 69, 1196, 1197, 1198, 1199, 1200, 1201, 794, 804, 1859, 1860, 1861, 1863] rfl (by decide +kernel)
set_option maxRecDepth 20000 in
theorem in_wsL_law0_r40 : ∀ w ∈ wsL_law0_r40, w ∈ lw_tbl := in_pl [1865, 1209, 1869, 1216, 645] [1864, 1203, 1204, 1205, 1206, 1207, 1208, 1866, 1867, 1868, 1210, 1211, 1212, 1213, 1214, 1215, 1217, 643, 644] rfl (by decide +kernel)
set_option maxRecDepth 20000 in
theorem in_wsL_law0_r41 : ∀ w ∈ wsL_law0_r41, w ∈ lw_tbl := in_pl [1873, 1877, 506, 510, 1881] [1870, 1871, 1872, 1874, 1876, 70, 503, 504, 505, 507, 508, 509, 1878, 1879, 1880, 1218, 1219, 1220, 1221] rfl (by decide +kernel)
set_option maxRecDepth 20000 in
theorem in_wsL_law0_r42 : ∀ w ∈ wsL_law0_r42, w ∈ lw_tbl := in_pl [1224, 522, 534, 1885, 1889, 1893] [1222, 1223, 1225, 520, 521, 531, 532, 533, 1882, 1883, 1884, 1886, 1888, 71, 1890, 1892, 72, 1226] rfl (by decide +kernel)
set_option maxRecDepth 20000 in
theorem in_wsL_law0_r43 : ∀ w ∈ wsL_law0_r43, w ∈ lw_tbl := in_pl [1232, 1236, 546, 1897, 1901] [1227, 1228, 1229, 1230, 1231, 1233, 1235, 27, 1238, 544, 545, 1894, 1895, 1896, 1898, 1900, 73, 1902, 1904] rfl (by decide +kernel)
set_option maxRecDepth 20000 in
theorem in_wsL_law0_r44 : ∀ w ∈ wsL_law0_r44, w ∈ lw_tbl := in_pl [1905, 1245, 542, 1909, 1913] [74, 1239, 1240, 1241, 1242, 1243, 1244, 539, 540, 541, 543, 1906, 1907, 1908, 1910, 1912, 75, 1246, 1247] rfl (by decide +kernel)
set_option maxRecDepth 20000 in
theorem in_wsL_law0_r45 : ∀ w ∈ wsL_law0_r45, w ∈ lw_tbl := in_pl [1252, 518, 1917, 1921, 514] [1248, 1249, 1250, 1251, 515, 516, 517, 519, 1914, 1915, 1916, 1918, 1920, 76, 511, 512, 513, 1922, 1923] rfl (by decide +kernel)
set_option maxRecDepth 20000 in
theorem in_wsL_law0_r46 : ∀ w ∈ wsL_law0_r46, w ∈ lw_tbl := in_pl [1925, 538, 1929, 550, 1933] [1924, 535, 536, 537, 1926, 1927, 1928, 547, 548, 549, 1930, 1931, 1932, 1253, 1254, 1255, 1256, 1257, 1258] rfl (by decide +kernel)
set_option maxRecDepth 20000 in
theorem in_wsL_law0_r47 : ∀ w ∈ wsL_law0_r47, w ∈ lw_tbl := in_pl [1259, 1937, 558, 562, 566, 1941] [1260, 1934, 1935, 1936, 555, 556, 557, 559, 560, 561, 563, 564, 565, 567, 568, 1938, 1939, 1940] rfl (by decide +kernel)
set_option maxRecDepth 20000 in
theorem in_wsL_law0_r48 : ∀ w ∈ wsL_law0_r48, w ∈ lw_tbl := in_pl [1945, 1949, 575, 1953, 1267] [1942, 1944, 77, 1946, 1948, 78, 572, 573, 574, 576, 1950, 1951, 1952, 1261, 1262, 1263, 1264, 1265, 1266] rfl (by decide +kernel)
set_option maxRecDepth 20000 in
theorem in_wsL_law0_r49 : ∀ w ∈ wsL_law0_r49, w ∈ lw_tbl := in_pl [637, 641, 648, 1957, 1961] [1268, 635, 636, 638, 639, 640, 642, 646, 647, 125, 649, 650, 651, 1954, 1955, 1956, 1958, 1960, 79] rfl (by decide +kernel)
set_option maxRecDepth 20000 in
theorem in_wsL_law0_r50 : ∀ w ∈ wsL_law0_r50, w ∈ lw_tbl := in_pl [1965, 1275, 1969, 1282] [1962, 1964, 80, 1269, 1270, 1271, 1272, 1273, 1274, 1966, 1967, 1968, 1276, 1277, 1278, 1279, 1280, 1281, 1970, 1971] rfl (by decide +kernel)
set_option maxRecDepth 20000 in
theorem in_wsL_law0_r51 : ∀ w ∈ wsL_law0_r51, w ∈ lw_tbl := in_pl [1973, 1289, 1293, 1977, 1981] [1972, 1283, 1284, 1285, 1286, 1287, 1288, 1290, 1292, 28, 1294, 1974, 1975, 1976, 1978, 1980, 81, 1295, 1296] rfl (by decide +kernel)
set_option maxRecDepth 20000 in
theorem in_wsL_law0_r52 : ∀ w ∈ wsL_law0_r52, w ∈ lw_tbl := in_pl [1301, 1985, 1308, 1989] [1297, 1298, 1299, 1300, 1982, 1983, 1984, 1302, 1303, 1304, 1305, 1306, 1307, 1986, 1987, 1988, 1309, 1310, 1311, 1312] rfl (by decide +kernel)
set_option maxRecDepth 20000 in
theorem in_wsL_law0_r53 : ∀ w ∈ wsL_law0_r53, w ∈ lw_tbl := in_pl [1315, 1319, 1993, 1326, 668] [1313, 1314, 1316, 1317, 1318, 1990, 1991, 1992, 1320, 1321, 1322, 1323, 1324, 1325, 1327, 665, 667, 2, 669] rfl (by decide +kernel)
set_option maxRecDepth 20000 in
theorem in_wsL_law0_r54 : ∀ w ∈ wsL_law0_r54, w ∈ lw_tbl := in_pl [672, 676, 683, 1997] [670, 671, 685, 673, 674, 675, 677, 679, 678, 126, 680, 681, 682, 684, 1994, 1995, 1996, 1998, 1999, 2001] rfl (by decide +kernel)
set_option maxRecDepth 20000 in
theorem in_wsL_law0_r55 : ∀ w ∈ wsL_law0_r55, w ∈ lw_tbl := in_pl [2002, 1334, 2006, 1341] [82, 1328, 1329, 1330, 1331, 1332, 1333, 2003, 2004, 2005, 1335, 1336, 1337, 1338, 1339, 1340, 664, 2007, 2008, 2009] rfl (by decide +kernel)
set_option maxRecDepth 20000 in
theorem in_wsL_law0_r56 : ∀ w ∈ wsL_law0_r56, w ∈ lw_tbl := in_pl [2010, 1348, 2015, 1355, 1358] [2011, 1342, 1343, 1344, 1345, 1346, 1347, 2012, 2013, 2014, 1349, 1350, 1351, 1352, 1353, 1354, 1356, 1357, 2016] rfl (by decide +kernel)
set_option maxRecDepth 20000 in
theorem in_wsL_law0_r57 : ∀ w ∈ wsL_law0_r57, w ∈ lw_tbl := in_pl [2019, 2024, 2028, 1366, 2032] [2017, 2018, 2020, 2021, 2023, 83, 2025, 2027, 84, 1360, 1361, 1362, 1363, 1364, 1365, 2029, 2030, 2031, 2033] rfl (by decide +kernel)
set_option maxRecDepth 20000 in
theorem in_wsL_law0_r58 : ∀ w ∈ wsL_law0_r58, w ∈ lw_tbl := in_pl [1373, 2037, 1381, 2041] [1367, 1368, 1369, 1370, 1371, 1372, 1374, 2034, 2035, 2036, 1375, 1376, 1377, 1378, 1379, 1380, 1382, 2038, 2039, 2040] rfl (by decide +kernel)
set_option maxRecDepth 20000 in
theorem in_wsL_law0_r59 : ∀ w ∈ wsL_law0_r59, w ∈ lw_tbl := in_pl [1389, 2046, 580, 584] [2042, 1383, 1384, 1385, 1386, 1387, 1388, 2043, 2044, 2045, 577, 578, 579, 581, 582, 583, 585, 604, 606, 0] rfl (by decide +kernel)
set_option maxRecDepth 20000 in
theorem in_wsL_law0_r60 : ∀ w ∈ wsL_law0_r60, w ∈ lw_tbl := in_pl [607, 625, 633, 655] [613, 608, 612, 614, 618, 622, 623, 624, 626, 630, 632, 1, 634, 652, 653, 654, 656, 660, 661, 662] rfl (by decide +kernel)
set_option maxRecDepth 20000 in
theorem in_wsL_law0_r61 : ∀ w ∈ wsL_law0_r61, w ∈ lw_tbl := in_pl [663, 2050, 2054, 2058, 2062, 2066] [2047, 2048, 2049, 2051, 2053, 85, 2055, 2057, 86, 2059, 2061, 87, 2063, 2065, 88, 1449, 2067, 2069] rfl (by decide +kernel)
set_option maxRecDepth 20000 in
theorem in_wsL_law0_r62 : ∀ w ∈ wsL_law0_r62, w ∈ lw_tbl := in_pl [2070, 2074, 2078, 2082, 2086, 693] [89, 2071, 2073, 90, 2075, 2077, 91, 2079, 2081, 92, 2083, 2085, 93, 690, 691, 692, 715, 694] rfl (by decide +kernel)
set_option maxRecDepth 20000 in
theorem in_wsL_law0_r63 : ∀ w ∈ wsL_law0_r63, w ∈ lw_tbl := in_pl [697, 705, 711] [695, 696, 168, 701, 698, 699, 700, 702, 703, 704, 712, 706, 707, 708, 709, 710, 713, 714, 2140, 2141, 2142] rfl (by decide +kernel)
set_option maxRecDepth 20000 in
theorem in_wsL_law0_r64 : ∀ w ∈ wsL_law0_r64, w ∈ lw_tbl := in_pl [2143, 2126, 2130, 2134, 719] [1453, 2135, 1452, 2123, 2125, 95, 1451, 2127, 2129, 96, 2131, 2133, 97, 716, 717, 718, 720, 721, 722] rfl (by decide +kernel)
set_option maxRecDepth 20000 in
theorem in_wsL_law0_r65 : ∀ w ∈ wsL_law0_r65, w ∈ lw_tbl := in_pl [723, 727, 731, 735, 739, 1544] [724, 725, 726, 728, 729, 730, 732, 733, 734, 736, 737, 738, 1541, 1542, 1543, 740, 741, 742] rfl (by decide +kernel)
set_option maxRecDepth 20000 in
theorem in_wsL_law0_r66 : ∀ w ∈ wsL_law0_r66, w ∈ lw_tbl := in_pl [743, 2122, 747, 751, 2139, 755] [2119, 2120, 2121, 744, 745, 746, 748, 749, 750, 2136, 2137, 2138, 752, 753, 754, 756, 758, 4] rfl (by decide +kernel)
set_option maxRecDepth 20000 in
theorem in_wsL_law0_r67 : ∀ w ∈ wsL_law0_r67, w ∈ lw_tbl := in_pl [759, 2090, 2094, 1396, 2098, 763] [2087, 2088, 2089, 2091, 2093, 94, 1390, 1391, 1392, 1393, 1394, 1395, 2095, 2096, 2097, 760, 761, 762] rfl (by decide +kernel)
set_option maxRecDepth 20000 in
theorem in_wsL_law0_r68 : ∀ w ∈ wsL_law0_r68, w ∈ lw_tbl := in_pl [2102, 767, 771, 2106, 775, 2110] [2099, 2100, 2101, 764, 765, 766, 768, 769, 770, 2103, 2104, 2105, 772, 773, 774, 2107, 2108, 2109] rfl (by decide +kernel)
set_option maxRecDepth 20000 in
theorem in_wsL_law0_r69 : ∀ w ∈ wsL_law0_r69, w ∈ lw_tbl := in_pl [779, 2114, 784, 2118, 789] [776, 777, 778, 780, 2111, 2112, 2113, 781, 782, 783, 785, 2115, 2116, 2117, 786, 787, 788, 790, 791] rfl (by decide +kernel)
set_option maxRecDepth 20000 in
theorem in_wsL_law0_r70 : ∀ w ∈ wsL_law0_r70, w ∈ lw_tbl := in_pl [793, 798, 802, 808, 2147] [792, 201, 795, 796, 797, 799, 800, 801, 803, 805, 806, 807, 2144, 2145, 2146, 1457, 2148, 2150, 98] rfl (by decide +kernel)
set_option maxRecDepth 20000 in
theorem in_wsL_law0_r71 : ∀ w ∈ wsL_law0_r71, w ∈ lw_tbl := in_pl [2151, 2155, 1403, 1408, 2159] [2152, 2154, 99, 1397, 1398, 1399, 1400, 1401, 1402, 1405, 1406, 1407, 2156, 2157, 2158] rfl (by decide +kernel)
