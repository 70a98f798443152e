def pl_ok (big : List Cond) (q : Cond × Option Nat) : Bool := match q.2 with
  | some i => decide (big[i]? = some q.1)
  | none => decide (q.1 ∈ big)
theorem pl_in {big ws : List Cond} (ps : List (Option Nat)) (hl : ws.length = ps.length) (h : (ws.zip ps).all (pl_ok big) = true) : ∀ w ∈ ws, w ∈ big := by
  intro w hw
  obtain ⟨i, hi, rfl⟩ := List.getElem_of_mem hw
  have hi2 : i < ps.length := hl ▸ hi
  have hz : i < (ws.zip ps).length := by rw [List.length_zip]; omega
  have h1 := List.all_eq_true.mp h (ws.zip ps)[i] (List.getElem_mem hz)
  rw [List.getElem_zip] at h1
  unfold pl_ok at h1
  cases hp : ps[i] with
  | none => rw [hp] at h1; exact of_decide_eq_true h1
  | some k => rw [hp] at h1; exact List.mem_of_getElem? (of_decide_eq_true h1)
set_option maxRecDepth 20000 in
theorem lin_wsL_law0_r1 : ∀ w ∈ wsL_law0_r1, w ∈ lw_tbl := pl_in [some 179, some 180, some 153, some 1613, some 1614, some 164, some 325, some 181, some 182, some 183, some 184, some 185, none, some 187, some 188, some 154, some 563, some 223, some 224, some 155, some 564, some 565, some 259, some 260] rfl (by decide +kernel)
set_option maxRecDepth 20000 in
theorem lin_wsL_law0_r2 : ∀ w ∈ wsL_law0_r2, w ∈ lw_tbl := pl_in [some 156, some 566, some 326, some 327, some 157, some 567, some 357, some 358, some 158, some 568, some 569, some 570, some 385, some 386, some 160, some 571, some 411, some 412, some 161, some 572, some 481, some 482, some 162, some 573] rfl (by decide +kernel)
set_option maxRecDepth 20000 in
theorem lin_wsL_law0_r3 : ∀ w ∈ wsL_law0_r3, w ∈ lw_tbl := pl_in [some 540, some 541, some 163, some 574, some 575, some 222, some 576, some 577, some 578, some 190, some 191, some 192, some 193, some 226, some 227, some 228, some 229, some 230, some 232, some 233, some 235, some 261, some 262, some 263] rfl (by decide +kernel)
set_option maxRecDepth 20000 in
theorem lin_wsL_law0_r4 : ∀ w ∈ wsL_law0_r4, w ∈ lw_tbl := pl_in [some 264, some 266, some 267, some 268, some 269, some 270, some 271, some 272, some 273, some 274, some 275, some 276, some 265, some 328, some 329, some 330, some 331, some 335, some 336, some 337, some 332, some 333, some 334, some 359] rfl (by decide +kernel)
set_option maxRecDepth 20000 in
theorem lin_wsL_law0_r5 : ∀ w ∈ wsL_law0_r5, w ∈ lw_tbl := pl_in [some 360, some 361, some 362, some 363, some 364, some 159, none, some 366, some 367, none, some 369, some 370, some 371, some 387, some 388, some 389, some 390, some 391, some 394, some 396, some 397, some 393, some 392, some 413] rfl (by decide +kernel)
set_option maxRecDepth 20000 in
theorem lin_wsL_law0_r6 : ∀ w ∈ wsL_law0_r6, w ∈ lw_tbl := pl_in [some 414, some 415, some 416, some 418, some 419, some 420, some 421, some 422, some 423, some 424, some 425, some 426, some 427, some 428, some 429, some 431, some 417, some 483, some 484, some 485, some 486, some 487, some 491, some 494] rfl (by decide +kernel)
set_option maxRecDepth 20000 in
theorem lin_wsL_law0_r7 : ∀ w ∈ wsL_law0_r7, w ∈ lw_tbl := pl_in [some 495, some 496, some 497, some 498, some 499, some 500, some 501, some 502, some 489, some 490, some 488, some 542, some 543, some 544, some 545, some 546, some 549, some 548, some 547, some 1615, some 1616, some 1617, some 1618, some 1145] rfl (by decide +kernel)
set_option maxRecDepth 20000 in
theorem lin_wsL_law0_r8 : ∀ w ∈ wsL_law0_r8, w ∈ lw_tbl := pl_in [some 1621, some 1623, some 1627, some 1628, some 1629, some 1630, some 1631, some 1632, some 1633, some 1634, some 1635, some 1636, some 1637, some 1619, some 1642, some 1644, some 1645, some 1649, some 1650, some 1651, some 1652, some 1656, some 1658, some 1659] rfl (by decide +kernel)
set_option maxRecDepth 20000 in
theorem lin_wsL_law0_r9 : ∀ w ∈ wsL_law0_r9, w ∈ lw_tbl := pl_in [some 1660, some 1662, some 1663, some 1666, some 1667, some 1668, some 612, some 613, some 614, some 615, some 616, some 617, some 618, some 619, some 194, some 620, some 622, some 0, some 623, some 1775, some 1776, some 1777, some 1778, some 1620] rfl (by decide +kernel)
set_option maxRecDepth 20000 in
theorem lin_wsL_law0_r10 : ∀ w ∈ wsL_law0_r10, w ∈ lw_tbl := pl_in [some 1622, some 624, some 625, some 626, some 627, some 628, some 629, some 630, some 631, some 1779, some 1780, some 1781, some 1782, some 996, some 997, some 152, some 998, some 999, some 1000, some 1001, some 1002, some 1003, some 1077, some 168] rfl (by decide +kernel)
set_option maxRecDepth 20000 in
theorem lin_wsL_law0_r11 : ∀ w ∈ wsL_law0_r11, w ∈ lw_tbl := pl_in [some 1004, some 1005, some 1006, some 1007, some 195, some 196, some 1008, some 1009, some 1010, some 1011, some 202, some 200, some 206, some 1012, some 1014, some 33, some 1015, some 1016, some 1017, some 1018, some 1019, some 1020, some 1021, some 1022] rfl (by decide +kernel)
set_option maxRecDepth 20000 in
theorem lin_wsL_law0_r12 : ∀ w ∈ wsL_law0_r12, w ∈ lw_tbl := pl_in [some 1024, some 34, some 1025, some 1026, some 1027, some 1028, some 1029, some 1031, some 35, some 1032, some 1033, some 1034, some 1035, some 1036, some 236, some 238, some 240, some 1037, some 1039, some 36, some 1040, some 1041, some 1042, some 1043] rfl (by decide +kernel)
set_option maxRecDepth 20000 in
theorem lin_wsL_law0_r13 : ∀ w ∈ wsL_law0_r13, w ∈ lw_tbl := pl_in [some 1045, some 37, some 1046, some 1047, some 1048, some 1049, some 1050, some 1051, some 1052, some 1053, some 1054, some 1055, some 1056, some 1058, some 38, some 1059, some 1060, some 1062, some 39, some 1063, some 1064, some 1066, some 40, some 1067] rfl (by decide +kernel)
set_option maxRecDepth 20000 in
theorem lin_wsL_law0_r14 : ∀ w ∈ wsL_law0_r14, w ∈ lw_tbl := pl_in [some 1068, some 758, some 759, some 760, some 1069, some 1070, some 1071, some 1072, some 1073, some 1074, some 1075, some 1076, some 1146, some 1147, some 1148, some 1149, some 1150, some 919, some 918, some 169, some 1151, some 724, some 725, some 726] rfl (by decide +kernel)
set_option maxRecDepth 20000 in
theorem lin_wsL_law0_r15 : ∀ w ∈ wsL_law0_r15, w ∈ lw_tbl := pl_in [some 372, some 1152, some 1153, some 1154, some 1155, some 398, some 1156, some 1783, some 1784, some 1785, some 1786, some 1640, some 1641, some 1625, some 1624, some 1638, some 1639, some 1646, some 1647, some 1664, some 1665, some 1787, some 1789, some 67] rfl (by decide +kernel)
set_option maxRecDepth 20000 in
theorem lin_wsL_law0_r16 : ∀ w ∈ wsL_law0_r16, w ∈ lw_tbl := pl_in [some 1790, some 1643, some 1791, some 1793, some 68, some 1794, some 1626, some 1795, some 1797, some 69, some 1798, some 1799, some 1801, some 70, some 1802, some 1803, some 1805, some 71, some 1806, some 1808, some 1810, some 72, some 1811, some 1812] rfl (by decide +kernel)
set_option maxRecDepth 20000 in
theorem lin_wsL_law0_r17 : ∀ w ∈ wsL_law0_r17, w ∈ lw_tbl := pl_in [some 1813, some 1814, some 170, some 1815, some 2312, some 1816, some 1817, some 1818, some 1819, some 1820, some 2313, some 1822, some 1823, some 1824, some 1825, some 1826, some 1827, some 1828, some 1829, some 1830, some 1831, some 171, some 1832, some 1833] rfl (by decide +kernel)
set_option maxRecDepth 20000 in
theorem lin_wsL_law0_r18 : ∀ w ∈ wsL_law0_r18, w ∈ lw_tbl := pl_in [some 1834, some 1835, some 1836, some 1838, some 1839, some 172, some 1840, some 1841, some 1842, some 173, some 1843, some 1844, some 1845, some 1846, some 1847, some 1848, some 1849, some 1850, some 1851, some 1852, some 1853, some 1854, some 1856, some 1858] rfl (by decide +kernel)
set_option maxRecDepth 20000 in
theorem lin_wsL_law0_r19 : ∀ w ∈ wsL_law0_r19, w ∈ lw_tbl := pl_in [some 1863, some 1865, some 73, some 1866, some 1867, some 1869, some 74, some 1870, some 1871, some 1872, some 1873, some 1875, some 1877, some 75, some 1878, some 1879, some 1881, some 76, some 1882, some 1883, some 1885, some 77, some 1886, some 1887] rfl (by decide +kernel)
set_option maxRecDepth 20000 in
theorem lin_wsL_law0_r20 : ∀ w ∈ wsL_law0_r20, w ∈ lw_tbl := pl_in [some 1889, some 78, some 1890, some 1891, some 1893, some 79, some 1894, some 1771, some 1772, some 1773, some 1774, some 1157, some 1158, some 1159, some 1160, some 1161, some 1162, some 1163, some 1164, some 1204, some 175, some 993, some 689, some 690] rfl (by decide +kernel)
set_option maxRecDepth 20000 in
theorem lin_wsL_law0_r21 : ∀ w ∈ wsL_law0_r21, w ∈ lw_tbl := pl_in [some 691, some 280, some 692, some 693, some 694, some 695, some 278, some 696, some 697, some 1165, some 1166, some 1167, some 1168, some 338, some 339, some 1169, some 1171, some 42, some 1172, some 1173, some 1174, some 1175, some 1176, some 1177] rfl (by decide +kernel)
set_option maxRecDepth 20000 in
theorem lin_wsL_law0_r22 : ∀ w ∈ wsL_law0_r22, w ∈ lw_tbl := pl_in [some 1178, some 1179, some 711, some 713, some 5, some 714, some 1180, some 1182, some 43, some 1183, some 1184, some 797, some 798, some 1186, some 1187, some 1189, some 44, some 1190, some 1191, some 1192, some 1194, some 45, some 1195, some 1196] rfl (by decide +kernel)
set_option maxRecDepth 20000 in
theorem lin_wsL_law0_r23 : ∀ w ∈ wsL_law0_r23, w ∈ lw_tbl := pl_in [some 847, some 848, some 849, some 281, some 285, some 282, some 283, some 284, some 757, some 792, some 793, some 794, some 795, some 1197, some 851, some 852, some 853, some 854, some 855, some 856, some 857, some 858, some 662, some 174] rfl (by decide +kernel)
set_option maxRecDepth 20000 in
theorem lin_wsL_law0_r24 : ∀ w ∈ wsL_law0_r24, w ∈ lw_tbl := pl_in [some 663, some 1198, some 860, some 861, some 862, some 1199, some 1201, some 46, some 1202, some 1220, some 962, some 963, some 964, some 965, some 966, some 967, some 968, some 715, some 717, some 6, some 718, some 707, some 709, some 4] rfl (by decide +kernel)
set_option maxRecDepth 20000 in
theorem lin_wsL_law0_r25 : ∀ w ∈ wsL_law0_r25, w ∈ lw_tbl := pl_in [some 710, some 753, some 737, some 738, some 739, some 969, some 970, some 971, some 972, some 705, some 706, some 844, some 742, some 743, some 744, some 1221, some 1223, some 47, some 1224, some 1225, some 1226, some 1227, some 1228, some 649] rfl (by decide +kernel)
set_option maxRecDepth 20000 in
theorem lin_wsL_law0_r26 : ∀ w ∈ wsL_law0_r26, w ∈ lw_tbl := pl_in [some 650, some 651, some 652, some 653, some 654, some 655, some 656, some 657, some 658, some 659, some 660, some 661, some 1230, some 1231, some 1232, some 1233, some 1234, some 1235, some 1236, some 1237, some 1238, some 1239, some 1895, some 1896] rfl (by decide +kernel)
set_option maxRecDepth 20000 in
theorem lin_wsL_law0_r27 : ∀ w ∈ wsL_law0_r27, w ∈ lw_tbl := pl_in [some 1897, some 1898, some 1899, some 1901, some 80, some 1902, some 1903, some 1905, some 81, some 1906, some 1907, some 1908, some 1909, some 1910, some 1912, some 82, some 1913, some 1914, some 1916, some 83, some 1917, some 1918, some 1920, some 84] rfl (by decide +kernel)
set_option maxRecDepth 20000 in
theorem lin_wsL_law0_r28 : ∀ w ∈ wsL_law0_r28, w ∈ lw_tbl := pl_in [some 1921, some 1922, some 1924, some 85, some 1925, some 1926, some 1928, some 86, some 1929, some 1930, some 1932, some 87, some 1933, some 1934, some 1936, some 88, some 1937, some 1938, some 1940, some 89, some 1941, some 1942, some 1944, some 90] rfl (by decide +kernel)
set_option maxRecDepth 20000 in
theorem lin_wsL_law0_r29 : ∀ w ∈ wsL_law0_r29, w ∈ lw_tbl := pl_in [some 1945, some 1946, some 1948, some 91, some 1949, some 1950, some 1952, some 92, some 1953, some 1954, some 1956, some 93, some 1957, some 1958, some 1960, some 94, some 1961, some 1962, some 1964, some 95, some 1965, some 1966, some 1968, some 96] rfl (by decide +kernel)
set_option maxRecDepth 20000 in
theorem lin_wsL_law0_r30 : ∀ w ∈ wsL_law0_r30, w ∈ lw_tbl := pl_in [some 1969, some 1240, some 1241, some 1242, some 1243, some 1244, some 1245, some 1246, some 1247, some 1248, some 1250, some 836, some 837, some 838, some 676, some 678, some 2, some 679, some 1970, some 1971, some 1972, some 1973, some 1648, some 1974] rfl (by decide +kernel)
set_option maxRecDepth 20000 in
theorem lin_wsL_law0_r31 : ∀ w ∈ wsL_law0_r31, w ∈ lw_tbl := pl_in [some 1976, some 97, some 1977, some 1978, some 1980, some 98, some 1981, some 632, some 633, some 634, some 635, some 1982, some 1983, some 1984, some 1985, some 1252, some 1253, some 1254, some 1255, some 1256, some 1257, some 1258, some 1259, some 1260] rfl (by decide +kernel)
set_option maxRecDepth 20000 in
theorem lin_wsL_law0_r32 : ∀ w ∈ wsL_law0_r32, w ∈ lw_tbl := pl_in [some 1262, some 48, some 1263, some 1264, some 176, some 1986, some 1987, some 1988, some 1989, some 1990, some 1992, some 99, some 1993, some 1994, some 1995, some 1996, some 1280, some 1281, some 1282, some 1283, some 1284, some 1285, some 1286, some 1287] rfl (by decide +kernel)
set_option maxRecDepth 20000 in
theorem lin_wsL_law0_r33 : ∀ w ∈ wsL_law0_r33, w ∈ lw_tbl := pl_in [some 1305, some 177, some 1288, some 1290, some 49, some 1291, some 1293, some 1294, some 1295, some 771, some 772, some 773, some 1296, some 1298, some 50, some 1299, some 1300, some 1301, some 1302, some 1303, some 755, some 756, some 2234, some 2235] rfl (by decide +kernel)
set_option maxRecDepth 20000 in
theorem lin_wsL_law0_r34 : ∀ w ∈ wsL_law0_r34, w ∈ lw_tbl := pl_in [some 2236, some 2237, some 2117, some 2119, some 121, some 2120, some 2238, some 2240, some 142, some 2241, some 2005, some 2007, some 101, some 2008, some 1657, some 2242, some 2244, some 143, some 2245, some 1321, some 1322, some 1323, some 1324, some 1325] rfl (by decide +kernel)
set_option maxRecDepth 20000 in
theorem lin_wsL_law0_r35 : ∀ w ∈ wsL_law0_r35, w ∈ lw_tbl := pl_in [some 1326, some 1327, some 1328, some 1330, some 51, some 1331, some 1333, some 1334, some 1335, some 987, some 1336, some 1337, some 1338, some 1339, some 1341, some 1343, some 52, some 1344, some 1345, some 1346, some 1347, some 1348, some 1349, some 1351] rfl (by decide +kernel)
set_option maxRecDepth 20000 in
theorem lin_wsL_law0_r36 : ∀ w ∈ wsL_law0_r36, w ∈ lw_tbl := pl_in [some 53, some 1352, some 1353, some 1355, some 54, some 1356, some 1357, some 1358, some 1359, some 1360, some 1361, some 1362, some 1363, some 1364, some 1365, some 1366, some 1367, some 1368, some 2246, some 2247, some 2248, some 2249, some 2001, some 2003] rfl (by decide +kernel)
set_option maxRecDepth 20000 in
theorem lin_wsL_law0_r37 : ∀ w ∈ wsL_law0_r37, w ∈ lw_tbl := pl_in [some 100, some 2004, some 2250, some 2252, some 144, some 2253, some 2254, some 2256, some 145, some 2257, some 2129, some 2131, some 123, some 2132, some 2258, some 2260, some 146, some 2261, some 2262, some 2264, some 147, some 2265, some 2266, some 2268] rfl (by decide +kernel)
set_option maxRecDepth 20000 in
theorem lin_wsL_law0_r38 : ∀ w ∈ wsL_law0_r38, w ∈ lw_tbl := pl_in [some 148, some 2269, some 1369, some 1370, some 1371, some 1372, some 1373, some 1374, some 1375, some 1376, some 2270, some 2271, some 2272, some 2273, some 636, some 637, some 638, some 639, some 640, some 641, some 642, some 643, some 644, some 645] rfl (by decide +kernel)
set_option maxRecDepth 20000 in
theorem lin_wsL_law0_r39 : ∀ w ∈ wsL_law0_r39, w ∈ lw_tbl := pl_in [some 647, some 1, some 648, some 2274, some 2275, some 2276, some 2277, some 1377, some 1378, some 1379, some 1380, some 1381, some 1382, some 1383, some 1384, some 1385, some 1386, some 1387, some 1388, some 1389, some 1391, some 55, some 1392, some 1393] rfl (by decide +kernel)
set_option maxRecDepth 20000 in
theorem lin_wsL_law0_r40 : ∀ w ∈ wsL_law0_r40, w ∈ lw_tbl := pl_in [some 1394, some 1395, some 1396, some 1397, some 1398, some 1400, some 1402, some 56, some 1403, some 1404, some 1406, some 57, some 1407, some 1409, some 1411, some 58, some 1412, some 1997, some 1998, some 1999, some 2000, some 2009, some 2011, some 102] rfl (by decide +kernel)
set_option maxRecDepth 20000 in
theorem lin_wsL_law0_r41 : ∀ w ∈ wsL_law0_r41, w ∈ lw_tbl := pl_in [some 2012, some 2013, some 2015, some 103, some 2016, some 2017, some 2019, some 104, some 2020, some 1413, some 1414, some 1415, some 1416, some 1417, some 1418, some 1419, some 1421, some 1422, some 2021, some 2022, some 2023, some 2024, some 1423, some 1424] rfl (by decide +kernel)
set_option maxRecDepth 20000 in
theorem lin_wsL_law0_r42 : ∀ w ∈ wsL_law0_r42, w ∈ lw_tbl := pl_in [some 1425, some 1426, some 1427, some 1428, some 1429, some 2025, some 2026, some 2027, some 2028, some 1430, some 1431, some 1432, some 1433, some 1434, some 1435, some 1436, some 1437, some 1439, some 59, some 1440, some 994, some 699, some 700, some 701] rfl (by decide +kernel)
set_option maxRecDepth 20000 in
theorem lin_wsL_law0_r43 : ∀ w ∈ wsL_law0_r43, w ∈ lw_tbl := pl_in [some 702, some 703, some 995, some 800, some 801, some 802, some 437, some 434, some 435, some 436, some 432, some 433, some 821, some 803, some 805, some 11, some 806, some 811, some 812, some 807, some 808, some 809, some 810, some 813] rfl (by decide +kernel)
set_option maxRecDepth 20000 in
theorem lin_wsL_law0_r44 : ∀ w ∈ wsL_law0_r44, w ∈ lw_tbl := pl_in [some 814, some 815, some 816, some 817, some 819, some 12, some 820, some 822, some 750, some 751, some 752, some 823, some 825, some 13, some 826, some 827, some 830, some 831, some 832, some 833, some 834, some 835, some 839, some 840] rfl (by decide +kernel)
set_option maxRecDepth 20000 in
theorem lin_wsL_law0_r45 : ∀ w ∈ wsL_law0_r45, w ∈ lw_tbl := pl_in [some 841, some 842, some 843, some 845, some 846, some 850, some 859, some 863, some 864, some 865, some 866, some 867, some 784, some 785, some 786, some 787, some 868, some 869, some 871, some 14, some 872, some 873, some 767, some 768] rfl (by decide +kernel)
set_option maxRecDepth 20000 in
theorem lin_wsL_law0_r46 : ∀ w ∈ wsL_law0_r46, w ∈ lw_tbl := pl_in [some 769, some 770, some 874, some 775, some 776, some 777, some 778, some 779, some 875, some 789, some 790, some 791, some 876, some 877, some 878, some 879, some 880, some 882, some 15, some 883, some 884, some 886, some 16, some 887] rfl (by decide +kernel)
set_option maxRecDepth 20000 in
theorem lin_wsL_law0_r47 : ∀ w ∈ wsL_law0_r47, w ∈ lw_tbl := pl_in [some 888, some 889, some 890, some 891, some 892, some 894, some 17, some 895, some 896, some 898, some 18, some 899, some 900, some 902, some 19, some 903, some 904, some 906, some 20, some 907, some 908, some 910, some 21, some 911] rfl (by decide +kernel)
set_option maxRecDepth 20000 in
theorem lin_wsL_law0_r48 : ∀ w ∈ wsL_law0_r48, w ∈ lw_tbl := pl_in [some 917, some 912, some 914, some 22, some 915, some 916, some 920, some 922, some 23, some 923, some 924, some 926, some 24, some 927, some 928, some 930, some 25, some 931, some 932, some 934, some 26, some 935, some 936, some 781] rfl (by decide +kernel)
set_option maxRecDepth 20000 in
theorem lin_wsL_law0_r49 : ∀ w ∈ wsL_law0_r49, w ∈ lw_tbl := pl_in [some 782, some 783, some 2037, some 2038, some 2039, some 2040, some 1654, some 2041, some 2043, some 105, some 2044, some 1653, some 1655, some 2045, some 2047, some 106, some 2048, some 2049, some 2051, some 107, some 2052, some 2053, some 2055, some 108] rfl (by decide +kernel)
set_option maxRecDepth 20000 in
theorem lin_wsL_law0_r50 : ∀ w ∈ wsL_law0_r50, w ∈ lw_tbl := pl_in [some 2056, some 2057, some 2059, some 109, some 2060, some 2061, some 2063, some 110, some 2064, some 2065, some 2067, some 111, some 2069, some 2071, some 112, some 2089, some 2091, some 117, some 2092, some 2072, some 2073, some 2075, some 113, some 2068] rfl (by decide +kernel)
set_option maxRecDepth 20000 in
theorem lin_wsL_law0_r51 : ∀ w ∈ wsL_law0_r51, w ∈ lw_tbl := pl_in [some 2080, some 2081, some 2083, some 115, some 2084, some 2085, some 2087, some 116, some 2088, some 2076, some 2077, some 2079, some 114, some 2093, some 2095, some 118, some 2096, some 1442, some 1443, some 1444, some 1445, some 1446, some 1447, some 1448] rfl (by decide +kernel)
set_option maxRecDepth 20000 in
theorem lin_wsL_law0_r52 : ∀ w ∈ wsL_law0_r52, w ∈ lw_tbl := pl_in [some 1449, some 1451, some 60, some 1452, some 1455, some 1456, some 1457, some 1458, some 1459, some 942, some 943, some 944, some 1460, some 1462, some 61, some 1463, some 2097, some 2098, some 2099, some 2100, some 2101, some 2103, some 119, some 2104] rfl (by decide +kernel)
set_option maxRecDepth 20000 in
theorem lin_wsL_law0_r53 : ∀ w ∈ wsL_law0_r53, w ∈ lw_tbl := pl_in [some 2105, some 2107, some 120, some 2108, some 1464, some 1465, some 1466, some 1467, some 1468, some 1469, some 1470, some 1471, some 1472, some 1474, some 62, some 1475, some 2109, some 2110, some 2111, some 2112, some 1477, some 1478, some 1479, some 1480] rfl (by decide +kernel)
set_option maxRecDepth 20000 in
theorem lin_wsL_law0_r54 : ∀ w ∈ wsL_law0_r54, w ∈ lw_tbl := pl_in [some 1481, some 1482, some 1483, some 1485, some 1486, some 1487, some 2113, some 2114, some 2115, some 2116, some 1488, some 1489, some 1490, some 1491, some 1492, some 1493, some 1494, some 684, some 685, some 686, some 687, some 503, some 504, some 688] rfl (by decide +kernel)
set_option maxRecDepth 20000 in
theorem lin_wsL_law0_r55 : ∀ w ∈ wsL_law0_r55, w ∈ lw_tbl := pl_in [some 698, some 1495, some 1497, some 63, some 1498, some 719, some 720, some 721, some 722, some 505, some 506, some 723, some 727, some 728, some 730, some 7, some 731, some 732, some 734, some 8, some 735, some 736, some 741, some 745] rfl (by decide +kernel)
set_option maxRecDepth 20000 in
theorem lin_wsL_law0_r56 : ∀ w ∈ wsL_law0_r56, w ∈ lw_tbl := pl_in [some 747, some 9, some 748, some 749, some 762, some 764, some 10, some 765, some 766, some 774, some 780, some 788, some 799, some 937, some 939, some 27, some 940, some 941, some 945, some 946, some 948, some 28, some 949, some 950] rfl (by decide +kernel)
set_option maxRecDepth 20000 in
theorem lin_wsL_law0_r57 : ∀ w ∈ wsL_law0_r57, w ∈ lw_tbl := pl_in [some 951, some 952, some 953, some 955, some 29, some 956, some 957, some 959, some 30, some 960, some 978, some 961, some 973, some 974, some 975, some 976, some 977, some 979, some 980, some 981, some 982, some 2121, some 2122, some 2123] rfl (by decide +kernel)
set_option maxRecDepth 20000 in
theorem lin_wsL_law0_r58 : ∀ w ∈ wsL_law0_r58, w ∈ lw_tbl := pl_in [some 2124, some 1661, some 2125, some 2127, some 122, some 2128, some 2133, some 2135, some 124, some 2136, some 2137, some 2139, some 125, some 2140, some 2141, some 2143, some 126, some 2144, some 2145, some 2147, some 127, some 2148, some 2149, some 2151] rfl (by decide +kernel)
set_option maxRecDepth 20000 in
theorem lin_wsL_law0_r59 : ∀ w ∈ wsL_law0_r59, w ∈ lw_tbl := pl_in [some 128, some 2152, some 2153, some 2155, some 129, some 2156, some 2157, some 2159, some 130, some 2160, some 1500, some 1501, some 1502, some 1503, some 1504, some 1505, some 1506, some 1507, some 1509, some 64, some 1510, some 1512, some 1513, some 1514] rfl (by decide +kernel)
set_option maxRecDepth 20000 in
theorem lin_wsL_law0_r60 : ∀ w ∈ wsL_law0_r60, w ∈ lw_tbl := pl_in [some 1515, some 2161, some 2162, some 2163, some 2164, some 2165, some 2167, some 131, some 2168, some 1516, some 1517, some 1518, some 1519, some 1520, some 1521, some 1522, some 1523, some 1524, some 1525, some 1526, some 1527, some 1528, some 1529, some 1530] rfl (by decide +kernel)
set_option maxRecDepth 20000 in
theorem lin_wsL_law0_r61 : ∀ w ∈ wsL_law0_r61, w ∈ lw_tbl := pl_in [some 1531, some 2169, some 2170, some 2171, some 2172, some 1532, some 1533, some 1534, some 1535, some 1536, some 1537, some 1538, some 2173, some 2174, some 2175, some 2176, some 1539, some 1540, some 1541, some 1542, some 1543, some 1544, some 1545, some 2177] rfl (by decide +kernel)
set_option maxRecDepth 20000 in
theorem lin_wsL_law0_r62 : ∀ w ∈ wsL_law0_r62, w ∈ lw_tbl := pl_in [some 2178, some 2179, some 2180, some 1546, some 1547, some 1548, some 1549, some 1550, some 1551, some 1552, some 1553, some 1555, some 65, some 1556, some 1558, some 1559, some 1560, some 1561, some 551, some 552, some 1562, some 1563, some 1564, some 1565] rfl (by decide +kernel)
set_option maxRecDepth 20000 in
theorem lin_wsL_law0_r63 : ∀ w ∈ wsL_law0_r63, w ∈ lw_tbl := pl_in [some 1566, some 1567, some 1568, some 1569, some 1571, some 66, some 1572, some 1573, some 1574, some 1576, some 1577, some 1578, some 1579, some 1580, some 1581, some 178, some 1582, some 1583, some 1584, some 1585, some 2181, some 2182, some 2183, some 2184] rfl (by decide +kernel)
set_option maxRecDepth 20000 in
theorem lin_wsL_law0_r64 : ∀ w ∈ wsL_law0_r64, w ∈ lw_tbl := pl_in [some 2185, some 2187, some 132, some 2188, some 2189, some 2191, some 133, some 2192, some 1669, some 2217, some 2193, some 2195, some 134, some 2196, some 2197, some 2199, some 135, some 2200, some 2201, some 2203, some 136, some 2204, some 2205, some 2207] rfl (by decide +kernel)
set_option maxRecDepth 20000 in
theorem lin_wsL_law0_r65 : ∀ w ∈ wsL_law0_r65, w ∈ lw_tbl := pl_in [some 137, some 2208, some 2209, some 2211, some 138, some 2212, some 2213, some 2215, some 139, some 2216, some 2218, some 2220, some 140, some 2221, some 1586, some 1587, some 1588, some 1589, some 1590, some 1591, some 1592, some 2222, some 2223, some 2224] rfl (by decide +kernel)
set_option maxRecDepth 20000 in
theorem lin_wsL_law0_r66 : ∀ w ∈ wsL_law0_r66, w ∈ lw_tbl := pl_in [some 2225, some 1594, some 1595, some 1596, some 1597, some 1598, some 1599, some 1600, some 1601, some 1602, some 1603, some 1604, some 2226, some 2227, some 2228, some 2229, some 2230, some 2232, some 141, some 2233, some 1605, some 1606, some 1607, some 1608] rfl (by decide +kernel)
set_option maxRecDepth 20000 in
theorem lin_wsL_law0_r67 : ∀ w ∈ wsL_law0_r67, w ∈ lw_tbl := pl_in [some 1609, some 1610, some 1611, some 2033, some 2034, some 2035, some 2036, some 664, some 665, some 666, some 667, some 668, some 669, some 670, some 671, some 2029, some 2030, some 2031, some 2032, some 672, some 673, some 674, some 675, some 680] rfl (by decide +kernel)
set_option maxRecDepth 20000 in
theorem lin_wsL_law0_r68 : ∀ w ∈ wsL_law0_r68, w ∈ lw_tbl := pl_in [some 682, some 3, some 683, some 983, some 985, some 31, some 986, some 988, some 989, some 991, some 32, some 992, some 2278, some 2279, some 2280, some 2281, some 2282, some 2284, some 149, some 2285, some 2286, some 2288, some 150, some 2289] rfl (by decide +kernel)
set_option maxRecDepth 20000 in
theorem lin_wsL_law0_r69 : ∀ w ∈ wsL_law0_r69, w ∈ lw_tbl := pl_in [some 2290, some 2292, some 151, some 2293] rfl (by decide +kernel)
set_option maxRecDepth 20000 in
theorem lin_wsX90 : ∀ w ∈ wsX90, w ∈ lw_tbl := pl_in [some 579, some 581, some 583, some 585, some 587, some 589, some 591, some 593, some 595, some 597, some 599, some 601, some 603, some 605, some 607, some 609] rfl (by decide +kernel)
set_option maxRecDepth 20000 in
theorem lin_wsX100 : ∀ w ∈ wsX100, w ∈ lw_tbl := pl_in [some 1670, some 1672, some 1674, some 1676, some 1678, some 1680, some 1682, some 1684, some 1686, some 1688, some 1690, some 1692, some 1694, some 1696, some 1698, some 1700, some 1702, some 1704, some 1706, some 1708, some 1710, some 1712, some 1714, some 1716, some 1718, some 1720, some 1722, some 1724, some 1726, some 1728, some 1730, some 1732, some 1734, some 1736, some 1738, some 1740, some 1742, some 1744, some 1746, some 1748, some 1750, some 1752, some 1754, some 1756, some 1758, some 1760, some 1762, some 1764, some 1766, some 1768] rfl (by decide +kernel)
set_option maxRecDepth 20000 in
theorem lin_wsX30 : ∀ w ∈ wsX30, w ∈ lw_tbl := pl_in [some 207, some 209, some 211, some 213, some 215, some 217, some 219] rfl (by decide +kernel)
set_option maxRecDepth 20000 in
theorem lin_wsX50 : ∀ w ∈ wsX50, w ∈ lw_tbl := pl_in [some 242, some 244, some 246, some 248, some 250, some 252, some 254, some 256] rfl (by decide +kernel)
set_option maxRecDepth 20000 in
theorem lin_wsX80 : ∀ w ∈ wsX80, w ∈ lw_tbl := pl_in [some 286, some 288, some 290, some 292, some 294, some 296, some 298, some 300, some 302, some 304, some 306, some 308, some 310, some 312, some 314, some 316, some 318, some 320, some 322] rfl (by decide +kernel)
set_option maxRecDepth 20000 in
theorem lin_wsX10 : ∀ w ∈ wsX10, w ∈ lw_tbl := pl_in [some 340, some 342, some 344, some 346, some 348, some 350, some 352, some 354] rfl (by decide +kernel)
set_option maxRecDepth 20000 in
theorem lin_wsX20 : ∀ w ∈ wsX20, w ∈ lw_tbl := pl_in [some 376, some 378, some 380, some 382] rfl (by decide +kernel)
set_option maxRecDepth 20000 in
theorem lin_wsX40 : ∀ w ∈ wsX40, w ∈ lw_tbl := pl_in [some 400, some 402, some 404, some 406, some 408] rfl (by decide +kernel)
set_option maxRecDepth 20000 in
theorem lin_wsX00 : ∀ w ∈ wsX00, w ∈ lw_tbl := pl_in [some 440, some 442, some 444, some 446, some 448, some 450, some 452, some 454, some 456, some 458, some 460, some 462, some 464, some 466, some 468, some 470, some 472, some 474, some 476, some 478] rfl (by decide +kernel)
set_option maxRecDepth 20000 in
theorem lin_wsX70 : ∀ w ∈ wsX70, w ∈ lw_tbl := pl_in [some 507, some 509, some 511, some 513, some 515, some 517, some 519, some 521, some 523, some 525, some 527, some 529, some 531, some 533, some 535, some 537] rfl (by decide +kernel)
set_option maxRecDepth 20000 in
theorem lin_wsX60 : ∀ w ∈ wsX60, w ∈ lw_tbl := pl_in [some 554, some 556, some 558, some 560] rfl (by decide +kernel)
set_option maxRecDepth 20000 in
theorem wsL_law_in0 : ∀ w ∈ wsL_law0, w ∈ lw_tbl := List.forall_mem_append.mpr ⟨List.forall_mem_append.mpr ⟨List.forall_mem_append.mpr ⟨List.forall_mem_append.mpr ⟨List.forall_mem_append.mpr ⟨List.forall_mem_append.mpr ⟨List.forall_mem_append.mpr ⟨List.forall_mem_append.mpr ⟨List.forall_mem_append.mpr ⟨List.forall_mem_append.mpr ⟨List.forall_mem_append.mpr ⟨List.forall_mem_append.mpr ⟨List.forall_mem_append.mpr ⟨lin_wsL_law0_r1, List.forall_mem_append.mpr ⟨lin_wsL_law0_r2, List.forall_mem_append.mpr ⟨lin_wsL_law0_r3, List.forall_mem_append.mpr ⟨lin_wsL_law0_r4, List.forall_mem_append.mpr ⟨lin_wsL_law0_r5, List.forall_mem_append.mpr ⟨lin_wsL_law0_r6, List.forall_mem_append.mpr ⟨lin_wsL_law0_r7, List.forall_mem_append.mpr ⟨lin_wsL_law0_r8, List.forall_mem_append.mpr ⟨lin_wsL_law0_r9, List.forall_mem_append.mpr ⟨lin_wsL_law0_r10, List.forall_mem_append.mpr ⟨lin_wsL_law0_r11, List.forall_mem_append.mpr ⟨lin_wsL_law0_r12, List.forall_mem_append.mpr ⟨lin_wsL_law0_r13, List.forall_mem_append.mpr ⟨lin_wsL_law0_r14, List.forall_mem_append.mpr ⟨lin_wsL_law0_r15, List.forall_mem_append.mpr ⟨lin_wsL_law0_r16, List.forall_mem_append.mpr ⟨lin_wsL_law0_r17, List.forall_mem_append.mpr ⟨lin_wsL_law0_r18, List.forall_mem_append.mpr ⟨lin_wsL_law0_r19, List.forall_mem_append.mpr ⟨lin_wsL_law0_r20, List.forall_mem_append.mpr ⟨lin_wsL_law0_r21, List.forall_mem_append.mpr ⟨lin_wsL_law0_r22, List.forall_mem_append.mpr ⟨lin_wsL_law0_r23, List.forall_mem_append.mpr ⟨lin_wsL_law0_r24, List.forall_mem_append.mpr ⟨lin_wsL_law0_r25, List.forall_mem_append.mpr ⟨lin_wsL_law0_r26, List.forall_mem_append.mpr ⟨lin_wsL_law0_r27, List.forall_mem_append.mpr ⟨lin_wsL_law0_r28, List.forall_mem_append.mpr ⟨lin_wsL_law0_r29, List.forall_mem_append.mpr ⟨lin_wsL_law0_r30, List.forall_mem_append.mpr ⟨lin_wsL_law0_r31, List.forall_mem_append.mpr ⟨lin_wsL_law0_r32, List.forall_mem_append.mpr ⟨lin_wsL_law0_r33, List.forall_mem_append.mpr ⟨lin_wsL_law0_r34, List.forall_mem_append.mpr ⟨lin_wsL_law0_r35, List.forall_mem_append.mpr ⟨lin_wsL_law0_r36, List.forall_mem_append.mpr ⟨lin_wsL_law0_r37, List.forall_mem_append.mpr ⟨lin_wsL_law0_r38, List.forall_mem_append.mpr ⟨lin_wsL_law0_r39, List.forall_mem_append.mpr ⟨lin_wsL_law0_r40, List.forall_mem_append.mpr ⟨lin_wsL_law0_r41, List.forall_mem_append.mpr ⟨lin_wsL_law0_r42, List.forall_mem_append.mpr ⟨lin_wsL_law0_r43, List.forall_mem_append.mpr ⟨lin_wsL_law0_r44, List.forall_mem_append.mpr ⟨lin_wsL_law0_r45, List.forall_mem_append.mpr ⟨lin_wsL_law0_r46, List.forall_mem_append.mpr ⟨lin_wsL_law0_r47, List.forall_mem_append.mpr ⟨lin_wsL_law0_r48, List.forall_mem_append.mpr ⟨lin_wsL_law0_r49, List.forall_mem_append.mpr ⟨lin_wsL_law0_r50, List.forall_mem_append.mpr ⟨lin_wsL_law0_r51, List.forall_mem_append.mpr ⟨lin_wsL_law0_r52, List.forall_mem_append.mpr ⟨lin_wsL_law0_r53, List.forall_mem_append.mpr ⟨lin_wsL_law0_r54, List.forall_mem_append.mpr ⟨lin_wsL_law0_r55, List.forall_mem_append.mpr ⟨lin_wsL_law0_r56, List.forall_mem_append.mpr ⟨lin_wsL_law0_r57, List.forall_mem_append.mpr ⟨lin_wsL_law0_r58, List.forall_mem_append.mpr ⟨lin_wsL_law0_r59, List.forall_mem_append.mpr ⟨lin_wsL_law0_r60, List.forall_mem_append.mpr ⟨lin_wsL_law0_r61, List.forall_mem_append.mpr ⟨lin_wsL_law0_r62, List.forall_mem_append.mpr ⟨lin_wsL_law0_r63, List.forall_mem_append.mpr ⟨lin_wsL_law0_r64, List.forall_mem_append.mpr ⟨lin_wsL_law0_r65, List.forall_mem_append.mpr ⟨lin_wsL_law0_r66, List.forall_mem_append.mpr ⟨lin_wsL_law0_r67, List.forall_mem_append.mpr ⟨lin_wsL_law0_r68, lin_wsL_law0_r69⟩⟩⟩⟩⟩⟩⟩⟩⟩⟩⟩⟩⟩⟩⟩⟩⟩⟩⟩⟩⟩⟩⟩⟩⟩⟩⟩⟩⟩⟩⟩⟩⟩⟩⟩⟩⟩⟩⟩⟩⟩⟩⟩⟩⟩⟩⟩⟩⟩⟩⟩⟩⟩⟩⟩⟩⟩⟩⟩⟩⟩⟩⟩⟩⟩⟩⟩⟩, lin_wsX90⟩, lin_wsX100⟩, lin_wsX30⟩, lin_wsX50⟩, lin_wsX80⟩, lin_wsX10⟩, lin_wsX20⟩, lin_wsX40⟩, lin_wsX00⟩, lin_wsX70⟩, lin_wsX60⟩, fun _ h => absurd h List.not_mem_nil⟩
