theorem mem_ps {big ws : List Cond} (ps : List Nat) (hp : ws = ps.filterMap (fun i => big[i]?)) : ∀ w ∈ ws, w ∈ big := by
  intro w hw
  rw [hp] at hw
  obtain ⟨i, -, hi⟩ := List.mem_filterMap.mp hw
  exact List.mem_of_getElem? hi
set_option maxRecDepth 100000 in
theorem lwm_wsL_law0_r1 : ∀ w ∈ wsL_law0_r1, w ∈ lw_tbl := mem_ps [146, 147, 118, 1874, 1875, 129, 277, 148, 149, 150, 151, 152, 153, 154, 155, 119, 554, 196, 197, 121, 555, 331, 332, 124] (by decide +kernel)
set_option maxRecDepth 100000 in
theorem lwm_wsL_law0_r2 : ∀ w ∈ wsL_law0_r2, w ∈ lw_tbl := mem_ps [556, 377, 378, 125, 557, 443, 444, 126, 558, 466, 467, 127, 559, 489, 490, 128, 560, 561, 236, 562, 564, 156, 157, 158] (by decide +kernel)
set_option maxRecDepth 100000 in
theorem lwm_wsL_law0_r3 : ∀ w ∈ wsL_law0_r3, w ∈ lw_tbl := mem_ps [159, 160, 167, 162, 171, 195, 174, 176, 178, 164, 165, 120, 166, 198, 199, 200, 201, 202, 203, 122, 279, 237, 282, 286] (by decide +kernel)
set_option maxRecDepth 100000 in
theorem lwm_wsL_law0_r4 : ∀ w ∈ wsL_law0_r4, w ∈ lw_tbl := mem_ps [288, 290, 299, 300, 301, 278, 239, 123, 205, 206, 207, 208, 241, 242, 243, 333, 334, 335, 336, 342, 343, 344, 345, 346] (by decide +kernel)
set_option maxRecDepth 100000 in
theorem lwm_wsL_law0_r5 : ∀ w ∈ wsL_law0_r5, w ∈ lw_tbl := mem_ps [347, 348, 349, 337, 379, 380, 381, 382, 385, 386, 387, 388, 389, 390, 395, 396, 397, 398, 399, 383, 445, 446, 447, 448] (by decide +kernel)
set_option maxRecDepth 100000 in
theorem lwm_wsL_law0_r6 : ∀ w ∈ wsL_law0_r6, w ∈ lw_tbl := mem_ps [452, 453, 454, 449, 469, 470, 471, 474, 475, 476, 477, 491, 492, 493, 494, 500, 501, 502, 503, 504, 505, 506, 507, 508] (by decide +kernel)
set_option maxRecDepth 100000 in
theorem lwm_wsL_law0_r7 : ∀ w ∈ wsL_law0_r7, w ∈ lw_tbl := mem_ps [512, 513, 496, 497, 495, 1876, 1877, 1878, 1879, 1884, 1885, 1886, 1887, 1888, 1889, 1890, 1891, 1892, 1893, 1902, 1903, 1904, 1905, 1906] (by decide +kernel)
set_option maxRecDepth 100000 in
theorem lwm_wsL_law0_r8 : ∀ w ∈ wsL_law0_r8, w ∈ lw_tbl := mem_ps [1907, 1908, 1909, 1910, 1911, 1912, 1913, 1914, 1915, 1880, 1921, 1881, 1922, 1923, 1924, 1925, 1926, 1927, 1928, 1929, 1930, 1931, 1283, 1932] (by decide +kernel)
set_option maxRecDepth 100000 in
theorem lwm_wsL_law0_r9 : ∀ w ∈ wsL_law0_r9, w ∈ lw_tbl := mem_ps [1936, 1937, 1938, 1939, 1940, 1941, 1942, 1943, 1944, 1945, 1946, 1947, 1952, 1953, 1954, 1955, 1956, 1957, 1958, 1959, 1961, 1962, 1963, 1966] (by decide +kernel)
set_option maxRecDepth 100000 in
theorem lwm_wsL_law0_r10 : ∀ w ∈ wsL_law0_r10, w ∈ lw_tbl := mem_ps [1967, 1968, 1969, 1971, 1972, 1973, 1974, 1975, 1976, 1977, 1978, 1979, 1980, 1982, 1983, 1984, 1985, 1986, 1987, 1988, 1989, 1990, 588, 589] (by decide +kernel)
set_option maxRecDepth 100000 in
theorem lwm_wsL_law0_r11 : ∀ w ∈ wsL_law0_r11, w ∈ lw_tbl := mem_ps [590, 591, 168, 592, 593, 130, 595, 596, 597, 601, 602, 603, 604, 605, 606, 607, 637, 638, 639, 640, 169, 2210, 2211, 2212] (by decide +kernel)
set_option maxRecDepth 100000 in
theorem lwm_wsL_law0_r12 : ∀ w ∈ wsL_law0_r12, w ∈ lw_tbl := mem_ps [2213, 1882, 1883, 845, 846, 117, 847, 848, 849, 850, 851, 852, 853, 599, 854, 856, 22, 857, 862, 134, 858, 859, 860, 861] (by decide +kernel)
set_option maxRecDepth 100000 in
theorem lwm_wsL_law0_r13 : ∀ w ∈ wsL_law0_r13, w ∈ lw_tbl := mem_ps [930, 931, 932, 933, 598, 934, 935, 936, 937, 135, 953, 758, 759, 954, 955, 956, 957, 2214, 2215, 2216, 2217, 2218, 2220, 62] (by decide +kernel)
set_option maxRecDepth 100000 in
theorem lwm_wsL_law0_r14 : ∀ w ∈ wsL_law0_r14, w ∈ lw_tbl := mem_ps [2221, 2222, 2223, 2224, 2225, 2227, 63, 2228, 1870, 1871, 1872, 1873, 958, 959, 960, 961, 962, 963, 964, 608, 610, 2229, 2230, 2231] (by decide +kernel)
set_option maxRecDepth 100000 in
theorem lwm_wsL_law0_r15 : ∀ w ∈ wsL_law0_r15, w ∈ lw_tbl := mem_ps [2232, 965, 966, 967, 968, 969, 970, 971, 612, 2233, 2234, 2235, 2236, 972, 973, 974, 975, 976, 977, 978, 175, 979, 771, 772] (by decide +kernel)
set_option maxRecDepth 100000 in
theorem lwm_wsL_law0_r16 : ∀ w ∈ wsL_law0_r16, w ∈ lw_tbl := mem_ps [2237, 2238, 2239, 2240, 641, 642, 643, 644, 563, 645, 647, 0, 648, 2241, 2242, 2243, 2244, 1894, 980, 981, 982, 983, 984, 985] (by decide +kernel)
set_option maxRecDepth 100000 in
theorem lwm_wsL_law0_r17 : ∀ w ∈ wsL_law0_r17, w ∈ lw_tbl := mem_ps [986, 987, 988, 136, 173, 280, 214, 216, 1004, 1005, 1006, 1007, 284, 292, 294, 296, 298, 213, 210, 1183, 1184, 1008, 1009, 1010] (by decide +kernel)
set_option maxRecDepth 100000 in
theorem lwm_wsL_law0_r18 : ∀ w ∈ wsL_law0_r18, w ∈ lw_tbl := mem_ps [1011, 1012, 831, 137, 832, 1013, 694, 695, 209, 1014, 732, 731, 138, 211, 212, 215, 1015, 1016, 1017, 1018, 1019, 1020, 1021, 1022] (by decide +kernel)
set_option maxRecDepth 100000 in
theorem lwm_wsL_law0_r19 : ∀ w ∈ wsL_law0_r19, w ∈ lw_tbl := mem_ps [1023, 1024, 1025, 1026, 1027, 1029, 24, 1030, 1031, 1032, 258, 249, 1033, 1034, 1035, 1036, 1037, 1038, 1039, 1040, 1041, 1043, 25, 1044] (by decide +kernel)
set_option maxRecDepth 100000 in
theorem lwm_wsL_law0_r20 : ∀ w ∈ wsL_law0_r20, w ∈ lw_tbl := mem_ps [217, 244, 1045, 1046, 1047, 1048, 218, 219, 1049, 1050, 1051, 1052, 1054, 1056, 26, 1057, 1059, 1060, 1061, 1062, 1063, 1064, 1065, 139] (by decide +kernel)
set_option maxRecDepth 100000 in
theorem lwm_wsL_law0_r21 : ∀ w ∈ wsL_law0_r21, w ∈ lw_tbl := mem_ps [1066, 2669, 1067, 1068, 1069, 1070, 1071, 2670, 1073, 1074, 1075, 1076, 1077, 1078, 1079, 1080, 1081, 1082, 140, 1083, 1084, 1085, 1086, 1087] (by decide +kernel)
set_option maxRecDepth 100000 in
theorem lwm_wsL_law0_r22 : ∀ w ∈ wsL_law0_r22, w ∈ lw_tbl := mem_ps [1089, 1090, 141, 1091, 1092, 1093, 142, 1094, 1095, 1096, 1097, 1098, 1099, 1100, 1101, 1102, 1103, 1104, 1105, 1107, 1109, 1118, 1119, 1121] (by decide +kernel)
set_option maxRecDepth 100000 in
theorem lwm_wsL_law0_r23 : ∀ w ∈ wsL_law0_r23, w ∈ lw_tbl := mem_ps [27, 1122, 246, 1123, 1125, 28, 1126, 1127, 1128, 1129, 1130, 1131, 1132, 1134, 29, 1135, 254, 256, 252, 1136, 1138, 30, 1139, 1140] (by decide +kernel)
set_option maxRecDepth 100000 in
theorem lwm_wsL_law0_r24 : ∀ w ∈ wsL_law0_r24, w ∈ lw_tbl := mem_ps [1142, 31, 1143, 170, 1145, 1146, 1147, 1148, 600, 1149, 1151, 1152, 1153, 1154, 1155, 1156, 1157, 1159, 32, 1160, 1165, 1167, 33, 1168] (by decide +kernel)
set_option maxRecDepth 100000 in
theorem lwm_wsL_law0_r25 : ∀ w ∈ wsL_law0_r25, w ∈ lw_tbl := mem_ps [220, 1170, 1172, 34, 1173, 1176, 1178, 35, 1179, 251, 1185, 1186, 1187, 1188, 338, 339, 340, 341, 285, 1189, 1191, 36, 1192, 293] (by decide +kernel)
set_option maxRecDepth 100000 in
theorem lwm_wsL_law0_r26 : ∀ w ∈ wsL_law0_r26, w ∈ lw_tbl := mem_ps [1197, 1198, 143, 297, 295, 1224, 1227, 1237, 287, 289, 1239, 1193, 1195, 37, 1196, 1199, 1200, 1201, 1202, 1203, 1204, 1205, 1206, 701] (by decide +kernel)
set_option maxRecDepth 100000 in
theorem lwm_wsL_law0_r27 : ∀ w ∈ wsL_law0_r27, w ∈ lw_tbl := mem_ps [144, 702, 703, 704, 705, 1207, 1208, 1209, 1210, 1236, 1238, 1211, 1213, 1218, 1221, 1240, 1241, 1242, 1243, 1246, 1249, 1251, 1212, 1286] (by decide +kernel)
set_option maxRecDepth 100000 in
theorem lwm_wsL_law0_r28 : ∀ w ∈ wsL_law0_r28, w ∈ lw_tbl := mem_ps [1287, 1288, 1289, 1291, 38, 1292, 283, 245, 259, 1349, 1293, 1295, 39, 1297, 1299, 40, 1300, 248, 247, 1301, 1303, 41, 1304, 1219] (by decide +kernel)
set_option maxRecDepth 100000 in
theorem lwm_wsL_law0_r29 : ∀ w ∈ wsL_law0_r29, w ∈ lw_tbl := mem_ps [1244, 1247, 1305, 1306, 1307, 1308, 666, 667, 1310, 1311, 1312, 1313, 1315, 1316, 1317, 1318, 1319, 1320, 137, 1321, 1322, 1323, 1324, 1325] (by decide +kernel)
set_option maxRecDepth 100000 in
theorem lwm_wsL_law0_r30 : ∀ w ∈ wsL_law0_r30, w ∈ lw_tbl := mem_ps [1327, 1329, 42, 1330, 1331, 255, 257, 291, 253, 1332, 1334, 43, 1335, 281, 1336, 1337, 1338, 1339, 1340, 1342, 1343, 1344, 1345, 1347] (by decide +kernel)
set_option maxRecDepth 100000 in
theorem lwm_wsL_law0_r31 : ∀ w ∈ wsL_law0_r31, w ∈ lw_tbl := mem_ps [44, 1348, 250, 1296, 1350, 1351, 1352, 1353, 172, 2245, 2246, 2247, 2248, 1920, 1895, 1896, 1897, 1899, 1900, 1901, 1916, 1917, 1918, 2343] (by decide +kernel)
set_option maxRecDepth 100000 in
theorem lwm_wsL_law0_r32 : ∀ w ∈ wsL_law0_r32, w ∈ lw_tbl := mem_ps [1919, 2344, 1898, 1933, 1934, 1935, 2249, 2251, 64, 2252, 2253, 2255, 65, 2256, 2257, 2259, 66, 2260, 2261, 2263, 67, 2264, 2265, 2267] (by decide +kernel)
set_option maxRecDepth 100000 in
theorem lwm_wsL_law0_r33 : ∀ w ∈ wsL_law0_r33, w ∈ lw_tbl := mem_ps [68, 2268, 2269, 2270, 2271, 2272, 2273, 2274, 2275, 2276, 2277, 2278, 2279, 2280, 2282, 69, 2283, 2284, 2286, 70, 2287, 2288, 2290, 71] (by decide +kernel)
set_option maxRecDepth 100000 in
theorem lwm_wsL_law0_r34 : ∀ w ∈ wsL_law0_r34, w ∈ lw_tbl := mem_ps [2291, 2295, 2296, 2292, 2293, 2294, 2297, 2299, 72, 2300, 2301, 2303, 73, 2304, 2305, 2307, 74, 2308, 2309, 2311, 75, 2312, 2313, 2315] (by decide +kernel)
set_option maxRecDepth 100000 in
theorem lwm_wsL_law0_r35 : ∀ w ∈ wsL_law0_r35, w ∈ lw_tbl := mem_ps [76, 2316, 2317, 2318, 2319, 2320, 2321, 2323, 77, 2324, 2325, 2327, 78, 2328, 2329, 2331, 79, 2332, 2333, 2334, 2335, 2337, 80, 2338] (by decide +kernel)
set_option maxRecDepth 100000 in
theorem lwm_wsL_law0_r36 : ∀ w ∈ wsL_law0_r36, w ∈ lw_tbl := mem_ps [2339, 2341, 81, 2342, 2345, 2346, 2347, 2348, 2350, 82, 2351, 2352, 2354, 83, 2355, 2356, 2357, 2358, 2359, 2360, 2362, 84, 2363, 2364] (by decide +kernel)
set_option maxRecDepth 100000 in
theorem lwm_wsL_law0_r37 : ∀ w ∈ wsL_law0_r37, w ∈ lw_tbl := mem_ps [2366, 85, 2367, 649, 650, 651, 652, 2368, 2369, 2370, 2371, 1354, 1355, 1356, 1357, 1358, 1359, 1360, 1361, 1215, 1226, 1228, 1234, 1362] (by decide +kernel)
set_option maxRecDepth 100000 in
theorem lwm_wsL_law0_r38 : ∀ w ∈ wsL_law0_r38, w ∈ lw_tbl := mem_ps [1364, 45, 1365, 1367, 145, 1366, 669, 670, 671, 1383, 767, 768, 769, 1384, 1385, 1386, 1387, 1388, 1389, 1390, 1391, 1392, 2372, 2373] (by decide +kernel)
set_option maxRecDepth 100000 in
theorem lwm_wsL_law0_r39 : ∀ w ∈ wsL_law0_r39, w ∈ lw_tbl := mem_ps [2374, 2375, 2376, 2378, 86, 2379, 2380, 2382, 87, 2383, 1394, 1395, 1396, 1397, 1398, 1399, 1400, 1402, 1401, 1403, 1404, 1405, 1406, 1408] (by decide +kernel)
set_option maxRecDepth 100000 in
theorem lwm_wsL_law0_r40 : ∀ w ∈ wsL_law0_r40, w ∈ lw_tbl := mem_ps [1409, 1410, 1411, 2384, 2385, 2386, 2387, 2392, 2388, 2390, 88, 2391, 2393, 2395, 89, 2396, 1412, 1413, 1414, 1415, 1416, 1417, 1418, 1419] (by decide +kernel)
set_option maxRecDepth 100000 in
theorem lwm_wsL_law0_r41 : ∀ w ∈ wsL_law0_r41, w ∈ lw_tbl := mem_ps [1420, 1421, 1422, 1423, 1424, 1425, 1426, 1427, 1428, 1429, 1430, 2397, 2398, 2399, 2400, 2401, 2403, 90, 2404, 1431, 1432, 1433, 1434, 1435] (by decide +kernel)
set_option maxRecDepth 100000 in
theorem lwm_wsL_law0_r42 : ∀ w ∈ wsL_law0_r42, w ∈ lw_tbl := mem_ps [1436, 1437, 1438, 1439, 1440, 1441, 2405, 2406, 2407, 2408, 1442, 1443, 1444, 1445, 1446, 1447, 1448, 1449, 1450, 1451, 1452, 1454, 1455, 1456] (by decide +kernel)
set_option maxRecDepth 100000 in
theorem lwm_wsL_law0_r43 : ∀ w ∈ wsL_law0_r43, w ∈ lw_tbl := mem_ps [1457, 1458, 1459, 1460, 1461, 609, 611, 1462, 1463, 1464, 1465, 1467, 1466, 2409, 2410, 2411, 2412, 2413, 2415, 91, 2416, 2417, 2419, 92] (by decide +kernel)
set_option maxRecDepth 100000 in
theorem lwm_wsL_law0_r44 : ∀ w ∈ wsL_law0_r44, w ∈ lw_tbl := mem_ps [2420, 2421, 2422, 2423, 2424, 2426, 93, 2427, 1470, 1471, 1472, 1473, 1474, 1475, 1476, 1477, 2428, 2429, 2430, 2431, 1478, 1479, 1480, 1481] (by decide +kernel)
set_option maxRecDepth 100000 in
theorem lwm_wsL_law0_r45 : ∀ w ∈ wsL_law0_r45, w ∈ lw_tbl := mem_ps [1482, 1483, 1484, 1485, 1486, 1487, 1488, 1489, 1490, 1491, 1492, 1223, 1493, 1494, 1495, 1496, 2432, 2433, 2434, 2435, 1497, 1498, 1499, 1500] (by decide +kernel)
set_option maxRecDepth 100000 in
theorem lwm_wsL_law0_r46 : ∀ w ∈ wsL_law0_r46, w ∈ lw_tbl := mem_ps [1501, 1502, 1503, 1504, 1505, 1506, 1507, 1508, 1509, 2436, 2437, 2438, 2439, 1510, 1511, 1512, 1513, 1514, 1515, 1516, 1517, 1518, 1519, 1521] (by decide +kernel)
set_option maxRecDepth 100000 in
theorem lwm_wsL_law0_r47 : ∀ w ∈ wsL_law0_r47, w ∈ lw_tbl := mem_ps [1522, 1523, 1524, 1245, 1248, 1220, 1525, 1526, 1527, 1529, 46, 1530, 1222, 1531, 1532, 2440, 2441, 2442, 2443, 2444, 2446, 94, 2447, 1533] (by decide +kernel)
set_option maxRecDepth 100000 in
theorem lwm_wsL_law0_r48 : ∀ w ∈ wsL_law0_r48, w ∈ lw_tbl := mem_ps [1534, 1535, 1536, 1537, 1538, 1539, 1540, 1541, 1542, 1543, 1544, 1545, 1546, 1547, 1548, 1214, 1549, 1550, 1551, 1552, 1553, 1554, 1555, 1556] (by decide +kernel)
set_option maxRecDepth 100000 in
theorem lwm_wsL_law0_r49 : ∀ w ∈ wsL_law0_r49, w ∈ lw_tbl := mem_ps [1557, 1558, 1559, 1230, 1561, 1562, 1563, 2448, 2449, 2450, 2451, 2452, 2454, 95, 2455, 2456, 2457, 2458, 1564, 1565, 1566, 1567, 1568, 1569] (by decide +kernel)
set_option maxRecDepth 100000 in
theorem lwm_wsL_law0_r50 : ∀ w ∈ wsL_law0_r50, w ∈ lw_tbl := mem_ps [1570, 177, 179, 2459, 2460, 2461, 2462, 1571, 1572, 1573, 1574, 1575, 1576, 1577, 1578, 686, 687, 688, 1216, 689, 690, 691, 692, 693] (by decide +kernel)
set_option maxRecDepth 100000 in
theorem lwm_wsL_law0_r51 : ∀ w ∈ wsL_law0_r51, w ∈ lw_tbl := mem_ps [696, 697, 698, 699, 1225, 700, 2463, 2464, 2465, 2466, 2467, 2469, 96, 2470, 2471, 2472, 2473, 1579, 1580, 1581, 1582, 1583, 1584, 1585] (by decide +kernel)
set_option maxRecDepth 100000 in
theorem lwm_wsL_law0_r52 : ∀ w ∈ wsL_law0_r52, w ∈ lw_tbl := mem_ps [1586, 711, 712, 713, 1235, 714, 716, 5, 717, 1229, 613, 2474, 2475, 2476, 2477, 2478, 2480, 97, 2481, 2482, 2484, 98, 2485, 1587] (by decide +kernel)
set_option maxRecDepth 100000 in
theorem lwm_wsL_law0_r53 : ∀ w ∈ wsL_law0_r53, w ∈ lw_tbl := mem_ps [1588, 1589, 1590, 1591, 1592, 1593, 401, 403, 1594, 1595, 1596, 1597, 1598, 391, 392, 393, 394, 1616, 400, 402, 1599, 1601, 47, 1602] (by decide +kernel)
set_option maxRecDepth 100000 in
theorem lwm_wsL_law0_r54 : ∀ w ∈ wsL_law0_r54, w ∈ lw_tbl := mem_ps [384, 1604, 1606, 48, 1607, 1609, 1611, 49, 1612, 1231, 1618, 1614, 1615, 677, 678, 679, 1617, 1619, 1620, 1621, 1623, 50, 1624, 1625] (by decide +kernel)
set_option maxRecDepth 100000 in
theorem lwm_wsL_law0_r55 : ∀ w ∈ wsL_law0_r55, w ∈ lw_tbl := mem_ps [1627, 51, 1628, 1629, 1630, 1632, 52, 1633, 1642, 1634, 1636, 53, 1637, 1638, 1640, 54, 1641, 1643, 1645, 55, 1646, 1647, 1649, 56] (by decide +kernel)
set_option maxRecDepth 100000 in
theorem lwm_wsL_law0_r56 : ∀ w ∈ wsL_law0_r56, w ∈ lw_tbl := mem_ps [1650, 1651, 1653, 57, 1654, 1655, 1657, 58, 1658, 1659, 1661, 59, 1662, 1663, 1664, 1666, 60, 1667, 1668, 1669, 1670, 1671, 2486, 2487] (by decide +kernel)
set_option maxRecDepth 100000 in
theorem lwm_wsL_law0_r57 : ∀ w ∈ wsL_law0_r57, w ∈ lw_tbl := mem_ps [2488, 2489, 1948, 1949, 1950, 1951, 2490, 2492, 99, 2493, 2494, 2496, 100, 2497, 1672, 1673, 1674, 1675, 1676, 1677, 1678, 1679, 1680, 1681] (by decide +kernel)
set_option maxRecDepth 100000 in
theorem lwm_wsL_law0_r58 : ∀ w ∈ wsL_law0_r58, w ∈ lw_tbl := mem_ps [1682, 1683, 450, 2498, 2499, 2500, 2501, 1960, 653, 654, 655, 656, 451, 657, 658, 659, 660, 661, 663, 1, 664, 668, 672, 674] (by decide +kernel)
set_option maxRecDepth 100000 in
theorem lwm_wsL_law0_r59 : ∀ w ∈ wsL_law0_r59, w ∈ lw_tbl := mem_ps [2, 675, 1232, 676, 681, 683, 3, 684, 685, 706, 708, 4, 709, 710, 2502, 2503, 2504, 2505, 2506, 2508, 101, 2509, 2510, 2512] (by decide +kernel)
set_option maxRecDepth 100000 in
theorem lwm_wsL_law0_r60 : ∀ w ∈ wsL_law0_r60, w ∈ lw_tbl := mem_ps [102, 2513, 718, 719, 720, 721, 2514, 2515, 2516, 2517, 1684, 1685, 1686, 1687, 1688, 1689, 1690, 1697, 1691, 1692, 1693, 1694, 1695, 1696] (by decide +kernel)
set_option maxRecDepth 100000 in
theorem lwm_wsL_law0_r61 : ∀ w ∈ wsL_law0_r61, w ∈ lw_tbl := mem_ps [2518, 2519, 2520, 2521, 1698, 1699, 1700, 1701, 1702, 1703, 1704, 499, 2522, 2523, 2524, 2525, 1964, 1705, 1706, 1707, 1708, 1709, 1710, 1711] (by decide +kernel)
set_option maxRecDepth 100000 in
theorem lwm_wsL_law0_r62 : ∀ w ∈ wsL_law0_r62, w ∈ lw_tbl := mem_ps [1712, 834, 835, 836, 1250, 498, 766, 765, 2526, 2527, 2528, 2529, 1713, 1714, 1715, 1716, 1717, 1718, 1719, 1720, 1721, 1722, 1723, 2530] (by decide +kernel)
set_option maxRecDepth 100000 in
theorem lwm_wsL_law0_r63 : ∀ w ∈ wsL_law0_r63, w ∈ lw_tbl := mem_ps [2531, 2532, 2533, 1724, 1725, 1726, 1727, 1728, 1729, 1730, 473, 1731, 1732, 1733, 1734, 472, 2534, 2535, 2536, 2537, 1965, 1735, 1736, 1737] (by decide +kernel)
set_option maxRecDepth 100000 in
theorem lwm_wsL_law0_r64 : ∀ w ∈ wsL_law0_r64, w ∈ lw_tbl := mem_ps [1738, 1739, 1740, 1741, 1742, 1743, 1744, 1745, 1747, 1749, 61, 1750, 1751, 1752, 1753, 2538, 2539, 2540, 2541, 2542, 2544, 103, 2545, 2546] (by decide +kernel)
set_option maxRecDepth 100000 in
theorem lwm_wsL_law0_r65 : ∀ w ∈ wsL_law0_r65, w ∈ lw_tbl := mem_ps [2548, 104, 2549, 1754, 1755, 1756, 1757, 1758, 1759, 1760, 1761, 1762, 1763, 1764, 2550, 2551, 2552, 2553, 1765, 1766, 1767, 1768, 1769, 1770] (by decide +kernel)
set_option maxRecDepth 100000 in
theorem lwm_wsL_law0_r66 : ∀ w ∈ wsL_law0_r66, w ∈ lw_tbl := mem_ps [1771, 1773, 1774, 1775, 1776, 2554, 2555, 2556, 2557, 1777, 1778, 1779, 1780, 1781, 1782, 1783, 1784, 2558, 2559, 2560, 2561, 1785, 1786, 1787] (by decide +kernel)
set_option maxRecDepth 100000 in
theorem lwm_wsL_law0_r67 : ∀ w ∈ wsL_law0_r67, w ∈ lw_tbl := mem_ps [1788, 1789, 1790, 1791, 1792, 1793, 1794, 1795, 510, 2562, 2563, 2564, 2565, 1970, 1796, 1797, 1798, 1799, 1800, 1801, 1802, 511, 509, 1803] (by decide +kernel)
set_option maxRecDepth 100000 in
theorem lwm_wsL_law0_r68 : ∀ w ∈ wsL_law0_r68, w ∈ lw_tbl := mem_ps [1804, 1805, 2566, 2567, 2568, 2569, 1807, 1808, 1809, 1810, 1811, 1812, 1813, 1814, 1815, 1816, 1817, 1818, 824, 825, 826, 1819, 1820, 1821] (by decide +kernel)
set_option maxRecDepth 100000 in
theorem lwm_wsL_law0_r69 : ∀ w ∈ wsL_law0_r69, w ∈ lw_tbl := mem_ps [1822, 1823, 773, 775, 11, 776, 2570, 2571, 2572, 2573, 2574, 2576, 105, 2577, 2578, 2580, 106, 2581, 1824, 1825, 1826, 1827, 1828, 1829] (by decide +kernel)
set_option maxRecDepth 100000 in
theorem lwm_wsL_law0_r70 : ∀ w ∈ wsL_law0_r70, w ∈ lw_tbl := mem_ps [1830, 737, 738, 739, 740, 515, 516, 741, 743, 6, 744, 514, 745, 747, 7, 748, 1233, 749, 751, 8, 752, 753, 755, 9] (by decide +kernel)
set_option maxRecDepth 100000 in
theorem lwm_wsL_law0_r71 : ∀ w ∈ wsL_law0_r71, w ∈ lw_tbl := mem_ps [756, 761, 763, 10, 764, 1217, 777, 779, 12, 780, 781, 783, 13, 784, 785, 786, 787, 788, 789, 790, 792, 14, 793, 794] (by decide +kernel)
set_option maxRecDepth 100000 in
theorem lwm_wsL_law0_r72 : ∀ w ∈ wsL_law0_r72, w ∈ lw_tbl := mem_ps [796, 15, 797, 798, 800, 16, 801, 802, 804, 17, 805, 806, 808, 18, 809, 810, 811, 813, 19, 814, 829, 830, 815, 817] (by decide +kernel)
set_option maxRecDepth 100000 in
theorem lwm_wsL_law0_r73 : ∀ w ∈ wsL_law0_r73, w ∈ lw_tbl := mem_ps [20, 818, 819, 821, 21, 822, 823, 827, 828, 833, 2582, 2583, 2584, 2585, 2586, 2588, 107, 2589, 2590, 2592, 108, 2593, 2594, 2596] (by decide +kernel)
set_option maxRecDepth 100000 in
theorem lwm_wsL_law0_r74 : ∀ w ∈ wsL_law0_r74, w ∈ lw_tbl := mem_ps [109, 2597, 2598, 2600, 110, 2601, 2602, 2604, 111, 2605, 2606, 2608, 112, 2609, 2610, 2612, 113, 2613, 2614, 2616, 114, 2617, 2618, 2620] (by decide +kernel)
set_option maxRecDepth 100000 in
theorem lwm_wsL_law0_r75 : ∀ w ∈ wsL_law0_r75, w ∈ lw_tbl := mem_ps [115, 2621, 1831, 1832, 1833, 1834, 1835, 1836, 1837, 1838, 1839, 1840, 1841, 1842, 1843, 1844, 1845, 1846, 1847, 1848, 1849, 1850, 2622, 2623] (by decide +kernel)
set_option maxRecDepth 100000 in
theorem lwm_wsL_law0_r76 : ∀ w ∈ wsL_law0_r76, w ∈ lw_tbl := mem_ps [2624, 2625, 1851, 1852, 1853, 1854, 1855, 1856, 1857, 1858, 2626, 2627, 2628, 2629, 1859, 1860, 1861, 1862, 1863, 1864, 1865, 1866, 1867, 1868] (by decide +kernel)
set_option maxRecDepth 100000 in
theorem lwm_wsL_law0_r77 : ∀ w ∈ wsL_law0_r77, w ∈ lw_tbl := mem_ps [1869, 2630, 2631, 2632, 2633, 722, 723, 724, 725, 726, 727, 728, 729, 730, 733, 734, 735, 736, 837, 838, 839, 840, 2634, 2635] (by decide +kernel)
set_option maxRecDepth 100000 in
theorem lwm_wsL_law0_r78 : ∀ w ∈ wsL_law0_r78, w ∈ lw_tbl := mem_ps [2636, 2637, 1981, 2638, 2639, 2640, 2641, 2643, 116, 2644, 841, 842, 843, 844, 2645, 2646, 2647, 2648] (by decide +kernel)
set_option maxRecDepth 100000 in
theorem lwm_wsX110 : ∀ w ∈ wsX110, w ∈ lw_tbl := mem_ps [565, 567, 569, 571, 573, 575, 577, 579, 581, 583, 585] (by decide +kernel)
set_option maxRecDepth 100000 in
theorem lwm_wsX120 : ∀ w ∈ wsX120, w ∈ lw_tbl := mem_ps [1991, 1993, 1995, 1997, 1999, 2001, 2003, 2005, 2007, 2009, 2011, 2013, 2015, 2017, 2019, 2021, 2023, 2025, 2027, 2029, 2031, 2033, 2035, 2037, 2039, 2041, 2043, 2045, 2047, 2049, 2051, 2053, 2055, 2057, 2059, 2061, 2063, 2065, 2067, 2069, 2071, 2073, 2075, 2077, 2079, 2081, 2083, 2085, 2087, 2089, 2091, 2093, 2095, 2097, 2099, 2101, 2103, 2105, 2107, 2109, 2111, 2113, 2115, 2117, 2119, 2121, 2123, 2125, 2127, 2129, 2131, 2133, 2135, 2137, 2139, 2141, 2143, 2145, 2147, 2149, 2151, 2153, 2155, 2157, 2159, 2161, 2163, 2165, 2167, 2169, 2171, 2173, 2175, 2177, 2179, 2181, 2183, 2185, 2187, 2189, 2191, 2193, 2195, 2197, 2199, 2201, 2203, 2205, 2207] (by decide +kernel)
set_option maxRecDepth 100000 in
theorem lwm_wsX80 : ∀ w ∈ wsX80, w ∈ lw_tbl := mem_ps [180, 182, 184, 186, 188, 190, 192] (by decide +kernel)
set_option maxRecDepth 100000 in
theorem lwm_wsX60 : ∀ w ∈ wsX60, w ∈ lw_tbl := mem_ps [302, 304, 306, 308, 310, 312, 314, 316, 318, 320, 322, 324, 326, 328] (by decide +kernel)
set_option maxRecDepth 100000 in
theorem lwm_wsX90 : ∀ w ∈ wsX90, w ∈ lw_tbl := mem_ps [350, 352, 354, 356, 358, 360, 362, 364, 366, 368, 370, 372, 374] (by decide +kernel)
set_option maxRecDepth 100000 in
theorem lwm_wsX40 : ∀ w ∈ wsX40, w ∈ lw_tbl := mem_ps [404, 406, 408, 410, 412, 414, 416, 418, 420, 422, 424, 426, 428, 430, 432, 434, 436, 438, 440] (by decide +kernel)
set_option maxRecDepth 100000 in
theorem lwm_wsX30 : ∀ w ∈ wsX30, w ∈ lw_tbl := mem_ps [455, 457, 459, 461, 463] (by decide +kernel)
set_option maxRecDepth 100000 in
theorem lwm_wsX00 : ∀ w ∈ wsX00, w ∈ lw_tbl := mem_ps [478, 480, 482, 484, 486] (by decide +kernel)
set_option maxRecDepth 100000 in
theorem lwm_wsX10 : ∀ w ∈ wsX10, w ∈ lw_tbl := mem_ps [517, 519, 521, 523, 525, 527, 529, 531, 533, 535, 537, 539, 541, 543, 545, 547, 549, 551] (by decide +kernel)
set_option maxRecDepth 100000 in
theorem lwm_wsX100 : ∀ w ∈ wsX100, w ∈ lw_tbl := mem_ps [221, 223, 225, 227, 229, 231, 233] (by decide +kernel)
set_option maxRecDepth 100000 in
theorem lwm_wsX20 : ∀ w ∈ wsX20, w ∈ lw_tbl := mem_ps [260, 262, 264, 266, 268, 270, 272, 274] (by decide +kernel)
set_option maxRecDepth 100000 in
theorem lwm_wsX50 : ∀ w ∈ wsX50, w ∈ lw_tbl := mem_ps [614, 616, 618, 620, 622, 624, 626, 628, 630, 632, 634] (by decide +kernel)
set_option maxRecDepth 100000 in
theorem lwm_wsX70 : ∀ w ∈ wsX70, w ∈ lw_tbl := mem_ps [1252, 1254, 1256, 1258, 1260, 1262, 1264, 1266, 1268, 1270, 1272, 1274, 1276, 1278, 1280] (by decide +kernel)
theorem lwm_nil : ∀ w ∈ ([] : List Cond), w ∈ lw_tbl := fun _ h => absurd h List.not_mem_nil
theorem wsL_law_in0 : ∀ w ∈ wsL_law0, w ∈ lw_tbl := fun w h => (List.mem_append.mp h).elim (fun h => (List.mem_append.mp h).elim (fun h => (List.mem_append.mp h).elim (fun h => (List.mem_append.mp h).elim (fun h => (List.mem_append.mp h).elim (fun h => (List.mem_append.mp h).elim (fun h => (List.mem_append.mp h).elim (fun h => (List.mem_append.mp h).elim (fun h => (List.mem_append.mp h).elim (fun h => (List.mem_append.mp h).elim (fun h => (List.mem_append.mp h).elim (fun h => (List.mem_append.mp h).elim (fun h => (List.mem_append.mp h).elim (fun h => (List.mem_append.mp h).elim (fun h => (List.mem_append.mp h).elim (fun h => lwm_wsL_law0_r1 w h) (fun h => (List.mem_append.mp h).elim (fun h => lwm_wsL_law0_r2 w h) (fun h => (List.mem_append.mp h).elim (fun h => lwm_wsL_law0_r3 w h) (fun h => (List.mem_append.mp h).elim (fun h => lwm_wsL_law0_r4 w h) (fun h => (List.mem_append.mp h).elim (fun h => lwm_wsL_law0_r5 w h) (fun h => (List.mem_append.mp h).elim (fun h => lwm_wsL_law0_r6 w h) (fun h => (List.mem_append.mp h).elim (fun h => lwm_wsL_law0_r7 w h) (fun h => (List.mem_append.mp h).elim (fun h => lwm_wsL_law0_r8 w h) (fun h => (List.mem_append.mp h).elim (fun h => lwm_wsL_law0_r9 w h) (fun h => (List.mem_append.mp h).elim (fun h => lwm_wsL_law0_r10 w h) (fun h => (List.mem_append.mp h).elim (fun h => lwm_wsL_law0_r11 w h) (fun h => (List.mem_append.mp h).elim (fun h => lwm_wsL_law0_r12 w h) (fun h => (List.mem_append.mp h).elim (fun h => lwm_wsL_law0_r13 w h) (fun h => (List.mem_append.mp h).elim (fun h => lwm_wsL_law0_r14 w h) (fun h => (List.mem_append.mp h).elim (fun h => lwm_wsL_law0_r15 w h) (fun h => (List.mem_append.mp h).elim (fun h => lwm_wsL_law0_r16 w h) (fun h => (List.mem_append.mp h).elim (fun h => lwm_wsL_law0_r17 w h) (fun h => (List.mem_append.mp h).elim (fun h => lwm_wsL_law0_r18 w h) (fun h => (List.mem_append.mp h).elim (fun h => lwm_wsL_law0_r19 w h) (fun h => (List.mem_append.mp h).elim (fun h => lwm_wsL_law0_r20 w h) (fun h => (List.mem_append.mp h).elim (fun h => lwm_wsL_law0_r21 w h) (fun h => (List.mem_append.mp h).elim (fun h => lwm_wsL_law0_r22 w h) (fun h => (List.mem_append.mp h).elim (fun h => lwm_wsL_law0_r23 w h) (fun h => (List.mem_append.mp h).elim (fun h => lwm_wsL_law0_r24 w h) (fun h => (List.mem_append.mp h).elim (fun h => lwm_wsL_law0_r25 w h) (fun h => (List.mem_append.mp h).elim (fun h => lwm_wsL_law0_r26 w h) (fun h => (List.mem_append.mp h).elim (fun h => lwm_wsL_law0_r27 w h) (fun h => (List.mem_append.mp h).elim (fun h => lwm_wsL_law0_r28 w h) (fun h => (List.mem_append.mp h).elim (fun h => lwm_wsL_law0_r29 w h) (fun h => (List.mem_append.mp h).elim (fun h => lwm_wsL_law0_r30 w h) (fun h => (List.mem_append.mp h).elim (fun h => lwm_wsL_law0_r31 w h) (fun h => (List.mem_append.mp h).elim (fun h => lwm_wsL_law0_r32 w h) (fun h => (List.mem_append.mp h).elim (fun h => lwm_wsL_law0_r33 w h) (fun h => (List.mem_append.mp h).elim (fun h => lwm_wsL_law0_r34 w h) (fun h => (List.mem_append.mp h).elim (fun h => lwm_wsL_law0_r35 w h) (fun h => (List.mem_append.mp h).elim (fun h => lwm_wsL_law0_r36 w h) (fun h => (List.mem_append.mp h).elim (fun h => lwm_wsL_law0_r37 w h) (fun h => (List.mem_append.mp h).elim (fun h => lwm_wsL_law0_r38 w h) (fun h => (List.mem_append.mp h).elim (fun h => lwm_wsL_law0_r39 w h) (fun h => (List.mem_append.mp h).elim (fun h => lwm_wsL_law0_r40 w h) (fun h => (List.mem_append.mp h).elim (fun h => lwm_wsL_law0_r41 w h) (fun h => (List.mem_append.mp h).elim (fun h => lwm_wsL_law0_r42 w h) (fun h => (List.mem_append.mp h).elim (fun h => lwm_wsL_law0_r43 w h) (fun h => (List.mem_append.mp h).elim (fun h => lwm_wsL_law0_r44 w h) (fun h => (List.mem_append.mp h).elim (fun h => lwm_wsL_law0_r45 w h) (fun h => (List.mem_append.mp h).elim (fun h => lwm_wsL_law0_r46 w h) (fun h => (List.mem_append.mp h).elim (fun h => lwm_wsL_law0_r47 w h) (fun h => (List.mem_append.mp h).elim (fun h => lwm_wsL_law0_r48 w h) (fun h => (List.mem_append.mp h).elim (fun h => lwm_wsL_law0_r49 w h) (fun h => (List.mem_append.mp h).elim (fun h => lwm_wsL_law0_r50 w h) (fun h => (List.mem_append.mp h).elim (fun h => lwm_wsL_law0_r51 w h) (fun h => (List.mem_append.mp h).elim (fun h => lwm_wsL_law0_r52 w h) (fun h => (List.mem_append.mp h).elim (fun h => lwm_wsL_law0_r53 w h) (fun h => (List.mem_append.mp h).elim (fun h => lwm_wsL_law0_r54 w h) (fun h => (List.mem_append.mp h).elim (fun h => lwm_wsL_law0_r55 w h) (fun h => (List.mem_append.mp h).elim (fun h => lwm_wsL_law0_r56 w h) (fun h => (List.mem_append.mp h).elim (fun h => lwm_wsL_law0_r57 w h) (fun h => (List.mem_append.mp h).elim (fun h => lwm_wsL_law0_r58 w h) (fun h => (List.mem_append.mp h).elim (fun h => lwm_wsL_law0_r59 w h) (fun h => (List.mem_append.mp h).elim (fun h => lwm_wsL_law0_r60 w h) (fun h => (List.mem_append.mp h).elim (fun h => lwm_wsL_law0_r61 w h) (fun h => (List.mem_append.mp h).elim (fun h => lwm_wsL_law0_r62 w h) (fun h => (List.mem_append.mp h).elim (fun h => lwm_wsL_law0_r63 w h) (fun h => (List.mem_append.mp h).elim (fun h => lwm_wsL_law0_r64 w h) (fun h => (List.mem_append.mp h).elim (fun h => lwm_wsL_law0_r65 w h) (fun h => (List.mem_append.mp h).elim (fun h => lwm_wsL_law0_r66 w h) (fun h => (List.mem_append.mp h).elim (fun h => lwm_wsL_law0_r67 w h) (fun h => (List.mem_append.mp h).elim (fun h => lwm_wsL_law0_r68 w h) (fun h => (List.mem_append.mp h).elim (fun h => lwm_wsL_law0_r69 w h) (fun h => (List.mem_append.mp h).elim (fun h => lwm_wsL_law0_r70 w h) (fun h => (List.mem_append.mp h).elim (fun h => lwm_wsL_law0_r71 w h) (fun h => (List.mem_append.mp h).elim (fun h => lwm_wsL_law0_r72 w h) (fun h => (List.mem_append.mp h).elim (fun h => lwm_wsL_law0_r73 w h) (fun h => (List.mem_append.mp h).elim (fun h => lwm_wsL_law0_r74 w h) (fun h => (List.mem_append.mp h).elim (fun h => lwm_wsL_law0_r75 w h) (fun h => (List.mem_append.mp h).elim (fun h => lwm_wsL_law0_r76 w h) (fun h => (List.mem_append.mp h).elim (fun h => lwm_wsL_law0_r77 w h) (fun h => lwm_wsL_law0_r78 w h)))))))))))))))))))))))))))))))))))))))))))))))))))))))))))))))))))))))))))))) (fun h => lwm_wsX110 w h)) (fun h => lwm_wsX120 w h)) (fun h => lwm_wsX80 w h)) (fun h => lwm_wsX60 w h)) (fun h => lwm_wsX90 w h)) (fun h => lwm_wsX40 w h)) (fun h => lwm_wsX30 w h)) (fun h => lwm_wsX00 w h)) (fun h => lwm_wsX10 w h)) (fun h => lwm_wsX100 w h)) (fun h => lwm_wsX20 w h)) (fun h => lwm_wsX50 w h)) (fun h => lwm_wsX70 w h)) (fun h => lwm_nil w h)
set_option maxRecDepth 100000 in
theorem wsL_law_x0 : ∀ w ∈ (vx_atS RX11 350 "java/lang/IndexOutOfBoundsException" ["java/lang/RuntimeException", "java/lang/Exception"]).filter goodWord, w ∈ lw_tbl := by decide +kernel
set_option maxRecDepth 100000 in
theorem wsL_law_x1 : ∀ w ∈ (vx_atS RX11 196 "java/lang/IllegalArgumentException" ["java/lang/RuntimeException", "java/lang/Exception"]).filter goodWord, w ∈ lw_tbl := by decide +kernel
set_option maxRecDepth 100000 in
theorem wsL_law_x2 : ∀ w ∈ (vx_atS RX11 139 "java/lang/IllegalStateException" ["java/lang/RuntimeException", "java/lang/Exception"]).filter goodWord, w ∈ lw_tbl := by decide +kernel
set_option maxRecDepth 100000 in
theorem wsL_law_x3 : ∀ w ∈ (vx_atS RX11 412 "java/util/NoSuchElementException" ["java/lang/RuntimeException", "java/lang/Exception"]).filter goodWord, w ∈ lw_tbl := by decide +kernel
theorem wsL_law_in : ∀ w ∈ wsL_law, w ∈ lw_tbl := fun w h => (List.mem_append.mp h).elim (fun h => (List.mem_append.mp h).elim (fun h => (List.mem_append.mp h).elim (fun h => (List.mem_append.mp h).elim (fun h => wsL_law_in0 w h) (fun h => wsL_law_x0 w h)) (fun h => wsL_law_x1 w h)) (fun h => wsL_law_x2 w h)) (fun h => wsL_law_x3 w h)
theorem inX0 : ∀ w ∈ wsX00, w ∈ lw_tbl := fun w h => wsL_law_in w (inlX0 w h)
theorem inX1 : ∀ w ∈ wsX10, w ∈ lw_tbl := fun w h => wsL_law_in w (inlX1 w h)
theorem inX2 : ∀ w ∈ wsX20, w ∈ lw_tbl := fun w h => wsL_law_in w (inlX2 w h)
theorem inX3 : ∀ w ∈ wsX30, w ∈ lw_tbl := fun w h => wsL_law_in w (inlX3 w h)
theorem inX4 : ∀ w ∈ wsX40, w ∈ lw_tbl := fun w h => wsL_law_in w (inlX4 w h)
theorem inX5 : ∀ w ∈ wsX50, w ∈ lw_tbl := fun w h => wsL_law_in w (inlX5 w h)
theorem inX6 : ∀ w ∈ wsX60, w ∈ lw_tbl := fun w h => wsL_law_in w (inlX6 w h)
theorem inX7 : ∀ w ∈ wsX70, w ∈ lw_tbl := fun w h => wsL_law_in w (inlX7 w h)
theorem inX8 : ∀ w ∈ wsX80, w ∈ lw_tbl := fun w h => wsL_law_in w (inlX8 w h)
theorem inX9 : ∀ w ∈ wsX90, w ∈ lw_tbl := fun w h => wsL_law_in w (inlX9 w h)
theorem inX10 : ∀ w ∈ wsX100, w ∈ lw_tbl := fun w h => wsL_law_in w (inlX10 w h)
theorem inX11 : ∀ w ∈ wsX110, w ∈ lw_tbl := fun w h => wsL_law_in w (inlX11 w h)
theorem inX12 : ∀ w ∈ wsX120, w ∈ lw_tbl := fun w h => wsL_law_in w (inlX12 w h)
