/-! the words that the program needs: they stand in lw_tbl, they are good -/
theorem sa_place {ws : List Cond} (ps : List Nat) (h : ws = ps.filterMap (fun i => lw_tbl[i]?)) : ∀ w ∈ ws, w ∈ lw_tbl := by
  intro w hw
  rw [h] at hw
  obtain ⟨i, -, hi⟩ := List.mem_filterMap.mp hw
  exact List.mem_of_getElem? hi
def sa_y (mi : Nat) : MethodName := ((sa_M[mi]?).map (fun e => e.2.1)).getD ⟨"", "", ""⟩
def sa_cw (e : sa_Me) : Cond := match e.2.2.2.2.2.1 with
  | none => .code e.2.1 e.2.2.1 e.2.2.2.1 e.2.2.2.2.1
  | some hh => .codeWith e.2.1 e.2.2.1 e.2.2.2.1 e.2.2.2.2.1 hh
def sa_wI (q : (Nat × Nat) × (Nat × Nat × Nat)) : List Cond := match q.2.1 with
  | 0 => [.methodLink (sa_C q.1.1) q.1.2 (sa_y q.2.2.1), .instanceMethod (sa_y q.2.2.1), .selects (sa_y q.2.2.1).cls (sa_y q.2.2.1) (sa_y q.2.2.1), .initialized (sa_y q.2.2.1).cls]
  | 1 => [.methodLink (sa_C q.1.1) q.1.2 (sa_y q.2.2.1), .static (sa_y q.2.2.1), .initialized (sa_y q.2.2.1).cls]
  | 2 => [.methodLink (sa_C q.1.1) q.1.2 (sa_y q.2.2.1), .instanceMethod (sa_y q.2.2.1), .initialized (sa_y q.2.2.1).cls]
  | 3 => [.instanceMethod (sa_y q.2.2.1), .initialized (sa_y q.2.2.1).cls]
  | 4 => [.static (sa_y q.2.2.1), .initialized (sa_y q.2.2.1).cls]
  | 5 => [.methodLink (sa_C q.1.1) q.1.2 (sa_y q.2.2.1), .static (sa_y q.2.2.1), .initialized (sa_y q.2.2.1).cls]
  | 6 => [.methodLink (sa_C q.1.1) q.1.2 objectInit, .instanceMethod objectInit, .code objectInit ⟨#[0xb1]⟩ 1 none]
  | 7 => [.methodLink (sa_C q.1.1) q.1.2 arraycopyName, .native arraycopyName, .static arraycopyName, .initialized "java/lang/System"]
  | 8 => [.methodLink (sa_C q.1.1) q.1.2 Lib.Math.max.name, .static Lib.Math.max.name, .initialized "java/lang/Math", .code Lib.Math.max.name Lib.Math.max.code 2 (some .int)]
  | 9 => [.methodLink (sa_C q.1.1) q.1.2 Lib.Math.min.name, .static Lib.Math.min.name, .initialized "java/lang/Math", .code Lib.Math.min.name Lib.Math.min.code 2 (some .int)]
  | _ => []
def sa_fd (ci j : Nat) : String × String × String × Bool := ((vwCl[ci]?).map (fun q => q.2.1 j)).getD ("", "", "", false)
def sa_wF (q : (Nat × Nat) × (Nat × Nat × Bool)) : Cond := if q.2.2.2 = true then .fieldLinkNest (sa_C q.1.1) q.1.2 (sa_fd q.2.1 q.2.2.1).1 (sa_fd q.2.1 q.2.2.1).2.1 (sa_fd q.2.1 q.2.2.1).2.2.1 RX11 else .fieldLink (sa_C q.1.1) q.1.2 (sa_fd q.2.1 q.2.2.1).1 (sa_fd q.2.1 q.2.2.1).2.1 (sa_fd q.2.1 q.2.2.1).2.2.1
def sa_exn (q : Nat) : String := if q = 0 then "java/util/NoSuchElementException" else "java/lang/IllegalArgumentException"
abbrev sa_sup : List String := ["java/lang/RuntimeException", "java/lang/Exception"]
def sa_b0 : List Cond := sa_M0.map sa_cw
set_option maxRecDepth 100000 in
theorem sa_bi0 : ∀ w ∈ sa_b0, w ∈ lw_tbl := sa_place [452, 1320, 1346, 1358, 1362, 1325, 1540, 1544, 1548, 402, 1285, 1305, 1293, 1299, 249, 839, 1074, 967, 959, 1004, 1012, 1020, 984, 1070, 1025, 1029, 1037, 1041, 1045, 1049, 1053, 1057, 427, 1450, 1477, 1481, 1497, 1501, 1466, 1461] (by decide +kernel)
set_option maxRecDepth 100000 in
theorem sa_bg0 : ∀ w ∈ sa_b0, goodWord w = true := by decide +kernel
def sa_b1 : List Cond := sa_M1.map sa_cw
set_option maxRecDepth 100000 in
theorem sa_bi1 : ∀ w ∈ sa_b1, w ∈ lw_tbl := sa_place [1473, 1486, 192, 719, 851, 1062, 1087, 723, 343, 664, 680, 748, 1230, 1270, 727, 684, 688, 692, 710, 1241, 1249, 1255, 1245, 157, 843, 1078, 1100, 1008, 1016, 571, 697, 1155, 701, 705, 715, 1367, 1387, 1383, 1399, 1595] (by decide +kernel)
set_option maxRecDepth 100000 in
theorem sa_bg1 : ∀ w ∈ sa_b1, goodWord w = true := by decide +kernel
def sa_b2 : List Cond := sa_M2.map sa_cw
set_option maxRecDepth 100000 in
theorem sa_bi2 : ∀ w ∈ sa_b2, w ∈ lw_tbl := sa_place [1517, 1529, 1521, 1525, 618, 626, 1423, 1419, 1606, 736, 308, 1096, 760, 591, 598, 531, 575, 1207, 672, 1194, 668, 558, 554, 562, 583, 1112, 660, 1178, 1183, 546, 566, 165, 550, 976, 980, 963, 1147, 622, 579, 847] (by decide +kernel)
set_option maxRecDepth 100000 in
theorem sa_bg2 : ∀ w ∈ sa_b2, goodWord w = true := by decide +kernel
def sa_b3 : List Cond := sa_M3.map sa_cw
set_option maxRecDepth 100000 in
theorem sa_bi3 : ∀ w ∈ sa_b3, w ∈ lw_tbl := sa_place [996, 1000, 1082, 255, 855, 955, 971, 988, 1033, 1066, 992, 863, 873, 880, 885, 866, 869, 876, 951, 302, 1092, 756, 610, 539, 606, 1117, 1435, 642, 1457, 149, 515, 519, 773, 523, 1108, 1139, 1163, 1174, 527, 1203] (by decide +kernel)
set_option maxRecDepth 100000 in
theorem sa_bg3 : ∀ w ∈ sa_b3, goodWord w = true := by decide +kernel
def sa_b4 : List Cond := sa_M4.map sa_cw
set_option maxRecDepth 100000 in
theorem sa_bi4 : ∀ w ∈ sa_b4, w ∈ lw_tbl := sa_place [587, 1214, 602, 1226, 1237, 1263, 1280, 1312, 1334, 1342, 1354, 1375, 1395, 614, 1407, 1431, 638, 1442, 1493, 1509, 1536, 1561, 1569, 646, 1576, 1583, 1591, 1602, 732, 740, 752, 765, 651, 535, 744, 656, 1266, 1273, 1143, 1167] (by decide +kernel)
set_option maxRecDepth 100000 in
theorem sa_bg4 : ∀ w ∈ sa_b4, goodWord w = true := by decide +kernel
def sa_b5 : List Cond := sa_M5.map sa_cw
set_option maxRecDepth 100000 in
theorem sa_bi5 : ∀ w ∈ sa_b5, w ∈ lw_tbl := sa_place [1513, 1411, 1218, 1415, 1446, 1316, 1379, 1611, 1891, 1907, 2033, 2092, 2018, 2107, 1895, 1899, 1915, 1918, 1921, 1911, 1939, 1936, 1933, 1948, 1925, 1976, 2014, 1956, 1992, 1999, 2002, 1996, 1984, 1988, 1972, 1980, 2006, 2010, 1968, 1944] (by decide +kernel)
set_option maxRecDepth 100000 in
theorem sa_bg5 : ∀ w ∈ sa_b5, goodWord w = true := by decide +kernel
def sa_b6 : List Cond := sa_M6.map sa_cw
set_option maxRecDepth 100000 in
theorem sa_bi6 : ∀ w ∈ sa_b6, w ∈ lw_tbl := sa_place [1952, 1960, 1964, 1929, 1903, 2022, 2085, 2081, 2026, 2194, 2114, 2111, 2037, 2041, 2104, 2061, 2096, 2100, 2089, 2077, 2126, 2122, 2030, 2049, 2069, 2053, 2057, 2045, 2065, 2073, 2118, 2130, 2134, 2138, 2153, 2157, 2150, 2161, 2146, 2142] (by decide +kernel)
set_option maxRecDepth 100000 in
theorem sa_bg6 : ∀ w ∈ sa_b6, goodWord w = true := by decide +kernel
def sa_b7 : List Cond := sa_M7.map sa_cw
set_option maxRecDepth 100000 in
theorem sa_bi7 : ∀ w ∈ sa_b7, w ∈ lw_tbl := sa_place [2170, 2166, 2174, 2178, 2186, 2182, 2198, 2190, 2202, 2206, 2214, 2210, 2222, 2226, 2218, 2230, 2238, 2234, 2242, 2246, 2250, 2261, 2265, 2269, 2258, 2254, 2273, 2281, 2277, 2293, 2289, 2285, 2298, 2302, 2310, 2306, 2314, 2318, 2322, 2326] (by decide +kernel)
set_option maxRecDepth 100000 in
theorem sa_bg7 : ∀ w ∈ sa_b7, goodWord w = true := by decide +kernel
def sa_b8 : List Cond := sa_M8.map sa_cw
set_option maxRecDepth 100000 in
theorem sa_bi8 : ∀ w ∈ sa_b8, w ∈ lw_tbl := sa_place [2330, 2334, 2338, 768, 1103, 1135, 1159, 1170, 1199, 1210, 1222, 1233, 1259, 1276, 1308, 1330, 1338, 1350, 1371, 1391, 1403, 1427, 1438, 1489, 1505, 1532, 1557, 1565, 1572, 1579, 1587, 1598, 631, 676, 1288, 889, 899, 893, 903, 909] (by decide +kernel)
set_option maxRecDepth 100000 in
theorem sa_bg8 : ∀ w ∈ sa_b8, goodWord w = true := by decide +kernel
def sa_b9 : List Cond := sa_M9.map sa_cw
set_option maxRecDepth 100000 in
theorem sa_bi9 : ∀ w ∈ sa_b9, w ∈ lw_tbl := sa_place [906, 914] (by decide +kernel)
set_option maxRecDepth 100000 in
theorem sa_bg9 : ∀ w ∈ sa_b9, goodWord w = true := by decide +kernel
def sa_b10 : List Cond := sa_pI0.flatMap sa_wI
set_option maxRecDepth 100000 in
theorem sa_bi10 : ∀ w ∈ sa_b10, w ∈ lw_tbl := sa_place [147, 148, 119, 150, 151, 152, 156, 120, 158, 151, 152, 163, 164, 121, 166, 151, 152, 191, 122, 193, 151, 152, 247, 248, 123, 250, 151, 152, 253, 254, 124, 256, 151, 152, 300, 301, 125, 303, 151, 152, 306, 307, 126, 309, 151, 152, 341, 342, 127, 344, 151, 152, 400, 401, 128, 403, 151, 152, 425, 426, 129, 428, 151, 152, 450, 451, 130, 453, 151, 152, 455, 307, 126, 512, 513, 514, 119, 516, 518, 0, 119, 520, 521, 522, 119, 524, 525, 526, 119, 528, 529, 530, 126, 532, 534, 1, 119, 536, 537, 538, 125, 540, 542, 541, 141, 543, 544, 545, 126, 547, 548, 549, 121, 551, 552, 553, 126, 555, 556, 557, 126, 559, 561, 2, 126, 563, 565, 3, 126, 567, 529, 530, 126, 568, 569, 570, 120, 572, 573, 574, 126, 576, 577, 578, 121, 580, 582, 4, 126, 584, 585, 586, 119] (by decide +kernel)
set_option maxRecDepth 100000 in
theorem sa_bg10 : ∀ w ∈ sa_b10, goodWord w = true := by decide +kernel
def sa_b11 : List Cond := sa_pI1.flatMap sa_wI
set_option maxRecDepth 100000 in
theorem sa_bi11 : ∀ w ∈ sa_b11, w ∈ lw_tbl := sa_place [588, 589, 590, 126, 592, 593, 136, 594, 595, 596, 597, 126, 599, 600, 601, 119, 603, 604, 605, 125, 607, 608, 609, 125, 611, 612, 613, 119, 615, 616, 617, 120, 619, 620, 621, 121, 623, 625, 5, 120, 627, 548, 549, 121, 628, 577, 578, 121, 629, 630, 143, 635, 636, 637, 119, 639, 640, 641, 125, 643, 644, 645, 119, 647, 548, 549, 121, 648, 650, 6, 119, 652, 552, 553, 126, 653, 655, 7, 119, 657, 658, 659, 126, 661, 662, 663, 127, 665, 666, 667, 126, 669, 670, 671, 126, 673, 556, 557, 126, 674, 675, 144, 677, 678, 679, 127, 681, 683, 8, 127, 685, 687, 9, 127, 689, 691, 10, 127, 693, 548, 549, 121, 694, 695, 696, 120, 698, 699, 700, 120, 702, 703, 704, 120, 706, 593, 136, 594, 707, 709, 11, 127, 711, 630, 143, 712, 713, 714, 120, 716, 717, 718, 122, 720, 721, 722, 122, 724, 725, 726, 127, 728, 620, 621, 121, 729, 730, 731, 119, 733, 734, 735, 120, 737, 738, 739, 119] (by decide +kernel)
set_option maxRecDepth 100000 in
theorem sa_bg11 : ∀ w ∈ sa_b11, goodWord w = true := by decide +kernel
def sa_b12 : List Cond := sa_pI2.flatMap sa_wI
set_option maxRecDepth 100000 in
theorem sa_bi12 : ∀ w ∈ sa_b12, w ∈ lw_tbl := sa_place [741, 743, 12, 119, 745, 746, 747, 127, 749, 750, 751, 119, 753, 754, 755, 125, 757, 758, 759, 126, 761, 542, 541, 141, 762, 763, 764, 119, 766, 767, 118, 770, 771, 772, 119, 836, 837, 838, 123, 840, 841, 842, 120, 844, 845, 846, 121, 848, 849, 850, 122, 852, 853, 854, 124, 856, 593, 136, 594, 857, 858, 136, 859, 860, 861, 862, 124, 864, 865, 124, 867, 868, 124, 870, 872, 14, 124, 874, 875, 124, 877, 879, 15, 124, 882, 884, 16, 124, 886, 887, 888, 137, 890, 891, 892, 137, 896, 897, 898, 137, 900, 901, 902, 137, 904, 905, 138, 907, 908, 137, 912, 913, 139, 949, 950, 124, 952, 953, 954, 124, 956, 958, 17, 123, 960, 961, 962, 121, 964, 966, 18, 123, 968, 969, 970, 124, 972, 861, 862, 124, 973, 974, 975, 121, 977, 978, 979, 121, 981, 983, 19, 123, 985, 986, 987, 124, 989, 990, 991, 124, 993, 994, 995, 121, 997, 998, 999, 121, 1001, 1003, 20, 123] (by decide +kernel)
set_option maxRecDepth 100000 in
theorem sa_bg12 : ∀ w ∈ sa_b12, goodWord w = true := by decide +kernel
def sa_b13 : List Cond := sa_pI3.flatMap sa_wI
set_option maxRecDepth 100000 in
theorem sa_bi13 : ∀ w ∈ sa_b13, w ∈ lw_tbl := sa_place [1005, 1006, 1007, 120, 1009, 1011, 21, 123, 1013, 1014, 1015, 120, 1017, 1019, 22, 123, 1021, 717, 718, 122, 1022, 1024, 23, 123, 1026, 1028, 24, 123, 1030, 1031, 1032, 124, 1034, 1036, 25, 123, 1038, 1040, 26, 123, 1042, 1044, 27, 123, 1046, 1048, 28, 123, 1050, 1052, 29, 123, 1054, 1056, 30, 123, 1059, 1060, 1061, 122, 1063, 1064, 1065, 124, 1067, 1069, 31, 123, 1071, 1072, 1073, 123, 1075, 1076, 1077, 120, 1079, 1080, 1081, 121, 1083, 542, 541, 141, 1084, 1085, 1086, 122, 1088, 542, 541, 141, 1089, 1090, 1091, 125, 1093, 1094, 1095, 126, 1097, 1098, 1099, 120, 1101, 1102, 118, 1105, 1106, 1107, 119, 1109, 1110, 1111, 126, 1113, 573, 574, 126, 1114, 1115, 1116, 125, 1133, 1134, 118, 1136, 1137, 1138, 119, 1140, 1142, 32, 119, 1144, 1145, 1146, 121, 1148, 577, 578, 121, 1149, 670, 671, 126, 1150, 666, 667, 126, 1151, 556, 557, 126, 1152, 1153, 1154, 120, 1156, 695, 696, 120, 1157, 1158, 118, 1160, 1161, 1162, 119, 1164, 1166, 33, 119, 1168, 1169, 118] (by decide +kernel)
set_option maxRecDepth 100000 in
theorem sa_bg13 : ∀ w ∈ sa_b13, goodWord w = true := by decide +kernel
def sa_b14 : List Cond := sa_pI4.flatMap sa_wI
set_option maxRecDepth 100000 in
theorem sa_bi14 : ∀ w ∈ sa_b14, w ∈ lw_tbl := sa_place [1171, 1172, 1173, 119, 1175, 1176, 1177, 126, 1179, 589, 590, 126, 1180, 1181, 1182, 126, 1184, 596, 597, 126, 1185, 670, 671, 126, 1186, 695, 696, 120, 1187, 666, 667, 126, 1188, 593, 136, 594, 1189, 658, 659, 126, 1190, 699, 700, 120, 1191, 1192, 1193, 126, 1195, 703, 704, 120, 1196, 713, 714, 120, 1197, 1198, 118, 1200, 1201, 1202, 119, 1204, 1205, 1206, 126, 1208, 1209, 118, 1211, 1212, 1213, 119, 1215, 1217, 34, 119, 1219, 1192, 1193, 126, 1220, 1221, 118, 1223, 1224, 1225, 119, 1227, 1228, 1229, 127, 1231, 1232, 118, 1234, 1235, 1236, 119, 1238, 1239, 1240, 127, 1242, 1244, 35, 127, 1246, 1248, 36, 127, 1252, 1254, 37, 127, 1256, 577, 578, 121, 1257, 1258, 118, 1260, 1261, 1262, 119, 1264, 1265, 119, 1267, 1268, 1269, 127, 1271, 1272, 119, 1274, 1275, 118, 1277, 1278, 1279, 119, 1281, 630, 143, 1282, 1283, 1284, 128, 1286, 1287, 144, 1289, 658, 659, 126, 1290, 1292, 38, 128, 1294, 548, 549, 121, 1295, 577, 578, 121] (by decide +kernel)
set_option maxRecDepth 100000 in
theorem sa_bg14 : ∀ w ∈ sa_b14, goodWord w = true := by decide +kernel
def sa_b15 : List Cond := sa_pI5.flatMap sa_wI
set_option maxRecDepth 100000 in
theorem sa_bi15 : ∀ w ∈ sa_b15, w ∈ lw_tbl := sa_place [1296, 1298, 39, 128, 1300, 662, 663, 127, 1301, 746, 747, 127, 1302, 1303, 1304, 128, 1306, 1307, 118, 1309, 1310, 1311, 119, 1313, 1315, 40, 119, 1317, 1318, 1319, 130, 1321, 758, 759, 126, 1322, 1324, 41, 130, 1326, 544, 545, 126, 1327, 1110, 1111, 126, 1328, 1329, 118, 1331, 1332, 1333, 119, 1335, 858, 136, 859, 1336, 1337, 118, 1339, 1340, 1341, 119, 1343, 1344, 1345, 130, 1347, 552, 553, 126, 1348, 1349, 118, 1351, 1352, 1353, 119, 1355, 1356, 1357, 130, 1359, 1361, 42, 130, 1363, 1205, 1206, 126, 1364, 1365, 1366, 120, 1368, 548, 549, 121, 1369, 1370, 118, 1372, 1373, 1374, 119, 1376, 1378, 43, 119, 1380, 1381, 1382, 120, 1384, 1386, 44, 120, 1388, 858, 136, 859, 1389, 1390, 118, 1392, 1393, 1394, 119, 1396, 1397, 1398, 120, 1400, 1381, 1382, 120, 1401, 1402, 118, 1404, 1405, 1406, 119, 1408, 1410, 45, 119, 1412, 1414, 46, 119, 1416, 1417, 1418, 120, 1420, 1421, 1422, 120, 1424, 1421, 1422, 120, 1425, 1426, 118, 1428, 1429, 1430, 119] (by decide +kernel)
set_option maxRecDepth 100000 in
theorem sa_bg15 : ∀ w ∈ sa_b15, goodWord w = true := by decide +kernel
def sa_b16 : List Cond := sa_pI6.flatMap sa_wI
set_option maxRecDepth 100000 in
theorem sa_bi16 : ∀ w ∈ sa_b16, w ∈ lw_tbl := sa_place [1432, 1433, 1434, 125, 1436, 1437, 118, 1439, 1440, 1441, 119, 1443, 1445, 47, 119, 1447, 1448, 1449, 129, 1451, 593, 136, 594, 1452, 858, 136, 859, 1453, 670, 671, 126, 1454, 1455, 1456, 125, 1458, 1460, 48, 129, 1462, 548, 549, 121, 1463, 1465, 49, 129, 1467, 695, 696, 120, 1468, 699, 700, 120, 1272, 119, 1470, 1472, 50, 129, 1474, 1475, 1476, 129, 1478, 1479, 1480, 129, 1482, 1475, 1476, 129, 1483, 1485, 51, 129, 1487, 1488, 118, 1490, 1491, 1492, 119, 1494, 1495, 1496, 129, 1498, 1499, 1500, 129, 1502, 1499, 1500, 129, 1503, 1504, 118, 1506, 1507, 1508, 119, 1510, 1512, 52, 119, 1514, 1515, 1516, 120, 1518, 1520, 53, 120, 1522, 1524, 54, 120, 1526, 1527, 1528, 120, 1530, 1531, 118, 1533, 1534, 1535, 119, 1537, 1538, 1539, 130, 1541, 1543, 55, 130, 1545, 1547, 56, 130, 1550, 1176, 1177, 126, 1551, 1181, 1182, 126, 1552, 630, 143, 1553, 589, 590, 126, 1554, 858, 136, 859, 1555, 1556, 118, 1558, 1559, 1560, 119, 1562, 695, 696, 120] (by decide +kernel)
set_option maxRecDepth 100000 in
theorem sa_bg16 : ∀ w ∈ sa_b16, goodWord w = true := by decide +kernel
def sa_b17 : List Cond := sa_pI7.flatMap sa_wI
set_option maxRecDepth 100000 in
theorem sa_bi17 : ∀ w ∈ sa_b17, w ∈ lw_tbl := sa_place [1563, 1564, 118, 1566, 1567, 1568, 119, 1570, 1571, 118, 1573, 1574, 1575, 119, 1577, 1578, 118, 1580, 1581, 1582, 119, 1584, 1365, 1366, 120, 1585, 1586, 118, 1588, 1589, 1590, 119, 1592, 1593, 1594, 120, 1596, 1597, 118, 1599, 1600, 1601, 119, 1603, 1604, 1605, 120, 1609, 1610, 131, 1612, 151, 152, 1888, 1889, 1890, 131, 1892, 1893, 1894, 131, 1896, 1898, 57, 131, 1900, 1901, 1902, 131, 1904, 1906, 58, 131, 1908, 1910, 59, 131, 1912, 1914, 60, 131, 1916, 1917, 131, 1919, 1920, 131, 1922, 1924, 61, 131, 1926, 1928, 62, 131, 1930, 1932, 63, 131, 1934, 1935, 131, 1937, 1938, 131, 1941, 1943, 64, 131, 1945, 1947, 65, 131, 1949, 1951, 66, 131, 1953, 1955, 67, 131, 1957, 1959, 68, 131, 1961, 1963, 69, 131, 1965, 1967, 70, 131, 1969, 1971, 71, 131, 1973, 1975, 72, 131, 1977, 1979, 73, 131, 1981, 1983, 74, 131, 1985, 1987, 75, 131, 1989, 1991, 76, 131, 1993, 1995, 77, 131, 1997, 1998, 131, 2000, 2001, 131] (by decide +kernel)
set_option maxRecDepth 100000 in
theorem sa_bg17 : ∀ w ∈ sa_b17, goodWord w = true := by decide +kernel
def sa_b18 : List Cond := sa_pI8.flatMap sa_wI
set_option maxRecDepth 100000 in
theorem sa_bi18 : ∀ w ∈ sa_b18, w ∈ lw_tbl := sa_place [2003, 2005, 78, 131, 2007, 2009, 79, 131, 2011, 2013, 80, 131, 2015, 2017, 81, 131, 2019, 2020, 2021, 131, 2023, 2024, 2025, 131, 2027, 2028, 2029, 131, 2031, 2032, 131, 2034, 2036, 82, 131, 2038, 2040, 83, 131, 2042, 2043, 2044, 131, 2046, 2048, 84, 131, 2050, 2052, 85, 131, 2054, 2056, 86, 131, 2058, 2060, 87, 131, 2062, 2063, 2064, 131, 2066, 2068, 88, 131, 2070, 2071, 2072, 131, 2074, 2076, 89, 131, 2078, 2080, 90, 131, 2082, 2084, 91, 131, 2086, 2088, 92, 131, 2090, 2091, 131, 2093, 2095, 93, 131, 2097, 2099, 94, 131, 2101, 2103, 95, 131, 2105, 2106, 131, 2108, 2110, 96, 131, 2112, 2113, 131, 2115, 2116, 2117, 131, 2119, 2121, 97, 131, 2123, 2125, 98, 131, 2127, 2128, 2129, 131, 2131, 2132, 2133, 131, 2135, 2136, 2137, 131, 2139, 2140, 2141, 131, 2143, 2145, 99, 131, 2147, 2149, 100, 131, 2151, 2152, 131, 2154, 2156, 101, 131, 2158, 2160, 102, 131, 2163, 2164, 2165, 131, 2167, 2169, 103, 131, 2171, 2172, 2173, 131, 2175, 2176, 2177, 131] (by decide +kernel)
set_option maxRecDepth 100000 in
theorem sa_bg18 : ∀ w ∈ sa_b18, goodWord w = true := by decide +kernel
def sa_b19 : List Cond := sa_pI9.flatMap sa_wI
set_option maxRecDepth 100000 in
theorem sa_bi19 : ∀ w ∈ sa_b19, w ∈ lw_tbl := sa_place [2179, 2180, 2181, 131, 2183, 2185, 104, 131, 2187, 2188, 2189, 131, 2191, 2193, 105, 131, 2195, 2197, 106, 131, 2199, 2200, 2201, 131, 2203, 2204, 2205, 131, 2207, 2208, 2209, 131, 2211, 2213, 107, 131, 2215, 2216, 2217, 131, 2219, 2221, 108, 131, 2223, 2225, 109, 131, 2227, 2228, 2229, 131, 2231, 2232, 2233, 131, 2235, 2237, 110, 131, 2239, 2240, 2241, 131, 2243, 2244, 2245, 131, 2247, 2248, 2249, 131, 2251, 2252, 2253, 131, 2255, 2257, 111, 131, 2259, 2260, 131, 2262, 2264, 112, 131, 2266, 2268, 113, 131, 2270, 2271, 2272, 131, 2274, 2275, 2276, 131, 2278, 2280, 114, 131, 2282, 2283, 2284, 131, 2286, 2288, 115, 131, 2290, 2292, 116, 131, 2295, 2296, 2297, 131, 2299, 2300, 2301, 131, 2303, 2304, 2305, 131, 2307, 2309, 117, 131, 2311, 2312, 2313, 131, 2315, 2316, 2317, 131, 2319, 2320, 2321, 131, 2323, 2324, 2325, 131, 2327, 2328, 2329, 131, 2331, 2332, 2333, 131, 2335, 2336, 2337, 131] (by decide +kernel)
set_option maxRecDepth 100000 in
theorem sa_bg19 : ∀ w ∈ sa_b19, goodWord w = true := by decide +kernel
def sa_b20 : List Cond := (sa_pF.filter (fun q => !q.2.2.2)).map sa_wF
set_option maxRecDepth 100000 in
theorem sa_bi20 : ∀ w ∈ sa_b20, w ∈ lw_tbl := sa_place [167, 168, 169, 170, 194, 195, 196, 197, 207, 213, 220, 223, 226, 228, 229, 257, 258, 259, 260, 261, 262, 263, 279, 280, 281, 282, 283, 284, 310, 311, 318, 321, 322, 323, 324, 325, 345, 346, 347, 348, 349, 350, 351, 352, 353, 354, 355, 356, 357, 358, 359, 360, 361, 404, 405, 406, 407, 408, 409, 429, 430, 431, 432, 433, 434, 456, 457, 458, 459, 469, 470, 471, 472, 473, 474, 475, 476, 477, 478, 479, 480, 481, 482, 1613, 1614, 1615, 1616, 1617, 1618, 1619, 1620, 1621, 1622, 1623, 1624, 1625, 1626, 1627, 1628, 1629, 1630, 1631, 1632, 1633, 1634, 1635, 1636, 1637, 1638, 1639, 1640, 1641, 1642, 1643, 1644, 1645, 1646, 1647, 1648, 1649, 1650, 1651, 1652, 1653, 1654, 1655, 1656, 1657, 1658, 1659, 1660, 1661, 1662, 1663, 1664, 1665, 1666, 1667, 1668, 1669, 1670, 1671, 1672, 1673, 1674, 1675, 1676, 1677, 1678, 1679, 1680, 1681, 1682, 1683, 1684, 1685, 1686, 1687, 1688, 1689, 1690, 1691, 1692, 1693, 1694, 1695, 1696, 1697, 1698, 1699, 1700, 1701, 1702, 1703] (by decide +kernel)
set_option maxRecDepth 100000 in
theorem sa_bg20 : ∀ w ∈ sa_b20, goodWord w = true := by decide +kernel
def sa_b21 : List Cond := vwCl.flatMap (fun q => u_ws q.1 q.2.1 q.2.2)
set_option maxRecDepth 100000 in
theorem sa_bi21 : ∀ w ∈ sa_b21, w ∈ lw_tbl := sa_place [460, 462, 464, 466, 410, 412, 414, 416, 418, 420, 285, 287, 289, 291, 293, 295, 435, 437, 439, 441, 443, 445, 198, 200, 202, 204, 362, 364, 366, 368, 370, 372, 374, 376, 378, 380, 382, 384, 386, 388, 390, 392, 394, 230, 232, 234, 236, 238, 240, 242, 313, 315, 171, 173, 175, 177, 264, 266, 268, 270, 272, 274, 276, 326, 328, 330, 332, 334, 336, 483, 485, 487, 489, 491, 493, 495, 497, 499, 501, 503, 505, 507, 509, 1704, 1706, 1708, 1710, 1712, 1714, 1716, 1718, 1720, 1722, 1724, 1726, 1728, 1730, 1732, 1734, 1736, 1738, 1740, 1742, 1744, 1746, 1748, 1750, 1752, 1754, 1756, 1758, 1760, 1762, 1764, 1766, 1768, 1770, 1772, 1774, 1776, 1778, 1780, 1782, 1784, 1786, 1788, 1790, 1792, 1794, 1796, 1798, 1800, 1802, 1804, 1806, 1808, 1810, 1812, 1814, 1816, 1818, 1820, 1822, 1824, 1826, 1828, 1830, 1832, 1834, 1836, 1838, 1840, 1842, 1844, 1846, 1848, 1850, 1852, 1854, 1856, 1858, 1860, 1862, 1864, 1866, 1868, 1870, 1872, 1874, 1876, 1878, 1880, 1882, 1884] (by decide +kernel)
set_option maxRecDepth 100000 in
theorem sa_bg21 : ∀ w ∈ sa_b21, goodWord w = true := by decide +kernel
def sa_b22 : List Cond := sa_pN.map (fun q => Cond.classLink (sa_C q.1.1) q.1.2 (sa_C q.2))
set_option maxRecDepth 100000 in
theorem sa_bi22 : ∀ w ∈ sa_b22, w ∈ lw_tbl := sa_place [145, 153, 159, 188, 245, 251, 298, 304, 339, 398, 423, 448, 454, 1607] (by decide +kernel)
set_option maxRecDepth 100000 in
theorem sa_bg22 : ∀ w ∈ sa_b22, goodWord w = true := by decide +kernel
def sa_b23 : List Cond := vwCl.map (fun q => Cond.instantiable q.1 q.2.2)
set_option maxRecDepth 100000 in
theorem sa_bi23 : ∀ w ∈ sa_b23, w ∈ lw_tbl := sa_place [449, 399, 246, 424, 189, 340, 154, 305, 160, 252, 299, 146, 1608] (by decide +kernel)
set_option maxRecDepth 100000 in
theorem sa_bg23 : ∀ w ∈ sa_b23, goodWord w = true := by decide +kernel
def sa_b24 : List Cond := sa_cn.map Cond.initialized
set_option maxRecDepth 100000 in
theorem sa_bi24 : ∀ w ∈ sa_b24, w ∈ lw_tbl := sa_place [130, 128, 123, 129, 122, 127, 120, 126, 121, 124, 125, 119, 131, 118, 143, 144, 137, 138, 139] (by decide +kernel)
set_option maxRecDepth 100000 in
theorem sa_bg24 : ∀ w ∈ sa_b24, goodWord w = true := by decide +kernel
def sa_b25 : List Cond := sa_pK.map (fun q => Cond.constant (sa_C q.1.1) q.1.2 q.2)
set_option maxRecDepth 100000 in
theorem sa_bi25 : ∀ w ∈ sa_b25, w ∈ lw_tbl := sa_place [632, 633, 634, 1058, 1250, 1549, 2162, 2294] (by decide +kernel)
set_option maxRecDepth 100000 in
theorem sa_bg25 : ∀ w ∈ sa_b25, goodWord w = true := by decide +kernel
def sa_b26 : List Cond := sa_pKL.map (fun q => Cond.constantLong (sa_C q.1.1) q.1.2 q.2)
set_option maxRecDepth 100000 in
theorem sa_bi26 : ∀ w ∈ sa_b26, w ∈ lw_tbl := sa_place [1251, 1940] (by decide +kernel)
set_option maxRecDepth 100000 in
theorem sa_bg26 : ∀ w ∈ sa_b26, goodWord w = true := by decide +kernel
def sa_b27 : List Cond := [Cond.arrayClass .byte, Cond.arrayClass .int, Cond.arrayClass .long, Cond.arrayClass .boolean]
set_option maxRecDepth 100000 in
theorem sa_bi27 : ∀ w ∈ sa_b27, w ∈ lw_tbl := sa_place [180, 181, 397, 1887] (by decide +kernel)
set_option maxRecDepth 100000 in
theorem sa_bg27 : ∀ w ∈ sa_b27, goodWord w = true := by decide +kernel
def sa_b28 : List Cond := sa_pE.map (fun q => Cond.classLink (sa_C q.1.1) q.1.2 (sa_exn q.2.1))
set_option maxRecDepth 100000 in
theorem sa_bi28 : ∀ w ∈ sa_b28, w ∈ lw_tbl := sa_place [769, 774, 1104, 1118] (by decide +kernel)
set_option maxRecDepth 100000 in
theorem sa_bg28 : ∀ w ∈ sa_b28, goodWord w = true := by decide +kernel
def sa_b29 : List Cond := [Cond.initialized (sa_exn 0), Cond.initialized (sa_exn 1)]
set_option maxRecDepth 100000 in
theorem sa_bi29 : ∀ w ∈ sa_b29, w ∈ lw_tbl := sa_place [142, 135] (by decide +kernel)
set_option maxRecDepth 100000 in
theorem sa_bg29 : ∀ w ∈ sa_b29, goodWord w = true := by decide +kernel
def sa_b30 : List Cond := sa_pX.map (fun q => Cond.fieldLink (sa_C q.1.1) q.1.2 "java/lang/String" (if q.2 = 0 then "value" else "coder") (if q.2 = 0 then "[B" else "B"))
set_option maxRecDepth 100000 in
theorem sa_bi30 : ∀ w ∈ sa_b30, w ∈ lw_tbl := sa_place [2357, 2358] (by decide +kernel)
set_option maxRecDepth 100000 in
theorem sa_bg30 : ∀ w ∈ sa_b30, goodWord w = true := by decide +kernel
def sa_b31 : List Cond := [Cond.fieldLink (sa_C 16) 38 "java/lang/String" "COMPACT_STRINGS" "Z", Cond.fieldLink (sa_C 16) 1053 "jdk/internal/util/Preconditions" "SIOOBE_FORMATTER" "Ljava/util/function/BiFunction;"]
set_option maxRecDepth 100000 in
theorem sa_bi31 : ∀ w ∈ sa_b31, w ∈ lw_tbl := sa_place [894, 910] (by decide +kernel)
set_option maxRecDepth 100000 in
theorem sa_bg31 : ∀ w ∈ sa_b31, goodWord w = true := by decide +kernel
def sa_b32 : List Cond := (vx_at0 RX11 160 (sa_exn 0) sa_sup ++ vx_at0 RX11 103 (sa_exn 1) sa_sup).filter goodWord
set_option maxRecDepth 100000 in
theorem sa_bi32 : ∀ w ∈ sa_b32, w ∈ lw_tbl := by decide +kernel
set_option maxRecDepth 100000 in
theorem sa_bg32 : ∀ w ∈ sa_b32, goodWord w = true := by decide +kernel
def sa_big : List Cond := sa_b0 ++ (sa_b1 ++ (sa_b2 ++ (sa_b3 ++ (sa_b4 ++ (sa_b5 ++ (sa_b6 ++ (sa_b7 ++ (sa_b8 ++ (sa_b9 ++ (sa_b10 ++ (sa_b11 ++ (sa_b12 ++ (sa_b13 ++ (sa_b14 ++ (sa_b15 ++ (sa_b16 ++ (sa_b17 ++ (sa_b18 ++ (sa_b19 ++ (sa_b20 ++ (sa_b21 ++ (sa_b22 ++ (sa_b23 ++ (sa_b24 ++ (sa_b25 ++ (sa_b26 ++ (sa_b27 ++ (sa_b28 ++ (sa_b29 ++ (sa_b30 ++ (sa_b31 ++ (sa_b32))))))))))))))))))))))))))))))))
theorem sa_big_in : ∀ w ∈ sa_big, w ∈ lw_tbl := List.forall_mem_append.mpr ⟨sa_bi0, List.forall_mem_append.mpr ⟨sa_bi1, List.forall_mem_append.mpr ⟨sa_bi2, List.forall_mem_append.mpr ⟨sa_bi3, List.forall_mem_append.mpr ⟨sa_bi4, List.forall_mem_append.mpr ⟨sa_bi5, List.forall_mem_append.mpr ⟨sa_bi6, List.forall_mem_append.mpr ⟨sa_bi7, List.forall_mem_append.mpr ⟨sa_bi8, List.forall_mem_append.mpr ⟨sa_bi9, List.forall_mem_append.mpr ⟨sa_bi10, List.forall_mem_append.mpr ⟨sa_bi11, List.forall_mem_append.mpr ⟨sa_bi12, List.forall_mem_append.mpr ⟨sa_bi13, List.forall_mem_append.mpr ⟨sa_bi14, List.forall_mem_append.mpr ⟨sa_bi15, List.forall_mem_append.mpr ⟨sa_bi16, List.forall_mem_append.mpr ⟨sa_bi17, List.forall_mem_append.mpr ⟨sa_bi18, List.forall_mem_append.mpr ⟨sa_bi19, List.forall_mem_append.mpr ⟨sa_bi20, List.forall_mem_append.mpr ⟨sa_bi21, List.forall_mem_append.mpr ⟨sa_bi22, List.forall_mem_append.mpr ⟨sa_bi23, List.forall_mem_append.mpr ⟨sa_bi24, List.forall_mem_append.mpr ⟨sa_bi25, List.forall_mem_append.mpr ⟨sa_bi26, List.forall_mem_append.mpr ⟨sa_bi27, List.forall_mem_append.mpr ⟨sa_bi28, List.forall_mem_append.mpr ⟨sa_bi29, List.forall_mem_append.mpr ⟨sa_bi30, List.forall_mem_append.mpr ⟨sa_bi31, sa_bi32⟩⟩⟩⟩⟩⟩⟩⟩⟩⟩⟩⟩⟩⟩⟩⟩⟩⟩⟩⟩⟩⟩⟩⟩⟩⟩⟩⟩⟩⟩⟩⟩
theorem sa_big_good : ∀ w ∈ sa_big, goodWord w = true := List.forall_mem_append.mpr ⟨sa_bg0, List.forall_mem_append.mpr ⟨sa_bg1, List.forall_mem_append.mpr ⟨sa_bg2, List.forall_mem_append.mpr ⟨sa_bg3, List.forall_mem_append.mpr ⟨sa_bg4, List.forall_mem_append.mpr ⟨sa_bg5, List.forall_mem_append.mpr ⟨sa_bg6, List.forall_mem_append.mpr ⟨sa_bg7, List.forall_mem_append.mpr ⟨sa_bg8, List.forall_mem_append.mpr ⟨sa_bg9, List.forall_mem_append.mpr ⟨sa_bg10, List.forall_mem_append.mpr ⟨sa_bg11, List.forall_mem_append.mpr ⟨sa_bg12, List.forall_mem_append.mpr ⟨sa_bg13, List.forall_mem_append.mpr ⟨sa_bg14, List.forall_mem_append.mpr ⟨sa_bg15, List.forall_mem_append.mpr ⟨sa_bg16, List.forall_mem_append.mpr ⟨sa_bg17, List.forall_mem_append.mpr ⟨sa_bg18, List.forall_mem_append.mpr ⟨sa_bg19, List.forall_mem_append.mpr ⟨sa_bg20, List.forall_mem_append.mpr ⟨sa_bg21, List.forall_mem_append.mpr ⟨sa_bg22, List.forall_mem_append.mpr ⟨sa_bg23, List.forall_mem_append.mpr ⟨sa_bg24, List.forall_mem_append.mpr ⟨sa_bg25, List.forall_mem_append.mpr ⟨sa_bg26, List.forall_mem_append.mpr ⟨sa_bg27, List.forall_mem_append.mpr ⟨sa_bg28, List.forall_mem_append.mpr ⟨sa_bg29, List.forall_mem_append.mpr ⟨sa_bg30, List.forall_mem_append.mpr ⟨sa_bg31, sa_bg32⟩⟩⟩⟩⟩⟩⟩⟩⟩⟩⟩⟩⟩⟩⟩⟩⟩⟩⟩⟩⟩⟩⟩⟩⟩⟩⟩⟩⟩⟩⟩⟩
theorem sa_bm0 {w : Cond} (h : w ∈ sa_b0) : w ∈ sa_big := List.mem_append_left _ h
theorem sa_bm1 {w : Cond} (h : w ∈ sa_b1) : w ∈ sa_big := List.mem_append_right _ (List.mem_append_left _ h)
theorem sa_bm2 {w : Cond} (h : w ∈ sa_b2) : w ∈ sa_big := List.mem_append_right _ (List.mem_append_right _ (List.mem_append_left _ h))
theorem sa_bm3 {w : Cond} (h : w ∈ sa_b3) : w ∈ sa_big := List.mem_append_right _ (List.mem_append_right _ (List.mem_append_right _ (List.mem_append_left _ h)))
theorem sa_bm4 {w : Cond} (h : w ∈ sa_b4) : w ∈ sa_big := List.mem_append_right _ (List.mem_append_right _ (List.mem_append_right _ (List.mem_append_right _ (List.mem_append_left _ h))))
theorem sa_bm5 {w : Cond} (h : w ∈ sa_b5) : w ∈ sa_big := List.mem_append_right _ (List.mem_append_right _ (List.mem_append_right _ (List.mem_append_right _ (List.mem_append_right _ (List.mem_append_left _ h)))))
theorem sa_bm6 {w : Cond} (h : w ∈ sa_b6) : w ∈ sa_big := List.mem_append_right _ (List.mem_append_right _ (List.mem_append_right _ (List.mem_append_right _ (List.mem_append_right _ (List.mem_append_right _ (List.mem_append_left _ h))))))
theorem sa_bm7 {w : Cond} (h : w ∈ sa_b7) : w ∈ sa_big := List.mem_append_right _ (List.mem_append_right _ (List.mem_append_right _ (List.mem_append_right _ (List.mem_append_right _ (List.mem_append_right _ (List.mem_append_right _ (List.mem_append_left _ h)))))))
theorem sa_bm8 {w : Cond} (h : w ∈ sa_b8) : w ∈ sa_big := List.mem_append_right _ (List.mem_append_right _ (List.mem_append_right _ (List.mem_append_right _ (List.mem_append_right _ (List.mem_append_right _ (List.mem_append_right _ (List.mem_append_right _ (List.mem_append_left _ h))))))))
theorem sa_bm9 {w : Cond} (h : w ∈ sa_b9) : w ∈ sa_big := List.mem_append_right _ (List.mem_append_right _ (List.mem_append_right _ (List.mem_append_right _ (List.mem_append_right _ (List.mem_append_right _ (List.mem_append_right _ (List.mem_append_right _ (List.mem_append_right _ (List.mem_append_left _ h)))))))))
theorem sa_bm10 {w : Cond} (h : w ∈ sa_b10) : w ∈ sa_big := List.mem_append_right _ (List.mem_append_right _ (List.mem_append_right _ (List.mem_append_right _ (List.mem_append_right _ (List.mem_append_right _ (List.mem_append_right _ (List.mem_append_right _ (List.mem_append_right _ (List.mem_append_right _ (List.mem_append_left _ h))))))))))
theorem sa_bm11 {w : Cond} (h : w ∈ sa_b11) : w ∈ sa_big := List.mem_append_right _ (List.mem_append_right _ (List.mem_append_right _ (List.mem_append_right _ (List.mem_append_right _ (List.mem_append_right _ (List.mem_append_right _ (List.mem_append_right _ (List.mem_append_right _ (List.mem_append_right _ (List.mem_append_right _ (List.mem_append_left _ h)))))))))))
theorem sa_bm12 {w : Cond} (h : w ∈ sa_b12) : w ∈ sa_big := List.mem_append_right _ (List.mem_append_right _ (List.mem_append_right _ (List.mem_append_right _ (List.mem_append_right _ (List.mem_append_right _ (List.mem_append_right _ (List.mem_append_right _ (List.mem_append_right _ (List.mem_append_right _ (List.mem_append_right _ (List.mem_append_right _ (List.mem_append_left _ h))))))))))))
theorem sa_bm13 {w : Cond} (h : w ∈ sa_b13) : w ∈ sa_big := List.mem_append_right _ (List.mem_append_right _ (List.mem_append_right _ (List.mem_append_right _ (List.mem_append_right _ (List.mem_append_right _ (List.mem_append_right _ (List.mem_append_right _ (List.mem_append_right _ (List.mem_append_right _ (List.mem_append_right _ (List.mem_append_right _ (List.mem_append_right _ (List.mem_append_left _ h)))))))))))))
theorem sa_bm14 {w : Cond} (h : w ∈ sa_b14) : w ∈ sa_big := List.mem_append_right _ (List.mem_append_right _ (List.mem_append_right _ (List.mem_append_right _ (List.mem_append_right _ (List.mem_append_right _ (List.mem_append_right _ (List.mem_append_right _ (List.mem_append_right _ (List.mem_append_right _ (List.mem_append_right _ (List.mem_append_right _ (List.mem_append_right _ (List.mem_append_right _ (List.mem_append_left _ h))))))))))))))
theorem sa_bm15 {w : Cond} (h : w ∈ sa_b15) : w ∈ sa_big := List.mem_append_right _ (List.mem_append_right _ (List.mem_append_right _ (List.mem_append_right _ (List.mem_append_right _ (List.mem_append_right _ (List.mem_append_right _ (List.mem_append_right _ (List.mem_append_right _ (List.mem_append_right _ (List.mem_append_right _ (List.mem_append_right _ (List.mem_append_right _ (List.mem_append_right _ (List.mem_append_right _ (List.mem_append_left _ h)))))))))))))))
theorem sa_bm16 {w : Cond} (h : w ∈ sa_b16) : w ∈ sa_big := List.mem_append_right _ (List.mem_append_right _ (List.mem_append_right _ (List.mem_append_right _ (List.mem_append_right _ (List.mem_append_right _ (List.mem_append_right _ (List.mem_append_right _ (List.mem_append_right _ (List.mem_append_right _ (List.mem_append_right _ (List.mem_append_right _ (List.mem_append_right _ (List.mem_append_right _ (List.mem_append_right _ (List.mem_append_right _ (List.mem_append_left _ h))))))))))))))))
theorem sa_bm17 {w : Cond} (h : w ∈ sa_b17) : w ∈ sa_big := List.mem_append_right _ (List.mem_append_right _ (List.mem_append_right _ (List.mem_append_right _ (List.mem_append_right _ (List.mem_append_right _ (List.mem_append_right _ (List.mem_append_right _ (List.mem_append_right _ (List.mem_append_right _ (List.mem_append_right _ (List.mem_append_right _ (List.mem_append_right _ (List.mem_append_right _ (List.mem_append_right _ (List.mem_append_right _ (List.mem_append_right _ (List.mem_append_left _ h)))))))))))))))))
theorem sa_bm18 {w : Cond} (h : w ∈ sa_b18) : w ∈ sa_big := List.mem_append_right _ (List.mem_append_right _ (List.mem_append_right _ (List.mem_append_right _ (List.mem_append_right _ (List.mem_append_right _ (List.mem_append_right _ (List.mem_append_right _ (List.mem_append_right _ (List.mem_append_right _ (List.mem_append_right _ (List.mem_append_right _ (List.mem_append_right _ (List.mem_append_right _ (List.mem_append_right _ (List.mem_append_right _ (List.mem_append_right _ (List.mem_append_right _ (List.mem_append_left _ h))))))))))))))))))
theorem sa_bm19 {w : Cond} (h : w ∈ sa_b19) : w ∈ sa_big := List.mem_append_right _ (List.mem_append_right _ (List.mem_append_right _ (List.mem_append_right _ (List.mem_append_right _ (List.mem_append_right _ (List.mem_append_right _ (List.mem_append_right _ (List.mem_append_right _ (List.mem_append_right _ (List.mem_append_right _ (List.mem_append_right _ (List.mem_append_right _ (List.mem_append_right _ (List.mem_append_right _ (List.mem_append_right _ (List.mem_append_right _ (List.mem_append_right _ (List.mem_append_right _ (List.mem_append_left _ h)))))))))))))))))))
theorem sa_bm20 {w : Cond} (h : w ∈ sa_b20) : w ∈ sa_big := List.mem_append_right _ (List.mem_append_right _ (List.mem_append_right _ (List.mem_append_right _ (List.mem_append_right _ (List.mem_append_right _ (List.mem_append_right _ (List.mem_append_right _ (List.mem_append_right _ (List.mem_append_right _ (List.mem_append_right _ (List.mem_append_right _ (List.mem_append_right _ (List.mem_append_right _ (List.mem_append_right _ (List.mem_append_right _ (List.mem_append_right _ (List.mem_append_right _ (List.mem_append_right _ (List.mem_append_right _ (List.mem_append_left _ h))))))))))))))))))))
theorem sa_bm21 {w : Cond} (h : w ∈ sa_b21) : w ∈ sa_big := List.mem_append_right _ (List.mem_append_right _ (List.mem_append_right _ (List.mem_append_right _ (List.mem_append_right _ (List.mem_append_right _ (List.mem_append_right _ (List.mem_append_right _ (List.mem_append_right _ (List.mem_append_right _ (List.mem_append_right _ (List.mem_append_right _ (List.mem_append_right _ (List.mem_append_right _ (List.mem_append_right _ (List.mem_append_right _ (List.mem_append_right _ (List.mem_append_right _ (List.mem_append_right _ (List.mem_append_right _ (List.mem_append_right _ (List.mem_append_left _ h)))))))))))))))))))))
theorem sa_bm22 {w : Cond} (h : w ∈ sa_b22) : w ∈ sa_big := List.mem_append_right _ (List.mem_append_right _ (List.mem_append_right _ (List.mem_append_right _ (List.mem_append_right _ (List.mem_append_right _ (List.mem_append_right _ (List.mem_append_right _ (List.mem_append_right _ (List.mem_append_right _ (List.mem_append_right _ (List.mem_append_right _ (List.mem_append_right _ (List.mem_append_right _ (List.mem_append_right _ (List.mem_append_right _ (List.mem_append_right _ (List.mem_append_right _ (List.mem_append_right _ (List.mem_append_right _ (List.mem_append_right _ (List.mem_append_right _ (List.mem_append_left _ h))))))))))))))))))))))
theorem sa_bm23 {w : Cond} (h : w ∈ sa_b23) : w ∈ sa_big := List.mem_append_right _ (List.mem_append_right _ (List.mem_append_right _ (List.mem_append_right _ (List.mem_append_right _ (List.mem_append_right _ (List.mem_append_right _ (List.mem_append_right _ (List.mem_append_right _ (List.mem_append_right _ (List.mem_append_right _ (List.mem_append_right _ (List.mem_append_right _ (List.mem_append_right _ (List.mem_append_right _ (List.mem_append_right _ (List.mem_append_right _ (List.mem_append_right _ (List.mem_append_right _ (List.mem_append_right _ (List.mem_append_right _ (List.mem_append_right _ (List.mem_append_right _ (List.mem_append_left _ h)))))))))))))))))))))))
theorem sa_bm24 {w : Cond} (h : w ∈ sa_b24) : w ∈ sa_big := List.mem_append_right _ (List.mem_append_right _ (List.mem_append_right _ (List.mem_append_right _ (List.mem_append_right _ (List.mem_append_right _ (List.mem_append_right _ (List.mem_append_right _ (List.mem_append_right _ (List.mem_append_right _ (List.mem_append_right _ (List.mem_append_right _ (List.mem_append_right _ (List.mem_append_right _ (List.mem_append_right _ (List.mem_append_right _ (List.mem_append_right _ (List.mem_append_right _ (List.mem_append_right _ (List.mem_append_right _ (List.mem_append_right _ (List.mem_append_right _ (List.mem_append_right _ (List.mem_append_right _ (List.mem_append_left _ h))))))))))))))))))))))))
theorem sa_bm25 {w : Cond} (h : w ∈ sa_b25) : w ∈ sa_big := List.mem_append_right _ (List.mem_append_right _ (List.mem_append_right _ (List.mem_append_right _ (List.mem_append_right _ (List.mem_append_right _ (List.mem_append_right _ (List.mem_append_right _ (List.mem_append_right _ (List.mem_append_right _ (List.mem_append_right _ (List.mem_append_right _ (List.mem_append_right _ (List.mem_append_right _ (List.mem_append_right _ (List.mem_append_right _ (List.mem_append_right _ (List.mem_append_right _ (List.mem_append_right _ (List.mem_append_right _ (List.mem_append_right _ (List.mem_append_right _ (List.mem_append_right _ (List.mem_append_right _ (List.mem_append_right _ (List.mem_append_left _ h)))))))))))))))))))))))))
theorem sa_bm26 {w : Cond} (h : w ∈ sa_b26) : w ∈ sa_big := List.mem_append_right _ (List.mem_append_right _ (List.mem_append_right _ (List.mem_append_right _ (List.mem_append_right _ (List.mem_append_right _ (List.mem_append_right _ (List.mem_append_right _ (List.mem_append_right _ (List.mem_append_right _ (List.mem_append_right _ (List.mem_append_right _ (List.mem_append_right _ (List.mem_append_right _ (List.mem_append_right _ (List.mem_append_right _ (List.mem_append_right _ (List.mem_append_right _ (List.mem_append_right _ (List.mem_append_right _ (List.mem_append_right _ (List.mem_append_right _ (List.mem_append_right _ (List.mem_append_right _ (List.mem_append_right _ (List.mem_append_right _ (List.mem_append_left _ h))))))))))))))))))))))))))
theorem sa_bm27 {w : Cond} (h : w ∈ sa_b27) : w ∈ sa_big := List.mem_append_right _ (List.mem_append_right _ (List.mem_append_right _ (List.mem_append_right _ (List.mem_append_right _ (List.mem_append_right _ (List.mem_append_right _ (List.mem_append_right _ (List.mem_append_right _ (List.mem_append_right _ (List.mem_append_right _ (List.mem_append_right _ (List.mem_append_right _ (List.mem_append_right _ (List.mem_append_right _ (List.mem_append_right _ (List.mem_append_right _ (List.mem_append_right _ (List.mem_append_right _ (List.mem_append_right _ (List.mem_append_right _ (List.mem_append_right _ (List.mem_append_right _ (List.mem_append_right _ (List.mem_append_right _ (List.mem_append_right _ (List.mem_append_right _ (List.mem_append_left _ h)))))))))))))))))))))))))))
theorem sa_bm28 {w : Cond} (h : w ∈ sa_b28) : w ∈ sa_big := List.mem_append_right _ (List.mem_append_right _ (List.mem_append_right _ (List.mem_append_right _ (List.mem_append_right _ (List.mem_append_right _ (List.mem_append_right _ (List.mem_append_right _ (List.mem_append_right _ (List.mem_append_right _ (List.mem_append_right _ (List.mem_append_right _ (List.mem_append_right _ (List.mem_append_right _ (List.mem_append_right _ (List.mem_append_right _ (List.mem_append_right _ (List.mem_append_right _ (List.mem_append_right _ (List.mem_append_right _ (List.mem_append_right _ (List.mem_append_right _ (List.mem_append_right _ (List.mem_append_right _ (List.mem_append_right _ (List.mem_append_right _ (List.mem_append_right _ (List.mem_append_right _ (List.mem_append_left _ h))))))))))))))))))))))))))))
theorem sa_bm29 {w : Cond} (h : w ∈ sa_b29) : w ∈ sa_big := List.mem_append_right _ (List.mem_append_right _ (List.mem_append_right _ (List.mem_append_right _ (List.mem_append_right _ (List.mem_append_right _ (List.mem_append_right _ (List.mem_append_right _ (List.mem_append_right _ (List.mem_append_right _ (List.mem_append_right _ (List.mem_append_right _ (List.mem_append_right _ (List.mem_append_right _ (List.mem_append_right _ (List.mem_append_right _ (List.mem_append_right _ (List.mem_append_right _ (List.mem_append_right _ (List.mem_append_right _ (List.mem_append_right _ (List.mem_append_right _ (List.mem_append_right _ (List.mem_append_right _ (List.mem_append_right _ (List.mem_append_right _ (List.mem_append_right _ (List.mem_append_right _ (List.mem_append_right _ (List.mem_append_left _ h)))))))))))))))))))))))))))))
theorem sa_bm30 {w : Cond} (h : w ∈ sa_b30) : w ∈ sa_big := List.mem_append_right _ (List.mem_append_right _ (List.mem_append_right _ (List.mem_append_right _ (List.mem_append_right _ (List.mem_append_right _ (List.mem_append_right _ (List.mem_append_right _ (List.mem_append_right _ (List.mem_append_right _ (List.mem_append_right _ (List.mem_append_right _ (List.mem_append_right _ (List.mem_append_right _ (List.mem_append_right _ (List.mem_append_right _ (List.mem_append_right _ (List.mem_append_right _ (List.mem_append_right _ (List.mem_append_right _ (List.mem_append_right _ (List.mem_append_right _ (List.mem_append_right _ (List.mem_append_right _ (List.mem_append_right _ (List.mem_append_right _ (List.mem_append_right _ (List.mem_append_right _ (List.mem_append_right _ (List.mem_append_right _ (List.mem_append_left _ h))))))))))))))))))))))))))))))
theorem sa_bm31 {w : Cond} (h : w ∈ sa_b31) : w ∈ sa_big := List.mem_append_right _ (List.mem_append_right _ (List.mem_append_right _ (List.mem_append_right _ (List.mem_append_right _ (List.mem_append_right _ (List.mem_append_right _ (List.mem_append_right _ (List.mem_append_right _ (List.mem_append_right _ (List.mem_append_right _ (List.mem_append_right _ (List.mem_append_right _ (List.mem_append_right _ (List.mem_append_right _ (List.mem_append_right _ (List.mem_append_right _ (List.mem_append_right _ (List.mem_append_right _ (List.mem_append_right _ (List.mem_append_right _ (List.mem_append_right _ (List.mem_append_right _ (List.mem_append_right _ (List.mem_append_right _ (List.mem_append_right _ (List.mem_append_right _ (List.mem_append_right _ (List.mem_append_right _ (List.mem_append_right _ (List.mem_append_right _ (List.mem_append_left _ h)))))))))))))))))))))))))))))))
theorem sa_bm32 {w : Cond} (h : w ∈ sa_b32) : w ∈ sa_big := List.mem_append_right _ (List.mem_append_right _ (List.mem_append_right _ (List.mem_append_right _ (List.mem_append_right _ (List.mem_append_right _ (List.mem_append_right _ (List.mem_append_right _ (List.mem_append_right _ (List.mem_append_right _ (List.mem_append_right _ (List.mem_append_right _ (List.mem_append_right _ (List.mem_append_right _ (List.mem_append_right _ (List.mem_append_right _ (List.mem_append_right _ (List.mem_append_right _ (List.mem_append_right _ (List.mem_append_right _ (List.mem_append_right _ (List.mem_append_right _ (List.mem_append_right _ (List.mem_append_right _ (List.mem_append_right _ (List.mem_append_right _ (List.mem_append_right _ (List.mem_append_right _ (List.mem_append_right _ (List.mem_append_right _ (List.mem_append_right _ (List.mem_append_right _ (h))))))))))))))))))))))))))))))))
theorem sa_big_code {e : sa_Me} (h : e ∈ sa_M) : sa_cw e ∈ sa_big := by
  have h : e ∈ sa_M0 ++ (sa_M1 ++ (sa_M2 ++ (sa_M3 ++ (sa_M4 ++ (sa_M5 ++ (sa_M6 ++ (sa_M7 ++ (sa_M8 ++ (sa_M9))))))))) := h
  rcases List.mem_append.mp h with h | h
  · exact sa_bm0 (List.mem_map.mpr ⟨_, h, rfl⟩)
  rcases List.mem_append.mp h with h | h
  · exact sa_bm1 (List.mem_map.mpr ⟨_, h, rfl⟩)
  rcases List.mem_append.mp h with h | h
  · exact sa_bm2 (List.mem_map.mpr ⟨_, h, rfl⟩)
  rcases List.mem_append.mp h with h | h
  · exact sa_bm3 (List.mem_map.mpr ⟨_, h, rfl⟩)
  rcases List.mem_append.mp h with h | h
  · exact sa_bm4 (List.mem_map.mpr ⟨_, h, rfl⟩)
  rcases List.mem_append.mp h with h | h
  · exact sa_bm5 (List.mem_map.mpr ⟨_, h, rfl⟩)
  rcases List.mem_append.mp h with h | h
  · exact sa_bm6 (List.mem_map.mpr ⟨_, h, rfl⟩)
  rcases List.mem_append.mp h with h | h
  · exact sa_bm7 (List.mem_map.mpr ⟨_, h, rfl⟩)
  rcases List.mem_append.mp h with h | h
  · exact sa_bm8 (List.mem_map.mpr ⟨_, h, rfl⟩)
  exact sa_bm9 (List.mem_map.mpr ⟨_, h, rfl⟩)
theorem sa_big_I {q : (Nat × Nat) × (Nat × Nat × Nat)} (h : q ∈ sa_pI) : ∀ w ∈ sa_wI q, w ∈ sa_big := by
  have h : q ∈ sa_pI0 ++ (sa_pI1 ++ (sa_pI2 ++ (sa_pI3 ++ (sa_pI4 ++ (sa_pI5 ++ (sa_pI6 ++ (sa_pI7 ++ (sa_pI8 ++ (sa_pI9))))))))) := h
  rcases List.mem_append.mp h with h | h
  · exact fun w hw => sa_bm10 (List.mem_flatMap.mpr ⟨_, h, hw⟩)
  rcases List.mem_append.mp h with h | h
  · exact fun w hw => sa_bm11 (List.mem_flatMap.mpr ⟨_, h, hw⟩)
  rcases List.mem_append.mp h with h | h
  · exact fun w hw => sa_bm12 (List.mem_flatMap.mpr ⟨_, h, hw⟩)
  rcases List.mem_append.mp h with h | h
  · exact fun w hw => sa_bm13 (List.mem_flatMap.mpr ⟨_, h, hw⟩)
  rcases List.mem_append.mp h with h | h
  · exact fun w hw => sa_bm14 (List.mem_flatMap.mpr ⟨_, h, hw⟩)
  rcases List.mem_append.mp h with h | h
  · exact fun w hw => sa_bm15 (List.mem_flatMap.mpr ⟨_, h, hw⟩)
  rcases List.mem_append.mp h with h | h
  · exact fun w hw => sa_bm16 (List.mem_flatMap.mpr ⟨_, h, hw⟩)
  rcases List.mem_append.mp h with h | h
  · exact fun w hw => sa_bm17 (List.mem_flatMap.mpr ⟨_, h, hw⟩)
  rcases List.mem_append.mp h with h | h
  · exact fun w hw => sa_bm18 (List.mem_flatMap.mpr ⟨_, h, hw⟩)
  exact fun w hw => sa_bm19 (List.mem_flatMap.mpr ⟨_, h, hw⟩)
theorem sa_big_F {q : (Nat × Nat) × (Nat × Nat × Bool)} (h : q ∈ sa_pF) (hn : q.2.2.2 = false) : sa_wF q ∈ sa_big := sa_bm20 (List.mem_map.mpr ⟨_, List.mem_filter.mpr ⟨h, by rw [hn]; rfl⟩, rfl⟩)
theorem sa_big_lay {q : vw_C} (h : q ∈ vwCl) : ∀ w ∈ u_ws q.1 q.2.1 q.2.2, w ∈ sa_big := fun w hw => sa_bm21 (List.mem_flatMap.mpr ⟨_, h, hw⟩)
theorem sa_big_N {q : (Nat × Nat) × Nat} (h : q ∈ sa_pN) : Cond.classLink (sa_C q.1.1) q.1.2 (sa_C q.2) ∈ sa_big := sa_bm22 (List.mem_map.mpr ⟨_, h, rfl⟩)
theorem sa_big_ins {q : vw_C} (h : q ∈ vwCl) : Cond.instantiable q.1 q.2.2 ∈ sa_big := sa_bm23 (List.mem_map.mpr ⟨_, h, rfl⟩)
theorem sa_big_ini {c : String} (h : c ∈ sa_cn) : Cond.initialized c ∈ sa_big := sa_bm24 (List.mem_map.mpr ⟨_, h, rfl⟩)
theorem sa_big_K {q : (Nat × Nat) × Int32} (h : q ∈ sa_pK) : Cond.constant (sa_C q.1.1) q.1.2 q.2 ∈ sa_big := sa_bm25 (List.mem_map.mpr ⟨_, h, rfl⟩)
theorem sa_big_KL {q : (Nat × Nat) × Int64} (h : q ∈ sa_pKL) : Cond.constantLong (sa_C q.1.1) q.1.2 q.2 ∈ sa_big := sa_bm26 (List.mem_map.mpr ⟨_, h, rfl⟩)
theorem sa_big_ar {w : Cond} (h : w ∈ [Cond.arrayClass .byte, Cond.arrayClass .int, Cond.arrayClass .long, Cond.arrayClass .boolean]) : w ∈ sa_big := sa_bm27 h
theorem sa_big_E {q : (Nat × Nat) × (Nat × Nat)} (h : q ∈ sa_pE) : Cond.classLink (sa_C q.1.1) q.1.2 (sa_exn q.2.1) ∈ sa_big := sa_bm28 (List.mem_map.mpr ⟨_, h, rfl⟩)
theorem sa_big_Ei {w : Cond} (h : w ∈ [Cond.initialized (sa_exn 0), Cond.initialized (sa_exn 1)]) : w ∈ sa_big := sa_bm29 h
theorem sa_big_X {q : (Nat × Nat) × Nat} (h : q ∈ sa_pX) : Cond.fieldLink (sa_C q.1.1) q.1.2 "java/lang/String" (if q.2 = 0 then "value" else "coder") (if q.2 = 0 then "[B" else "B") ∈ sa_big := sa_bm30 (List.mem_map.mpr ⟨_, h, rfl⟩)
theorem sa_big_S {w : Cond} (h : w ∈ sa_b31) : w ∈ sa_big := sa_bm31 h
theorem sa_big_T {w : Cond} (h : w ∈ sa_b32) : w ∈ sa_big := sa_bm32 h
