/-! needs 30 -/
/-! the start: what the Statement gives of the tokens, the texts and the tables -/
def FLC : List Cond := flatC (Cond.and given_1 narrow_1)
theorem fl_in {args : Array Value} {s : State} (hg : (Cond.and given_1 narrow_1).before args s = true) {w : Cond} (i : Nat) (h : FLC[i]? = some w) : w.before args s = true := flat_of_before _ hg w (List.mem_of_getElem? h)
set_option maxRecDepth 100000 in
theorem fp_ex : ∀ i, i < 51 → FLC[([85, 90, 249, 254, 259, 264, 269, 274, 279, 209, 284, 289, 294, 299, 304, 309, 314, 319, 324, 329, 334, 339, 344, 349, 354, 184, 199, 204, 359, 364, 95, 100, 164, 169, 189, 194, 179, 174, 369, 159, 374, 379, 384, 389, 394, 399, 404, 14, 80, 4, 9] : List Nat).getD i 0]? = some (.exactly (.static "PeatBog$Token" (tkNm.getD i "") "LPeatBog$Token;") "PeatBog$Token") := by decide +kernel
set_option maxRecDepth 100000 in
theorem fp_ord : ∀ i, i < 51 → FLC[([86, 91, 250, 255, 260, 265, 270, 275, 280, 210, 285, 290, 295, 300, 305, 310, 315, 320, 325, 330, 335, 340, 345, 350, 355, 185, 200, 205, 360, 365, 96, 101, 165, 170, 190, 195, 180, 175, 370, 160, 375, 380, 385, 390, 395, 400, 405, 15, 81, 5, 10] : List Nat).getD i 0]? = some (.eq (.field (.static "PeatBog$Token" (tkNm.getD i "") "LPeatBog$Token;") "java/lang/Enum" "ordinal" "I") (.int (nI i))) := by decide +kernel
set_option maxRecDepth 100000 in
theorem fp_grp : ∀ i, i < 51 → FLC[([88, 93, 252, 257, 262, 267, 272, 277, 282, 212, 287, 292, 297, 302, 307, 312, 317, 322, 327, 332, 337, 342, 347, 352, 357, 187, 202, 207, 362, 367, 98, 103, 167, 172, 192, 197, 182, 177, 372, 162, 377, 382, 387, 392, 397, 402, 407, 17, 83, 7, 12] : List Nat).getD i 0]? = some (.eq (.field (.static "PeatBog$Token" (tkNm.getD i "") "LPeatBog$Token;") "PeatBog$Token" "group" "I") (.int (tkG.getD i 0))) := by decide +kernel
set_option maxRecDepth 100000 in
theorem fp_op : ∀ i, i < 51 → FLC[([89, 94, 253, 258, 263, 268, 273, 278, 283, 213, 288, 293, 298, 303, 308, 313, 318, 323, 328, 333, 338, 343, 348, 353, 358, 188, 203, 208, 363, 368, 99, 104, 168, 173, 193, 198, 183, 178, 373, 163, 378, 383, 388, 393, 398, 403, 408, 18, 84, 8, 13] : List Nat).getD i 0]? = some (.eq (.field (.static "PeatBog$Token" (tkNm.getD i "") "LPeatBog$Token;") "PeatBog$Token" "op" "I") (.int (tkO.getD i 0))) := by decide +kernel
def kTx : List Nat := [208, 214, 217, 220, 223, 226, 229, 232, 235, 238, 241, 244, 247, 252, 255, 258, 261, 264, 267, 270, 273, 276, 279, 282, 285, 288, 291, 294, 297, 300, 303, 306, 309, 312, 315, 318, 321, 324, 327, 330, 333, 336, 339, 342, 345, 348, 351, 354]
def kMx : List Nat := [398, 399, 401, 402, 403, 405, 406, 407, 409, 411, 413, 414, 416, 418, 420, 421, 422, 423, 424, 426, 427, 428, 429, 430, 431, 433, 435, 437, 439, 440]
set_option maxRecDepth 100000 in
theorem fp_txt : ∀ i, i < 51 → FLC[([87, 92, 251, 256, 261, 266, 271, 276, 281, 211, 286, 291, 296, 301, 306, 311, 316, 321, 326, 331, 336, 341, 346, 351, 356, 186, 201, 206, 361, 366, 97, 102, 166, 171, 191, 196, 181, 176, 371, 161, 376, 381, 386, 391, 396, 401, 406, 16, 82, 6, 11] : List Nat).getD i 0]? = some (.eq (.field (.static "PeatBog$Token" (tkNm.getD i "") "LPeatBog$Token;") "PeatBog$Token" "text" "Ljava/lang/String;") (.string "PeatBog$Token" (kTx.getD (tkT i) 0))) := by decide +kernel
set_option maxRecDepth 100000 in
theorem fp_sx : ∀ i, i < 48 → FLC[([1034, 1042, 1353, 1360, 1368, 1377, 1386, 1397, 1406, 1113, 1413, 1424, 1434, 1440, 1446, 1455, 1466, 1474, 1484, 1493, 1502, 1510, 1519, 1528, 1536, 1083, 1100, 1107, 1545, 1553, 1048, 1053, 1063, 1068, 1090, 1095, 1078, 1073, 1561, 1058, 1566, 1571, 1576, 1581, 1586, 1591, 1597, 1030] : List Nat).getD i 0]? = some (.exactly (.string "PeatBog$Token" (kTx.getD i 0)) "java/lang/String") := by decide +kernel
set_option maxRecDepth 100000 in
theorem fp_sc : ∀ i, i < 48 → FLC[([1035, 1043, 1354, 1361, 1369, 1378, 1387, 1398, 1407, 1114, 1414, 1425, 1435, 1441, 1447, 1456, 1467, 1475, 1485, 1494, 1503, 1511, 1520, 1529, 1537, 1084, 1101, 1108, 1546, 1554, 1049, 1054, 1064, 1069, 1091, 1096, 1079, 1074, 1562, 1059, 1567, 1572, 1577, 1582, 1587, 1592, 1598, 1031] : List Nat).getD i 0]? = some (.eq (.field (.string "PeatBog$Token" (kTx.getD i 0)) "java/lang/String" "coder" "B") (.int 0)) := by decide +kernel
set_option maxRecDepth 100000 in
theorem fp_sa : ∀ i, i < 48 → FLC[([1036, 1044, 1355, 1362, 1370, 1379, 1388, 1399, 1408, 1115, 1415, 1426, 1436, 1442, 1448, 1457, 1468, 1476, 1486, 1495, 1504, 1512, 1521, 1530, 1538, 1085, 1102, 1109, 1547, 1555, 1050, 1055, 1065, 1070, 1092, 1097, 1080, 1075, 1563, 1060, 1568, 1573, 1578, 1583, 1588, 1593, 1599, 1032] : List Nat).getD i 0]? = some (.arrayOf (.field (.string "PeatBog$Token" (kTx.getD i 0)) "java/lang/String" "value" "[B") .byte) := by decide +kernel
set_option maxRecDepth 100000 in
theorem fp_sl : ∀ i, i < 48 → FLC[([1037, 1045, 1356, 1363, 1371, 1380, 1389, 1400, 1409, 1116, 1416, 1427, 1437, 1443, 1449, 1458, 1469, 1477, 1487, 1496, 1505, 1513, 1522, 1531, 1539, 1086, 1103, 1110, 1548, 1556, 1051, 1056, 1066, 1071, 1093, 1098, 1081, 1076, 1564, 1061, 1569, 1574, 1579, 1584, 1589, 1594, 1600, 1033] : List Nat).getD i 0]? = some (.eq (.length (.field (.string "PeatBog$Token" (kTx.getD i 0)) "java/lang/String" "value" "[B")) (.int (Int32.ofNat (txB.getD i []).length))) := by decide +kernel
set_option maxRecDepth 100000 in
theorem fp_sb : ∀ i, i < 48 → ∀ j, j < (txB.getD i []).length → FLC[(([[1038, 1039, 1040, 1041], [1046, 1047], [1357, 1358], [1364, 1365, 1366], [1372, 1373, 1374, 1375], [1381, 1382, 1383, 1384], [1390, 1391, 1392, 1393, 1394, 1395], [1401, 1402, 1403, 1404], [1410, 1411], [1117, 1118, 1119, 1120], [1417, 1418, 1419, 1420, 1421, 1422], [1428, 1429, 1430, 1431, 1432], [1438], [1444], [1450, 1451, 1452, 1453], [1459, 1460, 1461, 1462, 1463, 1464], [1470, 1471, 1472], [1478, 1479, 1480, 1481, 1482], [1488, 1489, 1490, 1491], [1497, 1498, 1499, 1500], [1506, 1507, 1508], [1514, 1515, 1516, 1517], [1523, 1524, 1525, 1526], [1532, 1533, 1534], [1540, 1541, 1542, 1543], [1087, 1088, 1089], [1104, 1105, 1106], [1111, 1112], [1549, 1550, 1551], [1557, 1558, 1559], [1052], [1057], [1067], [1072], [1094], [1099], [1082], [1077], [1565], [1062], [1570], [1575], [1580], [1585], [1590], [1595, 1596], [1601, 1602], []] : List (List Nat)).getD i []).getD j 0]? = some (.eq (.elem (.field (.string "PeatBog$Token" (kTx.getD i 0)) "java/lang/String" "value" "[B") (.int (Int32.ofNat j))) (.int ((txB.getD i []).getD j 0))) := by decide +kernel
set_option maxRecDepth 100000 in
theorem fp_all : ∀ i, i < 51 → FLC[([24, 25, 26, 27, 28, 29, 30, 31, 32, 33, 34, 35, 36, 37, 38, 39, 40, 41, 42, 43, 44, 45, 46, 47, 48, 49, 50, 51, 52, 53, 54, 55, 56, 57, 58, 59, 60, 61, 62, 63, 64, 65, 66, 67, 68, 69, 70, 71, 72, 73, 74] : List Nat).getD i 0]? = some (.eq (.elem (.static "PeatBog$Token" "ALL" "[LPeatBog$Token;") (.int (Int32.ofNat i))) (.static "PeatBog$Token" (tkNm.getD i "") "LPeatBog$Token;")) := by decide +kernel
set_option maxRecDepth 100000 in
theorem fp_sw : ∀ i, i < 51 → FLC[([108, 109, 110, 111, 112, 113, 114, 115, 116, 117, 118, 119, 120, 121, 122, 123, 124, 125, 126, 127, 128, 129, 130, 131, 132, 133, 134, 135, 136, 137, 138, 139, 140, 141, 142, 143, 144, 145, 146, 147, 148, 149, 150, 151, 152, 153, 154, 155, 156, 157, 158] : List Nat).getD i 0]? = some (.eq (.elem (.static "PeatBog$1" "$SwitchMap$PeatBog$Token" "[I") (.int (Int32.ofNat i))) (.int (tkW.getD i 0))) := by decide +kernel
set_option maxRecDepth 100000 in
theorem fp_kw : ∀ i, i < 30 → FLC[([219, 220, 221, 222, 223, 224, 225, 226, 227, 228, 229, 230, 231, 232, 233, 234, 235, 236, 237, 238, 239, 240, 241, 242, 243, 244, 245, 246, 247, 248] : List Nat).getD i 0]? = some (.eq (.elem (.static "PeatBogModel" "KEYWORDS" "[Ljava/lang/String;") (.int (Int32.ofNat i))) (.string "PeatBogModel" (kMx.getD i 0))) := by decide +kernel
set_option maxRecDepth 100000 in
theorem fp_ke : ∀ i, i < 30 → FLC[([1129, 1136, 1359, 1367, 1376, 1385, 1396, 1405, 1412, 1198, 1423, 1433, 1439, 1445, 1454, 1465, 1473, 1483, 1492, 1501, 1509, 1518, 1527, 1535, 1544, 1323, 1331, 1338, 1552, 1560] : List Nat).getD i 0]? = some (.eq (.string "PeatBog$Token" (kTx.getD i 0)) (.string "PeatBogModel" (kMx.getD i 0))) ∨ FLC[([1129, 1136, 1359, 1367, 1376, 1385, 1396, 1405, 1412, 1198, 1423, 1433, 1439, 1445, 1454, 1465, 1473, 1483, 1492, 1501, 1509, 1518, 1527, 1535, 1544, 1323, 1331, 1338, 1552, 1560] : List Nat).getD i 0]? = some (.eq (.string "PeatBogModel" (kMx.getD i 0)) (.string "PeatBog$Token" (kTx.getD i 0))) := by decide +kernel
set_option maxRecDepth 100000 in
theorem fp_kx : ∀ i, i < 30 → FLC[([1121, 1130, 1137, 1143, 1150, 1158, 1166, 1176, 1184, 1190, 1199, 1209, 1218, 1223, 1228, 1236, 1246, 1253, 1262, 1270, 1278, 1285, 1293, 1301, 1308, 1316, 1324, 1332, 1339, 1346] : List Nat).getD i 0]? = some (.exactly (.string "PeatBogModel" (kMx.getD i 0)) "java/lang/String") := by decide +kernel
theorem fp_allA : FLC[21]? = some (.arrayOf (.static "PeatBog$Token" "ALL" "[LPeatBog$Token;") (.object "PeatBog$Token")) := by decide +kernel
theorem fp_allL : FLC[22]? = some (.eq (.length (.static "PeatBog$Token" "ALL" "[LPeatBog$Token;")) (.int 51)) := by decide +kernel
theorem fp_swA : FLC[106]? = some (.arrayOf (.static "PeatBog$1" "$SwitchMap$PeatBog$Token" "[I") .int) := by decide +kernel
theorem fp_swL : FLC[107]? = some (.eq (.length (.static "PeatBog$1" "$SwitchMap$PeatBog$Token" "[I")) (.int 51)) := by decide +kernel
theorem fp_kwA : FLC[217]? = some (.arrayOf (.static "PeatBogModel" "KEYWORDS" "[Ljava/lang/String;") (.object "java/lang/String")) := by decide +kernel
theorem fp_kwL : FLC[218]? = some (.eq (.length (.static "PeatBogModel" "KEYWORDS" "[Ljava/lang/String;")) (.int 30)) := by decide +kernel
theorem fp_cs : FLC[75]? = some (.eq (.static "java/lang/String" "COMPACT_STRINGS" "Z") (.int 1)) := by decide +kernel
theorem fp_eISEeIAE : FLC[430]? = some (.not (.castable "java/lang/IllegalStateException" "java/lang/IllegalArgumentException")) := by decide +kernel
theorem fp_eISEeIOE : FLC[442]? = some (.not (.castable "java/lang/IllegalStateException" "java/lang/IndexOutOfBoundsException")) := by decide +kernel
theorem fp_eIAEeISE : FLC[418]? = some (.not (.castable "java/lang/IllegalArgumentException" "java/lang/IllegalStateException")) := by decide +kernel
theorem fp_eIAEeIOE : FLC[443]? = some (.not (.castable "java/lang/IllegalArgumentException" "java/lang/IndexOutOfBoundsException")) := by decide +kernel
theorem fp_eIOEeISE : FLC[420]? = some (.not (.castable "java/lang/IndexOutOfBoundsException" "java/lang/IllegalStateException")) := by decide +kernel
theorem fp_eIOEeIAE : FLC[432]? = some (.not (.castable "java/lang/IndexOutOfBoundsException" "java/lang/IllegalArgumentException")) := by decide +kernel
set_option maxRecDepth 100000 in
theorem fp_mx : ∀ i, i < 17 → FLC[([473, 493, 524, 561, 590, 617, 642, 685, 718, 752, 791, 816, 855, 883, 917, 955, 991] : List Nat).getD i 0]? = some (.exactly (.string "PeatBog" ((msgL.getD i (0, "")).1)) "java/lang/String") := by decide +kernel
set_option maxRecDepth 100000 in
theorem wp_mx : ∀ i, i < 17 → lw_tbl[([819, 866, 890, 904, 905, 914, 915, 923, 924, 939, 947, 948, 956, 1116, 1117, 1149, 1157] : List Nat).getD i 0]? = some (.stringRef "PeatBog" ((msgL.getD i (0, "")).1) ((msgL.getD i (0, "")).2)) := by decide +kernel
set_option maxRecDepth 100000 in
theorem wp_ls : ∀ i, i < 51 → lw_tbl[([558, 594, 1679, 1680, 1681, 1682, 1683, 1684, 1685, 695, 1686, 1687, 1688, 1689, 1690, 1691, 1692, 1693, 1694, 1695, 1696, 1697, 1698, 1699, 1700, 685, 691, 693, 1701, 1702, 619, 625, 657, 659, 687, 689, 667, 661, 1703, 655, 1704, 1705, 1706, 1707, 1708, 1709, 1710, 476, 540, 460, 474] : List Nat).getD i 0]? = some (.laysStatic "PeatBog$Token" (tkNm.getD i "") "LPeatBog$Token;") := by decide +kernel
theorem wp_l_all : lw_tbl[481]? = some (.laysStatic "PeatBog$Token" "ALL" "[LPeatBog$Token;") := by decide +kernel
theorem wp_l_sw : lw_tbl[631]? = some (.laysStatic "PeatBog$1" "$SwitchMap$PeatBog$Token" "[I") := by decide +kernel
theorem wp_l_kw : lw_tbl[1364]? = some (.laysStatic "PeatBogModel" "KEYWORDS" "[Ljava/lang/String;") := by decide +kernel
theorem wp_l_cs : lw_tbl[496]? = some (.laysStatic "java/lang/String" "COMPACT_STRINGS" "Z") := by decide +kernel
theorem wp_l_pf : lw_tbl[512]? = some (.laysStatic "jdk/internal/util/Preconditions" "SIOOBE_FORMATTER" "Ljava/util/function/BiFunction;") := by decide +kernel
theorem wp_i_tok : lw_tbl[126]? = some (.initialized "PeatBog$Token") := by decide +kernel
theorem wp_i_one : lw_tbl[131]? = some (.initialized "PeatBog$1") := by decide +kernel
theorem wp_i_mod : lw_tbl[117]? = some (.initialized "PeatBogModel") := by decide +kernel
theorem wp_i_str : lw_tbl[127]? = some (.initialized "java/lang/String") := by decide +kernel
theorem wp_i_pre : lw_tbl[129]? = some (.initialized "jdk/internal/util/Preconditions") := by decide +kernel
theorem wp_i_thr : lw_tbl[119]? = some (.initialized "java/lang/Throwable") := by decide +kernel
theorem wp_c_ise : lw_tbl[780]? = some (.castable "java/lang/IllegalStateException" "java/lang/IllegalStateException") := by decide +kernel
theorem wp_c_iae : lw_tbl[859]? = some (.castable "java/lang/IllegalArgumentException" "java/lang/IllegalArgumentException") := by decide +kernel
theorem wp_c_ioe : lw_tbl[883]? = some (.castable "java/lang/IndexOutOfBoundsException" "java/lang/IndexOutOfBoundsException") := by decide +kernel
theorem wp_a_int : lw_tbl[174]? = some (.arrayClass .int) := by decide +kernel
theorem wp_a_byte : lw_tbl[173]? = some (.arrayClass .byte) := by decide +kernel
theorem wp_a_long : lw_tbl[1670]? = some (.arrayClass .long) := by decide +kernel
theorem wp_o_gang : lw_tbl[244]? = some (.arrayOver (.object "PeatBog$Gang")) := by decide +kernel
theorem wp_o_tok : lw_tbl[156]? = some (.arrayOver (.object "PeatBog$Token")) := by decide +kernel
set_option maxRecDepth 100000 in
theorem wp_ntl : NTL = ([145, 151, 177, 182, 184, 186, 187, 189, 191, 193, 195, 217, 219, 236, 246, 251, 252, 254, 255, 257, 258, 260, 262, 263, 265, 267, 268, 270, 273, 275, 300, 301, 304, 305, 307, 308, 310, 311, 313, 314, 316, 318, 320, 321, 323, 324, 326, 327, 329, 330, 332, 334, 335, 336, 338, 340, 341, 343, 386, 608, 736, 929, 981, 1017, 1046, 1085, 1097, 1166, 1171, 1173, 1175, 1177, 1179, 1181, 1183, 1185, 1187, 1189, 1191, 1193, 1195] : List Nat).filterMap (fun i => lw_tbl[i]?) := by decide +kernel
