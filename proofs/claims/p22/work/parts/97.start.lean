/-! needs 30 -/
/-! the start: what the Statement gives of the tokens, the texts and the tables -/
def FLC : List Cond := flatC (Cond.and given_1 narrow_1)
theorem fl_in {args : Array Value} {s : State} (hg : (Cond.and given_1 narrow_1).before args s = true) {w : Cond} (i : Nat) (h : FLC[i]? = some w) : w.before args s = true := flat_of_before _ hg w (List.mem_of_getElem? h)
set_option maxRecDepth 100000 in
theorem fp_ex : ∀ i, i < 51 → FLC[([85, 90, 422, 427, 432, 437, 442, 447, 452, 209, 457, 462, 467, 472, 477, 482, 487, 492, 497, 502, 507, 512, 517, 522, 527, 184, 199, 204, 532, 537, 95, 100, 164, 169, 189, 194, 179, 174, 542, 159, 547, 552, 557, 562, 567, 572, 577, 14, 80, 4, 9] : List Nat).getD i 0]? = some (.exactly (.static "PeatBog$Token" (tkNm.getD i "") "LPeatBog$Token;") "PeatBog$Token") := by decide +kernel
set_option maxRecDepth 100000 in
theorem fp_ord : ∀ i, i < 51 → FLC[([86, 91, 423, 428, 433, 438, 443, 448, 453, 210, 458, 463, 468, 473, 478, 483, 488, 493, 498, 503, 508, 513, 518, 523, 528, 185, 200, 205, 533, 538, 96, 101, 165, 170, 190, 195, 180, 175, 543, 160, 548, 553, 558, 563, 568, 573, 578, 15, 81, 5, 10] : List Nat).getD i 0]? = some (.eq (.field (.static "PeatBog$Token" (tkNm.getD i "") "LPeatBog$Token;") "java/lang/Enum" "ordinal" "I") (.int (nI i))) := by decide +kernel
set_option maxRecDepth 100000 in
theorem fp_grp : ∀ i, i < 51 → FLC[([88, 93, 425, 430, 435, 440, 445, 450, 455, 212, 460, 465, 470, 475, 480, 485, 490, 495, 500, 505, 510, 515, 520, 525, 530, 187, 202, 207, 535, 540, 98, 103, 167, 172, 192, 197, 182, 177, 545, 162, 550, 555, 560, 565, 570, 575, 580, 17, 83, 7, 12] : List Nat).getD i 0]? = some (.eq (.field (.static "PeatBog$Token" (tkNm.getD i "") "LPeatBog$Token;") "PeatBog$Token" "group" "I") (.int (tkG.getD i 0))) := by decide +kernel
set_option maxRecDepth 100000 in
theorem fp_op : ∀ i, i < 51 → FLC[([89, 94, 426, 431, 436, 441, 446, 451, 456, 213, 461, 466, 471, 476, 481, 486, 491, 496, 501, 506, 511, 516, 521, 526, 531, 188, 203, 208, 536, 541, 99, 104, 168, 173, 193, 198, 183, 178, 546, 163, 551, 556, 561, 566, 571, 576, 581, 18, 84, 8, 13] : List Nat).getD i 0]? = some (.eq (.field (.static "PeatBog$Token" (tkNm.getD i "") "LPeatBog$Token;") "PeatBog$Token" "op" "I") (.int (tkO.getD i 0))) := by decide +kernel
def kTx : List Nat := [208, 214, 217, 220, 223, 226, 229, 232, 235, 238, 241, 244, 247, 252, 255, 258, 261, 264, 267, 270, 273, 276, 279, 282, 285, 288, 291, 294, 297, 300, 303, 306, 309, 312, 315, 318, 321, 324, 327, 330, 333, 336, 339, 342, 345, 348, 351, 354]
set_option maxRecDepth 100000 in
theorem fp_txt : ∀ i, i < 51 → FLC[([87, 92, 424, 429, 434, 439, 444, 449, 454, 211, 459, 464, 469, 474, 479, 484, 489, 494, 499, 504, 509, 514, 519, 524, 529, 186, 201, 206, 534, 539, 97, 102, 166, 171, 191, 196, 181, 176, 544, 161, 549, 554, 559, 564, 569, 574, 579, 16, 82, 6, 11] : List Nat).getD i 0]? = some (.eq (.field (.static "PeatBog$Token" (tkNm.getD i "") "LPeatBog$Token;") "PeatBog$Token" "text" "Ljava/lang/String;") (.string "PeatBog$Token" (kTx.getD (tkT i) 0))) := by decide +kernel
set_option maxRecDepth 100000 in
theorem fp_sx : ∀ i, i < 48 → FLC[([1299, 1307, 1389, 1395, 1402, 1411, 1419, 1430, 1438, 1381, 1444, 1454, 1463, 1468, 1473, 1481, 1491, 1498, 1507, 1515, 1523, 1530, 1538, 1546, 1553, 1351, 1368, 1375, 1561, 1568, 1313, 1318, 1329, 1334, 1358, 1363, 1345, 1339, 1575, 1324, 1580, 1585, 1590, 1595, 1600, 1605, 1611, 1294] : List Nat).getD i 0]? = some (.exactly (.string "PeatBog$Token" (kTx.getD i 0)) "java/lang/String") := by decide +kernel
set_option maxRecDepth 100000 in
theorem fp_sc : ∀ i, i < 48 → FLC[([1300, 1308, 1390, 1396, 1403, 1412, 1420, 1431, 1439, 1382, 1445, 1455, 1464, 1469, 1474, 1482, 1492, 1499, 1508, 1516, 1524, 1531, 1539, 1547, 1554, 1352, 1369, 1376, 1562, 1569, 1314, 1319, 1330, 1335, 1359, 1364, 1346, 1340, 1576, 1325, 1581, 1586, 1591, 1596, 1601, 1606, 1612, 1295] : List Nat).getD i 0]? = some (.eq (.field (.string "PeatBog$Token" (kTx.getD i 0)) "java/lang/String" "coder" "B") (.int 0)) := by decide +kernel
set_option maxRecDepth 100000 in
theorem fp_sa : ∀ i, i < 48 → FLC[([1301, 1309, 1391, 1397, 1404, 1413, 1421, 1432, 1440, 1383, 1446, 1456, 1465, 1470, 1475, 1483, 1493, 1500, 1509, 1517, 1525, 1532, 1540, 1548, 1555, 1353, 1370, 1377, 1563, 1570, 1315, 1320, 1331, 1336, 1360, 1365, 1347, 1341, 1577, 1326, 1582, 1587, 1592, 1597, 1602, 1607, 1613, 1296] : List Nat).getD i 0]? = some (.arrayOf (.field (.string "PeatBog$Token" (kTx.getD i 0)) "java/lang/String" "value" "[B") .byte) := by decide +kernel
set_option maxRecDepth 100000 in
theorem fp_sl : ∀ i, i < 48 → FLC[([1302, 1310, 1392, 1398, 1405, 1414, 1422, 1433, 1441, 1384, 1447, 1457, 1466, 1471, 1476, 1484, 1494, 1501, 1510, 1518, 1526, 1533, 1541, 1549, 1556, 1354, 1371, 1378, 1564, 1571, 1316, 1321, 1332, 1337, 1361, 1366, 1348, 1342, 1578, 1327, 1583, 1588, 1593, 1598, 1603, 1608, 1614, 1297] : List Nat).getD i 0]? = some (.eq (.length (.field (.string "PeatBog$Token" (kTx.getD i 0)) "java/lang/String" "value" "[B")) (.int (Int32.ofNat (txB.getD i []).length))) := by decide +kernel
set_option maxRecDepth 100000 in
theorem fp_sb : ∀ i, i < 48 → ∀ j, j < (txB.getD i []).length → FLC[(([[1303, 1304, 1305, 1306], [1311, 1312], [1393, 1394], [1399, 1400, 1401], [1406, 1407, 1408, 1409], [1415, 1416, 1417, 1418], [1423, 1424, 1425, 1426, 1427, 1428], [1434, 1435, 1436, 1437], [1442, 1443], [1385, 1386, 1387, 1388], [1448, 1449, 1450, 1451, 1452, 1453], [1458, 1459, 1460, 1461, 1462], [1467], [1472], [1477, 1478, 1479, 1480], [1485, 1486, 1487, 1488, 1489, 1490], [1495, 1496, 1497], [1502, 1503, 1504, 1505, 1506], [1511, 1512, 1513, 1514], [1519, 1520, 1521, 1522], [1527, 1528, 1529], [1534, 1535, 1536, 1537], [1542, 1543, 1544, 1545], [1550, 1551, 1552], [1557, 1558, 1559, 1560], [1355, 1356, 1357], [1372, 1373, 1374], [1379, 1380], [1565, 1566, 1567], [1572, 1573, 1574], [1317], [1322], [1333], [1338], [1362], [1367], [1349], [1343], [1579], [1328], [1584], [1589], [1594], [1599], [1604], [1609, 1610], [1615, 1616], []] : List (List Nat)).getD i []).getD j 0]? = some (.eq (.elem (.field (.string "PeatBog$Token" (kTx.getD i 0)) "java/lang/String" "value" "[B") (.int (Int32.ofNat j))) (.int ((txB.getD i []).getD j 0))) := by decide +kernel
set_option maxRecDepth 100000 in
theorem fp_all : ∀ i, i < 51 → FLC[([24, 25, 26, 27, 28, 29, 30, 31, 32, 33, 34, 35, 36, 37, 38, 39, 40, 41, 42, 43, 44, 45, 46, 47, 48, 49, 50, 51, 52, 53, 54, 55, 56, 57, 58, 59, 60, 61, 62, 63, 64, 65, 66, 67, 68, 69, 70, 71, 72, 73, 74] : List Nat).getD i 0]? = some (.eq (.elem (.static "PeatBog$Token" "ALL" "[LPeatBog$Token;") (.int (Int32.ofNat i))) (.static "PeatBog$Token" (tkNm.getD i "") "LPeatBog$Token;")) := by decide +kernel
set_option maxRecDepth 100000 in
theorem fp_sw : ∀ i, i < 51 → FLC[([108, 109, 110, 111, 112, 113, 114, 115, 116, 117, 118, 119, 120, 121, 122, 123, 124, 125, 126, 127, 128, 129, 130, 131, 132, 133, 134, 135, 136, 137, 138, 139, 140, 141, 142, 143, 144, 145, 146, 147, 148, 149, 150, 151, 152, 153, 154, 155, 156, 157, 158] : List Nat).getD i 0]? = some (.eq (.elem (.static "PeatBog$1" "$SwitchMap$PeatBog$Token" "[I") (.int (Int32.ofNat i))) (.int (tkW.getD i 0))) := by decide +kernel
theorem fp_allA : FLC[21]? = some (.arrayOf (.static "PeatBog$Token" "ALL" "[LPeatBog$Token;") (.object "PeatBog$Token")) := by decide +kernel
theorem fp_allL : FLC[22]? = some (.eq (.length (.static "PeatBog$Token" "ALL" "[LPeatBog$Token;")) (.int 51)) := by decide +kernel
theorem fp_swA : FLC[106]? = some (.arrayOf (.static "PeatBog$1" "$SwitchMap$PeatBog$Token" "[I") .int) := by decide +kernel
theorem fp_swL : FLC[107]? = some (.eq (.length (.static "PeatBog$1" "$SwitchMap$PeatBog$Token" "[I")) (.int 51)) := by decide +kernel
theorem fp_cs : FLC[75]? = some (.eq (.static "java/lang/String" "COMPACT_STRINGS" "Z") (.int 1)) := by decide +kernel
set_option maxRecDepth 100000 in
theorem wp_ls : ∀ i, i < 51 → lw_tbl[([205, 241, 1297, 1298, 1299, 1300, 1301, 1302, 1303, 342, 1304, 1305, 1306, 1307, 1308, 1309, 1310, 1311, 1312, 1313, 1314, 1315, 1316, 1317, 1318, 332, 338, 340, 1319, 1320, 266, 272, 304, 306, 334, 336, 314, 308, 1321, 302, 1322, 1323, 1324, 1325, 1326, 1327, 1328, 122, 186, 106, 120] : List Nat).getD i 0]? = some (.laysStatic "PeatBog$Token" (tkNm.getD i "") "LPeatBog$Token;") := by decide +kernel
theorem wp_l_all : lw_tbl[127]? = some (.laysStatic "PeatBog$Token" "ALL" "[LPeatBog$Token;") := by decide +kernel
theorem wp_l_sw : lw_tbl[278]? = some (.laysStatic "PeatBog$1" "$SwitchMap$PeatBog$Token" "[I") := by decide +kernel
theorem wp_l_d1 : lw_tbl[1202]? = some (.laysStatic "java/lang/Integer" "DigitOnes" "[B") := by decide +kernel
theorem wp_l_d2 : lw_tbl[1204]? = some (.laysStatic "java/lang/Integer" "DigitTens" "[B") := by decide +kernel
theorem wp_l_cs : lw_tbl[142]? = some (.laysStatic "java/lang/String" "COMPACT_STRINGS" "Z") := by decide +kernel
theorem wp_l_pf : lw_tbl[158]? = some (.laysStatic "jdk/internal/util/Preconditions" "SIOOBE_FORMATTER" "Ljava/util/function/BiFunction;") := by decide +kernel
theorem wp_i_tok : lw_tbl[79]? = some (.initialized "PeatBog$Token") := by decide +kernel
theorem wp_i_one : lw_tbl[80]? = some (.initialized "PeatBog$1") := by decide +kernel
theorem wp_i_int : lw_tbl[77]? = some (.initialized "java/lang/Integer") := by decide +kernel
theorem wp_i_str : lw_tbl[69]? = some (.initialized "java/lang/String") := by decide +kernel
theorem wp_i_pre : lw_tbl[75]? = some (.initialized "jdk/internal/util/Preconditions") := by decide +kernel
theorem wp_a_int : lw_tbl[780]? = some (.arrayClass .int) := by decide +kernel
theorem wp_a_byte : lw_tbl[441]? = some (.arrayClass .byte) := by decide +kernel
theorem wp_o_gang : lw_tbl[849]? = some (.arrayOver (.object "PeatBog$Gang")) := by decide +kernel
theorem wp_o_tok : lw_tbl[763]? = some (.arrayOver (.object "PeatBog$Token")) := by decide +kernel
set_option maxRecDepth 100000 in
theorem wp_ntl : NTL = ([255, 503, 555, 591, 620, 660, 672, 753, 758, 783, 788, 790, 792, 793, 795, 797, 799, 801, 823, 825, 842, 851, 856, 858, 860, 861, 863, 865, 866, 868, 870, 871, 873, 876, 878, 903, 904, 907, 908, 910, 911, 913, 914, 916, 917, 919, 921, 923, 924, 926, 927, 929, 930, 932, 933, 935, 937, 938, 939, 941, 943, 944, 946, 988] : List Nat).filterMap (fun i => lw_tbl[i]?) := by decide +kernel
set_option maxRecDepth 100000 in
theorem fl_sx : ∀ i, i < 15 → FLC[([1090, 1094, 1101, 1106, 1114, 1122, 1131, 1141, 1150, 1155, 1169, 1174, 1188, 1204, 1289] : List Nat).getD i 0]? = some (.exactly (.string "PeatBogLaw" (lwT.getD i (0, "", [])).1) "java/lang/String") := by decide +kernel
set_option maxRecDepth 100000 in
theorem fl_sc : ∀ i, i < 15 → FLC[([1091, 1095, 1102, 1107, 1115, 1123, 1132, 1142, 1151, 1156, 1170, 1175, 1189, 1205, 1290] : List Nat).getD i 0]? = some (.eq (.field (.string "PeatBogLaw" (lwT.getD i (0, "", [])).1) "java/lang/String" "coder" "B") (.int 0)) := by decide +kernel
set_option maxRecDepth 100000 in
theorem fl_sa : ∀ i, i < 15 → FLC[([1092, 1096, 1103, 1108, 1116, 1124, 1133, 1143, 1152, 1157, 1171, 1176, 1190, 1206, 1291] : List Nat).getD i 0]? = some (.arrayOf (.field (.string "PeatBogLaw" (lwT.getD i (0, "", [])).1) "java/lang/String" "value" "[B") .byte) := by decide +kernel
set_option maxRecDepth 100000 in
theorem fl_sl : ∀ i, i < 15 → FLC[([1093, 1097, 1104, 1109, 1117, 1125, 1134, 1144, 1153, 1158, 1172, 1177, 1191, 1207, 1292] : List Nat).getD i 0]? = some (.eq (.length (.field (.string "PeatBogLaw" (lwT.getD i (0, "", [])).1) "java/lang/String" "value" "[B")) (.int (Int32.ofNat (lwT.getD i (0, "", [])).2.2.length))) := by decide +kernel
set_option maxRecDepth 100000 in
theorem fl_sb : ∀ i, i < 15 → ∀ j, j < (lwT.getD i (0, "", [])).2.2.length → FLC[(([[], [1098, 1099, 1100], [1105], [1110, 1111, 1112, 1113], [1118, 1119, 1120, 1121], [1126, 1127, 1128, 1129, 1130], [1135, 1136, 1137, 1138, 1139, 1140], [1145, 1146, 1147, 1148, 1149], [1154], [1159, 1160, 1161, 1162, 1163, 1164, 1165, 1166, 1167, 1168], [1173], [1178, 1179, 1180, 1181, 1182, 1183, 1184, 1185, 1186, 1187], [1192, 1193, 1194, 1195, 1196, 1197, 1198, 1199, 1200, 1201, 1202, 1203], [1208, 1209, 1210, 1211, 1212, 1213, 1214, 1215, 1216, 1217, 1218, 1219, 1220, 1221, 1222, 1223, 1224, 1225, 1226, 1227, 1228, 1229, 1230, 1231, 1232, 1233, 1234, 1235, 1236, 1237, 1238, 1239, 1240, 1241, 1242, 1243, 1244, 1245, 1246, 1247, 1248, 1249, 1250, 1251, 1252, 1253, 1254, 1255, 1256, 1257, 1258, 1259, 1260, 1261, 1262, 1263, 1264, 1265, 1266, 1267, 1268, 1269, 1270, 1271, 1272, 1273, 1274, 1275, 1276, 1277, 1278, 1279, 1280, 1281, 1282, 1283, 1284, 1285, 1286, 1287, 1288], [1293]] : List (List Nat)).getD i []).getD j 0]? = some (.eq (.elem (.field (.string "PeatBogLaw" (lwT.getD i (0, "", [])).1) "java/lang/String" "value" "[B") (.int (Int32.ofNat j))) (.int ((lwT.getD i (0, "", [])).2.2.getD j 0))) := by decide +kernel
set_option maxRecDepth 100000 in
theorem wl_st : ∀ i, i < 15 → lw_tbl[([1061, 1092, 1213, 1271, 1272, 1273, 1274, 1275, 1276, 1277, 1278, 1279, 1280, 1281, 1282] : List Nat).getD i 0]? = some (.stringRef "PeatBogLaw" (lwT.getD i (0, "", [])).1 (lwT.getD i (0, "", [])).2.1) := by decide +kernel
theorem fd_a1 : FLC[217]? = some (.arrayOf (.static "java/lang/Integer" "DigitOnes" "[B") .byte) := by decide +kernel
theorem fd_l1 : FLC[218]? = some (.eq (.length (.static "java/lang/Integer" "DigitOnes" "[B")) (.int 100)) := by decide +kernel
set_option maxRecDepth 100000 in
theorem fd_e1 : ∀ i, i < 100 → FLC[([219, 220, 221, 222, 223, 224, 225, 226, 227, 228, 229, 230, 231, 232, 233, 234, 235, 236, 237, 238, 239, 240, 241, 242, 243, 244, 245, 246, 247, 248, 249, 250, 251, 252, 253, 254, 255, 256, 257, 258, 259, 260, 261, 262, 263, 264, 265, 266, 267, 268, 269, 270, 271, 272, 273, 274, 275, 276, 277, 278, 279, 280, 281, 282, 283, 284, 285, 286, 287, 288, 289, 290, 291, 292, 293, 294, 295, 296, 297, 298, 299, 300, 301, 302, 303, 304, 305, 306, 307, 308, 309, 310, 311, 312, 313, 314, 315, 316, 317, 318] : List Nat).getD i 0]? = some (.eq (.elem (.static "java/lang/Integer" "DigitOnes" "[B") (.int (Int32.ofNat i))) (.int (nI (48 + i % 10)))) := by decide +kernel
theorem fd_a2 : FLC[320]? = some (.arrayOf (.static "java/lang/Integer" "DigitTens" "[B") .byte) := by decide +kernel
theorem fd_l2 : FLC[321]? = some (.eq (.length (.static "java/lang/Integer" "DigitTens" "[B")) (.int 100)) := by decide +kernel
set_option maxRecDepth 100000 in
theorem fd_e2 : ∀ i, i < 100 → FLC[([322, 323, 324, 325, 326, 327, 328, 329, 330, 331, 332, 333, 334, 335, 336, 337, 338, 339, 340, 341, 342, 343, 344, 345, 346, 347, 348, 349, 350, 351, 352, 353, 354, 355, 356, 357, 358, 359, 360, 361, 362, 363, 364, 365, 366, 367, 368, 369, 370, 371, 372, 373, 374, 375, 376, 377, 378, 379, 380, 381, 382, 383, 384, 385, 386, 387, 388, 389, 390, 391, 392, 393, 394, 395, 396, 397, 398, 399, 400, 401, 402, 403, 404, 405, 406, 407, 408, 409, 410, 411, 412, 413, 414, 415, 416, 417, 418, 419, 420, 421] : List Nat).getD i 0]? = some (.eq (.elem (.static "java/lang/Integer" "DigitTens" "[B") (.int (Int32.ofNat i))) (.int (nI (48 + i / 10)))) := by decide +kernel
theorem wp_cl : lw_tbl[1129]? = some (.castable "[B" "java/lang/Cloneable") := by decide +kernel
theorem fp_rp : FLC[76]? = some (.isRef (.static "jdk/internal/util/Preconditions" "SIOOBE_FORMATTER" "Ljava/util/function/BiFunction;")) := by decide +kernel
section SK
variable {args : Array Value} {s : State}
theorem tw_in (hts : ∀ w ∈ lw_tbl, w.before args s = true) {w : Cond} (i : Nat) (h : lw_tbl[i]? = some w) : w.before args s = true := hts w (List.mem_of_getElem? h)
theorem ex_ev {t : Term} {cls : String} (h : (Cond.exactly t cls).before args s = true) : ∃ a : Nat, t.eval args s none [] s = some (.ref a) := by
  obtain ⟨a, c, cell, k, q1, -⟩ := Cond.exactly_spec (args := args) (first := s) (o := none) (s := s) (idx := []) (t := t) (cls := cls) h
  exact ⟨a, q1⟩
theorem tk_text (i : Nat) (h : i < 51) : tkT i < 48 := tkT_lt i
theorem byl (i : Nat) (h : i < 48) : (txB.getD i []).length < 2 ^ 31 := by have := (tx_ok i h).1; omega
theorem tkp_start (hts : ∀ w ∈ lw_tbl, w.before args s = true) (hg : (Cond.and given_1 narrow_1).before args s = true) :
    ∃ (tok : Nat → Nat) (ad : Nat → Nat × Nat) (t0 t1 : Nat), ∀ (G : GG) (A : Nat → Prop), (∀ a : Nat, a < s.heap.size → ¬ A a) → (∀ i, i < 51 → G.2.1 (1000 + i) = tok i) → (∀ i, i < 48 → G.2.1 (2000 + i) = (ad i).1 ∧ G.2.1 (3000 + i) = (ad i).2) → G.2.1 1900 = t0 → G.2.1 1901 = t1 → TKP G A s s.heap ∧ TKI G := by
  have hF : ∀ a : Nat, a < s.heap.size → ¬ (fun _ : Nat => False) a := fun _ _ h => h
  have h0 : ∀ i, ∃ a : Nat, i < 51 → (Term.static "PeatBog$Token" (tkNm.getD i "") "LPeatBog$Token;").eval args s none [] s = some (.ref a) := by
    intro i
    by_cases hi : i < 51
    · obtain ⟨a, ha⟩ := ex_ev (fl_in hg _ (fp_ex i hi))
      exact ⟨a, fun _ => ha⟩
    · exact ⟨0, fun h => absurd h hi⟩
  obtain ⟨tok, htok⟩ := Classical.axiomOfChoice h0
  have h1 : ∀ i, ∃ q : Nat × Nat, i < 48 → (Term.string "PeatBog$Token" (kTx.getD i 0)).eval args s none [] s = some (.ref q.1) ∧ (Term.field (Term.string "PeatBog$Token" (kTx.getD i 0)) "java/lang/String" "value" "[B").eval args s none [] s = some (.ref q.2) := by
    intro i
    by_cases hi : i < 48
    · obtain ⟨a, ha⟩ := ex_ev (fl_in hg _ (fp_sx i hi))
      obtain ⟨t, ht, -⟩ := va_Tof (f := fun j => .int ((txB.getD i []).getD j 0)) (A := fun _ => False) (byl i hi) (fl_in hg _ (fp_sa i hi)) (va_eqt (fl_in hg _ (fp_sl i hi))) (fun j hj => va_eqt (fl_in hg _ (fp_sb i hi j hj))) hF
      exact ⟨(a, t), fun _ => ⟨ha, ht⟩⟩
    · exact ⟨(0, 0), fun h => absurd h hi⟩
  obtain ⟨ad, had⟩ := Classical.axiomOfChoice h1
  have hall : ∀ j, j < 51 → (Term.elem (Term.static "PeatBog$Token" "ALL" "[LPeatBog$Token;") (.int (Int32.ofNat j))).eval args s none [] s = some (.ref (tok j)) := fun j hj => va_eqv (fl_in hg _ (fp_all j hj)) (htok j hj)
  have hsw : ∀ j, j < 51 → (Term.elem (Term.static "PeatBog$1" "$SwitchMap$PeatBog$Token" "[I") (.int (Int32.ofNat j))).eval args s none [] s = some (.int (tkW.getD j 0)) := fun j hj => va_eqt (fl_in hg _ (fp_sw j hj))
  obtain ⟨t0, e0, -⟩ := va_Tof (N := 51) (f := fun j => .ref (tok j)) (A := fun _ => False) (by decide) (fl_in hg _ fp_allA) (va_eqt (fl_in hg _ fp_allL)) hall hF
  obtain ⟨t1, e1, -⟩ := va_Tof (N := 51) (f := fun j => .int (tkW.getD j 0)) (A := fun _ => False) (by decide) (fl_in hg _ fp_swA) (va_eqt (fl_in hg _ fp_swL)) hsw hF
  refine ⟨tok, ad, t0, t1, fun G A hA g1 g2 g3 g4 => ⟨⟨fun i hi => ?_, fun i hi => ?_, ?_, ?_, ?_, ?_, trivial, trivial, ?_, ?_⟩, fun i j hi hj e => ?_⟩⟩
  · rw [g1 i hi, (g2 (tkT i) (tk_text i hi)).1]
    have ht := htok i hi
    exact ⟨va_Zof (tw_in hts _ (wp_ls i hi)) (tw_in hts _ wp_i_tok) ht hA, va_Oof (fl_in hg _ (fp_ex i hi)) ht hA, vk_OFof ht (va_eqt (fl_in hg _ (fp_ord i hi))) hA, vk_OFof ht (va_eqt (fl_in hg _ (fp_grp i hi))) hA, vk_OFof ht (va_eqt (fl_in hg _ (fp_op i hi))) hA, vk_OFof ht (va_eqv (fl_in hg _ (fp_txt i hi)) (had (tkT i) (tk_text i hi)).1) hA⟩
  · rw [(g2 i hi).1, (g2 i hi).2]
    obtain ⟨ha, hv⟩ := had i hi
    obtain ⟨t, ht, hT⟩ := va_Tof (f := fun j => .int ((txB.getD i []).getD j 0)) (A := A) (byl i hi) (fl_in hg _ (fp_sa i hi)) (va_eqt (fl_in hg _ (fp_sl i hi))) (fun j hj => va_eqt (fl_in hg _ (fp_sb i hi j hj))) hA
    rw [hv] at ht
    cases ht
    exact ⟨va_Oof (fl_in hg _ (fp_sx i hi)) ha hA, vk_OFof ha (va_eqt (fl_in hg _ (fp_sc i hi))) hA, vk_OFof ha hv hA, hT⟩
  · rw [g3]; exact va_Zof (tw_in hts _ wp_l_all) (tw_in hts _ wp_i_tok) e0 hA
  · rw [g3]
    obtain ⟨t, ht, hT⟩ := va_Tof (N := 51) (f := fun j => .ref (G.2.1 (1000 + j))) (A := A) (by decide) (fl_in hg _ fp_allA) (va_eqt (fl_in hg _ fp_allL)) (fun j hj => by rw [g1 j hj]; exact hall j hj) hA
    rw [e0] at ht
    cases ht
    exact hT
  · rw [g4]; exact va_Zof (tw_in hts _ wp_l_sw) (tw_in hts _ wp_i_one) e1 hA
  · rw [g4]
    obtain ⟨t, ht, hT⟩ := va_Tof (N := 51) (f := fun j => .int (tkW.getD j 0)) (A := A) (by decide) (fl_in hg _ fp_swA) (va_eqt (fl_in hg _ fp_swL)) hsw hA
    rw [e1] at ht
    cases ht
    exact hT
  · exact va_Zof (tw_in hts _ wp_l_cs) (tw_in hts _ wp_i_str) (va_eqt (fl_in hg _ fp_cs)) hA
  · exact va_Zqof (tw_in hts _ wp_l_pf) (tw_in hts _ wp_i_pre) (fl_in hg _ fp_rp) hA
  · rw [g1 i hi, g1 j hj] at e
    have a1 := va_eqt (fl_in hg _ (fp_ord i hi))
    have a2 := va_eqt (fl_in hg _ (fp_ord j hj))
    rw [va_fe (htok i hi)] at a1
    rw [va_fe (htok j hj)] at a2
    rw [e, a2] at a1
    have h3 : nI j = nI i := Value.int.inj (Option.some.inj a1)
    exact ((n_inj (by omega) (by omega)).mp h3).symm
theorem sel_up {C : String} {y z : MethodName} {n : Nat} (hy : y.cls ≠ "java/lang/invoke/MethodHandle" ∧ y.cls ≠ "java/lang/invoke/VarHandle") (hcl : z.cls = y.cls) (hins : (Cond.instantiable C n).before args s = true) (hz : (Cond.selects C z z).before args s = true) (hpriv : (Cond.privateMethod y).before args s = true) (hinst : (Cond.instanceMethod y).before args s = true) : (Cond.selects C y y).before args s = true := by
  obtain ⟨c, k, hc, hk, -, hniab, -, -⟩ := Cond.instantiable_spec hins
  obtain ⟨mk, methM, hnamed, hmethM, -, -⟩ := Cond.instanceMethod_spec hinst
  have hfound : s.methodFound? y.cls y.name y.desc = some mk := State.methodFound?_of_named hnamed hy
  obtain ⟨c2, r2, m2, q1, q2, q3, q4, kP, hkP, hkPi⟩ := Cond.selects_spec hz
  have f1 := findClass_of_methodNamed q3
  rw [hcl] at f1
  have hm : m2.cls = mk.cls := Option.some.inj (f1.symm.trans (findClass_of_methodNamed hnamed))
  have hkm : s.vm.classes[mk.cls]? = some kP := by rw [← hm]; exact hkP
  have hsel : selectMethod {} s.vm c mk = .method mk := selectMethod_private hmethM (Cond.privateMethod_at hpriv mk methM hnamed hmethM)
  simp only [Cond.before, Cond.holds, Cond.value, hc, hfound, hnamed, hsel, hkm]
  simp; exact hkPi
theorem wx_sel : lw_tbl[1136]? = some (.selects "java/lang/StringBuilder" ⟨"java/lang/AbstractStringBuilder", "isLatin1", "()Z"⟩ ⟨"java/lang/AbstractStringBuilder", "isLatin1", "()Z"⟩) := by decide +kernel
theorem wx_ins : lw_tbl[1063]? = some (.instantiable "java/lang/StringBuilder" 4) := by decide +kernel
theorem wx_p0 : lw_tbl[1105]? = some (.privateMethod ⟨"java/lang/AbstractStringBuilder", "ensureCapacityInternal", "(I)V"⟩) := by decide +kernel
theorem wx_i0 : lw_tbl[1106]? = some (.instanceMethod ⟨"java/lang/AbstractStringBuilder", "ensureCapacityInternal", "(I)V"⟩) := by decide +kernel
theorem wx_p1 : lw_tbl[1109]? = some (.privateMethod ⟨"java/lang/AbstractStringBuilder", "newCapacity", "(I)I"⟩) := by decide +kernel
theorem wx_i1 : lw_tbl[1110]? = some (.instanceMethod ⟨"java/lang/AbstractStringBuilder", "newCapacity", "(I)I"⟩) := by decide +kernel
theorem wx_p2 : lw_tbl[1155]? = some (.privateMethod ⟨"java/lang/AbstractStringBuilder", "putStringAt", "(ILjava/lang/String;)V"⟩) := by decide +kernel
theorem wx_i2 : lw_tbl[1156]? = some (.instanceMethod ⟨"java/lang/AbstractStringBuilder", "putStringAt", "(ILjava/lang/String;)V"⟩) := by decide +kernel
theorem wx_p3 : lw_tbl[1159]? = some (.privateMethod ⟨"java/lang/AbstractStringBuilder", "inflateIfNeededFor", "(Ljava/lang/String;)V"⟩) := by decide +kernel
theorem wx_i3 : lw_tbl[1160]? = some (.instanceMethod ⟨"java/lang/AbstractStringBuilder", "inflateIfNeededFor", "(Ljava/lang/String;)V"⟩) := by decide +kernel
theorem xt_start (hts : ∀ w ∈ lw_tbl, w.before args s = true) : ∀ w ∈ XT, w.before args s = true := by
  unfold XT
  refine List.forall_mem_cons.mpr ⟨?_, List.forall_mem_cons.mpr ⟨?_, List.forall_mem_cons.mpr ⟨?_, List.forall_mem_cons.mpr ⟨?_, fun _ h => absurd h List.not_mem_nil⟩⟩⟩⟩
  · exact sel_up ⟨by decide +kernel, by decide +kernel⟩ (by rfl) (tw_in hts _ wx_ins) (tw_in hts _ wx_sel) (tw_in hts _ wx_p0) (tw_in hts _ wx_i0)
  · exact sel_up ⟨by decide +kernel, by decide +kernel⟩ (by rfl) (tw_in hts _ wx_ins) (tw_in hts _ wx_sel) (tw_in hts _ wx_p1) (tw_in hts _ wx_i1)
  · exact sel_up ⟨by decide +kernel, by decide +kernel⟩ (by rfl) (tw_in hts _ wx_ins) (tw_in hts _ wx_sel) (tw_in hts _ wx_p2) (tw_in hts _ wx_i2)
  · exact sel_up ⟨by decide +kernel, by decide +kernel⟩ (by rfl) (tw_in hts _ wx_ins) (tw_in hts _ wx_sel) (tw_in hts _ wx_p3) (tw_in hts _ wx_i3)
theorem tb_start (hts : ∀ w ∈ lw_tbl, w.before args s = true) : ∀ w ∈ TBL, w.before args s = true := by
  intro w h
  rcases List.mem_append.mp (tbl_good w h).1 with k | k
  · exact xt_start hts w k
  · exact hts w k
theorem k_start (hts : ∀ w ∈ lw_tbl, w.before args s = true) : ∃ D : DG, KG D s := by
  have ht := tb_start hts
  obtain ⟨c0, i0, k0⟩ := u_known (C := RX1) (T := TX1) (N := 17) ht fw_0 (ht _ (tb_13 (List.mem_of_getElem? (i := 36) rfl)))
  obtain ⟨c1, i1, k1⟩ := u_known (C := RX2) (T := TX2) (N := 11) ht fw_1 (ht _ (tb_18 (List.mem_of_getElem? (i := 4) rfl)))
  obtain ⟨c2, i2, k2⟩ := u_known (C := RX5) (T := TX5) (N := 7) ht fw_2 (ht _ (tb_16 (List.mem_of_getElem? (i := 29) rfl)))
  obtain ⟨c3, i3, k3⟩ := u_known (C := RX8) (T := TX8) (N := 5) ht fw_3 (ht _ (tb_11 (List.mem_of_getElem? (i := 21) rfl)))
  obtain ⟨c4, i4, k4⟩ := u_known (C := RJ0) (T := TJ0) (N := 4) ht fw_4 (ht _ (tb_25 (List.mem_of_getElem? (i := 35) rfl)))
  obtain ⟨c5, i5, k5⟩ := u_known (C := RJ4) (T := TJ4) (N := 4) ht fw_5 (ht _ (tb_22 (List.mem_of_getElem? (i := 10) rfl)))
  obtain ⟨c6, i6, k6⟩ := u_known (C := RX9) (T := TX9) (N := 11) ht fw_6 (ht _ (tb_9 (List.mem_of_getElem? (i := 16) rfl)))
  obtain ⟨c7, i7, k7⟩ := u_known (C := RX4) (T := TX4) (N := 7) ht fw_7 (ht _ (tb_4 (List.mem_of_getElem? (i := 19) rfl)))
  obtain ⟨c8, i8, k8⟩ := u_known (C := RX6) (T := TX6) (N := 5) ht fw_8 (ht _ (tb_2 (List.mem_of_getElem? (i := 18) rfl)))
  obtain ⟨b0, kA0, m0, x0, y0, z0⟩ := Cond.arrayClass_spec (args := args) (first := s) (o := none) (s := s) (idx := []) (type := .int) (tw_in hts _ wp_a_int)
  obtain ⟨b1, kA1, m1, x1, y1, z1⟩ := Cond.arrayClass_spec (args := args) (first := s) (o := none) (s := s) (idx := []) (type := .byte) (tw_in hts _ wp_a_byte)
  obtain ⟨m2, b2, kA2, v2, w2, x2, y2, z2⟩ := Cond.arrayOver_spec (args := args) (first := s) (o := none) (s := s) (idx := []) (n := "PeatBog$Gang") (tw_in hts _ wp_o_gang)
  obtain ⟨m3, b3, kA3, v3, w3, x3, y3, z3⟩ := Cond.arrayOver_spec (args := args) (first := s) (o := none) (s := s) (idx := []) (n := "PeatBog$Token") (tw_in hts _ wp_o_tok)
  refine ⟨((fun c => [c0, c1, c2, c3, c4, c5, c6, c7, c8].getD c c0, fun c => [i0, i1, i2, i3, i4, i5, i6, i7, i8].getD c i0), fun c => [b0, b1, b2, b3].getD c b0), ⟨fun c q hq => ?_, fun k q hq => ?_⟩, fun w hw => ?_, va_AO.of (tw_in hts _ wp_o_gang), va_AO.of (tw_in hts _ wp_o_tok)⟩
  · have hc : c < 9 := (List.getElem?_eq_some_iff.mp hq).1
    have : c = 0 ∨ c = 1 ∨ c = 2 ∨ c = 3 ∨ c = 4 ∨ c = 5 ∨ c = 6 ∨ c = 7 ∨ c = 8 := by omega
    rcases this with rfl | rfl | rfl | rfl | rfl | rfl | rfl | rfl | rfl
    · cases hq; exact k0
    · cases hq; exact k1
    · cases hq; exact k2
    · cases hq; exact k3
    · cases hq; exact k4
    · cases hq; exact k5
    · cases hq; exact k6
    · cases hq; exact k7
    · cases hq; exact k8
  · have hk : k < 4 := (List.getElem?_eq_some_iff.mp hq).1
    have : k = 0 ∨ k = 1 ∨ k = 2 ∨ k = 3 := by omega
    rcases this with rfl | rfl | rfl | rfl
    · cases hq; exact ⟨fun n z => ⟨fun k h => (by cases h), kA0, y0, m0, z0⟩, x0⟩
    · cases hq; exact ⟨fun n z => ⟨fun k h => (by cases h), kA1, y1, m1, z1⟩, x1⟩
    · cases hq; exact ⟨fun n z => ⟨fun k h => (by cases h), kA2, x2, m2, y2⟩, kA2, m2, x2, y2, v2, z2⟩
    · cases hq; exact ⟨fun n z => ⟨fun k h => (by cases h), kA3, x3, m3, y3⟩, kA3, m3, x3, y3, v3, z3⟩
  · have h2 : w ∈ lw_tbl := by
      rw [wp_ntl] at hw
      obtain ⟨i, -, hi⟩ := List.mem_filterMap.mp hw
      exact List.mem_of_getElem? hi
    have h3 := hts w h2
    rcases ntl_fm w hw with ⟨_, _, _, _, _, _, e⟩ | ⟨_, _, _, _, e⟩
    · subst e; exact h3
    · subst e; exact h3
def tkA0 (tok : Nat → Nat) (ad : Nat → Nat × Nat) (t0 t1 : Nat) (i : Nat) : Nat := if i = 1900 then t0 else if i = 1901 then t1 else if i < 2000 then tok (i - 1000) else if i < 3000 then (ad (i - 2000)).1 else (ad (i - 3000)).2
theorem lwl (i : Nat) (h : i < 15) : (lwT.getD i (0, "", [])).2.2.length < 2 ^ 31 := by
  have : ∀ i, i < 15 → (lwT.getD i (0, "", [])).2.2.length < 2 ^ 31 := by decide +kernel
  exact this i h
set_option maxHeartbeats 4000000 in
theorem env_start (hts : ∀ w ∈ lw_tbl, w.before args s = true) (hg : (Cond.and given_1 narrow_1).before args s = true) {b L : Nat} {xs : Nat → Int32} (hX : va_X b L xs s s.heap) (hbl : b < s.heap.size) : ∃ F : EF, (b, L, xs) ∈ F.2.1 ∧ LTX F ∧ TKI (GT F.2.2.2) ∧ ∀ A : Nat → Prop, (∀ a : Nat, a < s.heap.size → ¬ A a) → ENV F A s s.heap := by
  have hF : ∀ a : Nat, a < s.heap.size → ¬ (fun _ : Nat => False) a := fun _ _ h => h
  obtain ⟨tok, ad, t0, t1, htk⟩ := tkp_start hts hg
  have h1 : ∀ i, ∃ q : Nat × Nat, i < 15 → (Term.string "PeatBogLaw" (lwT.getD i (0, "", [])).1).eval args s none [] s = some (.ref q.1) ∧ (Term.field (Term.string "PeatBogLaw" (lwT.getD i (0, "", [])).1) "java/lang/String" "value" "[B").eval args s none [] s = some (.ref q.2) := by
    intro i
    by_cases hi : i < 15
    · obtain ⟨a, ha⟩ := ex_ev (fl_in hg _ (fl_sx i hi))
      obtain ⟨t, ht, -⟩ := va_Tof (f := fun j => .int ((lwT.getD i (0, "", [])).2.2.getD j 0)) (A := fun _ => False) (lwl i hi) (fl_in hg _ (fl_sa i hi)) (va_eqt (fl_in hg _ (fl_sl i hi))) (fun j hj => va_eqt (fl_in hg _ (fl_sb i hi j hj))) hF
      exact ⟨(a, t), fun _ => ⟨ha, ht⟩⟩
    · exact ⟨(0, 0), fun h => absurd h hi⟩
  obtain ⟨q, hq⟩ := Classical.axiomOfChoice h1
  obtain ⟨d1, ed1, -⟩ := va_Tof (N := 100) (f := fun j => .int (nI (48 + j % 10))) (A := fun _ => False) (by decide) (fl_in hg _ fd_a1) (va_eqt (fl_in hg _ fd_l1)) (fun j hj => va_eqt (fl_in hg _ (fd_e1 j hj))) hF
  obtain ⟨d2, ed2, -⟩ := va_Tof (N := 100) (f := fun j => .int (nI (48 + j / 10))) (A := fun _ => False) (by decide) (fl_in hg _ fd_a2) (va_eqt (fl_in hg _ fd_l2)) (fun j hj => va_eqt (fl_in hg _ (fd_e2 j hj))) hF
  refine ⟨((List.range 15).map (fun i => ((q i).1, (q i).2, (lwT.getD i (0, "", [])).2.2)), [(b, L, xs)], (List.range 15).map (fun i => ((lwT.getD i (0, "", [])).1, (lwT.getD i (0, "", [])).2.1, (q i).1)), tkA0 tok ad t0 t1), List.mem_cons_self, fun t ht => ?_, ?_, fun A hA => ?_⟩
  · obtain ⟨i, hi, e⟩ := List.getElem_of_mem ht
    have hi15 : i < 15 := hi
    have e2 : lwT.getD i (0, "", []) = t := by rw [List.getD_eq_getElem?_getD, List.getElem?_eq_getElem hi, e]; rfl
    exact ⟨(q i).1, (q i).2, List.mem_map.mpr ⟨i, List.mem_range.mpr hi15, by rw [e2]⟩, List.mem_map.mpr ⟨i, List.mem_range.mpr hi15, by rw [e2]⟩⟩
  · refine (htk (GT (tkA0 tok ad t0 t1)) (fun _ => False) hF (fun i hi => ?_) (fun i hi => ?_) rfl rfl).2
    · show tkA0 tok ad t0 t1 (1000 + i) = _
      unfold tkA0
      rw [if_neg (by omega), if_neg (by omega), if_pos (by omega), show 1000 + i - 1000 = i by omega]
    · constructor
      · show tkA0 tok ad t0 t1 (2000 + i) = _
        unfold tkA0
        rw [if_neg (by omega), if_neg (by omega), if_neg (by omega), if_pos (by omega), show 2000 + i - 2000 = i by omega]
      · show tkA0 tok ad t0 t1 (3000 + i) = _
        unfold tkA0
        rw [if_neg (by omega), if_neg (by omega), if_neg (by omega), if_neg (by omega), show 3000 + i - 3000 = i by omega]
  · refine ⟨va_Zof (tw_in hts _ wp_l_cs) (tw_in hts _ wp_i_str) (va_eqt (fl_in hg _ fp_cs)) hA, va_Zqof (tw_in hts _ wp_l_pf) (tw_in hts _ wp_i_pre) (fl_in hg _ fp_rp) hA, ⟨d1, va_Zof (tw_in hts _ wp_l_d1) (tw_in hts _ wp_i_int) ed1 hA, ?_⟩, ⟨d2, va_Zof (tw_in hts _ wp_l_d2) (tw_in hts _ wp_i_int) ed2 hA, ?_⟩, fun z hz => ?_, fun z hz => ?_, fun z hz => ?_, ?_, ?_⟩
    · obtain ⟨t, ht, hT⟩ := va_Tof (N := 100) (f := fun j => .int (nI (48 + j % 10))) (A := A) (by decide) (fl_in hg _ fd_a1) (va_eqt (fl_in hg _ fd_l1)) (fun j hj => va_eqt (fl_in hg _ (fd_e1 j hj))) hA
      rw [ed1] at ht
      cases ht
      exact hT
    · obtain ⟨t, ht, hT⟩ := va_Tof (N := 100) (f := fun j => .int (nI (48 + j / 10))) (A := A) (by decide) (fl_in hg _ fd_a2) (va_eqt (fl_in hg _ fd_l2)) (fun j hj => va_eqt (fl_in hg _ (fd_e2 j hj))) hA
      rw [ed2] at ht
      cases ht
      exact hT
    · obtain ⟨i, hi, rfl⟩ := List.mem_map.mp hz
      have hi := List.mem_range.mp hi
      obtain ⟨ha, hv⟩ := hq i hi
      obtain ⟨t, ht, hT⟩ := va_Tof (f := fun j => .int ((lwT.getD i (0, "", [])).2.2.getD j 0)) (A := A) (lwl i hi) (fl_in hg _ (fl_sa i hi)) (va_eqt (fl_in hg _ (fl_sl i hi))) (fun j hj => va_eqt (fl_in hg _ (fl_sb i hi j hj))) hA
      rw [hv] at ht
      cases ht
      exact ⟨va_Oof (fl_in hg _ (fl_sx i hi)) ha hA, vk_OFof ha (va_eqt (fl_in hg _ (fl_sc i hi))) hA, vk_OFof ha hv hA, hT⟩
    · have hz := List.mem_singleton.mp hz
      subst hz
      obtain ⟨scr, x1, x2, x3, x4, x5⟩ := hX
      refine ⟨scr, x1, x2, x3, by rw [x4]; exact Nat.le_refl _, by rw [x4], x5, hA b hbl⟩
    · obtain ⟨i, hi, rfl⟩ := List.mem_map.mp hz
      have hi := List.mem_range.mp hi
      exact vk_R.of (tw_in hts _ (wl_st i hi)) (hq i hi).1
    · obtain ⟨c3, c4, hc3, hc4, hasg⟩ := Cond.castable_spec (tw_in hts _ wp_cl)
      exact ⟨c3, c4, hc3, hc4, hasg⟩
    · refine (htk (GT (tkA0 tok ad t0 t1)) A hA (fun i hi => ?_) (fun i hi => ?_) rfl rfl).1
      · show tkA0 tok ad t0 t1 (1000 + i) = _
        unfold tkA0
        rw [if_neg (by omega), if_neg (by omega), if_pos (by omega), show 1000 + i - 1000 = i by omega]
      · constructor
        · show tkA0 tok ad t0 t1 (2000 + i) = _
          unfold tkA0
          rw [if_neg (by omega), if_neg (by omega), if_neg (by omega), if_pos (by omega), show 2000 + i - 2000 = i by omega]
        · show tkA0 tok ad t0 t1 (3000 + i) = _
          unfold tkA0
          rw [if_neg (by omega), if_neg (by omega), if_neg (by omega), if_neg (by omega), show 3000 + i - 3000 = i by omega]
end SK
