set_option maxRecDepth 20000 in
theorem ggL_law_X12_oneBy : GoodIn wsL_law wsX12_oneBy := goodIn_r _ [1137, 246, 588, 589, 590, 5, 591, 185, 526, 527, 528, 874, 875, 876, 877, 1110, 1111, 1112, 1113, 206, 1114, 1115, 1116, 1117, 205, 629, 630, 631, 632, 887, 888, 889, 890, 533, 534, 535, 791, 792, 793, 794, 1118, 1119, 1120, 1121, 1122, 1123, 1124, 1125, 1126, 1127, 1128, 1129, 1402, 1403, 1404, 1405, 1406, 1407, 1408, 1409, 1410, 1411, 1412, 1413, 1414, 1415, 1416, 1417, 1418, 1419, 1420, 1421, 1422, 1423, 1424, 1425, 1426, 1427, 1428, 1429, 1430, 1431, 1432, 1433, 1434, 1435, 1436, 1437, 1438, 1439, 1440, 1441, 1442, 1443, 1444, 1445, 1446, 1447, 1448, 1449, 1450, 1451, 1452, 1453, 1454, 1455, 1456, 1457, 1458, 1459] rfl (by decide +kernel)
set_option maxRecDepth 20000 in
theorem gL_law_X12_oneBy : GoodIn wsL_law (wsV RL 146 RX12 yX12_oneBy wsX12_oneBy) := goodIn_app (goodIn_of _ (by decide +kernel)) ggL_law_X12_oneBy
set_option maxRecDepth 20000 in
theorem ggL_law_X11_lawful : GoodIn wsL_law wsX11_lawful := goodIn_r _ [1141, 44, 269, 769, 36, 1142, 1143, 1144, 35, 1145, 1146, 1147, 118, 1148, 1149, 116, 1150, 111, 1151, 822, 823, 824, 112, 1152, 838, 839, 49, 840, 159, 160, 1153, 459, 460, 115, 461, 125, 1154, 1155, 1156, 1157, 117, 1158, 642, 643, 644, 645, 646, 647, 122, 123, 124, 648, 649, 650, 651, 652, 653, 618, 619, 620, 654, 655, 656, 657, 156, 157, 658, 659, 660, 661, 662, 663, 664, 665, 666, 667, 668, 669, 670, 671, 1159, 714, 715, 716, 1388, 1389, 1390, 1391, 1392, 1393, 1394, 1395, 1396, 1397, 1398, 1399, 1400, 1401, 1508, 1509, 1510, 1511, 1512, 1513, 1514, 1515, 1516, 1517, 1518, 1519, 1520, 1521, 1522, 1523, 1524, 1525, 1526, 1527, 1532, 1533, 1534, 1535, 1536, 1496, 1497, 1498, 1499, 1500, 1528, 1529, 1530, 1531] rfl (by decide +kernel)
set_option maxRecDepth 20000 in
theorem gL_law_X11_lawful : GoodIn wsL_law (wsV RL 147 RX11 yX11_lawful wsX11_lawful) := goodIn_app (goodIn_of _ (by decide +kernel)) ggL_law_X11_lawful
set_option maxRecDepth 20000 in
theorem ggL_law_X12_lawful : GoodIn wsL_law wsX12_lawful := goodIn_r _ [1163, 246, 185, 209, 210, 208, 211, 1164, 1165, 1166, 5, 1167, 629, 630, 631, 632, 1168, 1169, 1170, 1171, 212, 676, 677, 678, 679, 633, 634, 635, 636, 680, 681, 682, 683, 191, 684, 685, 686, 687, 688, 689, 690, 691, 192, 692, 693, 694, 695, 696, 697, 698, 699, 700, 701, 702, 703, 704, 705, 706, 707, 1172, 1173, 1174, 1175, 1402, 1403, 1404, 1405, 1406, 1407, 1408, 1409, 1410, 1411, 1412, 1413, 1414, 1415, 1416, 1417, 1418, 1419, 1420, 1421, 1422, 1423, 1424, 1425, 1426, 1427, 1428, 1429, 1430, 1431, 1432, 1433, 1434, 1435, 1436, 1437, 1438, 1439, 1440, 1441, 1442, 1443, 1444, 1445, 1446, 1447, 1448, 1449, 1450, 1451, 1452, 1453, 1454, 1455, 1456, 1457, 1458, 1459] rfl (by decide +kernel)
set_option maxRecDepth 20000 in
theorem gL_law_X12_lawful : GoodIn wsL_law (wsV RL 150 RX12 yX12_lawful wsX12_lawful) := goodIn_app (goodIn_of _ (by decide +kernel)) ggL_law_X12_lawful
set_option maxRecDepth 20000 in
theorem ggL_law_X11_lawfulBy : GoodIn wsL_law wsX11_lawfulBy := goodIn_r _ [1179, 36, 1180, 1181, 1388, 1389, 1390, 1391, 1392, 1393, 1394, 1395, 1396, 1397, 1398, 1399, 1400, 1401, 1496, 1497, 1498, 1499, 1500] rfl (by decide +kernel)
set_option maxRecDepth 20000 in
theorem gL_law_X11_lawfulBy : GoodIn wsL_law (wsV RL 151 RX11 yX11_lawfulBy wsX11_lawfulBy) := goodIn_app (goodIn_of _ (by decide +kernel)) ggL_law_X11_lawfulBy
set_option maxRecDepth 20000 in
theorem ggL_law_X12_lawfulBy : GoodIn wsL_law wsX12_lawfulBy := goodIn_r _ [1185, 246, 211, 210, 526, 527, 5, 528, 1402, 1403, 1404, 1405, 1406, 1407, 1408, 1409, 1410, 1411, 1412, 1413, 1414, 1415, 1416, 1417, 1418, 1419, 1420, 1421, 1422, 1423, 1424, 1425, 1426, 1427, 1428, 1429, 1430, 1431, 1432, 1433, 1434, 1435, 1436, 1437, 1438, 1439, 1440, 1441, 1442, 1443, 1444, 1445, 1446, 1447, 1448, 1449, 1450, 1451, 1452, 1453, 1454, 1455, 1456, 1457, 1458, 1459] rfl (by decide +kernel)
set_option maxRecDepth 20000 in
theorem gL_law_X12_lawfulBy : GoodIn wsL_law (wsV RL 154 RX12 yX12_lawfulBy wsX12_lawfulBy) := goodIn_app (goodIn_of _ (by decide +kernel)) ggL_law_X12_lawfulBy
set_option maxRecDepth 20000 in
theorem ggL_law_X11_oneIs : GoodIn wsL_law wsX11_oneIs := goodIn_r _ [1189, 32, 1190, 1191, 757, 758, 2, 759, 1388, 1389, 1390, 1391, 1392, 1393, 1394, 1395, 1396, 1397, 1398, 1399, 1400, 1401, 1490, 1491, 1492, 1493, 1494, 1495] rfl (by decide +kernel)
set_option maxRecDepth 20000 in
theorem gL_law_X11_oneIs : GoodIn wsL_law (wsV RL 155 RX11 yX11_oneIs wsX11_oneIs) := goodIn_app (goodIn_of _ (by decide +kernel)) ggL_law_X11_oneIs
set_option maxRecDepth 20000 in
theorem ggL_law_X12_oneIs : GoodIn wsL_law wsX12_oneIs := goodIn_r _ [1195, 246, 1109, 207, 526, 527, 5, 528, 1402, 1403, 1404, 1405, 1406, 1407, 1408, 1409, 1410, 1411, 1412, 1413, 1414, 1415, 1416, 1417, 1418, 1419, 1420, 1421, 1422, 1423, 1424, 1425, 1426, 1427, 1428, 1429, 1430, 1431, 1432, 1433, 1434, 1435, 1436, 1437, 1438, 1439, 1440, 1441, 1442, 1443, 1444, 1445, 1446, 1447, 1448, 1449, 1450, 1451, 1452, 1453, 1454, 1455, 1456, 1457, 1458, 1459] rfl (by decide +kernel)
set_option maxRecDepth 20000 in
theorem gL_law_X12_oneIs : GoodIn wsL_law (wsV RL 158 RX12 yX12_oneIs wsX12_oneIs) := goodIn_app (goodIn_of _ (by decide +kernel)) ggL_law_X12_oneIs
set_option maxRecDepth 20000 in
theorem ggL_law_X11_fewest : GoodIn wsL_law wsX11_fewest := goodIn_r _ [1199, 44, 269, 1200, 1201, 1202, 49, 1203, 148, 156, 157, 912, 804, 805, 806, 147, 1204, 1205, 1206, 1207, 1208, 1209, 1210, 1211, 1212, 1213, 1214, 161, 1388, 1389, 1390, 1391, 1392, 1393, 1394, 1395, 1396, 1397, 1398, 1399, 1400, 1401, 1508, 1509, 1510, 1511, 1512, 1513, 1514, 1515, 1516, 1517, 1518, 1519, 1520, 1521, 1522, 1523, 1524, 1525, 1526, 1527] rfl (by decide +kernel)
set_option maxRecDepth 20000 in
theorem gL_law_X11_fewest : GoodIn wsL_law (wsV RL 159 RX11 yX11_fewest wsX11_fewest) := goodIn_app (goodIn_of _ (by decide +kernel)) ggL_law_X11_fewest
set_option maxRecDepth 20000 in
theorem ggL_law_X12_fewest : GoodIn wsL_law wsX12_fewest := goodIn_r _ [1218, 246, 185, 1219, 1220, 5, 1221, 1222, 1223, 1224, 1225, 629, 630, 631, 632, 533, 534, 535, 1402, 1403, 1404, 1405, 1406, 1407, 1408, 1409, 1410, 1411, 1412, 1413, 1414, 1415, 1416, 1417, 1418, 1419, 1420, 1421, 1422, 1423, 1424, 1425, 1426, 1427, 1428, 1429, 1430, 1431, 1432, 1433, 1434, 1435, 1436, 1437, 1438, 1439, 1440, 1441, 1442, 1443, 1444, 1445, 1446, 1447, 1448, 1449, 1450, 1451, 1452, 1453, 1454, 1455, 1456, 1457, 1458, 1459] rfl (by decide +kernel)
set_option maxRecDepth 20000 in
theorem gL_law_X12_fewest : GoodIn wsL_law (wsV RL 162 RX12 yX12_fewest wsX12_fewest) := goodIn_app (goodIn_of _ (by decide +kernel)) ggL_law_X12_fewest
set_option maxRecDepth 20000 in
theorem ggL_law_X11_meet : GoodIn wsL_law wsX11_meet := goodIn_r _ [1229, 40, 16, 44, 269, 975, 1230, 1231, 1232, 39, 1233, 129, 133, 132, 1234, 1235, 1236, 177, 178, 179, 1237, 1238, 1239, 1240, 130, 131, 256, 257, 258, 15, 259, 59, 1241, 1242, 1243, 1244, 134, 135, 1245, 1246, 1247, 1248, 1249, 1250, 1251, 1252, 1388, 1389, 1390, 1391, 1392, 1393, 1394, 1395, 1396, 1397, 1398, 1399, 1400, 1401, 1508, 1509, 1510, 1511, 1512, 1513, 1514, 1515, 1516, 1517, 1518, 1519, 1520, 1521, 1522, 1523, 1524, 1525, 1526, 1527, 1501, 1502, 1503, 1504, 1505, 1506, 1507, 1460, 1461, 1462, 1463, 1464, 1465, 1466, 1467] rfl (by decide +kernel)
set_option maxRecDepth 20000 in
theorem gL_law_X11_meet : GoodIn wsL_law (wsV RL 163 RX11 yX11_meet wsX11_meet) := goodIn_app (goodIn_of _ (by decide +kernel)) ggL_law_X11_meet
set_option maxRecDepth 20000 in
theorem ggL_law_X12_meet : GoodIn wsL_law wsX12_meet := goodIn_r _ [1256, 246, 1257, 1258, 1259, 1260, 5, 1261, 476, 1262, 472, 473, 474, 475, 247, 477, 478, 1263, 1264, 1265, 1266, 184, 588, 589, 590, 591, 185, 526, 527, 528, 1267, 1268, 1269, 1270, 533, 534, 535, 1402, 1403, 1404, 1405, 1406, 1407, 1408, 1409, 1410, 1411, 1412, 1413, 1414, 1415, 1416, 1417, 1418, 1419, 1420, 1421, 1422, 1423, 1424, 1425, 1426, 1427, 1428, 1429, 1430, 1431, 1432, 1433, 1434, 1435, 1436, 1437, 1438, 1439, 1440, 1441, 1442, 1443, 1444, 1445, 1446, 1447, 1448, 1449, 1450, 1451, 1452, 1453, 1454, 1455, 1456, 1457, 1458, 1459] rfl (by decide +kernel)
set_option maxRecDepth 20000 in
theorem gL_law_X12_meet : GoodIn wsL_law (wsV RL 166 RX12 yX12_meet wsX12_meet) := goodIn_app (goodIn_of _ (by decide +kernel)) ggL_law_X12_meet
set_option maxRecDepth 20000 in
theorem ggL_law_X11_must : GoodIn wsL_law wsX11_must := goodIn_r _ [1274, 40, 16, 44, 269, 975, 1230, 1231, 1232, 39, 1233, 129, 133, 132, 1234, 1235, 1236, 177, 178, 179, 1237, 1238, 1239, 1240, 130, 131, 256, 257, 258, 15, 259, 59, 1275, 1276, 1277, 1278, 134, 135, 1279, 1242, 1243, 1244, 1245, 1246, 1247, 1248, 1249, 1250, 1251, 1252, 1388, 1389, 1390, 1391, 1392, 1393, 1394, 1395, 1396, 1397, 1398, 1399, 1400, 1401, 1508, 1509, 1510, 1511, 1512, 1513, 1514, 1515, 1516, 1517, 1518, 1519, 1520, 1521, 1522, 1523, 1524, 1525, 1526, 1527, 1501, 1502, 1503, 1504, 1505, 1506, 1507, 1460, 1461, 1462, 1463, 1464, 1465, 1466, 1467] rfl (by decide +kernel)
set_option maxRecDepth 20000 in
theorem gL_law_X11_must : GoodIn wsL_law (wsV RL 167 RX11 yX11_must wsX11_must) := goodIn_app (goodIn_of _ (by decide +kernel)) ggL_law_X11_must
set_option maxRecDepth 20000 in
theorem ggL_law_X12_must : GoodIn wsL_law wsX12_must := goodIn_r _ [1283, 246, 1257, 1258, 1259, 1260, 5, 1261, 476, 1262, 472, 473, 474, 475, 247, 477, 478, 1263, 1264, 1265, 1266, 184, 588, 589, 590, 591, 185, 526, 527, 528, 1267, 1268, 1269, 1270, 533, 534, 535, 1402, 1403, 1404, 1405, 1406, 1407, 1408, 1409, 1410, 1411, 1412, 1413, 1414, 1415, 1416, 1417, 1418, 1419, 1420, 1421, 1422, 1423, 1424, 1425, 1426, 1427, 1428, 1429, 1430, 1431, 1432, 1433, 1434, 1435, 1436, 1437, 1438, 1439, 1440, 1441, 1442, 1443, 1444, 1445, 1446, 1447, 1448, 1449, 1450, 1451, 1452, 1453, 1454, 1455, 1456, 1457, 1458, 1459] rfl (by decide +kernel)
set_option maxRecDepth 20000 in
theorem gL_law_X12_must : GoodIn wsL_law (wsV RL 170 RX12 yX12_must wsX12_must) := goodIn_app (goodIn_of _ (by decide +kernel)) ggL_law_X12_must
set_option maxRecDepth 20000 in
theorem ggL_law_X11_wrongly : GoodIn wsL_law wsX11_wrongly := goodIn_r _ [1287, 40, 16, 44, 269, 975, 1288, 1230, 1231, 1232, 39, 1233, 129, 133, 132, 1234, 1235, 1236, 177, 178, 179, 1237, 1238, 1239, 1240, 130, 131, 256, 257, 258, 15, 259, 59, 912, 804, 805, 49, 806, 147, 1289, 1290, 1291, 1292, 1293, 1294, 1295, 1296, 1297, 1205, 1206, 1207, 1208, 1209, 1210, 1388, 1389, 1390, 1391, 1392, 1393, 1394, 1395, 1396, 1397, 1398, 1399, 1400, 1401, 1508, 1509, 1510, 1511, 1512, 1513, 1514, 1515, 1516, 1517, 1518, 1519, 1520, 1521, 1522, 1523, 1524, 1525, 1526, 1527, 1501, 1502, 1503, 1504, 1505, 1506, 1507, 1460, 1461, 1462, 1463, 1464, 1465, 1466, 1467] rfl (by decide +kernel)
set_option maxRecDepth 20000 in
theorem gL_law_X11_wrongly : GoodIn wsL_law (wsV RL 171 RX11 yX11_wrongly wsX11_wrongly) := goodIn_app (goodIn_of _ (by decide +kernel)) ggL_law_X11_wrongly
set_option maxRecDepth 20000 in
theorem ggL_law_X12_wrongly : GoodIn wsL_law wsX12_wrongly := goodIn_r _ [1301, 246, 1262, 1257, 1258, 1259, 1260, 5, 1261, 476, 472, 473, 474, 475, 247, 477, 478, 1263, 1264, 1265, 1266, 184, 588, 589, 590, 591, 185, 526, 527, 528, 1267, 1268, 1269, 1270, 533, 534, 535, 1219, 1220, 1221, 1402, 1403, 1404, 1405, 1406, 1407, 1408, 1409, 1410, 1411, 1412, 1413, 1414, 1415, 1416, 1417, 1418, 1419, 1420, 1421, 1422, 1423, 1424, 1425, 1426, 1427, 1428, 1429, 1430, 1431, 1432, 1433, 1434, 1435, 1436, 1437, 1438, 1439, 1440, 1441, 1442, 1443, 1444, 1445, 1446, 1447, 1448, 1449, 1450, 1451, 1452, 1453, 1454, 1455, 1456, 1457, 1458, 1459] rfl (by decide +kernel)
set_option maxRecDepth 20000 in
theorem gL_law_X12_wrongly : GoodIn wsL_law (wsV RL 174 RX12 yX12_wrongly wsX12_wrongly) := goodIn_app (goodIn_of _ (by decide +kernel)) ggL_law_X12_wrongly
