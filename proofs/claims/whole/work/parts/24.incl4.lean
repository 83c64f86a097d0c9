set_option maxRecDepth 20000 in
theorem ggL_law_X11_climbed : GoodIn wsL_law wsX11_climbed := goodIn_r _ [984, 52, 1388, 1389, 1390, 1391, 1392, 1393, 1394, 1395, 1396, 1397, 1398, 1399, 1400, 1401] rfl (by decide +kernel)
set_option maxRecDepth 20000 in
theorem gL_law_X11_climbed : GoodIn wsL_law (wsV RL 114 RX11 yX11_climbed wsX11_climbed) := goodIn_app (goodIn_of _ (by decide +kernel)) ggL_law_X11_climbed
set_option maxRecDepth 20000 in
theorem ggL_law_X12_climbed : GoodIn wsL_law wsX12_climbed := goodIn_r _ [988, 246, 980, 1402, 1403, 1404, 1405, 1406, 1407, 1408, 1409, 1410, 1411, 1412, 1413, 1414, 1415, 1416, 1417, 1418, 1419, 1420, 1421, 1422, 1423, 1424, 1425, 1426, 1427, 1428, 1429, 1430, 1431, 1432, 1433, 1434, 1435, 1436, 1437, 1438, 1439, 1440, 1441, 1442, 1443, 1444, 1445, 1446, 1447, 1448, 1449, 1450, 1451, 1452, 1453, 1454, 1455, 1456, 1457, 1458, 1459] rfl (by decide +kernel)
set_option maxRecDepth 20000 in
theorem gL_law_X12_climbed : GoodIn wsL_law (wsV RL 117 RX12 yX12_climbed wsX12_climbed) := goodIn_app (goodIn_of _ (by decide +kernel)) ggL_law_X12_climbed
set_option maxRecDepth 20000 in
theorem ggL_law_X11_told : GoodIn wsL_law wsX11_told := goodIn_r _ [992, 44, 269, 579, 1388, 1389, 1390, 1391, 1392, 1393, 1394, 1395, 1396, 1397, 1398, 1399, 1400, 1401, 1508, 1509, 1510, 1511, 1512, 1513, 1514, 1515, 1516, 1517, 1518, 1519, 1520, 1521, 1522, 1523, 1524, 1525, 1526, 1527] rfl (by decide +kernel)
set_option maxRecDepth 20000 in
theorem gL_law_X11_told : GoodIn wsL_law (wsV RL 118 RX11 yX11_told wsX11_told) := goodIn_app (goodIn_of _ (by decide +kernel)) ggL_law_X11_told
set_option maxRecDepth 20000 in
theorem ggL_law_X12_told : GoodIn wsL_law wsX12_told := goodIn_r _ [996, 246, 185, 1402, 1403, 1404, 1405, 1406, 1407, 1408, 1409, 1410, 1411, 1412, 1413, 1414, 1415, 1416, 1417, 1418, 1419, 1420, 1421, 1422, 1423, 1424, 1425, 1426, 1427, 1428, 1429, 1430, 1431, 1432, 1433, 1434, 1435, 1436, 1437, 1438, 1439, 1440, 1441, 1442, 1443, 1444, 1445, 1446, 1447, 1448, 1449, 1450, 1451, 1452, 1453, 1454, 1455, 1456, 1457, 1458, 1459] rfl (by decide +kernel)
set_option maxRecDepth 20000 in
theorem gL_law_X12_told : GoodIn wsL_law (wsV RL 121 RX12 yX12_told wsX12_told) := goodIn_app (goodIn_of _ (by decide +kernel)) ggL_law_X12_told
set_option maxRecDepth 20000 in
theorem ggL_law_X11_own : GoodIn wsL_law wsX11_own := goodIn_r _ [1000, 44, 269, 580, 581, 582, 49, 583, 147, 799, 800, 801, 802, 803, 804, 805, 806, 1001, 1002, 1003, 1004, 148, 1005, 669, 670, 671, 156, 157, 1006, 834, 835, 836, 161, 1007, 784, 785, 786, 159, 160, 1388, 1389, 1390, 1391, 1392, 1393, 1394, 1395, 1396, 1397, 1398, 1399, 1400, 1401, 1508, 1509, 1510, 1511, 1512, 1513, 1514, 1515, 1516, 1517, 1518, 1519, 1520, 1521, 1522, 1523, 1524, 1525, 1526, 1527] rfl (by decide +kernel)
set_option maxRecDepth 20000 in
theorem gL_law_X11_own : GoodIn wsL_law (wsV RL 122 RX11 yX11_own wsX11_own) := goodIn_app (goodIn_of _ (by decide +kernel)) ggL_law_X11_own
set_option maxRecDepth 20000 in
theorem ggL_law_X12_own : GoodIn wsL_law wsX12_own := goodIn_r _ [1011, 246, 588, 589, 590, 5, 591, 185, 526, 527, 528, 874, 875, 876, 877, 1012, 1013, 1014, 1015, 887, 888, 889, 890, 629, 630, 631, 632, 533, 534, 535, 791, 792, 793, 794, 1402, 1403, 1404, 1405, 1406, 1407, 1408, 1409, 1410, 1411, 1412, 1413, 1414, 1415, 1416, 1417, 1418, 1419, 1420, 1421, 1422, 1423, 1424, 1425, 1426, 1427, 1428, 1429, 1430, 1431, 1432, 1433, 1434, 1435, 1436, 1437, 1438, 1439, 1440, 1441, 1442, 1443, 1444, 1445, 1446, 1447, 1448, 1449, 1450, 1451, 1452, 1453, 1454, 1455, 1456, 1457, 1458, 1459] rfl (by decide +kernel)
set_option maxRecDepth 20000 in
theorem gL_law_X12_own : GoodIn wsL_law (wsV RL 125 RX12 yX12_own wsX12_own) := goodIn_app (goodIn_of _ (by decide +kernel)) ggL_law_X12_own
set_option maxRecDepth 20000 in
theorem ggL_law_X11_rests : GoodIn wsL_law wsX11_rests := goodIn_r _ [1019, 44, 269, 1020, 1021, 1022, 1023, 1024, 2, 1025, 912, 804, 805, 49, 806, 147, 1026, 1027, 1028, 1029, 1030, 1031, 1032, 1033, 1034, 1002, 1003, 1004, 148, 1005, 669, 670, 671, 156, 157, 1006, 834, 835, 836, 161, 1007, 784, 785, 786, 159, 160, 1388, 1389, 1390, 1391, 1392, 1393, 1394, 1395, 1396, 1397, 1398, 1399, 1400, 1401, 1508, 1509, 1510, 1511, 1512, 1513, 1514, 1515, 1516, 1517, 1518, 1519, 1520, 1521, 1522, 1523, 1524, 1525, 1526, 1527, 1532, 1533, 1534, 1535, 1536] rfl (by decide +kernel)
set_option maxRecDepth 20000 in
theorem gL_law_X11_rests : GoodIn wsL_law (wsV RL 126 RX11 yX11_rests wsX11_rests) := goodIn_app (goodIn_of _ (by decide +kernel)) ggL_law_X11_rests
set_option maxRecDepth 20000 in
theorem ggL_law_X12_rests : GoodIn wsL_law wsX12_rests := goodIn_r _ [1038, 246, 185, 1039, 1040, 1041, 5, 1042, 1012, 1013, 1014, 1015, 887, 888, 889, 890, 629, 630, 631, 632, 533, 534, 535, 791, 792, 793, 794, 1402, 1403, 1404, 1405, 1406, 1407, 1408, 1409, 1410, 1411, 1412, 1413, 1414, 1415, 1416, 1417, 1418, 1419, 1420, 1421, 1422, 1423, 1424, 1425, 1426, 1427, 1428, 1429, 1430, 1431, 1432, 1433, 1434, 1435, 1436, 1437, 1438, 1439, 1440, 1441, 1442, 1443, 1444, 1445, 1446, 1447, 1448, 1449, 1450, 1451, 1452, 1453, 1454, 1455, 1456, 1457, 1458, 1459] rfl (by decide +kernel)
set_option maxRecDepth 20000 in
theorem gL_law_X12_rests : GoodIn wsL_law (wsV RL 129 RX12 yX12_rests wsX12_rests) := goodIn_app (goodIn_of _ (by decide +kernel)) ggL_law_X12_rests
set_option maxRecDepth 20000 in
theorem ggL_law_X11_rounds : GoodIn wsL_law wsX11_rounds := goodIn_r _ [1046, 44, 269, 28, 799, 800, 801, 49, 802, 803, 804, 805, 806, 147, 1047, 1048, 1049, 27, 1050, 95, 96, 97, 98, 1051, 177, 178, 179, 1052, 1053, 1054, 1055, 1056, 1031, 1032, 1033, 1034, 1002, 1003, 1004, 148, 1005, 669, 670, 671, 156, 157, 1006, 834, 835, 836, 161, 1007, 784, 785, 786, 159, 160, 1388, 1389, 1390, 1391, 1392, 1393, 1394, 1395, 1396, 1397, 1398, 1399, 1400, 1401, 1508, 1509, 1510, 1511, 1512, 1513, 1514, 1515, 1516, 1517, 1518, 1519, 1520, 1521, 1522, 1523, 1524, 1525, 1526, 1527, 1486, 1487, 1488, 1489] rfl (by decide +kernel)
set_option maxRecDepth 20000 in
theorem gL_law_X11_rounds : GoodIn wsL_law (wsV RL 130 RX11 yX11_rounds wsX11_rounds) := goodIn_app (goodIn_of _ (by decide +kernel)) ggL_law_X11_rounds
set_option maxRecDepth 20000 in
theorem ggL_law_X12_rounds : GoodIn wsL_law wsX12_rounds := goodIn_r _ [1060, 246, 203, 1061, 185, 204, 874, 875, 876, 5, 877, 526, 527, 528, 1012, 1013, 1014, 1015, 887, 888, 889, 890, 629, 630, 631, 632, 533, 534, 535, 791, 792, 793, 794, 1402, 1403, 1404, 1405, 1406, 1407, 1408, 1409, 1410, 1411, 1412, 1413, 1414, 1415, 1416, 1417, 1418, 1419, 1420, 1421, 1422, 1423, 1424, 1425, 1426, 1427, 1428, 1429, 1430, 1431, 1432, 1433, 1434, 1435, 1436, 1437, 1438, 1439, 1440, 1441, 1442, 1443, 1444, 1445, 1446, 1447, 1448, 1449, 1450, 1451, 1452, 1453, 1454, 1455, 1456, 1457, 1458, 1459] rfl (by decide +kernel)
set_option maxRecDepth 20000 in
theorem gL_law_X12_rounds : GoodIn wsL_law (wsV RL 133 RX12 yX12_rounds wsX12_rounds) := goodIn_app (goodIn_of _ (by decide +kernel)) ggL_law_X12_rounds
set_option maxRecDepth 20000 in
theorem ggL_law_X11_ended : GoodIn wsL_law wsX11_ended := goodIn_r _ [1065, 28, 1066, 1067, 1068, 1388, 1389, 1390, 1391, 1392, 1393, 1394, 1395, 1396, 1397, 1398, 1399, 1400, 1401, 1486, 1487, 1488, 1489] rfl (by decide +kernel)
set_option maxRecDepth 20000 in
theorem gL_law_X11_ended : GoodIn wsL_law (wsV RL 134 RX11 yX11_ended wsX11_ended) := goodIn_app (goodIn_of _ (by decide +kernel)) ggL_law_X11_ended
set_option maxRecDepth 20000 in
theorem ggL_law_X12_ended : GoodIn wsL_law wsX12_ended := goodIn_r _ [1072, 246, 1061, 204, 526, 527, 5, 528, 1402, 1403, 1404, 1405, 1406, 1407, 1408, 1409, 1410, 1411, 1412, 1413, 1414, 1415, 1416, 1417, 1418, 1419, 1420, 1421, 1422, 1423, 1424, 1425, 1426, 1427, 1428, 1429, 1430, 1431, 1432, 1433, 1434, 1435, 1436, 1437, 1438, 1439, 1440, 1441, 1442, 1443, 1444, 1445, 1446, 1447, 1448, 1449, 1450, 1451, 1452, 1453, 1454, 1455, 1456, 1457, 1458, 1459] rfl (by decide +kernel)
set_option maxRecDepth 20000 in
theorem gL_law_X12_ended : GoodIn wsL_law (wsV RL 137 RX12 yX12_ended wsX12_ended) := goodIn_app (goodIn_of _ (by decide +kernel)) ggL_law_X12_ended
set_option maxRecDepth 20000 in
theorem ggL_law_X11_one : GoodIn wsL_law wsX11_one := goodIn_r _ [1076, 44, 269, 32, 1077, 1078, 580, 581, 582, 49, 583, 147, 799, 800, 801, 802, 803, 804, 805, 806, 1079, 1080, 1081, 31, 1082, 107, 105, 106, 102, 1083, 434, 295, 435, 1084, 1085, 1086, 1087, 1088, 1089, 177, 178, 179, 1090, 834, 835, 836, 156, 157, 161, 1091, 784, 785, 786, 159, 160, 1092, 1093, 1094, 1095, 1096, 1097, 1098, 1099, 1100, 294, 296, 1101, 1102, 1103, 1104, 104, 103, 1388, 1389, 1390, 1391, 1392, 1393, 1394, 1395, 1396, 1397, 1398, 1399, 1400, 1401, 1508, 1509, 1510, 1511, 1512, 1513, 1514, 1515, 1516, 1517, 1518, 1519, 1520, 1521, 1522, 1523, 1524, 1525, 1526, 1527, 1490, 1491, 1492, 1493, 1494, 1495] rfl (by decide +kernel)
set_option maxRecDepth 20000 in
theorem gL_law_X11_one : GoodIn wsL_law (wsV RL 138 RX11 yX11_one wsX11_one) := goodIn_app (goodIn_of _ (by decide +kernel)) ggL_law_X11_one
set_option maxRecDepth 20000 in
theorem ggL_law_X12_one : GoodIn wsL_law wsX12_one := goodIn_r _ [1108, 246, 185, 206, 207, 1109, 588, 589, 590, 5, 591, 526, 527, 528, 874, 875, 876, 877, 1110, 1111, 1112, 1113, 1114, 1115, 1116, 1117, 205, 629, 630, 631, 632, 887, 888, 889, 890, 533, 534, 535, 791, 792, 793, 794, 1118, 1119, 1120, 1121, 1122, 1123, 1124, 1125, 1126, 1127, 1128, 1129, 1402, 1403, 1404, 1405, 1406, 1407, 1408, 1409, 1410, 1411, 1412, 1413, 1414, 1415, 1416, 1417, 1418, 1419, 1420, 1421, 1422, 1423, 1424, 1425, 1426, 1427, 1428, 1429, 1430, 1431, 1432, 1433, 1434, 1435, 1436, 1437, 1438, 1439, 1440, 1441, 1442, 1443, 1444, 1445, 1446, 1447, 1448, 1449, 1450, 1451, 1452, 1453, 1454, 1455, 1456, 1457, 1458, 1459] rfl (by decide +kernel)
set_option maxRecDepth 20000 in
theorem gL_law_X12_one : GoodIn wsL_law (wsV RL 141 RX12 yX12_one wsX12_one) := goodIn_app (goodIn_of _ (by decide +kernel)) ggL_law_X12_one
set_option maxRecDepth 20000 in
theorem ggL_law_X11_oneBy : GoodIn wsL_law wsX11_oneBy := goodIn_r _ [1133, 44, 269, 32, 1078, 580, 581, 582, 49, 583, 147, 799, 800, 801, 802, 803, 804, 805, 806, 1079, 1080, 1081, 31, 1082, 107, 105, 106, 102, 1083, 434, 295, 435, 1084, 1085, 1086, 1087, 1088, 1089, 177, 178, 179, 1090, 834, 835, 836, 156, 157, 161, 1091, 784, 785, 786, 159, 160, 1092, 1093, 1094, 1095, 1096, 1097, 1098, 1099, 1100, 294, 296, 1388, 1389, 1390, 1391, 1392, 1393, 1394, 1395, 1396, 1397, 1398, 1399, 1400, 1401, 1508, 1509, 1510, 1490, 1491, 1492, 1493, 1494, 1495, 1511, 1512, 1513, 1514, 1515, 1516, 1517, 1518, 1519, 1520, 1521, 1522, 1523, 1524, 1525, 1526, 1527] rfl (by decide +kernel)
set_option maxRecDepth 20000 in
theorem gL_law_X11_oneBy : GoodIn wsL_law (wsV RL 142 RX11 yX11_oneBy wsX11_oneBy) := goodIn_app (goodIn_of _ (by decide +kernel)) ggL_law_X11_oneBy
