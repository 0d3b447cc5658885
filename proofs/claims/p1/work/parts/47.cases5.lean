theorem dL_law_1286 : decode cL_law 1286 = .ok (.aload_n 1, 1) := by decide +kernel
theorem dL_law_1287 : decode cL_law 1287 = .ok (.aload_n 0, 1) := by decide +kernel
theorem dL_law_1288 : decode cL_law 1288 = .ok (.iload_n 3, 1) := by decide +kernel
theorem dL_law_1289 : decode cL_law 1289 = .ok (.iconst 1, 1) := by decide +kernel
theorem dL_law_1290 : decode cL_law 1290 = .ok (.iadd, 1) := by decide +kernel
theorem dL_law_1291 : decode cL_law 1291 = .ok (.iaload, 1) := by decide +kernel
theorem dL_law_1292 : decode cL_law 1292 = .ok (.aload_n 0, 1) := by decide +kernel
theorem dL_law_1293 : decode cL_law 1293 = .ok (.iload_n 3, 1) := by decide +kernel
theorem dL_law_1294 : decode cL_law 1294 = .ok (.iconst 2, 1) := by decide +kernel
theorem dL_law_1295 : decode cL_law 1295 = .ok (.iadd, 1) := by decide +kernel
theorem dL_law_1296 : decode cL_law 1296 = .ok (.iaload, 1) := by decide +kernel
theorem dL_law_1297 : decode cL_law 1297 = .ok (.aload_n 0, 1) := by decide +kernel
theorem dL_law_1298 : decode cL_law 1298 = .ok (.iload_n 3, 1) := by decide +kernel
theorem dL_law_1299 : decode cL_law 1299 = .ok (.iconst 3, 1) := by decide +kernel
theorem dL_law_1300 : decode cL_law 1300 = .ok (.iadd, 1) := by decide +kernel
theorem dL_law_1301 : decode cL_law 1301 = .ok (.iaload, 1) := by decide +kernel
theorem dL_law_1302 : decode cL_law 1302 = .ok (.invokevirtual 116, 3) := by decide +kernel
set_option maxRecDepth 100000 in
theorem ggL_law_X11_least : GoodIn wsL_law wsX11_least := goodIn_h _ [15, 28, 583, 584, 585, 14, 45, 49, 629, 630, 631, 48, 242, 613, 614, 615, 241, 1335, 1336, 1337, 27, 1339, 1340, 1085, 1086, 68, 684, 650, 651, 236, 238, 653, 654, 427, 239, 1088, 838, 839, 67, 73, 1341, 681, 682, 243, 718, 719, 720, 722, 723, 724, 1342, 1473, 1474, 1475, 1476, 1477, 1478, 1479, 1544, 1545, 1546, 1547, 1548, 1549, 1550, 1596, 1597, 1598, 1599, 1600, 1601, 1602, 1603, 1604, 1605, 1606, 1607, 1608, 1609, 1610] [1334, 586, 632, 616, 1338, 1087, 652, 655, 840, 683, 721] (by decide +kernel) (by decide +kernel) rfl
set_option maxRecDepth 20000 in
theorem gL_law_X11_least : GoodIn wsL_law (wsV RL 116 RX11 yX11_least wsX11_least) := goodIn_app (goodIn_of _ (by decide +kernel)) ggL_law_X11_least
theorem dL_law_1305 : decode cL_law 1305 = .ok (.aload_n 2, 1) := by decide +kernel
theorem dL_law_1306 : decode cL_law 1306 = .ok (.aload_n 0, 1) := by decide +kernel
theorem dL_law_1307 : decode cL_law 1307 = .ok (.iload_n 3, 1) := by decide +kernel
theorem dL_law_1308 : decode cL_law 1308 = .ok (.iconst 1, 1) := by decide +kernel
theorem dL_law_1309 : decode cL_law 1309 = .ok (.iadd, 1) := by decide +kernel
theorem dL_law_1310 : decode cL_law 1310 = .ok (.iaload, 1) := by decide +kernel
theorem dL_law_1311 : decode cL_law 1311 = .ok (.aload_n 0, 1) := by decide +kernel
theorem dL_law_1312 : decode cL_law 1312 = .ok (.iload_n 3, 1) := by decide +kernel
theorem dL_law_1313 : decode cL_law 1313 = .ok (.iconst 2, 1) := by decide +kernel
theorem dL_law_1314 : decode cL_law 1314 = .ok (.iadd, 1) := by decide +kernel
theorem dL_law_1315 : decode cL_law 1315 = .ok (.iaload, 1) := by decide +kernel
theorem dL_law_1316 : decode cL_law 1316 = .ok (.aload_n 0, 1) := by decide +kernel
theorem dL_law_1317 : decode cL_law 1317 = .ok (.iload_n 3, 1) := by decide +kernel
theorem dL_law_1318 : decode cL_law 1318 = .ok (.iconst 3, 1) := by decide +kernel
theorem dL_law_1319 : decode cL_law 1319 = .ok (.iadd, 1) := by decide +kernel
theorem dL_law_1320 : decode cL_law 1320 = .ok (.iaload, 1) := by decide +kernel
theorem dL_law_1321 : decode cL_law 1321 = .ok (.invokevirtual 119, 3) := by decide +kernel
set_option maxRecDepth 100000 in
theorem ggL_law_X12_least : GoodIn wsL_law wsX12_least := goodIn_h _ [192, 152, 151, 1120, 1121, 1122, 5, 591, 592, 593, 595, 596, 597, 598, 599, 600, 601, 449, 450, 451, 145, 205, 206, 602, 603, 604, 146, 923, 924, 925, 913, 927, 154, 155, 156, 157, 158, 159, 160, 161, 928, 637, 638, 639, 941, 942, 943, 1128, 1129, 1130, 971, 972, 973, 698, 699, 700, 702, 703, 704, 641, 642, 664, 665, 666, 668, 669, 670, 519, 520, 967, 968, 969, 945, 946, 947, 729, 730, 1480, 1481, 1482, 1483, 1484, 1485, 1486, 1487, 1488, 1489, 1490, 1491, 1492, 1493, 1494, 1495, 1496, 1497, 1498, 1499, 1500, 1501, 1502, 1503, 1504, 1505, 1506, 1507, 1508, 1509, 1510, 1511, 1512, 1513, 1514, 1515, 1516, 1517, 1518, 1519, 1520, 1521, 1522, 1523, 1524, 1525, 1526, 1527, 1528, 1529, 1530, 1531, 1532, 1533, 1534, 1535, 1536, 1537, 1538, 1539, 1540, 1541, 1542, 1543] [1346, 1123, 594, 452, 207, 605, 926, 640, 944, 1131, 974, 701, 705, 643, 667, 671, 521, 970, 948, 731] (by decide +kernel) (by decide +kernel) rfl
set_option maxRecDepth 20000 in
theorem gL_law_X12_least : GoodIn wsL_law (wsV RL 119 RX12 yX12_least wsX12_least) := goodIn_app (goodIn_of _ (by decide +kernel)) ggL_law_X12_least
theorem dL_law_1324 : decode cL_law 1324 = .ok (.if_icmp .eq 226, 3) := by decide +kernel
theorem dL_law_1329 : decode cL_law 1329 = .ok (.aload_n 1, 1) := by decide +kernel
theorem dL_law_1330 : decode cL_law 1330 = .ok (.aload_n 0, 1) := by decide +kernel
theorem dL_law_1331 : decode cL_law 1331 = .ok (.iload_n 3, 1) := by decide +kernel
theorem dL_law_1332 : decode cL_law 1332 = .ok (.iconst 1, 1) := by decide +kernel
theorem dL_law_1333 : decode cL_law 1333 = .ok (.iadd, 1) := by decide +kernel
theorem dL_law_1334 : decode cL_law 1334 = .ok (.iaload, 1) := by decide +kernel
theorem dL_law_1335 : decode cL_law 1335 = .ok (.aload_n 0, 1) := by decide +kernel
theorem dL_law_1336 : decode cL_law 1336 = .ok (.iload_n 3, 1) := by decide +kernel
theorem dL_law_1337 : decode cL_law 1337 = .ok (.iconst 2, 1) := by decide +kernel
theorem dL_law_1338 : decode cL_law 1338 = .ok (.iadd, 1) := by decide +kernel
theorem dL_law_1339 : decode cL_law 1339 = .ok (.iaload, 1) := by decide +kernel
theorem dL_law_1340 : decode cL_law 1340 = .ok (.invokevirtual 120, 3) := by decide +kernel
set_option maxRecDepth 100000 in
theorem ggL_law_X11_winds : GoodIn wsL_law wsX11_winds := goodIn_h _ [15, 28, 1351, 1352, 1353, 583, 584, 585, 14, 45, 49, 1354, 1355, 1356, 27, 121, 1358, 1359, 1360, 1361, 1362, 1363, 430, 431, 48, 236, 237, 238, 239, 240, 67, 433, 378, 379, 380, 241, 68, 69, 70, 242, 71, 72, 73, 243, 1364, 1365, 692, 693, 677, 678, 680, 681, 682, 684, 650, 651, 653, 654, 427, 718, 719, 720, 722, 723, 724, 1473, 1474, 1475, 1476, 1477, 1478, 1479, 1577, 1578, 1579, 1580, 1544, 1545, 1546, 1547, 1548, 1549, 1550, 1596, 1597, 1598, 1599, 1600, 1601, 1602, 1603, 1604, 1605, 1606, 1607, 1608, 1609, 1610] [1350, 586, 1357, 432, 1366, 679, 683, 652, 655, 721] (by decide +kernel) (by decide +kernel) rfl
set_option maxRecDepth 20000 in
theorem gL_law_X11_winds : GoodIn wsL_law (wsV RL 120 RX11 yX11_winds wsX11_winds) := goodIn_app (goodIn_of _ (by decide +kernel)) ggL_law_X11_winds
theorem dL_law_1343 : decode cL_law 1343 = .ok (.aload_n 2, 1) := by decide +kernel
theorem dL_law_1344 : decode cL_law 1344 = .ok (.aload_n 0, 1) := by decide +kernel
theorem dL_law_1345 : decode cL_law 1345 = .ok (.iload_n 3, 1) := by decide +kernel
theorem dL_law_1346 : decode cL_law 1346 = .ok (.iconst 1, 1) := by decide +kernel
theorem dL_law_1347 : decode cL_law 1347 = .ok (.iadd, 1) := by decide +kernel
theorem dL_law_1348 : decode cL_law 1348 = .ok (.iaload, 1) := by decide +kernel
theorem dL_law_1349 : decode cL_law 1349 = .ok (.aload_n 0, 1) := by decide +kernel
theorem dL_law_1350 : decode cL_law 1350 = .ok (.iload_n 3, 1) := by decide +kernel
theorem dL_law_1351 : decode cL_law 1351 = .ok (.iconst 2, 1) := by decide +kernel
theorem dL_law_1352 : decode cL_law 1352 = .ok (.iadd, 1) := by decide +kernel
theorem dL_law_1353 : decode cL_law 1353 = .ok (.iaload, 1) := by decide +kernel
theorem dL_law_1354 : decode cL_law 1354 = .ok (.invokevirtual 123, 3) := by decide +kernel
set_option maxRecDepth 100000 in
theorem ggL_law_X12_winds : GoodIn wsL_law wsX12_winds := goodIn_h _ [192, 599, 598, 601, 205, 206, 5, 591, 592, 593, 595, 596, 597, 600, 151, 152, 449, 450, 451, 145, 602, 603, 604, 146, 698, 699, 700, 702, 703, 704, 641, 642, 664, 665, 666, 668, 669, 670, 519, 520, 729, 730, 1480, 1481, 1482, 1483, 1484, 1485, 1486, 1487, 1488, 1489, 1490, 1491, 1492, 1493, 1494, 1495, 1496, 1497, 1498, 1499, 1500, 1501, 1502, 1503, 1504, 1505, 1506, 1507, 1508, 1509, 1510, 1511, 1512, 1513, 1514, 1515, 1516, 1517, 1518, 1519, 1520, 1521, 1522, 1523, 1524, 1525, 1526, 1527, 1528, 1529, 1530, 1531, 1532, 1533, 1534, 1535, 1536, 1537, 1538, 1539, 1540, 1541, 1542, 1543] [1370, 207, 594, 452, 605, 701, 705, 643, 667, 671, 521, 731] (by decide +kernel) (by decide +kernel) rfl
set_option maxRecDepth 20000 in
theorem gL_law_X12_winds : GoodIn wsL_law (wsV RL 123 RX12 yX12_winds wsX12_winds) := goodIn_app (goodIn_of _ (by decide +kernel)) ggL_law_X12_winds
theorem dL_law_1357 : decode cL_law 1357 = .ok (.if_icmp .eq 193, 3) := by decide +kernel
theorem dL_law_1362 : decode cL_law 1362 = .ok (.aload_n 1, 1) := by decide +kernel
theorem dL_law_1363 : decode cL_law 1363 = .ok (.aload_n 0, 1) := by decide +kernel
theorem dL_law_1364 : decode cL_law 1364 = .ok (.iload_n 3, 1) := by decide +kernel
theorem dL_law_1365 : decode cL_law 1365 = .ok (.iconst 1, 1) := by decide +kernel
theorem dL_law_1366 : decode cL_law 1366 = .ok (.iadd, 1) := by decide +kernel
theorem dL_law_1367 : decode cL_law 1367 = .ok (.iaload, 1) := by decide +kernel
theorem dL_law_1368 : decode cL_law 1368 = .ok (.aload_n 0, 1) := by decide +kernel
theorem dL_law_1369 : decode cL_law 1369 = .ok (.iload_n 3, 1) := by decide +kernel
theorem dL_law_1370 : decode cL_law 1370 = .ok (.iconst 2, 1) := by decide +kernel
theorem dL_law_1371 : decode cL_law 1371 = .ok (.iadd, 1) := by decide +kernel
theorem dL_law_1372 : decode cL_law 1372 = .ok (.iaload, 1) := by decide +kernel
theorem dL_law_1373 : decode cL_law 1373 = .ok (.aload_n 0, 1) := by decide +kernel
theorem dL_law_1374 : decode cL_law 1374 = .ok (.iload_n 3, 1) := by decide +kernel
theorem dL_law_1375 : decode cL_law 1375 = .ok (.iconst 3, 1) := by decide +kernel
theorem dL_law_1376 : decode cL_law 1376 = .ok (.iadd, 1) := by decide +kernel
theorem dL_law_1377 : decode cL_law 1377 = .ok (.iaload, 1) := by decide +kernel
theorem dL_law_1378 : decode cL_law 1378 = .ok (.invokevirtual 124, 3) := by decide +kernel
set_option maxRecDepth 100000 in
theorem ggL_law_X11_meet : GoodIn wsL_law wsX11_meet := goodIn_h _ [15, 610, 612, 583, 584, 585, 14, 45, 49, 613, 614, 615, 48, 241, 1375, 905, 906, 908, 818, 819, 236, 237, 821, 822, 823, 825, 826, 827, 1473, 1474, 1475, 1476, 1477, 1478, 1479, 1596, 1597, 1598, 1599, 1600, 1601, 1602, 1603, 1604, 1605, 1606, 1607, 1608, 1609, 1610, 1544, 1545, 1546, 1547, 1548, 1549, 1550] [1374, 586, 616, 907, 820, 824, 828] (by decide +kernel) (by decide +kernel) rfl
set_option maxRecDepth 20000 in
theorem gL_law_X11_meet : GoodIn wsL_law (wsV RL 124 RX11 yX11_meet wsX11_meet) := goodIn_app (goodIn_of _ (by decide +kernel)) ggL_law_X11_meet
theorem dL_law_1381 : decode cL_law 1381 = .ok (.aload_n 2, 1) := by decide +kernel
theorem dL_law_1382 : decode cL_law 1382 = .ok (.aload_n 0, 1) := by decide +kernel
theorem dL_law_1383 : decode cL_law 1383 = .ok (.iload_n 3, 1) := by decide +kernel
theorem dL_law_1384 : decode cL_law 1384 = .ok (.iconst 1, 1) := by decide +kernel
theorem dL_law_1385 : decode cL_law 1385 = .ok (.iadd, 1) := by decide +kernel
theorem dL_law_1386 : decode cL_law 1386 = .ok (.iaload, 1) := by decide +kernel
theorem dL_law_1387 : decode cL_law 1387 = .ok (.aload_n 0, 1) := by decide +kernel
theorem dL_law_1388 : decode cL_law 1388 = .ok (.iload_n 3, 1) := by decide +kernel
theorem dL_law_1389 : decode cL_law 1389 = .ok (.iconst 2, 1) := by decide +kernel
theorem dL_law_1390 : decode cL_law 1390 = .ok (.iadd, 1) := by decide +kernel
theorem dL_law_1391 : decode cL_law 1391 = .ok (.iaload, 1) := by decide +kernel
theorem dL_law_1392 : decode cL_law 1392 = .ok (.aload_n 0, 1) := by decide +kernel
theorem dL_law_1393 : decode cL_law 1393 = .ok (.iload_n 3, 1) := by decide +kernel
theorem dL_law_1394 : decode cL_law 1394 = .ok (.iconst 3, 1) := by decide +kernel
theorem dL_law_1395 : decode cL_law 1395 = .ok (.iadd, 1) := by decide +kernel
theorem dL_law_1396 : decode cL_law 1396 = .ok (.iaload, 1) := by decide +kernel
theorem dL_law_1397 : decode cL_law 1397 = .ok (.invokevirtual 127, 3) := by decide +kernel
set_option maxRecDepth 100000 in
theorem ggL_law_X12_meet : GoodIn wsL_law wsX12_meet := goodIn_h _ [192, 154, 1120, 1121, 1122, 5, 591, 592, 593, 595, 596, 597, 598, 599, 600, 601, 151, 152, 449, 450, 451, 145, 205, 206, 602, 603, 604, 146, 923, 924, 925, 913, 927, 155, 156, 157, 158, 159, 160, 161, 928, 941, 942, 943, 975, 976, 977, 933, 934, 935, 1480, 1481, 1482, 1483, 1484, 1485, 1486, 1487, 1488, 1489, 1490, 1491, 1492, 1493, 1494, 1495, 1496, 1497, 1498, 1499, 1500, 1501, 1502, 1503, 1504, 1505, 1506, 1507, 1508, 1509, 1510, 1511, 1512, 1513, 1514, 1515, 1516, 1517, 1518, 1519, 1520, 1521, 1522, 1523, 1524, 1525, 1526, 1527, 1528, 1529, 1530, 1531, 1532, 1533, 1534, 1535, 1536, 1537, 1538, 1539, 1540, 1541, 1542, 1543] [1379, 1123, 594, 452, 207, 605, 926, 944, 978, 936] (by decide +kernel) (by decide +kernel) rfl
set_option maxRecDepth 20000 in
theorem gL_law_X12_meet : GoodIn wsL_law (wsV RL 127 RX12 yX12_meet wsX12_meet) := goodIn_app (goodIn_of _ (by decide +kernel)) ggL_law_X12_meet
theorem dL_law_1400 : decode cL_law 1400 = .ok (.if_icmp .eq 150, 3) := by decide +kernel
theorem dL_law_1405 : decode cL_law 1405 = .ok (.aload_n 1, 1) := by decide +kernel
theorem dL_law_1406 : decode cL_law 1406 = .ok (.aload_n 0, 1) := by decide +kernel
theorem dL_law_1407 : decode cL_law 1407 = .ok (.iload_n 3, 1) := by decide +kernel
theorem dL_law_1408 : decode cL_law 1408 = .ok (.iconst 1, 1) := by decide +kernel
theorem dL_law_1409 : decode cL_law 1409 = .ok (.iadd, 1) := by decide +kernel
theorem dL_law_1410 : decode cL_law 1410 = .ok (.iaload, 1) := by decide +kernel
theorem dL_law_1411 : decode cL_law 1411 = .ok (.aload_n 0, 1) := by decide +kernel
theorem dL_law_1412 : decode cL_law 1412 = .ok (.iload_n 3, 1) := by decide +kernel
theorem dL_law_1413 : decode cL_law 1413 = .ok (.iconst 2, 1) := by decide +kernel
theorem dL_law_1414 : decode cL_law 1414 = .ok (.iadd, 1) := by decide +kernel
theorem dL_law_1415 : decode cL_law 1415 = .ok (.iaload, 1) := by decide +kernel
theorem dL_law_1416 : decode cL_law 1416 = .ok (.aload_n 0, 1) := by decide +kernel
theorem dL_law_1417 : decode cL_law 1417 = .ok (.iload_n 3, 1) := by decide +kernel
theorem dL_law_1418 : decode cL_law 1418 = .ok (.iconst 3, 1) := by decide +kernel
theorem dL_law_1419 : decode cL_law 1419 = .ok (.iadd, 1) := by decide +kernel
theorem dL_law_1420 : decode cL_law 1420 = .ok (.iaload, 1) := by decide +kernel
theorem dL_law_1421 : decode cL_law 1421 = .ok (.invokevirtual 128, 3) := by decide +kernel
set_option maxRecDepth 100000 in
theorem ggL_law_X11_sum : GoodIn wsL_law wsX11_sum := goodIn_h _ [24, 983, 768, 769, 770, 2, 15, 583, 584, 585, 14, 45, 49, 738, 739, 740, 53, 772, 773, 774, 23, 776, 777, 103, 104, 778, 105, 106, 779, 780, 781, 782, 783, 784, 785, 102, 787, 788, 789, 790, 791, 792, 793, 794, 795, 111, 112, 113, 116, 114, 115, 797, 798, 799, 801, 802, 803, 427, 805, 806, 807, 809, 810, 811, 743, 744, 52, 78, 812, 630, 631, 48, 242, 813, 814, 815, 817, 818, 819, 236, 237, 821, 822, 823, 825, 826, 827, 829, 830, 831, 833, 834, 835, 836, 681, 682, 243, 684, 650, 651, 238, 653, 654, 239, 837, 838, 839, 67, 73, 841, 842, 843, 845, 846, 847, 849, 850, 851, 852, 854, 855, 856, 857, 859, 719, 720, 722, 723, 724, 860, 861, 862, 863, 865, 866, 867, 869, 870, 871, 873, 874, 875, 877, 878, 879, 881, 882, 883, 885, 886, 887, 888, 889, 890, 891, 893, 894, 895, 896, 897, 899, 900, 901, 903, 904, 905, 906, 908, 1384, 1385, 1386, 1316, 1388, 1389, 1390, 1392, 1393, 1394, 1396, 1397, 1398, 107, 1400, 1401, 1216, 1217, 1402, 1473, 1474, 1475, 1476, 1477, 1478, 1479, 1561, 1562, 1563, 1564, 1565, 1566, 1567, 1568, 1569, 1570, 1571, 1572, 1573, 1574, 1575, 1576, 1544, 1545, 1546, 1547, 1548, 1549, 1550, 1596, 1597, 1598, 1599, 1600, 1601, 1602, 1603, 1604, 1605, 1606, 1607, 1608, 1609, 1610, 1620, 1621, 1622, 1623, 1624, 1625, 1626, 1627, 1611, 1612, 1613] [1383, 771, 586, 741, 775, 786, 796, 800, 804, 808, 745, 632, 816, 820, 824, 828, 832, 683, 652, 655, 840, 844, 848, 853, 858, 721, 864, 868, 872, 876, 880, 884, 892, 898, 902, 907, 1387, 1391, 1395, 1399, 1218] (by decide +kernel) (by decide +kernel) rfl
set_option maxRecDepth 20000 in
theorem gL_law_X11_sum : GoodIn wsL_law (wsV RL 128 RX11 yX11_sum wsX11_sum) := goodIn_app (goodIn_of _ (by decide +kernel)) ggL_law_X11_sum
theorem dL_law_1424 : decode cL_law 1424 = .ok (.aload_n 2, 1) := by decide +kernel
theorem dL_law_1425 : decode cL_law 1425 = .ok (.aload_n 0, 1) := by decide +kernel
theorem dL_law_1426 : decode cL_law 1426 = .ok (.iload_n 3, 1) := by decide +kernel
theorem dL_law_1427 : decode cL_law 1427 = .ok (.iconst 1, 1) := by decide +kernel
theorem dL_law_1428 : decode cL_law 1428 = .ok (.iadd, 1) := by decide +kernel
theorem dL_law_1429 : decode cL_law 1429 = .ok (.iaload, 1) := by decide +kernel
theorem dL_law_1430 : decode cL_law 1430 = .ok (.aload_n 0, 1) := by decide +kernel
theorem dL_law_1431 : decode cL_law 1431 = .ok (.iload_n 3, 1) := by decide +kernel
theorem dL_law_1432 : decode cL_law 1432 = .ok (.iconst 2, 1) := by decide +kernel
theorem dL_law_1433 : decode cL_law 1433 = .ok (.iadd, 1) := by decide +kernel
theorem dL_law_1434 : decode cL_law 1434 = .ok (.iaload, 1) := by decide +kernel
theorem dL_law_1435 : decode cL_law 1435 = .ok (.aload_n 0, 1) := by decide +kernel
theorem dL_law_1436 : decode cL_law 1436 = .ok (.iload_n 3, 1) := by decide +kernel
theorem dL_law_1437 : decode cL_law 1437 = .ok (.iconst 3, 1) := by decide +kernel
theorem dL_law_1438 : decode cL_law 1438 = .ok (.iadd, 1) := by decide +kernel
theorem dL_law_1439 : decode cL_law 1439 = .ok (.iaload, 1) := by decide +kernel
theorem dL_law_1440 : decode cL_law 1440 = .ok (.invokevirtual 131, 3) := by decide +kernel
set_option maxRecDepth 100000 in
theorem ggL_law_X12_sum : GoodIn wsL_law wsX12_sum := goodIn_h _ [192, 914, 915, 916, 5, 918, 750, 751, 752, 754, 449, 450, 451, 145, 205, 206, 591, 592, 593, 595, 596, 597, 598, 599, 600, 601, 151, 152, 602, 603, 604, 146, 755, 756, 757, 147, 919, 920, 921, 913, 923, 924, 925, 927, 154, 155, 156, 157, 158, 159, 160, 161, 928, 929, 930, 931, 162, 163, 759, 760, 761, 637, 638, 639, 933, 934, 935, 937, 938, 939, 941, 942, 943, 945, 946, 947, 949, 950, 951, 164, 165, 166, 953, 954, 955, 957, 958, 959, 698, 699, 700, 702, 703, 704, 641, 642, 664, 665, 666, 668, 669, 670, 519, 520, 961, 962, 963, 965, 966, 967, 968, 969, 729, 730, 971, 972, 973, 975, 976, 977, 1407, 1408, 1409, 1287, 1288, 1162, 1163, 1164, 1411, 1412, 1413, 1415, 1416, 1417, 1480, 1481, 1482, 1483, 1484, 1485, 1486, 1487, 1488, 1489, 1490, 1491, 1492, 1493, 1494, 1495, 1496, 1497, 1498, 1499, 1500, 1501, 1502, 1503, 1504, 1505, 1506, 1507, 1508, 1509, 1510, 1511, 1512, 1513, 1514, 1515, 1516, 1517, 1518, 1519, 1520, 1521, 1522, 1523, 1524, 1525, 1526, 1527, 1528, 1529, 1530, 1531, 1532, 1533, 1534, 1535, 1536, 1537, 1538, 1539, 1540, 1541, 1542, 1543] [1406, 917, 753, 452, 207, 594, 605, 758, 922, 926, 932, 762, 640, 936, 940, 944, 948, 952, 956, 960, 701, 705, 643, 667, 671, 521, 964, 970, 731, 974, 978, 1410, 1289, 1165, 1414, 1418] (by decide +kernel) (by decide +kernel) rfl
set_option maxRecDepth 20000 in
theorem gL_law_X12_sum : GoodIn wsL_law (wsV RL 131 RX12 yX12_sum wsX12_sum) := goodIn_app (goodIn_of _ (by decide +kernel)) ggL_law_X12_sum
theorem dL_law_1443 : decode cL_law 1443 = .ok (.if_icmp .eq 107, 3) := by decide +kernel
theorem dL_law_1448 : decode cL_law 1448 = .ok (.aload_n 1, 1) := by decide +kernel
theorem dL_law_1449 : decode cL_law 1449 = .ok (.aload_n 0, 1) := by decide +kernel
theorem dL_law_1450 : decode cL_law 1450 = .ok (.iload_n 3, 1) := by decide +kernel
theorem dL_law_1451 : decode cL_law 1451 = .ok (.iconst 1, 1) := by decide +kernel
theorem dL_law_1452 : decode cL_law 1452 = .ok (.iadd, 1) := by decide +kernel
theorem dL_law_1453 : decode cL_law 1453 = .ok (.iaload, 1) := by decide +kernel
theorem dL_law_1454 : decode cL_law 1454 = .ok (.aload_n 0, 1) := by decide +kernel
theorem dL_law_1455 : decode cL_law 1455 = .ok (.iload_n 3, 1) := by decide +kernel
theorem dL_law_1456 : decode cL_law 1456 = .ok (.iconst 2, 1) := by decide +kernel
theorem dL_law_1457 : decode cL_law 1457 = .ok (.iadd, 1) := by decide +kernel
theorem dL_law_1458 : decode cL_law 1458 = .ok (.iaload, 1) := by decide +kernel
theorem dL_law_1459 : decode cL_law 1459 = .ok (.invokevirtual 132, 3) := by decide +kernel
set_option maxRecDepth 100000 in
theorem ggL_law_X11_tells : GoodIn wsL_law wsX11_tells := goodIn_h _ [15, 28, 583, 584, 585, 14, 45, 49, 629, 630, 631, 48, 242, 1423, 1424, 1425, 27, 689, 690, 692, 693, 677, 678, 71, 72, 680, 681, 682, 243, 684, 650, 651, 236, 238, 653, 654, 427, 239, 718, 719, 720, 722, 723, 724, 1473, 1474, 1475, 1476, 1477, 1478, 1479, 1544, 1545, 1546, 1547, 1548, 1549, 1550, 1596, 1597, 1598, 1599, 1600, 1601, 1602, 1603, 1604, 1605, 1606, 1607, 1608, 1609, 1610] [1422, 586, 632, 1426, 691, 679, 683, 652, 655, 721] (by decide +kernel) (by decide +kernel) rfl
set_option maxRecDepth 20000 in
theorem gL_law_X11_tells : GoodIn wsL_law (wsV RL 132 RX11 yX11_tells wsX11_tells) := goodIn_app (goodIn_of _ (by decide +kernel)) ggL_law_X11_tells
theorem dL_law_1462 : decode cL_law 1462 = .ok (.aload_n 2, 1) := by decide +kernel
theorem dL_law_1463 : decode cL_law 1463 = .ok (.aload_n 0, 1) := by decide +kernel
theorem dL_law_1464 : decode cL_law 1464 = .ok (.iload_n 3, 1) := by decide +kernel
theorem dL_law_1465 : decode cL_law 1465 = .ok (.iconst 1, 1) := by decide +kernel
theorem dL_law_1466 : decode cL_law 1466 = .ok (.iadd, 1) := by decide +kernel
theorem dL_law_1467 : decode cL_law 1467 = .ok (.iaload, 1) := by decide +kernel
theorem dL_law_1468 : decode cL_law 1468 = .ok (.aload_n 0, 1) := by decide +kernel
theorem dL_law_1469 : decode cL_law 1469 = .ok (.iload_n 3, 1) := by decide +kernel
theorem dL_law_1470 : decode cL_law 1470 = .ok (.iconst 2, 1) := by decide +kernel
theorem dL_law_1471 : decode cL_law 1471 = .ok (.iadd, 1) := by decide +kernel
theorem dL_law_1472 : decode cL_law 1472 = .ok (.iaload, 1) := by decide +kernel
theorem dL_law_1473 : decode cL_law 1473 = .ok (.invokevirtual 135, 3) := by decide +kernel
set_option maxRecDepth 100000 in
theorem ggL_law_X12_tells : GoodIn wsL_law wsX12_tells := goodIn_h _ [192, 601, 153, 591, 592, 593, 5, 595, 596, 597, 598, 599, 600, 151, 152, 449, 450, 451, 145, 205, 206, 602, 603, 604, 146, 637, 638, 639, 706, 707, 708, 698, 699, 700, 702, 703, 704, 641, 642, 664, 665, 666, 668, 669, 670, 519, 520, 1480, 1481, 1482, 1483, 1484, 1485, 1486, 1487, 1488, 1489, 1490, 1491, 1492, 1493, 1494, 1495, 1496, 1497, 1498, 1499, 1500, 1501, 1502, 1503, 1504, 1505, 1506, 1507, 1508, 1509, 1510, 1511, 1512, 1513, 1514, 1515, 1516, 1517, 1518, 1519, 1520, 1521, 1522, 1523, 1524, 1525, 1526, 1527, 1528, 1529, 1530, 1531, 1532, 1533, 1534, 1535, 1536, 1537, 1538, 1539, 1540, 1541, 1542, 1543] [1430, 594, 452, 207, 605, 640, 709, 701, 705, 643, 667, 671, 521] (by decide +kernel) (by decide +kernel) rfl
set_option maxRecDepth 20000 in
theorem gL_law_X12_tells : GoodIn wsL_law (wsV RL 135 RX12 yX12_tells wsX12_tells) := goodIn_app (goodIn_of _ (by decide +kernel)) ggL_law_X12_tells
theorem dL_law_1476 : decode cL_law 1476 = .ok (.if_icmp .eq 74, 3) := by decide +kernel
theorem dL_law_1481 : decode cL_law 1481 = .ok (.aload_n 1, 1) := by decide +kernel
theorem dL_law_1482 : decode cL_law 1482 = .ok (.aload_n 0, 1) := by decide +kernel
theorem dL_law_1483 : decode cL_law 1483 = .ok (.iload_n 3, 1) := by decide +kernel
theorem dL_law_1484 : decode cL_law 1484 = .ok (.iconst 1, 1) := by decide +kernel
theorem dL_law_1485 : decode cL_law 1485 = .ok (.iadd, 1) := by decide +kernel
theorem dL_law_1486 : decode cL_law 1486 = .ok (.iaload, 1) := by decide +kernel
theorem dL_law_1487 : decode cL_law 1487 = .ok (.invokevirtual 136, 3) := by decide +kernel
set_option maxRecDepth 100000 in
theorem ggL_law_X11_count : GoodIn wsL_law wsX11_count := goodIn_h _ [15, 1435, 1473, 1474, 1475, 1476, 1477, 1478, 1479, 1544, 1545, 1546, 1547, 1548, 1549, 1550] [1434] (by decide +kernel) (by decide +kernel) rfl
set_option maxRecDepth 20000 in
theorem gL_law_X11_count : GoodIn wsL_law (wsV RL 136 RX11 yX11_count wsX11_count) := goodIn_app (goodIn_of _ (by decide +kernel)) ggL_law_X11_count
theorem dL_law_1490 : decode cL_law 1490 = .ok (.aload_n 2, 1) := by decide +kernel
theorem dL_law_1491 : decode cL_law 1491 = .ok (.aload_n 0, 1) := by decide +kernel
theorem dL_law_1492 : decode cL_law 1492 = .ok (.iload_n 3, 1) := by decide +kernel
theorem dL_law_1493 : decode cL_law 1493 = .ok (.iconst 1, 1) := by decide +kernel
theorem dL_law_1494 : decode cL_law 1494 = .ok (.iadd, 1) := by decide +kernel
theorem dL_law_1495 : decode cL_law 1495 = .ok (.iaload, 1) := by decide +kernel
theorem dL_law_1496 : decode cL_law 1496 = .ok (.invokevirtual 139, 3) := by decide +kernel
set_option maxRecDepth 100000 in
theorem ggL_law_X12_count : GoodIn wsL_law wsX12_count := goodIn_h _ [192, 145, 205, 206, 5, 1480, 1481, 1482, 1483, 1484, 1485, 1486, 1487, 1488, 1489, 1490, 1491, 1492, 1493, 1494, 1495, 1496, 1497, 1498, 1499, 1500, 1501, 1502, 1503, 1504, 1505, 1506, 1507, 1508, 1509, 1510, 1511, 1512, 1513, 1514, 1515, 1516, 1517, 1518, 1519, 1520, 1521, 1522, 1523, 1524, 1525, 1526, 1527, 1528, 1529, 1530, 1531, 1532, 1533, 1534, 1535, 1536, 1537, 1538, 1539, 1540, 1541, 1542, 1543] [1439, 207] (by decide +kernel) (by decide +kernel) rfl
set_option maxRecDepth 20000 in
theorem gL_law_X12_count : GoodIn wsL_law (wsV RL 139 RX12 yX12_count wsX12_count) := goodIn_app (goodIn_of _ (by decide +kernel)) ggL_law_X12_count
theorem dL_law_1499 : decode cL_law 1499 = .ok (.if_icmp .eq 51, 3) := by decide +kernel
theorem dL_law_1527 : decode cL_law 1527 = .ok (.aload_n 1, 1) := by decide +kernel
theorem dL_law_1528 : decode cL_law 1528 = .ok (.aload_n 0, 1) := by decide +kernel
theorem dL_law_1529 : decode cL_law 1529 = .ok (.iload_n 3, 1) := by decide +kernel
theorem dL_law_1530 : decode cL_law 1530 = .ok (.iconst 1, 1) := by decide +kernel
theorem dL_law_1531 : decode cL_law 1531 = .ok (.iadd, 1) := by decide +kernel
theorem dL_law_1532 : decode cL_law 1532 = .ok (.iaload, 1) := by decide +kernel
theorem dL_law_1533 : decode cL_law 1533 = .ok (.invokevirtual 145, 3) := by decide +kernel
set_option maxRecDepth 100000 in
theorem ggL_law_X11_again : GoodIn wsL_law wsX11_again := goodIn_h _ [16, 15, 1444, 1445, 1446, 14, 43, 45, 1448, 378, 379, 380, 49, 53, 57, 223, 58, 1449, 1450, 1451, 42, 63, 187, 1453, 429, 430, 431, 48, 236, 237, 238, 239, 240, 67, 433, 241, 68, 69, 70, 242, 71, 72, 73, 243, 434, 435, 436, 52, 248, 77, 438, 78, 439, 440, 441, 56, 253, 82, 443, 83, 254, 84, 85, 1473, 1474, 1475, 1476, 1477, 1478, 1479, 1544, 1545, 1546, 1547, 1548, 1549, 1550, 1594, 1595, 1596, 1597, 1598, 1599, 1600, 1601, 1602, 1603, 1604, 1605, 1606, 1607, 1608, 1609, 1610, 1611, 1612, 1613, 1614, 1615, 1616, 1617, 1618, 1619] [1468, 1447, 1452, 432, 437, 442] (by decide +kernel) (by decide +kernel) rfl
set_option maxRecDepth 20000 in
theorem gL_law_X11_again : GoodIn wsL_law (wsV RL 145 RX11 yX11_again wsX11_again) := goodIn_app (goodIn_of _ (by decide +kernel)) ggL_law_X11_again
theorem dL_law_1536 : decode cL_law 1536 = .ok (.aload_n 2, 1) := by decide +kernel
theorem dL_law_1537 : decode cL_law 1537 = .ok (.aload_n 0, 1) := by decide +kernel
theorem dL_law_1538 : decode cL_law 1538 = .ok (.iload_n 3, 1) := by decide +kernel
theorem dL_law_1539 : decode cL_law 1539 = .ok (.iconst 1, 1) := by decide +kernel
theorem dL_law_1540 : decode cL_law 1540 = .ok (.iadd, 1) := by decide +kernel
theorem dL_law_1541 : decode cL_law 1541 = .ok (.iaload, 1) := by decide +kernel
theorem dL_law_1542 : decode cL_law 1542 = .ok (.invokevirtual 148, 3) := by decide +kernel
set_option maxRecDepth 100000 in
theorem ggL_law_X12_again : GoodIn wsL_law wsX12_again := goodIn_h _ [192, 176, 205, 206, 5, 1458, 1459, 1460, 141, 142, 143, 144, 145, 146, 147, 148, 1462, 1463, 1480, 1481, 1482, 1483, 1484, 1485, 1486, 1487, 1488, 1489, 1490, 1491, 1492, 1493, 1494, 1495, 1496, 1497, 1498, 1499, 1500, 1501, 1502, 1503, 1504, 1505, 1506, 1507, 1508, 1509, 1510, 1511, 1512, 1513, 1514, 1515, 1516, 1517, 1518, 1519, 1520, 1521, 1522, 1523, 1524, 1525, 1526, 1527, 1528, 1529, 1530, 1531, 1532, 1533, 1534, 1535, 1536, 1537, 1538, 1539, 1540, 1541, 1542, 1543] [1472, 207, 1461, 1464] (by decide +kernel) (by decide +kernel) rfl
set_option maxRecDepth 20000 in
theorem gL_law_X12_again : GoodIn wsL_law (wsV RL 148 RX12 yX12_again wsX12_again) := goodIn_app (goodIn_of _ (by decide +kernel)) ggL_law_X12_again
theorem dL_law_1545 : decode cL_law 1545 = .ok (.if_icmp .eq 5, 3) := by decide +kernel
set_option maxHeartbeats 4000000 in
set_option maxRecDepth 100000 in
theorem lw_c24 {p : Program} {e : Env} {s : State} {m : MethodId} {below : List Frame} {meth : Method} {c : Code} (l : Launch) {b : Nat} {xs : Nat → Int32} (C0 : lw_At p s m meth c b 6 xs)  {A : Nat → Prop} (hAe : A = fun q : Nat => s.heap.size ≤ q) {D : va_G} {cy : Nat → ClassId} (hKW : KW D cy s) {x0 x1 x2 x3 x4 x5 x6 x7 x8 x9 x10 x11 x12 x13 x14 x15 x16 x17 x18 x19 x20 x21 x22 x23 x24 x25 x26 x27 x28 x29 x30 x31 x32 x33 x34 x35 x36 x37 x38 x39 x40 x41 x42 x43 x44 x45 x46 x47 x48 x49 x50 x51 x52 x53 x54 x55 x56 x57 x58 x59 x60 x61 x62 x63 x64 x65 x66 x67 x68 x69 x70 x71 x72 x73 x74 x75 x76 x77 x78 x79 x80 x81 x82 x83 x84 x85 x86 x87 x88 x89 x90 x91 y0 y1 y2 y3 y4 y5 y6 y7 y8 y9 y10 y11 y12 y13 y14 y15 y16 y17 y18 y19 y20 y21 y22 y23 y24 y25 y26 y27 y28 y29 y30 y31 y32 y33 y34 y35 : Nat} {H : Heap} {locs : List Loc} (hP : va_P D vwCl (WL cy x0 x1 x2 x3 x4 x5 x6 x7 x8 x9 x10 x11 x12 x13 x14 x15 x16 x17 x18 x19 x20 x21 x22 x23 x24 x25 x26 x27 x28 x29 x30 x31 x32 x33 x34 x35 x36 x37 x38 x39 x40 x41 x42 x43 x44 x45 x46 x47 x48 x49 x50 x51 x52 x53 x54 x55 x56 x57 x58 x59 x60 x61 x62 x63 x64 x65 x66 x67 x68 x69 x70 x71 x72 x73 x74 x75 x76 x77 x78 x79 x80 x81 x82 x83 x84 x85 x86 x87 x88 x89 x90 x91 y0 y1 y2 y3 y4 y5 y6 y7 y8 y9 y10 y11 y12 y13 y14 y15 y16 y17 y18 y19 y20 y21 y22 y23 y24 y25 y26 y27 y28 y29 y30 y31 y32 y33 y34 y35) H) (hD : va_D A (WL cy x0 x1 x2 x3 x4 x5 x6 x7 x8 x9 x10 x11 x12 x13 x14 x15 x16 x17 x18 x19 x20 x21 x22 x23 x24 x25 x26 x27 x28 x29 x30 x31 x32 x33 x34 x35 x36 x37 x38 x39 x40 x41 x42 x43 x44 x45 x46 x47 x48 x49 x50 x51 x52 x53 x54 x55 x56 x57 x58 x59 x60 x61 x62 x63 x64 x65 x66 x67 x68 x69 x70 x71 x72 x73 x74 x75 x76 x77 x78 x79 x80 x81 x82 x83 x84 x85 x86 x87 x88 x89 x90 x91 y0 y1 y2 y3 y4 y5 y6 y7 y8 y9 y10 y11 y12 y13 y14 y15 y16 y17 y18 y19 y20 y21 y22 y23 y24 y25 y26 y27 y28 y29 y30 y31 y32 y33 y34 y35)) (hS : va_S A s.heap H locs) (ls : Array Slot) (hl : lv_has ls 4 [(3, .int 0), (2, .ref y0), (1, .ref x0), (0, .ref b)]) : W p l e room_1 s m #[Value.ref b] below meth c H locs 128 11575 (lw_Z below #[Value.ref b] s) (F0 m 1286 ls []) := by
  obtain ⟨hx, hb, hr, hml, hown, hts0, hX, hbl, hlocks, hgv⟩ := id C0
  have hts : ∀ w ∈ wsL_law, w.before #[Value.ref b] s = true := fun w h => hts0 w (wsL_law_in w h)
  have hown : s.vm.findClass RL = some m.cls := hown
  have hK := hKW.1
  have hA : ∀ q : Nat, s.heap.size ≤ q → A q := fun _ h => by rw [hAe]; exact h
  have hbA : ¬ A b := by rw [hAe]; exact Nat.not_le.mpr hbl
  have hP := hP.sub (ws' := [(x0, .inr (11, [.ref x1, .ref x2, .ref x3, .ref x4, .ref x5, .ref x6, .ref x7])), (x1, .inr (9, [.ref x8, .ref x9, .ref x10, .ref x11, .ref x12, .int 0, .int (-1)])), (x9, .inl (cy 0, 3, .inl (fun _ => 0))), (y0, .inr (12, [.int 0, .ref y1, .ref y2, .ref y3, .ref y4, .ref y5, .ref y6, .ref y7, .ref y8, .int 0, .int 0, .int 0, .int 0, .int 0, .long 0, .int 0, .int 0, .int 0, .ref y9, .ref y10, .int 0, .int 0, .int 0, .int 0, .int 0, .int 0, .int 0, .int 0, .int 0, .int 0, .ref y11, .ref y12, .ref y13, .int 0, .int 0, .int 0, .ref y14, .ref y15, .ref y16, .ref y17, .ref y18, .ref y19, .ref y20, .ref y21, .ref y22, .ref y23, .ref y24, .ref y25, .ref y26, .int 0, .int 0, .int 0, .ref y27, .ref y28, .ref y29, .int 0, .int 0, .int 0, .ref y30, .ref y31, .ref y32, .ref y33, .ref y34, .ref y35])), (y5, .inl (cy 0, 12, .inl (fun _ => 0)))]) [0, 1, 4, 92, 97] rfl
  have hD := hD.sub (ws' := [(x0, .inr (11, [.ref x1, .ref x2, .ref x3, .ref x4, .ref x5, .ref x6, .ref x7])), (x1, .inr (9, [.ref x8, .ref x9, .ref x10, .ref x11, .ref x12, .int 0, .int (-1)])), (x9, .inl (cy 0, 3, .inl (fun _ => 0))), (y0, .inr (12, [.int 0, .ref y1, .ref y2, .ref y3, .ref y4, .ref y5, .ref y6, .ref y7, .ref y8, .int 0, .int 0, .int 0, .int 0, .int 0, .long 0, .int 0, .int 0, .int 0, .ref y9, .ref y10, .int 0, .int 0, .int 0, .int 0, .int 0, .int 0, .int 0, .int 0, .int 0, .int 0, .ref y11, .ref y12, .ref y13, .int 0, .int 0, .int 0, .ref y14, .ref y15, .ref y16, .ref y17, .ref y18, .ref y19, .ref y20, .ref y21, .ref y22, .ref y23, .ref y24, .ref y25, .ref y26, .int 0, .int 0, .int 0, .ref y27, .ref y28, .ref y29, .int 0, .int 0, .int 0, .ref y30, .ref y31, .ref y32, .ref y33, .ref y34, .ref y35])), (y5, .inl (cy 0, 12, .inl (fun _ => 0)))]) [0, 1, 4, 92, 97] (by decide) rfl
  refine lv_aload_n hx hb dL_law_1286 rfl (lv_at hl 2 rfl) ?_
  refine lv_aload_n hx hb dL_law_1287 rfl (lv_at hl 3 rfl) ?_
  refine lv_iload_n hx hb dL_law_1288 rfl (lv_at hl 0 rfl) ?_
  refine lv_iconst (v := 1) hx hb dL_law_1289 (by decide +kernel) ?_
  refine lv_iadd hx hb dL_law_1290 ?_
  refine tp_i 1 (by decide +kernel) ?_
  refine va_sld hx hb hX hbl hbA hS (vi_c (by decide +kernel)) dL_law_1291 ?_
  refine tp_i (xs 1) rfl ?_
  refine lv_aload_n hx hb dL_law_1292 rfl (lv_at hl 3 rfl) ?_
  refine lv_iload_n hx hb dL_law_1293 rfl (lv_at hl 0 rfl) ?_
  refine lv_iconst (v := 2) hx hb dL_law_1294 (by decide +kernel) ?_
  refine lv_iadd hx hb dL_law_1295 ?_
  refine tp_i 2 (by decide +kernel) ?_
  refine va_sld hx hb hX hbl hbA hS (vi_c (by decide +kernel)) dL_law_1296 ?_
  refine tp_i (xs 2) rfl ?_
  refine lv_aload_n hx hb dL_law_1297 rfl (lv_at hl 3 rfl) ?_
  refine lv_iload_n hx hb dL_law_1298 rfl (lv_at hl 0 rfl) ?_
  refine lv_iconst (v := 3) hx hb dL_law_1299 (by decide +kernel) ?_
  refine lv_iadd hx hb dL_law_1300 ?_
  refine tp_i 3 (by decide +kernel) ?_
  refine va_sld hx hb hX hbl hbA hS (vi_c (by decide +kernel)) dL_law_1301 ?_
  refine tp_i (xs 3) rfl ?_
  have hPc_1 := hP.sub (ws' := [(x0, .inr (11, [.ref x1, .ref x2, .ref x3, .ref x4, .ref x5, .ref x6, .ref x7])), (x1, .inr (9, [.ref x8, .ref x9, .ref x10, .ref x11, .ref x12, .int 0, .int (-1)])), (x9, .inl (cy 0, 3, .inl (fun _ => 0)))]) [0, 1, 2] rfl
  refine pc_i (va_runV (As := [.int (xs 1), .int (xs 2), .int (xs 3)]) (rest := []) ⟨hx, hb, hml, hown, hts⟩ (c_X11_least l D cy x0 x2 x3 x4 x5 x6 x7 x1 x8 x9 x10 x11 x12 (xs 1) (xs 2) (xs 3)) (cwV 3 hts gL_law_X11_least rfl rfl rfl (by decide +kernel) ⟨Nat.le_of_ble_eq_true rfl, Nat.le_of_ble_eq_true rfl⟩) ⟨prB, va_recv hK hPc_1 (ci := 11) (q0 := 0) rfl rfl, fun U hU hW => ⟨rfl, PR.of hU hW hKW hPc_1⟩⟩ rfl rfl hl.1 rfl (lv_room (Nat.le_of_ble_eq_true rfl)) dL_law_1302 ⟨by decide +kernel, by decide +kernel⟩) (fun r_2 hr_2 => ?_)
  subst hr_2
  refine lv_aload_n hx hb dL_law_1305 rfl (lv_at hl 1 rfl) ?_
  refine lv_aload_n hx hb dL_law_1306 rfl (lv_at hl 3 rfl) ?_
  refine lv_iload_n hx hb dL_law_1307 rfl (lv_at hl 0 rfl) ?_
  refine lv_iconst (v := 1) hx hb dL_law_1308 (by decide +kernel) ?_
  refine lv_iadd hx hb dL_law_1309 ?_
  refine tp_i 1 (by decide +kernel) ?_
  refine va_sld hx hb hX hbl hbA hS (vi_c (by decide +kernel)) dL_law_1310 ?_
  refine tp_i (xs 1) rfl ?_
  refine lv_aload_n hx hb dL_law_1311 rfl (lv_at hl 3 rfl) ?_
  refine lv_iload_n hx hb dL_law_1312 rfl (lv_at hl 0 rfl) ?_
  refine lv_iconst (v := 2) hx hb dL_law_1313 (by decide +kernel) ?_
  refine lv_iadd hx hb dL_law_1314 ?_
  refine tp_i 2 (by decide +kernel) ?_
  refine va_sld hx hb hX hbl hbA hS (vi_c (by decide +kernel)) dL_law_1315 ?_
  refine tp_i (xs 2) rfl ?_
  refine lv_aload_n hx hb dL_law_1316 rfl (lv_at hl 3 rfl) ?_
  refine lv_iload_n hx hb dL_law_1317 rfl (lv_at hl 0 rfl) ?_
  refine lv_iconst (v := 3) hx hb dL_law_1318 (by decide +kernel) ?_
  refine lv_iadd hx hb dL_law_1319 ?_
  refine tp_i 3 (by decide +kernel) ?_
  refine va_sld hx hb hX hbl hbA hS (vi_c (by decide +kernel)) dL_law_1320 ?_
  refine tp_i (xs 3) rfl ?_
  have hPc_3 := hP.sub (ws' := [(y0, .inr (12, [.int 0, .ref y1, .ref y2, .ref y3, .ref y4, .ref y5, .ref y6, .ref y7, .ref y8, .int 0, .int 0, .int 0, .int 0, .int 0, .long 0, .int 0, .int 0, .int 0, .ref y9, .ref y10, .int 0, .int 0, .int 0, .int 0, .int 0, .int 0, .int 0, .int 0, .int 0, .int 0, .ref y11, .ref y12, .ref y13, .int 0, .int 0, .int 0, .ref y14, .ref y15, .ref y16, .ref y17, .ref y18, .ref y19, .ref y20, .ref y21, .ref y22, .ref y23, .ref y24, .ref y25, .ref y26, .int 0, .int 0, .int 0, .ref y27, .ref y28, .ref y29, .int 0, .int 0, .int 0, .ref y30, .ref y31, .ref y32, .ref y33, .ref y34, .ref y35])), (y5, .inl (cy 0, 12, .inl (fun _ => 0)))]) [3, 4] rfl
  have hDc_4 := hD.sub (ws' := [(y0, .inr (12, [.int 0, .ref y1, .ref y2, .ref y3, .ref y4, .ref y5, .ref y6, .ref y7, .ref y8, .int 0, .int 0, .int 0, .int 0, .int 0, .long 0, .int 0, .int 0, .int 0, .ref y9, .ref y10, .int 0, .int 0, .int 0, .int 0, .int 0, .int 0, .int 0, .int 0, .int 0, .int 0, .ref y11, .ref y12, .ref y13, .int 0, .int 0, .int 0, .ref y14, .ref y15, .ref y16, .ref y17, .ref y18, .ref y19, .ref y20, .ref y21, .ref y22, .ref y23, .ref y24, .ref y25, .ref y26, .int 0, .int 0, .int 0, .ref y27, .ref y28, .ref y29, .int 0, .int 0, .int 0, .ref y30, .ref y31, .ref y32, .ref y33, .ref y34, .ref y35])), (y5, .inl (cy 0, 12, .inl (fun _ => 0)))]) [3, 4] (by decide) rfl
  have hFc_5 := va_free (wc := [(y0, .inr (12, [.int 0, .ref y1, .ref y2, .ref y3, .ref y4, .ref y5, .ref y6, .ref y7, .ref y8, .int 0, .int 0, .int 0, .int 0, .int 0, .long 0, .int 0, .int 0, .int 0, .ref y9, .ref y10, .int 0, .int 0, .int 0, .int 0, .int 0, .int 0, .int 0, .int 0, .int 0, .int 0, .ref y11, .ref y12, .ref y13, .int 0, .int 0, .int 0, .ref y14, .ref y15, .ref y16, .ref y17, .ref y18, .ref y19, .ref y20, .ref y21, .ref y22, .ref y23, .ref y24, .ref y25, .ref y26, .int 0, .int 0, .int 0, .ref y27, .ref y28, .ref y29, .int 0, .int 0, .int 0, .ref y30, .ref y31, .ref y32, .ref y33, .ref y34, .ref y35])), (y5, .inl (cy 0, 12, .inl (fun _ => 0)))]) hD hS hA [3, 4] rfl
  refine va_calli (va_runV (As := [.int (xs 1), .int (xs 2), .int (xs 3)]) (rest := [.int (-1)]) ⟨hx, hb, hml, hown, hts⟩ (c_X12_least l D cy y0 y1 y2 y3 y4 y5 y6 y7 y8 y9 y10 y11 y12 y13 y14 y15 y16 y17 y18 y19 y20 y21 y22 y23 y24 y25 y26 y27 y28 y29 y30 y31 y32 y33 y34 y35 (xs 1) (xs 2) (xs 3) H.size) (cwV 3 hts gL_law_X12_least rfl rfl rfl (by decide +kernel) ⟨Nat.le_of_ble_eq_true rfl, Nat.le_of_ble_eq_true rfl⟩) ⟨pwB, va_recv hK hPc_3 (ci := 12) (q0 := 0) rfl rfl, fun U hU hW => ⟨rfl, PW.of hU hW hKW hPc_3 hDc_4⟩⟩ rfl rfl hl.1 rfl (lv_room (Nat.le_of_ble_eq_true rfl)) dL_law_1321 ⟨by decide +kernel, by decide +kernel⟩) hS (fun q _ h => hFc_5 q h) hFc_5 (fun r_7 u t H1 locs ht hvm hw_6 hB hz1 hk1 hS => ?_)
  subst hw_6
  obtain ⟨hP1, hD1⟩ := hB
  rw [ht] at hP1
  obtain ⟨hP, hD⟩ := va_join (wr := [(x0, .inr (11, [.ref x1, .ref x2, .ref x3, .ref x4, .ref x5, .ref x6, .ref x7])), (x1, .inr (9, [.ref x8, .ref x9, .ref x10, .ref x11, .ref x12, .int 0, .int (-1)])), (x9, .inl (cy 0, 3, .inl (fun _ => 0)))]) (w1 := []) hP hD [3, 4] [0, 1, 2] rfl rfl (by decide) (by decide) hk1 hFc_5 hP1 hD1
  generalize H1 = H at hP hS ⊢
  have hP : va_P D vwCl [(x0, .inr (11, [.ref x1, .ref x2, .ref x3, .ref x4, .ref x5, .ref x6, .ref x7])), (x1, .inr (9, [.ref x8, .ref x9, .ref x10, .ref x11, .ref x12, .int 0, .int (-1)])), (x9, .inl (cy 0, 3, .inl (fun _ => 0)))] H := hP
  have hD : va_D A [(x0, .inr (11, [.ref x1, .ref x2, .ref x3, .ref x4, .ref x5, .ref x6, .ref x7])), (x1, .inr (9, [.ref x8, .ref x9, .ref x10, .ref x11, .ref x12, .int 0, .int (-1)])), (x9, .inl (cy 0, 3, .inl (fun _ => 0)))] := hD
  refine lv_icmp_eq (tgt := 1550) hx hb dL_law_1324 (by decide) (fun _ => ?_) (fun c_8 => absurd (by decide +kernel) c_8)
  exact lw_tail l C0 hAe hS (by decide +kernel) (by decide +kernel) ls (lv_sub hl [0, 3] rfl)
set_option maxHeartbeats 4000000 in
set_option maxRecDepth 100000 in
theorem lw_c25 {p : Program} {e : Env} {s : State} {m : MethodId} {below : List Frame} {meth : Method} {c : Code} (l : Launch) {b : Nat} {xs : Nat → Int32} (C0 : lw_At p s m meth c b 6 xs)  {A : Nat → Prop} (hAe : A = fun q : Nat => s.heap.size ≤ q) {D : va_G} {cy : Nat → ClassId} (hKW : KW D cy s) {x0 x1 x2 x3 x4 x5 x6 x7 x8 x9 x10 x11 x12 x13 x14 x15 x16 x17 x18 x19 x20 x21 x22 x23 x24 x25 x26 x27 x28 x29 x30 x31 x32 x33 x34 x35 x36 x37 x38 x39 x40 x41 x42 x43 x44 x45 x46 x47 x48 x49 x50 x51 x52 x53 x54 x55 x56 x57 x58 x59 x60 x61 x62 x63 x64 x65 x66 x67 x68 x69 x70 x71 x72 x73 x74 x75 x76 x77 x78 x79 x80 x81 x82 x83 x84 x85 x86 x87 x88 x89 x90 x91 y0 y1 y2 y3 y4 y5 y6 y7 y8 y9 y10 y11 y12 y13 y14 y15 y16 y17 y18 y19 y20 y21 y22 y23 y24 y25 y26 y27 y28 y29 y30 y31 y32 y33 y34 y35 : Nat} {H : Heap} {locs : List Loc} (hP : va_P D vwCl (WL cy x0 x1 x2 x3 x4 x5 x6 x7 x8 x9 x10 x11 x12 x13 x14 x15 x16 x17 x18 x19 x20 x21 x22 x23 x24 x25 x26 x27 x28 x29 x30 x31 x32 x33 x34 x35 x36 x37 x38 x39 x40 x41 x42 x43 x44 x45 x46 x47 x48 x49 x50 x51 x52 x53 x54 x55 x56 x57 x58 x59 x60 x61 x62 x63 x64 x65 x66 x67 x68 x69 x70 x71 x72 x73 x74 x75 x76 x77 x78 x79 x80 x81 x82 x83 x84 x85 x86 x87 x88 x89 x90 x91 y0 y1 y2 y3 y4 y5 y6 y7 y8 y9 y10 y11 y12 y13 y14 y15 y16 y17 y18 y19 y20 y21 y22 y23 y24 y25 y26 y27 y28 y29 y30 y31 y32 y33 y34 y35) H) (hD : va_D A (WL cy x0 x1 x2 x3 x4 x5 x6 x7 x8 x9 x10 x11 x12 x13 x14 x15 x16 x17 x18 x19 x20 x21 x22 x23 x24 x25 x26 x27 x28 x29 x30 x31 x32 x33 x34 x35 x36 x37 x38 x39 x40 x41 x42 x43 x44 x45 x46 x47 x48 x49 x50 x51 x52 x53 x54 x55 x56 x57 x58 x59 x60 x61 x62 x63 x64 x65 x66 x67 x68 x69 x70 x71 x72 x73 x74 x75 x76 x77 x78 x79 x80 x81 x82 x83 x84 x85 x86 x87 x88 x89 x90 x91 y0 y1 y2 y3 y4 y5 y6 y7 y8 y9 y10 y11 y12 y13 y14 y15 y16 y17 y18 y19 y20 y21 y22 y23 y24 y25 y26 y27 y28 y29 y30 y31 y32 y33 y34 y35)) (hS : va_S A s.heap H locs) (ls : Array Slot) (hl : lv_has ls 4 [(3, .int 0), (2, .ref y0), (1, .ref x0), (0, .ref b)]) : W p l e room_1 s m #[Value.ref b] below meth c H locs 128 11575 (lw_Z below #[Value.ref b] s) (F0 m 1329 ls []) := by
  obtain ⟨hx, hb, hr, hml, hown, hts0, hX, hbl, hlocks, hgv⟩ := id C0
  have hts : ∀ w ∈ wsL_law, w.before #[Value.ref b] s = true := fun w h => hts0 w (wsL_law_in w h)
  have hown : s.vm.findClass RL = some m.cls := hown
  have hK := hKW.1
  have hA : ∀ q : Nat, s.heap.size ≤ q → A q := fun _ h => by rw [hAe]; exact h
  have hbA : ¬ A b := by rw [hAe]; exact Nat.not_le.mpr hbl
  have hP := hP.sub (ws' := [(x0, .inr (11, [.ref x1, .ref x2, .ref x3, .ref x4, .ref x5, .ref x6, .ref x7])), (x1, .inr (9, [.ref x8, .ref x9, .ref x10, .ref x11, .ref x12, .int 0, .int (-1)])), (x9, .inl (cy 0, 3, .inl (fun _ => 0))), (y0, .inr (12, [.int 0, .ref y1, .ref y2, .ref y3, .ref y4, .ref y5, .ref y6, .ref y7, .ref y8, .int 0, .int 0, .int 0, .int 0, .int 0, .long 0, .int 0, .int 0, .int 0, .ref y9, .ref y10, .int 0, .int 0, .int 0, .int 0, .int 0, .int 0, .int 0, .int 0, .int 0, .int 0, .ref y11, .ref y12, .ref y13, .int 0, .int 0, .int 0, .ref y14, .ref y15, .ref y16, .ref y17, .ref y18, .ref y19, .ref y20, .ref y21, .ref y22, .ref y23, .ref y24, .ref y25, .ref y26, .int 0, .int 0, .int 0, .ref y27, .ref y28, .ref y29, .int 0, .int 0, .int 0, .ref y30, .ref y31, .ref y32, .ref y33, .ref y34, .ref y35])), (y5, .inl (cy 0, 12, .inl (fun _ => 0)))]) [0, 1, 4, 92, 97] rfl
  have hD := hD.sub (ws' := [(x0, .inr (11, [.ref x1, .ref x2, .ref x3, .ref x4, .ref x5, .ref x6, .ref x7])), (x1, .inr (9, [.ref x8, .ref x9, .ref x10, .ref x11, .ref x12, .int 0, .int (-1)])), (x9, .inl (cy 0, 3, .inl (fun _ => 0))), (y0, .inr (12, [.int 0, .ref y1, .ref y2, .ref y3, .ref y4, .ref y5, .ref y6, .ref y7, .ref y8, .int 0, .int 0, .int 0, .int 0, .int 0, .long 0, .int 0, .int 0, .int 0, .ref y9, .ref y10, .int 0, .int 0, .int 0, .int 0, .int 0, .int 0, .int 0, .int 0, .int 0, .int 0, .ref y11, .ref y12, .ref y13, .int 0, .int 0, .int 0, .ref y14, .ref y15, .ref y16, .ref y17, .ref y18, .ref y19, .ref y20, .ref y21, .ref y22, .ref y23, .ref y24, .ref y25, .ref y26, .int 0, .int 0, .int 0, .ref y27, .ref y28, .ref y29, .int 0, .int 0, .int 0, .ref y30, .ref y31, .ref y32, .ref y33, .ref y34, .ref y35])), (y5, .inl (cy 0, 12, .inl (fun _ => 0)))]) [0, 1, 4, 92, 97] (by decide) rfl
  refine lv_aload_n hx hb dL_law_1329 rfl (lv_at hl 2 rfl) ?_
  refine lv_aload_n hx hb dL_law_1330 rfl (lv_at hl 3 rfl) ?_
  refine lv_iload_n hx hb dL_law_1331 rfl (lv_at hl 0 rfl) ?_
  refine lv_iconst (v := 1) hx hb dL_law_1332 (by decide +kernel) ?_
  refine lv_iadd hx hb dL_law_1333 ?_
  refine tp_i 1 (by decide +kernel) ?_
  refine va_sld hx hb hX hbl hbA hS (vi_c (by decide +kernel)) dL_law_1334 ?_
  refine tp_i (xs 1) rfl ?_
  refine lv_aload_n hx hb dL_law_1335 rfl (lv_at hl 3 rfl) ?_
  refine lv_iload_n hx hb dL_law_1336 rfl (lv_at hl 0 rfl) ?_
  refine lv_iconst (v := 2) hx hb dL_law_1337 (by decide +kernel) ?_
  refine lv_iadd hx hb dL_law_1338 ?_
  refine tp_i 2 (by decide +kernel) ?_
  refine va_sld hx hb hX hbl hbA hS (vi_c (by decide +kernel)) dL_law_1339 ?_
  refine tp_i (xs 2) rfl ?_
  have hPc_1 := hP.sub (ws' := [(x0, .inr (11, [.ref x1, .ref x2, .ref x3, .ref x4, .ref x5, .ref x6, .ref x7])), (x1, .inr (9, [.ref x8, .ref x9, .ref x10, .ref x11, .ref x12, .int 0, .int (-1)])), (x9, .inl (cy 0, 3, .inl (fun _ => 0)))]) [0, 1, 2] rfl
  refine pc_i (va_runV (As := [.int (xs 1), .int (xs 2)]) (rest := []) ⟨hx, hb, hml, hown, hts⟩ (c_X11_winds l D cy x0 x2 x3 x4 x5 x6 x7 x1 x8 x9 x10 x11 x12 (xs 1) (xs 2)) (cwV 2 hts gL_law_X11_winds rfl rfl rfl (by decide +kernel) ⟨Nat.le_of_ble_eq_true rfl, Nat.le_of_ble_eq_true rfl⟩) ⟨prB, va_recv hK hPc_1 (ci := 11) (q0 := 0) rfl rfl, fun U hU hW => ⟨rfl, PR.of hU hW hKW hPc_1⟩⟩ rfl rfl hl.1 rfl (lv_room (Nat.le_of_ble_eq_true rfl)) dL_law_1340 ⟨by decide +kernel, by decide +kernel⟩) (fun r_2 hr_2 => ?_)
  subst hr_2
  refine lv_aload_n hx hb dL_law_1343 rfl (lv_at hl 1 rfl) ?_
  refine lv_aload_n hx hb dL_law_1344 rfl (lv_at hl 3 rfl) ?_
  refine lv_iload_n hx hb dL_law_1345 rfl (lv_at hl 0 rfl) ?_
  refine lv_iconst (v := 1) hx hb dL_law_1346 (by decide +kernel) ?_
  refine lv_iadd hx hb dL_law_1347 ?_
  refine tp_i 1 (by decide +kernel) ?_
  refine va_sld hx hb hX hbl hbA hS (vi_c (by decide +kernel)) dL_law_1348 ?_
  refine tp_i (xs 1) rfl ?_
  refine lv_aload_n hx hb dL_law_1349 rfl (lv_at hl 3 rfl) ?_
  refine lv_iload_n hx hb dL_law_1350 rfl (lv_at hl 0 rfl) ?_
  refine lv_iconst (v := 2) hx hb dL_law_1351 (by decide +kernel) ?_
  refine lv_iadd hx hb dL_law_1352 ?_
  refine tp_i 2 (by decide +kernel) ?_
  refine va_sld hx hb hX hbl hbA hS (vi_c (by decide +kernel)) dL_law_1353 ?_
  refine tp_i (xs 2) rfl ?_
  have hPc_3 := hP.sub (ws' := [(y0, .inr (12, [.int 0, .ref y1, .ref y2, .ref y3, .ref y4, .ref y5, .ref y6, .ref y7, .ref y8, .int 0, .int 0, .int 0, .int 0, .int 0, .long 0, .int 0, .int 0, .int 0, .ref y9, .ref y10, .int 0, .int 0, .int 0, .int 0, .int 0, .int 0, .int 0, .int 0, .int 0, .int 0, .ref y11, .ref y12, .ref y13, .int 0, .int 0, .int 0, .ref y14, .ref y15, .ref y16, .ref y17, .ref y18, .ref y19, .ref y20, .ref y21, .ref y22, .ref y23, .ref y24, .ref y25, .ref y26, .int 0, .int 0, .int 0, .ref y27, .ref y28, .ref y29, .int 0, .int 0, .int 0, .ref y30, .ref y31, .ref y32, .ref y33, .ref y34, .ref y35])), (y5, .inl (cy 0, 12, .inl (fun _ => 0)))]) [3, 4] rfl
  have hDc_4 := hD.sub (ws' := [(y0, .inr (12, [.int 0, .ref y1, .ref y2, .ref y3, .ref y4, .ref y5, .ref y6, .ref y7, .ref y8, .int 0, .int 0, .int 0, .int 0, .int 0, .long 0, .int 0, .int 0, .int 0, .ref y9, .ref y10, .int 0, .int 0, .int 0, .int 0, .int 0, .int 0, .int 0, .int 0, .int 0, .int 0, .ref y11, .ref y12, .ref y13, .int 0, .int 0, .int 0, .ref y14, .ref y15, .ref y16, .ref y17, .ref y18, .ref y19, .ref y20, .ref y21, .ref y22, .ref y23, .ref y24, .ref y25, .ref y26, .int 0, .int 0, .int 0, .ref y27, .ref y28, .ref y29, .int 0, .int 0, .int 0, .ref y30, .ref y31, .ref y32, .ref y33, .ref y34, .ref y35])), (y5, .inl (cy 0, 12, .inl (fun _ => 0)))]) [3, 4] (by decide) rfl
  have hFc_5 := va_free (wc := [(y0, .inr (12, [.int 0, .ref y1, .ref y2, .ref y3, .ref y4, .ref y5, .ref y6, .ref y7, .ref y8, .int 0, .int 0, .int 0, .int 0, .int 0, .long 0, .int 0, .int 0, .int 0, .ref y9, .ref y10, .int 0, .int 0, .int 0, .int 0, .int 0, .int 0, .int 0, .int 0, .int 0, .int 0, .ref y11, .ref y12, .ref y13, .int 0, .int 0, .int 0, .ref y14, .ref y15, .ref y16, .ref y17, .ref y18, .ref y19, .ref y20, .ref y21, .ref y22, .ref y23, .ref y24, .ref y25, .ref y26, .int 0, .int 0, .int 0, .ref y27, .ref y28, .ref y29, .int 0, .int 0, .int 0, .ref y30, .ref y31, .ref y32, .ref y33, .ref y34, .ref y35])), (y5, .inl (cy 0, 12, .inl (fun _ => 0)))]) hD hS hA [3, 4] rfl
  refine va_calli (va_runV (As := [.int (xs 1), .int (xs 2)]) (rest := [.int (-1)]) ⟨hx, hb, hml, hown, hts⟩ (c_X12_winds l D cy y0 y1 y2 y3 y4 y5 y6 y7 y8 y9 y10 y11 y12 y13 y14 y15 y16 y17 y18 y19 y20 y21 y22 y23 y24 y25 y26 y27 y28 y29 y30 y31 y32 y33 y34 y35 (xs 1) (xs 2) H.size) (cwV 2 hts gL_law_X12_winds rfl rfl rfl (by decide +kernel) ⟨Nat.le_of_ble_eq_true rfl, Nat.le_of_ble_eq_true rfl⟩) ⟨pwB, va_recv hK hPc_3 (ci := 12) (q0 := 0) rfl rfl, fun U hU hW => ⟨rfl, PW.of hU hW hKW hPc_3 hDc_4⟩⟩ rfl rfl hl.1 rfl (lv_room (Nat.le_of_ble_eq_true rfl)) dL_law_1354 ⟨by decide +kernel, by decide +kernel⟩) hS (fun q _ h => hFc_5 q h) hFc_5 (fun r_7 u t H1 locs ht hvm hw_6 hB hz1 hk1 hS => ?_)
  subst hw_6
  obtain ⟨hP1, hD1⟩ := hB
  rw [ht] at hP1
  obtain ⟨hP, hD⟩ := va_join (wr := [(x0, .inr (11, [.ref x1, .ref x2, .ref x3, .ref x4, .ref x5, .ref x6, .ref x7])), (x1, .inr (9, [.ref x8, .ref x9, .ref x10, .ref x11, .ref x12, .int 0, .int (-1)])), (x9, .inl (cy 0, 3, .inl (fun _ => 0)))]) (w1 := []) hP hD [3, 4] [0, 1, 2] rfl rfl (by decide) (by decide) hk1 hFc_5 hP1 hD1
  generalize H1 = H at hP hS ⊢
  have hP : va_P D vwCl [(x0, .inr (11, [.ref x1, .ref x2, .ref x3, .ref x4, .ref x5, .ref x6, .ref x7])), (x1, .inr (9, [.ref x8, .ref x9, .ref x10, .ref x11, .ref x12, .int 0, .int (-1)])), (x9, .inl (cy 0, 3, .inl (fun _ => 0)))] H := hP
  have hD : va_D A [(x0, .inr (11, [.ref x1, .ref x2, .ref x3, .ref x4, .ref x5, .ref x6, .ref x7])), (x1, .inr (9, [.ref x8, .ref x9, .ref x10, .ref x11, .ref x12, .int 0, .int (-1)])), (x9, .inl (cy 0, 3, .inl (fun _ => 0)))] := hD
  refine lv_icmp_eq (tgt := 1550) hx hb dL_law_1357 (by decide) (fun _ => ?_) (fun c_8 => absurd (by decide +kernel) c_8)
  exact lw_tail l C0 hAe hS (by decide +kernel) (by decide +kernel) ls (lv_sub hl [0, 3] rfl)
set_option maxHeartbeats 4000000 in
set_option maxRecDepth 100000 in
theorem lw_c26 {p : Program} {e : Env} {s : State} {m : MethodId} {below : List Frame} {meth : Method} {c : Code} (l : Launch) {b : Nat} {xs : Nat → Int32} (C0 : lw_At p s m meth c b 6 xs)  {A : Nat → Prop} (hAe : A = fun q : Nat => s.heap.size ≤ q) {D : va_G} {cy : Nat → ClassId} (hKW : KW D cy s) {x0 x1 x2 x3 x4 x5 x6 x7 x8 x9 x10 x11 x12 x13 x14 x15 x16 x17 x18 x19 x20 x21 x22 x23 x24 x25 x26 x27 x28 x29 x30 x31 x32 x33 x34 x35 x36 x37 x38 x39 x40 x41 x42 x43 x44 x45 x46 x47 x48 x49 x50 x51 x52 x53 x54 x55 x56 x57 x58 x59 x60 x61 x62 x63 x64 x65 x66 x67 x68 x69 x70 x71 x72 x73 x74 x75 x76 x77 x78 x79 x80 x81 x82 x83 x84 x85 x86 x87 x88 x89 x90 x91 y0 y1 y2 y3 y4 y5 y6 y7 y8 y9 y10 y11 y12 y13 y14 y15 y16 y17 y18 y19 y20 y21 y22 y23 y24 y25 y26 y27 y28 y29 y30 y31 y32 y33 y34 y35 : Nat} {H : Heap} {locs : List Loc} (hP : va_P D vwCl (WL cy x0 x1 x2 x3 x4 x5 x6 x7 x8 x9 x10 x11 x12 x13 x14 x15 x16 x17 x18 x19 x20 x21 x22 x23 x24 x25 x26 x27 x28 x29 x30 x31 x32 x33 x34 x35 x36 x37 x38 x39 x40 x41 x42 x43 x44 x45 x46 x47 x48 x49 x50 x51 x52 x53 x54 x55 x56 x57 x58 x59 x60 x61 x62 x63 x64 x65 x66 x67 x68 x69 x70 x71 x72 x73 x74 x75 x76 x77 x78 x79 x80 x81 x82 x83 x84 x85 x86 x87 x88 x89 x90 x91 y0 y1 y2 y3 y4 y5 y6 y7 y8 y9 y10 y11 y12 y13 y14 y15 y16 y17 y18 y19 y20 y21 y22 y23 y24 y25 y26 y27 y28 y29 y30 y31 y32 y33 y34 y35) H) (hD : va_D A (WL cy x0 x1 x2 x3 x4 x5 x6 x7 x8 x9 x10 x11 x12 x13 x14 x15 x16 x17 x18 x19 x20 x21 x22 x23 x24 x25 x26 x27 x28 x29 x30 x31 x32 x33 x34 x35 x36 x37 x38 x39 x40 x41 x42 x43 x44 x45 x46 x47 x48 x49 x50 x51 x52 x53 x54 x55 x56 x57 x58 x59 x60 x61 x62 x63 x64 x65 x66 x67 x68 x69 x70 x71 x72 x73 x74 x75 x76 x77 x78 x79 x80 x81 x82 x83 x84 x85 x86 x87 x88 x89 x90 x91 y0 y1 y2 y3 y4 y5 y6 y7 y8 y9 y10 y11 y12 y13 y14 y15 y16 y17 y18 y19 y20 y21 y22 y23 y24 y25 y26 y27 y28 y29 y30 y31 y32 y33 y34 y35)) (hS : va_S A s.heap H locs) (ls : Array Slot) (hl : lv_has ls 4 [(3, .int 0), (2, .ref y0), (1, .ref x0), (0, .ref b)]) : W p l e room_1 s m #[Value.ref b] below meth c H locs 128 11575 (lw_Z below #[Value.ref b] s) (F0 m 1362 ls []) := by
  obtain ⟨hx, hb, hr, hml, hown, hts0, hX, hbl, hlocks, hgv⟩ := id C0
  have hts : ∀ w ∈ wsL_law, w.before #[Value.ref b] s = true := fun w h => hts0 w (wsL_law_in w h)
  have hown : s.vm.findClass RL = some m.cls := hown
  have hK := hKW.1
  have hA : ∀ q : Nat, s.heap.size ≤ q → A q := fun _ h => by rw [hAe]; exact h
  have hbA : ¬ A b := by rw [hAe]; exact Nat.not_le.mpr hbl
  have hP := hP.sub (ws' := [(x0, .inr (11, [.ref x1, .ref x2, .ref x3, .ref x4, .ref x5, .ref x6, .ref x7])), (x1, .inr (9, [.ref x8, .ref x9, .ref x10, .ref x11, .ref x12, .int 0, .int (-1)])), (x9, .inl (cy 0, 3, .inl (fun _ => 0))), (y0, .inr (12, [.int 0, .ref y1, .ref y2, .ref y3, .ref y4, .ref y5, .ref y6, .ref y7, .ref y8, .int 0, .int 0, .int 0, .int 0, .int 0, .long 0, .int 0, .int 0, .int 0, .ref y9, .ref y10, .int 0, .int 0, .int 0, .int 0, .int 0, .int 0, .int 0, .int 0, .int 0, .int 0, .ref y11, .ref y12, .ref y13, .int 0, .int 0, .int 0, .ref y14, .ref y15, .ref y16, .ref y17, .ref y18, .ref y19, .ref y20, .ref y21, .ref y22, .ref y23, .ref y24, .ref y25, .ref y26, .int 0, .int 0, .int 0, .ref y27, .ref y28, .ref y29, .int 0, .int 0, .int 0, .ref y30, .ref y31, .ref y32, .ref y33, .ref y34, .ref y35])), (y5, .inl (cy 0, 12, .inl (fun _ => 0)))]) [0, 1, 4, 92, 97] rfl
  have hD := hD.sub (ws' := [(x0, .inr (11, [.ref x1, .ref x2, .ref x3, .ref x4, .ref x5, .ref x6, .ref x7])), (x1, .inr (9, [.ref x8, .ref x9, .ref x10, .ref x11, .ref x12, .int 0, .int (-1)])), (x9, .inl (cy 0, 3, .inl (fun _ => 0))), (y0, .inr (12, [.int 0, .ref y1, .ref y2, .ref y3, .ref y4, .ref y5, .ref y6, .ref y7, .ref y8, .int 0, .int 0, .int 0, .int 0, .int 0, .long 0, .int 0, .int 0, .int 0, .ref y9, .ref y10, .int 0, .int 0, .int 0, .int 0, .int 0, .int 0, .int 0, .int 0, .int 0, .int 0, .ref y11, .ref y12, .ref y13, .int 0, .int 0, .int 0, .ref y14, .ref y15, .ref y16, .ref y17, .ref y18, .ref y19, .ref y20, .ref y21, .ref y22, .ref y23, .ref y24, .ref y25, .ref y26, .int 0, .int 0, .int 0, .ref y27, .ref y28, .ref y29, .int 0, .int 0, .int 0, .ref y30, .ref y31, .ref y32, .ref y33, .ref y34, .ref y35])), (y5, .inl (cy 0, 12, .inl (fun _ => 0)))]) [0, 1, 4, 92, 97] (by decide) rfl
  refine lv_aload_n hx hb dL_law_1362 rfl (lv_at hl 2 rfl) ?_
  refine lv_aload_n hx hb dL_law_1363 rfl (lv_at hl 3 rfl) ?_
  refine lv_iload_n hx hb dL_law_1364 rfl (lv_at hl 0 rfl) ?_
  refine lv_iconst (v := 1) hx hb dL_law_1365 (by decide +kernel) ?_
  refine lv_iadd hx hb dL_law_1366 ?_
  refine tp_i 1 (by decide +kernel) ?_
  refine va_sld hx hb hX hbl hbA hS (vi_c (by decide +kernel)) dL_law_1367 ?_
  refine tp_i (xs 1) rfl ?_
  refine lv_aload_n hx hb dL_law_1368 rfl (lv_at hl 3 rfl) ?_
  refine lv_iload_n hx hb dL_law_1369 rfl (lv_at hl 0 rfl) ?_
  refine lv_iconst (v := 2) hx hb dL_law_1370 (by decide +kernel) ?_
  refine lv_iadd hx hb dL_law_1371 ?_
  refine tp_i 2 (by decide +kernel) ?_
  refine va_sld hx hb hX hbl hbA hS (vi_c (by decide +kernel)) dL_law_1372 ?_
  refine tp_i (xs 2) rfl ?_
  refine lv_aload_n hx hb dL_law_1373 rfl (lv_at hl 3 rfl) ?_
  refine lv_iload_n hx hb dL_law_1374 rfl (lv_at hl 0 rfl) ?_
  refine lv_iconst (v := 3) hx hb dL_law_1375 (by decide +kernel) ?_
  refine lv_iadd hx hb dL_law_1376 ?_
  refine tp_i 3 (by decide +kernel) ?_
  refine va_sld hx hb hX hbl hbA hS (vi_c (by decide +kernel)) dL_law_1377 ?_
  refine tp_i (xs 3) rfl ?_
  have hPc_1 := hP.sub (ws' := [(x0, .inr (11, [.ref x1, .ref x2, .ref x3, .ref x4, .ref x5, .ref x6, .ref x7])), (x1, .inr (9, [.ref x8, .ref x9, .ref x10, .ref x11, .ref x12, .int 0, .int (-1)])), (x9, .inl (cy 0, 3, .inl (fun _ => 0)))]) [0, 1, 2] rfl
  refine pc_i (va_runV (As := [.int (xs 1), .int (xs 2), .int (xs 3)]) (rest := []) ⟨hx, hb, hml, hown, hts⟩ (c_X11_meet l D cy x0 x2 x3 x4 x5 x6 x7 x1 x8 x9 x10 x11 x12 (xs 1) (xs 2) (xs 3)) (cwV 3 hts gL_law_X11_meet rfl rfl rfl (by decide +kernel) ⟨Nat.le_of_ble_eq_true rfl, Nat.le_of_ble_eq_true rfl⟩) ⟨prB, va_recv hK hPc_1 (ci := 11) (q0 := 0) rfl rfl, fun U hU hW => ⟨rfl, PR.of hU hW hKW hPc_1⟩⟩ rfl rfl hl.1 rfl (lv_room (Nat.le_of_ble_eq_true rfl)) dL_law_1378 ⟨by decide +kernel, by decide +kernel⟩) (fun r_2 hr_2 => ?_)
  subst hr_2
  refine lv_aload_n hx hb dL_law_1381 rfl (lv_at hl 1 rfl) ?_
  refine lv_aload_n hx hb dL_law_1382 rfl (lv_at hl 3 rfl) ?_
  refine lv_iload_n hx hb dL_law_1383 rfl (lv_at hl 0 rfl) ?_
  refine lv_iconst (v := 1) hx hb dL_law_1384 (by decide +kernel) ?_
  refine lv_iadd hx hb dL_law_1385 ?_
  refine tp_i 1 (by decide +kernel) ?_
  refine va_sld hx hb hX hbl hbA hS (vi_c (by decide +kernel)) dL_law_1386 ?_
  refine tp_i (xs 1) rfl ?_
  refine lv_aload_n hx hb dL_law_1387 rfl (lv_at hl 3 rfl) ?_
  refine lv_iload_n hx hb dL_law_1388 rfl (lv_at hl 0 rfl) ?_
  refine lv_iconst (v := 2) hx hb dL_law_1389 (by decide +kernel) ?_
  refine lv_iadd hx hb dL_law_1390 ?_
  refine tp_i 2 (by decide +kernel) ?_
  refine va_sld hx hb hX hbl hbA hS (vi_c (by decide +kernel)) dL_law_1391 ?_
  refine tp_i (xs 2) rfl ?_
  refine lv_aload_n hx hb dL_law_1392 rfl (lv_at hl 3 rfl) ?_
  refine lv_iload_n hx hb dL_law_1393 rfl (lv_at hl 0 rfl) ?_
  refine lv_iconst (v := 3) hx hb dL_law_1394 (by decide +kernel) ?_
  refine lv_iadd hx hb dL_law_1395 ?_
  refine tp_i 3 (by decide +kernel) ?_
  refine va_sld hx hb hX hbl hbA hS (vi_c (by decide +kernel)) dL_law_1396 ?_
  refine tp_i (xs 3) rfl ?_
  have hPc_3 := hP.sub (ws' := [(y0, .inr (12, [.int 0, .ref y1, .ref y2, .ref y3, .ref y4, .ref y5, .ref y6, .ref y7, .ref y8, .int 0, .int 0, .int 0, .int 0, .int 0, .long 0, .int 0, .int 0, .int 0, .ref y9, .ref y10, .int 0, .int 0, .int 0, .int 0, .int 0, .int 0, .int 0, .int 0, .int 0, .int 0, .ref y11, .ref y12, .ref y13, .int 0, .int 0, .int 0, .ref y14, .ref y15, .ref y16, .ref y17, .ref y18, .ref y19, .ref y20, .ref y21, .ref y22, .ref y23, .ref y24, .ref y25, .ref y26, .int 0, .int 0, .int 0, .ref y27, .ref y28, .ref y29, .int 0, .int 0, .int 0, .ref y30, .ref y31, .ref y32, .ref y33, .ref y34, .ref y35])), (y5, .inl (cy 0, 12, .inl (fun _ => 0)))]) [3, 4] rfl
  have hDc_4 := hD.sub (ws' := [(y0, .inr (12, [.int 0, .ref y1, .ref y2, .ref y3, .ref y4, .ref y5, .ref y6, .ref y7, .ref y8, .int 0, .int 0, .int 0, .int 0, .int 0, .long 0, .int 0, .int 0, .int 0, .ref y9, .ref y10, .int 0, .int 0, .int 0, .int 0, .int 0, .int 0, .int 0, .int 0, .int 0, .int 0, .ref y11, .ref y12, .ref y13, .int 0, .int 0, .int 0, .ref y14, .ref y15, .ref y16, .ref y17, .ref y18, .ref y19, .ref y20, .ref y21, .ref y22, .ref y23, .ref y24, .ref y25, .ref y26, .int 0, .int 0, .int 0, .ref y27, .ref y28, .ref y29, .int 0, .int 0, .int 0, .ref y30, .ref y31, .ref y32, .ref y33, .ref y34, .ref y35])), (y5, .inl (cy 0, 12, .inl (fun _ => 0)))]) [3, 4] (by decide) rfl
  have hFc_5 := va_free (wc := [(y0, .inr (12, [.int 0, .ref y1, .ref y2, .ref y3, .ref y4, .ref y5, .ref y6, .ref y7, .ref y8, .int 0, .int 0, .int 0, .int 0, .int 0, .long 0, .int 0, .int 0, .int 0, .ref y9, .ref y10, .int 0, .int 0, .int 0, .int 0, .int 0, .int 0, .int 0, .int 0, .int 0, .int 0, .ref y11, .ref y12, .ref y13, .int 0, .int 0, .int 0, .ref y14, .ref y15, .ref y16, .ref y17, .ref y18, .ref y19, .ref y20, .ref y21, .ref y22, .ref y23, .ref y24, .ref y25, .ref y26, .int 0, .int 0, .int 0, .ref y27, .ref y28, .ref y29, .int 0, .int 0, .int 0, .ref y30, .ref y31, .ref y32, .ref y33, .ref y34, .ref y35])), (y5, .inl (cy 0, 12, .inl (fun _ => 0)))]) hD hS hA [3, 4] rfl
  refine va_calli (va_runV (As := [.int (xs 1), .int (xs 2), .int (xs 3)]) (rest := [.int (-1)]) ⟨hx, hb, hml, hown, hts⟩ (c_X12_meet l D cy y0 y1 y2 y3 y4 y5 y6 y7 y8 y9 y10 y11 y12 y13 y14 y15 y16 y17 y18 y19 y20 y21 y22 y23 y24 y25 y26 y27 y28 y29 y30 y31 y32 y33 y34 y35 (xs 1) (xs 2) (xs 3) H.size) (cwV 3 hts gL_law_X12_meet rfl rfl rfl (by decide +kernel) ⟨Nat.le_of_ble_eq_true rfl, Nat.le_of_ble_eq_true rfl⟩) ⟨pwB, va_recv hK hPc_3 (ci := 12) (q0 := 0) rfl rfl, fun U hU hW => ⟨rfl, PW.of hU hW hKW hPc_3 hDc_4⟩⟩ rfl rfl hl.1 rfl (lv_room (Nat.le_of_ble_eq_true rfl)) dL_law_1397 ⟨by decide +kernel, by decide +kernel⟩) hS (fun q _ h => hFc_5 q h) hFc_5 (fun r_7 u t H1 locs ht hvm hw_6 hB hz1 hk1 hS => ?_)
  subst hw_6
  obtain ⟨hP1, hD1⟩ := hB
  rw [ht] at hP1
  obtain ⟨hP, hD⟩ := va_join (wr := [(x0, .inr (11, [.ref x1, .ref x2, .ref x3, .ref x4, .ref x5, .ref x6, .ref x7])), (x1, .inr (9, [.ref x8, .ref x9, .ref x10, .ref x11, .ref x12, .int 0, .int (-1)])), (x9, .inl (cy 0, 3, .inl (fun _ => 0)))]) (w1 := []) hP hD [3, 4] [0, 1, 2] rfl rfl (by decide) (by decide) hk1 hFc_5 hP1 hD1
  generalize H1 = H at hP hS ⊢
  have hP : va_P D vwCl [(x0, .inr (11, [.ref x1, .ref x2, .ref x3, .ref x4, .ref x5, .ref x6, .ref x7])), (x1, .inr (9, [.ref x8, .ref x9, .ref x10, .ref x11, .ref x12, .int 0, .int (-1)])), (x9, .inl (cy 0, 3, .inl (fun _ => 0)))] H := hP
  have hD : va_D A [(x0, .inr (11, [.ref x1, .ref x2, .ref x3, .ref x4, .ref x5, .ref x6, .ref x7])), (x1, .inr (9, [.ref x8, .ref x9, .ref x10, .ref x11, .ref x12, .int 0, .int (-1)])), (x9, .inl (cy 0, 3, .inl (fun _ => 0)))] := hD
  refine lv_icmp_eq (tgt := 1550) hx hb dL_law_1400 (by decide) (fun _ => ?_) (fun c_8 => absurd (by decide +kernel) c_8)
  exact lw_tail l C0 hAe hS (by decide +kernel) (by decide +kernel) ls (lv_sub hl [0, 3] rfl)
set_option maxHeartbeats 4000000 in
set_option maxRecDepth 100000 in
theorem lw_c27 {p : Program} {e : Env} {s : State} {m : MethodId} {below : List Frame} {meth : Method} {c : Code} (l : Launch) {b : Nat} {xs : Nat → Int32} (C0 : lw_At p s m meth c b 6 xs)  {A : Nat → Prop} (hAe : A = fun q : Nat => s.heap.size ≤ q) {D : va_G} {cy : Nat → ClassId} (hKW : KW D cy s) {x0 x1 x2 x3 x4 x5 x6 x7 x8 x9 x10 x11 x12 x13 x14 x15 x16 x17 x18 x19 x20 x21 x22 x23 x24 x25 x26 x27 x28 x29 x30 x31 x32 x33 x34 x35 x36 x37 x38 x39 x40 x41 x42 x43 x44 x45 x46 x47 x48 x49 x50 x51 x52 x53 x54 x55 x56 x57 x58 x59 x60 x61 x62 x63 x64 x65 x66 x67 x68 x69 x70 x71 x72 x73 x74 x75 x76 x77 x78 x79 x80 x81 x82 x83 x84 x85 x86 x87 x88 x89 x90 x91 y0 y1 y2 y3 y4 y5 y6 y7 y8 y9 y10 y11 y12 y13 y14 y15 y16 y17 y18 y19 y20 y21 y22 y23 y24 y25 y26 y27 y28 y29 y30 y31 y32 y33 y34 y35 : Nat} {H : Heap} {locs : List Loc} (hP : va_P D vwCl (WL cy x0 x1 x2 x3 x4 x5 x6 x7 x8 x9 x10 x11 x12 x13 x14 x15 x16 x17 x18 x19 x20 x21 x22 x23 x24 x25 x26 x27 x28 x29 x30 x31 x32 x33 x34 x35 x36 x37 x38 x39 x40 x41 x42 x43 x44 x45 x46 x47 x48 x49 x50 x51 x52 x53 x54 x55 x56 x57 x58 x59 x60 x61 x62 x63 x64 x65 x66 x67 x68 x69 x70 x71 x72 x73 x74 x75 x76 x77 x78 x79 x80 x81 x82 x83 x84 x85 x86 x87 x88 x89 x90 x91 y0 y1 y2 y3 y4 y5 y6 y7 y8 y9 y10 y11 y12 y13 y14 y15 y16 y17 y18 y19 y20 y21 y22 y23 y24 y25 y26 y27 y28 y29 y30 y31 y32 y33 y34 y35) H) (hD : va_D A (WL cy x0 x1 x2 x3 x4 x5 x6 x7 x8 x9 x10 x11 x12 x13 x14 x15 x16 x17 x18 x19 x20 x21 x22 x23 x24 x25 x26 x27 x28 x29 x30 x31 x32 x33 x34 x35 x36 x37 x38 x39 x40 x41 x42 x43 x44 x45 x46 x47 x48 x49 x50 x51 x52 x53 x54 x55 x56 x57 x58 x59 x60 x61 x62 x63 x64 x65 x66 x67 x68 x69 x70 x71 x72 x73 x74 x75 x76 x77 x78 x79 x80 x81 x82 x83 x84 x85 x86 x87 x88 x89 x90 x91 y0 y1 y2 y3 y4 y5 y6 y7 y8 y9 y10 y11 y12 y13 y14 y15 y16 y17 y18 y19 y20 y21 y22 y23 y24 y25 y26 y27 y28 y29 y30 y31 y32 y33 y34 y35)) (hS : va_S A s.heap H locs) (ls : Array Slot) (hl : lv_has ls 4 [(3, .int 0), (2, .ref y0), (1, .ref x0), (0, .ref b)]) : W p l e room_1 s m #[Value.ref b] below meth c H locs 128 11575 (lw_Z below #[Value.ref b] s) (F0 m 1405 ls []) := by
  obtain ⟨hx, hb, hr, hml, hown, hts0, hX, hbl, hlocks, hgv⟩ := id C0
  have hts : ∀ w ∈ wsL_law, w.before #[Value.ref b] s = true := fun w h => hts0 w (wsL_law_in w h)
  have hown : s.vm.findClass RL = some m.cls := hown
  have hK := hKW.1
  have hA : ∀ q : Nat, s.heap.size ≤ q → A q := fun _ h => by rw [hAe]; exact h
  have hbA : ¬ A b := by rw [hAe]; exact Nat.not_le.mpr hbl
  have hP := hP.sub (ws' := [(x0, .inr (11, [.ref x1, .ref x2, .ref x3, .ref x4, .ref x5, .ref x6, .ref x7])), (x1, .inr (9, [.ref x8, .ref x9, .ref x10, .ref x11, .ref x12, .int 0, .int (-1)])), (x9, .inl (cy 0, 3, .inl (fun _ => 0))), (y0, .inr (12, [.int 0, .ref y1, .ref y2, .ref y3, .ref y4, .ref y5, .ref y6, .ref y7, .ref y8, .int 0, .int 0, .int 0, .int 0, .int 0, .long 0, .int 0, .int 0, .int 0, .ref y9, .ref y10, .int 0, .int 0, .int 0, .int 0, .int 0, .int 0, .int 0, .int 0, .int 0, .int 0, .ref y11, .ref y12, .ref y13, .int 0, .int 0, .int 0, .ref y14, .ref y15, .ref y16, .ref y17, .ref y18, .ref y19, .ref y20, .ref y21, .ref y22, .ref y23, .ref y24, .ref y25, .ref y26, .int 0, .int 0, .int 0, .ref y27, .ref y28, .ref y29, .int 0, .int 0, .int 0, .ref y30, .ref y31, .ref y32, .ref y33, .ref y34, .ref y35])), (y5, .inl (cy 0, 12, .inl (fun _ => 0)))]) [0, 1, 4, 92, 97] rfl
  have hD := hD.sub (ws' := [(x0, .inr (11, [.ref x1, .ref x2, .ref x3, .ref x4, .ref x5, .ref x6, .ref x7])), (x1, .inr (9, [.ref x8, .ref x9, .ref x10, .ref x11, .ref x12, .int 0, .int (-1)])), (x9, .inl (cy 0, 3, .inl (fun _ => 0))), (y0, .inr (12, [.int 0, .ref y1, .ref y2, .ref y3, .ref y4, .ref y5, .ref y6, .ref y7, .ref y8, .int 0, .int 0, .int 0, .int 0, .int 0, .long 0, .int 0, .int 0, .int 0, .ref y9, .ref y10, .int 0, .int 0, .int 0, .int 0, .int 0, .int 0, .int 0, .int 0, .int 0, .int 0, .ref y11, .ref y12, .ref y13, .int 0, .int 0, .int 0, .ref y14, .ref y15, .ref y16, .ref y17, .ref y18, .ref y19, .ref y20, .ref y21, .ref y22, .ref y23, .ref y24, .ref y25, .ref y26, .int 0, .int 0, .int 0, .ref y27, .ref y28, .ref y29, .int 0, .int 0, .int 0, .ref y30, .ref y31, .ref y32, .ref y33, .ref y34, .ref y35])), (y5, .inl (cy 0, 12, .inl (fun _ => 0)))]) [0, 1, 4, 92, 97] (by decide) rfl
  refine lv_aload_n hx hb dL_law_1405 rfl (lv_at hl 2 rfl) ?_
  refine lv_aload_n hx hb dL_law_1406 rfl (lv_at hl 3 rfl) ?_
  refine lv_iload_n hx hb dL_law_1407 rfl (lv_at hl 0 rfl) ?_
  refine lv_iconst (v := 1) hx hb dL_law_1408 (by decide +kernel) ?_
  refine lv_iadd hx hb dL_law_1409 ?_
  refine tp_i 1 (by decide +kernel) ?_
  refine va_sld hx hb hX hbl hbA hS (vi_c (by decide +kernel)) dL_law_1410 ?_
  refine tp_i (xs 1) rfl ?_
  refine lv_aload_n hx hb dL_law_1411 rfl (lv_at hl 3 rfl) ?_
  refine lv_iload_n hx hb dL_law_1412 rfl (lv_at hl 0 rfl) ?_
  refine lv_iconst (v := 2) hx hb dL_law_1413 (by decide +kernel) ?_
  refine lv_iadd hx hb dL_law_1414 ?_
  refine tp_i 2 (by decide +kernel) ?_
  refine va_sld hx hb hX hbl hbA hS (vi_c (by decide +kernel)) dL_law_1415 ?_
  refine tp_i (xs 2) rfl ?_
  refine lv_aload_n hx hb dL_law_1416 rfl (lv_at hl 3 rfl) ?_
  refine lv_iload_n hx hb dL_law_1417 rfl (lv_at hl 0 rfl) ?_
  refine lv_iconst (v := 3) hx hb dL_law_1418 (by decide +kernel) ?_
  refine lv_iadd hx hb dL_law_1419 ?_
  refine tp_i 3 (by decide +kernel) ?_
  refine va_sld hx hb hX hbl hbA hS (vi_c (by decide +kernel)) dL_law_1420 ?_
  refine tp_i (xs 3) rfl ?_
  have hPc_1 := hP.sub (ws' := [(x0, .inr (11, [.ref x1, .ref x2, .ref x3, .ref x4, .ref x5, .ref x6, .ref x7])), (x1, .inr (9, [.ref x8, .ref x9, .ref x10, .ref x11, .ref x12, .int 0, .int (-1)])), (x9, .inl (cy 0, 3, .inl (fun _ => 0)))]) [0, 1, 2] rfl
  refine pc_i (va_runV (As := [.int (xs 1), .int (xs 2), .int (xs 3)]) (rest := []) ⟨hx, hb, hml, hown, hts⟩ (c_X11_sum l D cy x0 x2 x3 x4 x5 x6 x7 x1 x8 x9 x10 x11 x12 (xs 1) (xs 2) (xs 3)) (cwV 3 hts gL_law_X11_sum rfl rfl rfl (by decide +kernel) ⟨Nat.le_of_ble_eq_true rfl, Nat.le_of_ble_eq_true rfl⟩) ⟨prB, va_recv hK hPc_1 (ci := 11) (q0 := 0) rfl rfl, fun U hU hW => ⟨rfl, PR.of hU hW hKW hPc_1⟩⟩ rfl rfl hl.1 rfl (lv_room (Nat.le_of_ble_eq_true rfl)) dL_law_1421 ⟨by decide +kernel, by decide +kernel⟩) (fun r_2 hr_2 => ?_)
  subst hr_2
  refine lv_aload_n hx hb dL_law_1424 rfl (lv_at hl 1 rfl) ?_
  refine lv_aload_n hx hb dL_law_1425 rfl (lv_at hl 3 rfl) ?_
  refine lv_iload_n hx hb dL_law_1426 rfl (lv_at hl 0 rfl) ?_
  refine lv_iconst (v := 1) hx hb dL_law_1427 (by decide +kernel) ?_
  refine lv_iadd hx hb dL_law_1428 ?_
  refine tp_i 1 (by decide +kernel) ?_
  refine va_sld hx hb hX hbl hbA hS (vi_c (by decide +kernel)) dL_law_1429 ?_
  refine tp_i (xs 1) rfl ?_
  refine lv_aload_n hx hb dL_law_1430 rfl (lv_at hl 3 rfl) ?_
  refine lv_iload_n hx hb dL_law_1431 rfl (lv_at hl 0 rfl) ?_
  refine lv_iconst (v := 2) hx hb dL_law_1432 (by decide +kernel) ?_
  refine lv_iadd hx hb dL_law_1433 ?_
  refine tp_i 2 (by decide +kernel) ?_
  refine va_sld hx hb hX hbl hbA hS (vi_c (by decide +kernel)) dL_law_1434 ?_
  refine tp_i (xs 2) rfl ?_
  refine lv_aload_n hx hb dL_law_1435 rfl (lv_at hl 3 rfl) ?_
  refine lv_iload_n hx hb dL_law_1436 rfl (lv_at hl 0 rfl) ?_
  refine lv_iconst (v := 3) hx hb dL_law_1437 (by decide +kernel) ?_
  refine lv_iadd hx hb dL_law_1438 ?_
  refine tp_i 3 (by decide +kernel) ?_
  refine va_sld hx hb hX hbl hbA hS (vi_c (by decide +kernel)) dL_law_1439 ?_
  refine tp_i (xs 3) rfl ?_
  have hPc_3 := hP.sub (ws' := [(y0, .inr (12, [.int 0, .ref y1, .ref y2, .ref y3, .ref y4, .ref y5, .ref y6, .ref y7, .ref y8, .int 0, .int 0, .int 0, .int 0, .int 0, .long 0, .int 0, .int 0, .int 0, .ref y9, .ref y10, .int 0, .int 0, .int 0, .int 0, .int 0, .int 0, .int 0, .int 0, .int 0, .int 0, .ref y11, .ref y12, .ref y13, .int 0, .int 0, .int 0, .ref y14, .ref y15, .ref y16, .ref y17, .ref y18, .ref y19, .ref y20, .ref y21, .ref y22, .ref y23, .ref y24, .ref y25, .ref y26, .int 0, .int 0, .int 0, .ref y27, .ref y28, .ref y29, .int 0, .int 0, .int 0, .ref y30, .ref y31, .ref y32, .ref y33, .ref y34, .ref y35])), (y5, .inl (cy 0, 12, .inl (fun _ => 0)))]) [3, 4] rfl
  have hDc_4 := hD.sub (ws' := [(y0, .inr (12, [.int 0, .ref y1, .ref y2, .ref y3, .ref y4, .ref y5, .ref y6, .ref y7, .ref y8, .int 0, .int 0, .int 0, .int 0, .int 0, .long 0, .int 0, .int 0, .int 0, .ref y9, .ref y10, .int 0, .int 0, .int 0, .int 0, .int 0, .int 0, .int 0, .int 0, .int 0, .int 0, .ref y11, .ref y12, .ref y13, .int 0, .int 0, .int 0, .ref y14, .ref y15, .ref y16, .ref y17, .ref y18, .ref y19, .ref y20, .ref y21, .ref y22, .ref y23, .ref y24, .ref y25, .ref y26, .int 0, .int 0, .int 0, .ref y27, .ref y28, .ref y29, .int 0, .int 0, .int 0, .ref y30, .ref y31, .ref y32, .ref y33, .ref y34, .ref y35])), (y5, .inl (cy 0, 12, .inl (fun _ => 0)))]) [3, 4] (by decide) rfl
  have hFc_5 := va_free (wc := [(y0, .inr (12, [.int 0, .ref y1, .ref y2, .ref y3, .ref y4, .ref y5, .ref y6, .ref y7, .ref y8, .int 0, .int 0, .int 0, .int 0, .int 0, .long 0, .int 0, .int 0, .int 0, .ref y9, .ref y10, .int 0, .int 0, .int 0, .int 0, .int 0, .int 0, .int 0, .int 0, .int 0, .int 0, .ref y11, .ref y12, .ref y13, .int 0, .int 0, .int 0, .ref y14, .ref y15, .ref y16, .ref y17, .ref y18, .ref y19, .ref y20, .ref y21, .ref y22, .ref y23, .ref y24, .ref y25, .ref y26, .int 0, .int 0, .int 0, .ref y27, .ref y28, .ref y29, .int 0, .int 0, .int 0, .ref y30, .ref y31, .ref y32, .ref y33, .ref y34, .ref y35])), (y5, .inl (cy 0, 12, .inl (fun _ => 0)))]) hD hS hA [3, 4] rfl
  refine va_calli (va_runV (As := [.int (xs 1), .int (xs 2), .int (xs 3)]) (rest := [.int (-2)]) ⟨hx, hb, hml, hown, hts⟩ (c_X12_sum l D cy y0 y1 y2 y3 y4 y5 y6 y7 y8 y9 y10 y11 y12 y13 y14 y15 y16 y17 y18 y19 y20 y21 y22 y23 y24 y25 y26 y27 y28 y29 y30 y31 y32 y33 y34 y35 (xs 1) (xs 2) (xs 3) H.size) (cwV 3 hts gL_law_X12_sum rfl rfl rfl (by decide +kernel) ⟨Nat.le_of_ble_eq_true rfl, Nat.le_of_ble_eq_true rfl⟩) ⟨pwB, va_recv hK hPc_3 (ci := 12) (q0 := 0) rfl rfl, fun U hU hW => ⟨rfl, PW.of hU hW hKW hPc_3 hDc_4⟩⟩ rfl rfl hl.1 rfl (lv_room (Nat.le_of_ble_eq_true rfl)) dL_law_1440 ⟨by decide +kernel, by decide +kernel⟩) hS (fun q _ h => hFc_5 q h) hFc_5 (fun r_7 u t H1 locs ht hvm hw_6 hB hz1 hk1 hS => ?_)
  subst hw_6
  obtain ⟨hP1, hD1⟩ := hB
  rw [ht] at hP1
  obtain ⟨hP, hD⟩ := va_join (wr := [(x0, .inr (11, [.ref x1, .ref x2, .ref x3, .ref x4, .ref x5, .ref x6, .ref x7])), (x1, .inr (9, [.ref x8, .ref x9, .ref x10, .ref x11, .ref x12, .int 0, .int (-1)])), (x9, .inl (cy 0, 3, .inl (fun _ => 0)))]) (w1 := []) hP hD [3, 4] [0, 1, 2] rfl rfl (by decide) (by decide) hk1 hFc_5 hP1 hD1
  generalize H1 = H at hP hS ⊢
  have hP : va_P D vwCl [(x0, .inr (11, [.ref x1, .ref x2, .ref x3, .ref x4, .ref x5, .ref x6, .ref x7])), (x1, .inr (9, [.ref x8, .ref x9, .ref x10, .ref x11, .ref x12, .int 0, .int (-1)])), (x9, .inl (cy 0, 3, .inl (fun _ => 0)))] H := hP
  have hD : va_D A [(x0, .inr (11, [.ref x1, .ref x2, .ref x3, .ref x4, .ref x5, .ref x6, .ref x7])), (x1, .inr (9, [.ref x8, .ref x9, .ref x10, .ref x11, .ref x12, .int 0, .int (-1)])), (x9, .inl (cy 0, 3, .inl (fun _ => 0)))] := hD
  refine lv_icmp_eq (tgt := 1550) hx hb dL_law_1443 (by decide) (fun _ => ?_) (fun c_8 => absurd (by decide +kernel) c_8)
  exact lw_tail l C0 hAe hS (by decide +kernel) (by decide +kernel) ls (lv_sub hl [0, 3] rfl)
set_option maxHeartbeats 4000000 in
set_option maxRecDepth 100000 in
theorem lw_c28 {p : Program} {e : Env} {s : State} {m : MethodId} {below : List Frame} {meth : Method} {c : Code} (l : Launch) {b : Nat} {xs : Nat → Int32} (C0 : lw_At p s m meth c b 6 xs)  {A : Nat → Prop} (hAe : A = fun q : Nat => s.heap.size ≤ q) {D : va_G} {cy : Nat → ClassId} (hKW : KW D cy s) {x0 x1 x2 x3 x4 x5 x6 x7 x8 x9 x10 x11 x12 x13 x14 x15 x16 x17 x18 x19 x20 x21 x22 x23 x24 x25 x26 x27 x28 x29 x30 x31 x32 x33 x34 x35 x36 x37 x38 x39 x40 x41 x42 x43 x44 x45 x46 x47 x48 x49 x50 x51 x52 x53 x54 x55 x56 x57 x58 x59 x60 x61 x62 x63 x64 x65 x66 x67 x68 x69 x70 x71 x72 x73 x74 x75 x76 x77 x78 x79 x80 x81 x82 x83 x84 x85 x86 x87 x88 x89 x90 x91 y0 y1 y2 y3 y4 y5 y6 y7 y8 y9 y10 y11 y12 y13 y14 y15 y16 y17 y18 y19 y20 y21 y22 y23 y24 y25 y26 y27 y28 y29 y30 y31 y32 y33 y34 y35 : Nat} {H : Heap} {locs : List Loc} (hP : va_P D vwCl (WL cy x0 x1 x2 x3 x4 x5 x6 x7 x8 x9 x10 x11 x12 x13 x14 x15 x16 x17 x18 x19 x20 x21 x22 x23 x24 x25 x26 x27 x28 x29 x30 x31 x32 x33 x34 x35 x36 x37 x38 x39 x40 x41 x42 x43 x44 x45 x46 x47 x48 x49 x50 x51 x52 x53 x54 x55 x56 x57 x58 x59 x60 x61 x62 x63 x64 x65 x66 x67 x68 x69 x70 x71 x72 x73 x74 x75 x76 x77 x78 x79 x80 x81 x82 x83 x84 x85 x86 x87 x88 x89 x90 x91 y0 y1 y2 y3 y4 y5 y6 y7 y8 y9 y10 y11 y12 y13 y14 y15 y16 y17 y18 y19 y20 y21 y22 y23 y24 y25 y26 y27 y28 y29 y30 y31 y32 y33 y34 y35) H) (hD : va_D A (WL cy x0 x1 x2 x3 x4 x5 x6 x7 x8 x9 x10 x11 x12 x13 x14 x15 x16 x17 x18 x19 x20 x21 x22 x23 x24 x25 x26 x27 x28 x29 x30 x31 x32 x33 x34 x35 x36 x37 x38 x39 x40 x41 x42 x43 x44 x45 x46 x47 x48 x49 x50 x51 x52 x53 x54 x55 x56 x57 x58 x59 x60 x61 x62 x63 x64 x65 x66 x67 x68 x69 x70 x71 x72 x73 x74 x75 x76 x77 x78 x79 x80 x81 x82 x83 x84 x85 x86 x87 x88 x89 x90 x91 y0 y1 y2 y3 y4 y5 y6 y7 y8 y9 y10 y11 y12 y13 y14 y15 y16 y17 y18 y19 y20 y21 y22 y23 y24 y25 y26 y27 y28 y29 y30 y31 y32 y33 y34 y35)) (hS : va_S A s.heap H locs) (ls : Array Slot) (hl : lv_has ls 4 [(3, .int 0), (2, .ref y0), (1, .ref x0), (0, .ref b)]) : W p l e room_1 s m #[Value.ref b] below meth c H locs 128 11575 (lw_Z below #[Value.ref b] s) (F0 m 1448 ls []) := by
  obtain ⟨hx, hb, hr, hml, hown, hts0, hX, hbl, hlocks, hgv⟩ := id C0
  have hts : ∀ w ∈ wsL_law, w.before #[Value.ref b] s = true := fun w h => hts0 w (wsL_law_in w h)
  have hown : s.vm.findClass RL = some m.cls := hown
  have hK := hKW.1
  have hA : ∀ q : Nat, s.heap.size ≤ q → A q := fun _ h => by rw [hAe]; exact h
  have hbA : ¬ A b := by rw [hAe]; exact Nat.not_le.mpr hbl
  have hP := hP.sub (ws' := [(x0, .inr (11, [.ref x1, .ref x2, .ref x3, .ref x4, .ref x5, .ref x6, .ref x7])), (x1, .inr (9, [.ref x8, .ref x9, .ref x10, .ref x11, .ref x12, .int 0, .int (-1)])), (x9, .inl (cy 0, 3, .inl (fun _ => 0))), (y0, .inr (12, [.int 0, .ref y1, .ref y2, .ref y3, .ref y4, .ref y5, .ref y6, .ref y7, .ref y8, .int 0, .int 0, .int 0, .int 0, .int 0, .long 0, .int 0, .int 0, .int 0, .ref y9, .ref y10, .int 0, .int 0, .int 0, .int 0, .int 0, .int 0, .int 0, .int 0, .int 0, .int 0, .ref y11, .ref y12, .ref y13, .int 0, .int 0, .int 0, .ref y14, .ref y15, .ref y16, .ref y17, .ref y18, .ref y19, .ref y20, .ref y21, .ref y22, .ref y23, .ref y24, .ref y25, .ref y26, .int 0, .int 0, .int 0, .ref y27, .ref y28, .ref y29, .int 0, .int 0, .int 0, .ref y30, .ref y31, .ref y32, .ref y33, .ref y34, .ref y35])), (y5, .inl (cy 0, 12, .inl (fun _ => 0)))]) [0, 1, 4, 92, 97] rfl
  have hD := hD.sub (ws' := [(x0, .inr (11, [.ref x1, .ref x2, .ref x3, .ref x4, .ref x5, .ref x6, .ref x7])), (x1, .inr (9, [.ref x8, .ref x9, .ref x10, .ref x11, .ref x12, .int 0, .int (-1)])), (x9, .inl (cy 0, 3, .inl (fun _ => 0))), (y0, .inr (12, [.int 0, .ref y1, .ref y2, .ref y3, .ref y4, .ref y5, .ref y6, .ref y7, .ref y8, .int 0, .int 0, .int 0, .int 0, .int 0, .long 0, .int 0, .int 0, .int 0, .ref y9, .ref y10, .int 0, .int 0, .int 0, .int 0, .int 0, .int 0, .int 0, .int 0, .int 0, .int 0, .ref y11, .ref y12, .ref y13, .int 0, .int 0, .int 0, .ref y14, .ref y15, .ref y16, .ref y17, .ref y18, .ref y19, .ref y20, .ref y21, .ref y22, .ref y23, .ref y24, .ref y25, .ref y26, .int 0, .int 0, .int 0, .ref y27, .ref y28, .ref y29, .int 0, .int 0, .int 0, .ref y30, .ref y31, .ref y32, .ref y33, .ref y34, .ref y35])), (y5, .inl (cy 0, 12, .inl (fun _ => 0)))]) [0, 1, 4, 92, 97] (by decide) rfl
  refine lv_aload_n hx hb dL_law_1448 rfl (lv_at hl 2 rfl) ?_
  refine lv_aload_n hx hb dL_law_1449 rfl (lv_at hl 3 rfl) ?_
  refine lv_iload_n hx hb dL_law_1450 rfl (lv_at hl 0 rfl) ?_
  refine lv_iconst (v := 1) hx hb dL_law_1451 (by decide +kernel) ?_
  refine lv_iadd hx hb dL_law_1452 ?_
  refine tp_i 1 (by decide +kernel) ?_
  refine va_sld hx hb hX hbl hbA hS (vi_c (by decide +kernel)) dL_law_1453 ?_
  refine tp_i (xs 1) rfl ?_
  refine lv_aload_n hx hb dL_law_1454 rfl (lv_at hl 3 rfl) ?_
  refine lv_iload_n hx hb dL_law_1455 rfl (lv_at hl 0 rfl) ?_
  refine lv_iconst (v := 2) hx hb dL_law_1456 (by decide +kernel) ?_
  refine lv_iadd hx hb dL_law_1457 ?_
  refine tp_i 2 (by decide +kernel) ?_
  refine va_sld hx hb hX hbl hbA hS (vi_c (by decide +kernel)) dL_law_1458 ?_
  refine tp_i (xs 2) rfl ?_
  have hPc_1 := hP.sub (ws' := [(x0, .inr (11, [.ref x1, .ref x2, .ref x3, .ref x4, .ref x5, .ref x6, .ref x7])), (x1, .inr (9, [.ref x8, .ref x9, .ref x10, .ref x11, .ref x12, .int 0, .int (-1)])), (x9, .inl (cy 0, 3, .inl (fun _ => 0)))]) [0, 1, 2] rfl
  refine pc_i (va_runV (As := [.int (xs 1), .int (xs 2)]) (rest := []) ⟨hx, hb, hml, hown, hts⟩ (c_X11_tells l D cy x0 x2 x3 x4 x5 x6 x7 x1 x8 x9 x10 x11 x12 (xs 1) (xs 2)) (cwV 2 hts gL_law_X11_tells rfl rfl rfl (by decide +kernel) ⟨Nat.le_of_ble_eq_true rfl, Nat.le_of_ble_eq_true rfl⟩) ⟨prB, va_recv hK hPc_1 (ci := 11) (q0 := 0) rfl rfl, fun U hU hW => ⟨rfl, PR.of hU hW hKW hPc_1⟩⟩ rfl rfl hl.1 rfl (lv_room (Nat.le_of_ble_eq_true rfl)) dL_law_1459 ⟨by decide +kernel, by decide +kernel⟩) (fun r_2 hr_2 => ?_)
  subst hr_2
  refine lv_aload_n hx hb dL_law_1462 rfl (lv_at hl 1 rfl) ?_
  refine lv_aload_n hx hb dL_law_1463 rfl (lv_at hl 3 rfl) ?_
  refine lv_iload_n hx hb dL_law_1464 rfl (lv_at hl 0 rfl) ?_
  refine lv_iconst (v := 1) hx hb dL_law_1465 (by decide +kernel) ?_
  refine lv_iadd hx hb dL_law_1466 ?_
  refine tp_i 1 (by decide +kernel) ?_
  refine va_sld hx hb hX hbl hbA hS (vi_c (by decide +kernel)) dL_law_1467 ?_
  refine tp_i (xs 1) rfl ?_
  refine lv_aload_n hx hb dL_law_1468 rfl (lv_at hl 3 rfl) ?_
  refine lv_iload_n hx hb dL_law_1469 rfl (lv_at hl 0 rfl) ?_
  refine lv_iconst (v := 2) hx hb dL_law_1470 (by decide +kernel) ?_
  refine lv_iadd hx hb dL_law_1471 ?_
  refine tp_i 2 (by decide +kernel) ?_
  refine va_sld hx hb hX hbl hbA hS (vi_c (by decide +kernel)) dL_law_1472 ?_
  refine tp_i (xs 2) rfl ?_
  have hPc_3 := hP.sub (ws' := [(y0, .inr (12, [.int 0, .ref y1, .ref y2, .ref y3, .ref y4, .ref y5, .ref y6, .ref y7, .ref y8, .int 0, .int 0, .int 0, .int 0, .int 0, .long 0, .int 0, .int 0, .int 0, .ref y9, .ref y10, .int 0, .int 0, .int 0, .int 0, .int 0, .int 0, .int 0, .int 0, .int 0, .int 0, .ref y11, .ref y12, .ref y13, .int 0, .int 0, .int 0, .ref y14, .ref y15, .ref y16, .ref y17, .ref y18, .ref y19, .ref y20, .ref y21, .ref y22, .ref y23, .ref y24, .ref y25, .ref y26, .int 0, .int 0, .int 0, .ref y27, .ref y28, .ref y29, .int 0, .int 0, .int 0, .ref y30, .ref y31, .ref y32, .ref y33, .ref y34, .ref y35])), (y5, .inl (cy 0, 12, .inl (fun _ => 0)))]) [3, 4] rfl
  have hDc_4 := hD.sub (ws' := [(y0, .inr (12, [.int 0, .ref y1, .ref y2, .ref y3, .ref y4, .ref y5, .ref y6, .ref y7, .ref y8, .int 0, .int 0, .int 0, .int 0, .int 0, .long 0, .int 0, .int 0, .int 0, .ref y9, .ref y10, .int 0, .int 0, .int 0, .int 0, .int 0, .int 0, .int 0, .int 0, .int 0, .int 0, .ref y11, .ref y12, .ref y13, .int 0, .int 0, .int 0, .ref y14, .ref y15, .ref y16, .ref y17, .ref y18, .ref y19, .ref y20, .ref y21, .ref y22, .ref y23, .ref y24, .ref y25, .ref y26, .int 0, .int 0, .int 0, .ref y27, .ref y28, .ref y29, .int 0, .int 0, .int 0, .ref y30, .ref y31, .ref y32, .ref y33, .ref y34, .ref y35])), (y5, .inl (cy 0, 12, .inl (fun _ => 0)))]) [3, 4] (by decide) rfl
  have hFc_5 := va_free (wc := [(y0, .inr (12, [.int 0, .ref y1, .ref y2, .ref y3, .ref y4, .ref y5, .ref y6, .ref y7, .ref y8, .int 0, .int 0, .int 0, .int 0, .int 0, .long 0, .int 0, .int 0, .int 0, .ref y9, .ref y10, .int 0, .int 0, .int 0, .int 0, .int 0, .int 0, .int 0, .int 0, .int 0, .int 0, .ref y11, .ref y12, .ref y13, .int 0, .int 0, .int 0, .ref y14, .ref y15, .ref y16, .ref y17, .ref y18, .ref y19, .ref y20, .ref y21, .ref y22, .ref y23, .ref y24, .ref y25, .ref y26, .int 0, .int 0, .int 0, .ref y27, .ref y28, .ref y29, .int 0, .int 0, .int 0, .ref y30, .ref y31, .ref y32, .ref y33, .ref y34, .ref y35])), (y5, .inl (cy 0, 12, .inl (fun _ => 0)))]) hD hS hA [3, 4] rfl
  refine va_calli (va_runV (As := [.int (xs 1), .int (xs 2)]) (rest := [.int (-1)]) ⟨hx, hb, hml, hown, hts⟩ (c_X12_tells l D cy y0 y1 y2 y3 y4 y5 y6 y7 y8 y9 y10 y11 y12 y13 y14 y15 y16 y17 y18 y19 y20 y21 y22 y23 y24 y25 y26 y27 y28 y29 y30 y31 y32 y33 y34 y35 (xs 1) (xs 2) H.size) (cwV 2 hts gL_law_X12_tells rfl rfl rfl (by decide +kernel) ⟨Nat.le_of_ble_eq_true rfl, Nat.le_of_ble_eq_true rfl⟩) ⟨pwB, va_recv hK hPc_3 (ci := 12) (q0 := 0) rfl rfl, fun U hU hW => ⟨rfl, PW.of hU hW hKW hPc_3 hDc_4⟩⟩ rfl rfl hl.1 rfl (lv_room (Nat.le_of_ble_eq_true rfl)) dL_law_1473 ⟨by decide +kernel, by decide +kernel⟩) hS (fun q _ h => hFc_5 q h) hFc_5 (fun r_7 u t H1 locs ht hvm hw_6 hB hz1 hk1 hS => ?_)
  subst hw_6
  obtain ⟨hP1, hD1⟩ := hB
  rw [ht] at hP1
  obtain ⟨hP, hD⟩ := va_join (wr := [(x0, .inr (11, [.ref x1, .ref x2, .ref x3, .ref x4, .ref x5, .ref x6, .ref x7])), (x1, .inr (9, [.ref x8, .ref x9, .ref x10, .ref x11, .ref x12, .int 0, .int (-1)])), (x9, .inl (cy 0, 3, .inl (fun _ => 0)))]) (w1 := []) hP hD [3, 4] [0, 1, 2] rfl rfl (by decide) (by decide) hk1 hFc_5 hP1 hD1
  generalize H1 = H at hP hS ⊢
  have hP : va_P D vwCl [(x0, .inr (11, [.ref x1, .ref x2, .ref x3, .ref x4, .ref x5, .ref x6, .ref x7])), (x1, .inr (9, [.ref x8, .ref x9, .ref x10, .ref x11, .ref x12, .int 0, .int (-1)])), (x9, .inl (cy 0, 3, .inl (fun _ => 0)))] H := hP
  have hD : va_D A [(x0, .inr (11, [.ref x1, .ref x2, .ref x3, .ref x4, .ref x5, .ref x6, .ref x7])), (x1, .inr (9, [.ref x8, .ref x9, .ref x10, .ref x11, .ref x12, .int 0, .int (-1)])), (x9, .inl (cy 0, 3, .inl (fun _ => 0)))] := hD
  refine lv_icmp_eq (tgt := 1550) hx hb dL_law_1476 (by decide) (fun _ => ?_) (fun c_8 => absurd (by decide +kernel) c_8)
  exact lw_tail l C0 hAe hS (by decide +kernel) (by decide +kernel) ls (lv_sub hl [0, 3] rfl)
set_option maxHeartbeats 4000000 in
set_option maxRecDepth 100000 in
theorem lw_c29 {p : Program} {e : Env} {s : State} {m : MethodId} {below : List Frame} {meth : Method} {c : Code} (l : Launch) {b : Nat} {xs : Nat → Int32} (C0 : lw_At p s m meth c b 6 xs)  {A : Nat → Prop} (hAe : A = fun q : Nat => s.heap.size ≤ q) {D : va_G} {cy : Nat → ClassId} (hKW : KW D cy s) {x0 x1 x2 x3 x4 x5 x6 x7 x8 x9 x10 x11 x12 x13 x14 x15 x16 x17 x18 x19 x20 x21 x22 x23 x24 x25 x26 x27 x28 x29 x30 x31 x32 x33 x34 x35 x36 x37 x38 x39 x40 x41 x42 x43 x44 x45 x46 x47 x48 x49 x50 x51 x52 x53 x54 x55 x56 x57 x58 x59 x60 x61 x62 x63 x64 x65 x66 x67 x68 x69 x70 x71 x72 x73 x74 x75 x76 x77 x78 x79 x80 x81 x82 x83 x84 x85 x86 x87 x88 x89 x90 x91 y0 y1 y2 y3 y4 y5 y6 y7 y8 y9 y10 y11 y12 y13 y14 y15 y16 y17 y18 y19 y20 y21 y22 y23 y24 y25 y26 y27 y28 y29 y30 y31 y32 y33 y34 y35 : Nat} {H : Heap} {locs : List Loc} (hP : va_P D vwCl (WL cy x0 x1 x2 x3 x4 x5 x6 x7 x8 x9 x10 x11 x12 x13 x14 x15 x16 x17 x18 x19 x20 x21 x22 x23 x24 x25 x26 x27 x28 x29 x30 x31 x32 x33 x34 x35 x36 x37 x38 x39 x40 x41 x42 x43 x44 x45 x46 x47 x48 x49 x50 x51 x52 x53 x54 x55 x56 x57 x58 x59 x60 x61 x62 x63 x64 x65 x66 x67 x68 x69 x70 x71 x72 x73 x74 x75 x76 x77 x78 x79 x80 x81 x82 x83 x84 x85 x86 x87 x88 x89 x90 x91 y0 y1 y2 y3 y4 y5 y6 y7 y8 y9 y10 y11 y12 y13 y14 y15 y16 y17 y18 y19 y20 y21 y22 y23 y24 y25 y26 y27 y28 y29 y30 y31 y32 y33 y34 y35) H) (hD : va_D A (WL cy x0 x1 x2 x3 x4 x5 x6 x7 x8 x9 x10 x11 x12 x13 x14 x15 x16 x17 x18 x19 x20 x21 x22 x23 x24 x25 x26 x27 x28 x29 x30 x31 x32 x33 x34 x35 x36 x37 x38 x39 x40 x41 x42 x43 x44 x45 x46 x47 x48 x49 x50 x51 x52 x53 x54 x55 x56 x57 x58 x59 x60 x61 x62 x63 x64 x65 x66 x67 x68 x69 x70 x71 x72 x73 x74 x75 x76 x77 x78 x79 x80 x81 x82 x83 x84 x85 x86 x87 x88 x89 x90 x91 y0 y1 y2 y3 y4 y5 y6 y7 y8 y9 y10 y11 y12 y13 y14 y15 y16 y17 y18 y19 y20 y21 y22 y23 y24 y25 y26 y27 y28 y29 y30 y31 y32 y33 y34 y35)) (hS : va_S A s.heap H locs) (ls : Array Slot) (hl : lv_has ls 4 [(3, .int 0), (2, .ref y0), (1, .ref x0), (0, .ref b)]) : W p l e room_1 s m #[Value.ref b] below meth c H locs 128 11575 (lw_Z below #[Value.ref b] s) (F0 m 1481 ls []) := by
  obtain ⟨hx, hb, hr, hml, hown, hts0, hX, hbl, hlocks, hgv⟩ := id C0
  have hts : ∀ w ∈ wsL_law, w.before #[Value.ref b] s = true := fun w h => hts0 w (wsL_law_in w h)
  have hown : s.vm.findClass RL = some m.cls := hown
  have hK := hKW.1
  have hA : ∀ q : Nat, s.heap.size ≤ q → A q := fun _ h => by rw [hAe]; exact h
  have hbA : ¬ A b := by rw [hAe]; exact Nat.not_le.mpr hbl
  have hP := hP.sub (ws' := [(x0, .inr (11, [.ref x1, .ref x2, .ref x3, .ref x4, .ref x5, .ref x6, .ref x7])), (x1, .inr (9, [.ref x8, .ref x9, .ref x10, .ref x11, .ref x12, .int 0, .int (-1)])), (x9, .inl (cy 0, 3, .inl (fun _ => 0))), (y0, .inr (12, [.int 0, .ref y1, .ref y2, .ref y3, .ref y4, .ref y5, .ref y6, .ref y7, .ref y8, .int 0, .int 0, .int 0, .int 0, .int 0, .long 0, .int 0, .int 0, .int 0, .ref y9, .ref y10, .int 0, .int 0, .int 0, .int 0, .int 0, .int 0, .int 0, .int 0, .int 0, .int 0, .ref y11, .ref y12, .ref y13, .int 0, .int 0, .int 0, .ref y14, .ref y15, .ref y16, .ref y17, .ref y18, .ref y19, .ref y20, .ref y21, .ref y22, .ref y23, .ref y24, .ref y25, .ref y26, .int 0, .int 0, .int 0, .ref y27, .ref y28, .ref y29, .int 0, .int 0, .int 0, .ref y30, .ref y31, .ref y32, .ref y33, .ref y34, .ref y35])), (y5, .inl (cy 0, 12, .inl (fun _ => 0)))]) [0, 1, 4, 92, 97] rfl
  have hD := hD.sub (ws' := [(x0, .inr (11, [.ref x1, .ref x2, .ref x3, .ref x4, .ref x5, .ref x6, .ref x7])), (x1, .inr (9, [.ref x8, .ref x9, .ref x10, .ref x11, .ref x12, .int 0, .int (-1)])), (x9, .inl (cy 0, 3, .inl (fun _ => 0))), (y0, .inr (12, [.int 0, .ref y1, .ref y2, .ref y3, .ref y4, .ref y5, .ref y6, .ref y7, .ref y8, .int 0, .int 0, .int 0, .int 0, .int 0, .long 0, .int 0, .int 0, .int 0, .ref y9, .ref y10, .int 0, .int 0, .int 0, .int 0, .int 0, .int 0, .int 0, .int 0, .int 0, .int 0, .ref y11, .ref y12, .ref y13, .int 0, .int 0, .int 0, .ref y14, .ref y15, .ref y16, .ref y17, .ref y18, .ref y19, .ref y20, .ref y21, .ref y22, .ref y23, .ref y24, .ref y25, .ref y26, .int 0, .int 0, .int 0, .ref y27, .ref y28, .ref y29, .int 0, .int 0, .int 0, .ref y30, .ref y31, .ref y32, .ref y33, .ref y34, .ref y35])), (y5, .inl (cy 0, 12, .inl (fun _ => 0)))]) [0, 1, 4, 92, 97] (by decide) rfl
  refine lv_aload_n hx hb dL_law_1481 rfl (lv_at hl 2 rfl) ?_
  refine lv_aload_n hx hb dL_law_1482 rfl (lv_at hl 3 rfl) ?_
  refine lv_iload_n hx hb dL_law_1483 rfl (lv_at hl 0 rfl) ?_
  refine lv_iconst (v := 1) hx hb dL_law_1484 (by decide +kernel) ?_
  refine lv_iadd hx hb dL_law_1485 ?_
  refine tp_i 1 (by decide +kernel) ?_
  refine va_sld hx hb hX hbl hbA hS (vi_c (by decide +kernel)) dL_law_1486 ?_
  refine tp_i (xs 1) rfl ?_
  have hPc_1 := hP.sub (ws' := [(x0, .inr (11, [.ref x1, .ref x2, .ref x3, .ref x4, .ref x5, .ref x6, .ref x7])), (x1, .inr (9, [.ref x8, .ref x9, .ref x10, .ref x11, .ref x12, .int 0, .int (-1)])), (x9, .inl (cy 0, 3, .inl (fun _ => 0)))]) [0, 1, 2] rfl
  refine pc_i (va_runV (As := [.int (xs 1)]) (rest := []) ⟨hx, hb, hml, hown, hts⟩ (c_X11_count l D cy x0 x2 x3 x4 x5 x6 x7 x1 x8 x9 x10 x11 x12 (xs 1)) (cwV 1 hts gL_law_X11_count rfl rfl rfl (by decide +kernel) ⟨Nat.le_of_ble_eq_true rfl, Nat.le_of_ble_eq_true rfl⟩) ⟨prB, va_recv hK hPc_1 (ci := 11) (q0 := 0) rfl rfl, fun U hU hW => ⟨rfl, PR.of hU hW hKW hPc_1⟩⟩ rfl rfl hl.1 rfl (lv_room (Nat.le_of_ble_eq_true rfl)) dL_law_1487 ⟨by decide +kernel, by decide +kernel⟩) (fun r_2 hr_2 => ?_)
  subst hr_2
  refine lv_aload_n hx hb dL_law_1490 rfl (lv_at hl 1 rfl) ?_
  refine lv_aload_n hx hb dL_law_1491 rfl (lv_at hl 3 rfl) ?_
  refine lv_iload_n hx hb dL_law_1492 rfl (lv_at hl 0 rfl) ?_
  refine lv_iconst (v := 1) hx hb dL_law_1493 (by decide +kernel) ?_
  refine lv_iadd hx hb dL_law_1494 ?_
  refine tp_i 1 (by decide +kernel) ?_
  refine va_sld hx hb hX hbl hbA hS (vi_c (by decide +kernel)) dL_law_1495 ?_
  refine tp_i (xs 1) rfl ?_
  have hPc_3 := hP.sub (ws' := [(y0, .inr (12, [.int 0, .ref y1, .ref y2, .ref y3, .ref y4, .ref y5, .ref y6, .ref y7, .ref y8, .int 0, .int 0, .int 0, .int 0, .int 0, .long 0, .int 0, .int 0, .int 0, .ref y9, .ref y10, .int 0, .int 0, .int 0, .int 0, .int 0, .int 0, .int 0, .int 0, .int 0, .int 0, .ref y11, .ref y12, .ref y13, .int 0, .int 0, .int 0, .ref y14, .ref y15, .ref y16, .ref y17, .ref y18, .ref y19, .ref y20, .ref y21, .ref y22, .ref y23, .ref y24, .ref y25, .ref y26, .int 0, .int 0, .int 0, .ref y27, .ref y28, .ref y29, .int 0, .int 0, .int 0, .ref y30, .ref y31, .ref y32, .ref y33, .ref y34, .ref y35])), (y5, .inl (cy 0, 12, .inl (fun _ => 0)))]) [3, 4] rfl
  have hDc_4 := hD.sub (ws' := [(y0, .inr (12, [.int 0, .ref y1, .ref y2, .ref y3, .ref y4, .ref y5, .ref y6, .ref y7, .ref y8, .int 0, .int 0, .int 0, .int 0, .int 0, .long 0, .int 0, .int 0, .int 0, .ref y9, .ref y10, .int 0, .int 0, .int 0, .int 0, .int 0, .int 0, .int 0, .int 0, .int 0, .int 0, .ref y11, .ref y12, .ref y13, .int 0, .int 0, .int 0, .ref y14, .ref y15, .ref y16, .ref y17, .ref y18, .ref y19, .ref y20, .ref y21, .ref y22, .ref y23, .ref y24, .ref y25, .ref y26, .int 0, .int 0, .int 0, .ref y27, .ref y28, .ref y29, .int 0, .int 0, .int 0, .ref y30, .ref y31, .ref y32, .ref y33, .ref y34, .ref y35])), (y5, .inl (cy 0, 12, .inl (fun _ => 0)))]) [3, 4] (by decide) rfl
  have hFc_5 := va_free (wc := [(y0, .inr (12, [.int 0, .ref y1, .ref y2, .ref y3, .ref y4, .ref y5, .ref y6, .ref y7, .ref y8, .int 0, .int 0, .int 0, .int 0, .int 0, .long 0, .int 0, .int 0, .int 0, .ref y9, .ref y10, .int 0, .int 0, .int 0, .int 0, .int 0, .int 0, .int 0, .int 0, .int 0, .int 0, .ref y11, .ref y12, .ref y13, .int 0, .int 0, .int 0, .ref y14, .ref y15, .ref y16, .ref y17, .ref y18, .ref y19, .ref y20, .ref y21, .ref y22, .ref y23, .ref y24, .ref y25, .ref y26, .int 0, .int 0, .int 0, .ref y27, .ref y28, .ref y29, .int 0, .int 0, .int 0, .ref y30, .ref y31, .ref y32, .ref y33, .ref y34, .ref y35])), (y5, .inl (cy 0, 12, .inl (fun _ => 0)))]) hD hS hA [3, 4] rfl
  refine va_calli (va_runV (As := [.int (xs 1)]) (rest := [.int (if (xs 1) < 0 then -2 else if (xs 1) < 3 then 0 else -2)]) ⟨hx, hb, hml, hown, hts⟩ (c_X12_count l D cy y0 y1 y2 y3 y4 y5 y6 y7 y8 y9 y10 y11 y12 y13 y14 y15 y16 y17 y18 y19 y20 y21 y22 y23 y24 y25 y26 y27 y28 y29 y30 y31 y32 y33 y34 y35 (xs 1) H.size) (cwV 1 hts gL_law_X12_count rfl rfl rfl (by decide +kernel) ⟨Nat.le_of_ble_eq_true rfl, Nat.le_of_ble_eq_true rfl⟩) ⟨pwB, va_recv hK hPc_3 (ci := 12) (q0 := 0) rfl rfl, fun U hU hW => ⟨rfl, PW.of hU hW hKW hPc_3 hDc_4⟩⟩ rfl rfl hl.1 rfl (lv_room (Nat.le_of_ble_eq_true rfl)) dL_law_1496 ⟨by decide +kernel, by decide +kernel⟩) hS (fun q _ h => hFc_5 q h) hFc_5 (fun r_7 u t H1 locs ht hvm hw_6 hB hz1 hk1 hS => ?_)
  subst hw_6
  obtain ⟨hP1, hD1⟩ := hB
  rw [ht] at hP1
  obtain ⟨hP, hD⟩ := va_join (wr := [(x0, .inr (11, [.ref x1, .ref x2, .ref x3, .ref x4, .ref x5, .ref x6, .ref x7])), (x1, .inr (9, [.ref x8, .ref x9, .ref x10, .ref x11, .ref x12, .int 0, .int (-1)])), (x9, .inl (cy 0, 3, .inl (fun _ => 0)))]) (w1 := []) hP hD [3, 4] [0, 1, 2] rfl rfl (by decide) (by decide) hk1 hFc_5 hP1 hD1
  generalize H1 = H at hP hS ⊢
  have hP : va_P D vwCl [(x0, .inr (11, [.ref x1, .ref x2, .ref x3, .ref x4, .ref x5, .ref x6, .ref x7])), (x1, .inr (9, [.ref x8, .ref x9, .ref x10, .ref x11, .ref x12, .int 0, .int (-1)])), (x9, .inl (cy 0, 3, .inl (fun _ => 0)))] H := hP
  have hD : va_D A [(x0, .inr (11, [.ref x1, .ref x2, .ref x3, .ref x4, .ref x5, .ref x6, .ref x7])), (x1, .inr (9, [.ref x8, .ref x9, .ref x10, .ref x11, .ref x12, .int 0, .int (-1)])), (x9, .inl (cy 0, 3, .inl (fun _ => 0)))] := hD
  refine lv_icmp_eq (tgt := 1550) hx hb dL_law_1499 (by decide) (fun c_8 => ?_) (fun c_8 => absurd rfl c_8)
  exact lw_tail l C0 hAe hS (by decide +kernel) (by decide +kernel) ls (lv_sub hl [0, 3] rfl)
set_option maxHeartbeats 4000000 in
set_option maxRecDepth 100000 in
theorem lw_c31 {p : Program} {e : Env} {s : State} {m : MethodId} {below : List Frame} {meth : Method} {c : Code} (l : Launch) {b : Nat} {xs : Nat → Int32} (C0 : lw_At p s m meth c b 6 xs)  {A : Nat → Prop} (hAe : A = fun q : Nat => s.heap.size ≤ q) {D : va_G} {cy : Nat → ClassId} (hKW : KW D cy s) {x0 x1 x2 x3 x4 x5 x6 x7 x8 x9 x10 x11 x12 x13 x14 x15 x16 x17 x18 x19 x20 x21 x22 x23 x24 x25 x26 x27 x28 x29 x30 x31 x32 x33 x34 x35 x36 x37 x38 x39 x40 x41 x42 x43 x44 x45 x46 x47 x48 x49 x50 x51 x52 x53 x54 x55 x56 x57 x58 x59 x60 x61 x62 x63 x64 x65 x66 x67 x68 x69 x70 x71 x72 x73 x74 x75 x76 x77 x78 x79 x80 x81 x82 x83 x84 x85 x86 x87 x88 x89 x90 x91 y0 y1 y2 y3 y4 y5 y6 y7 y8 y9 y10 y11 y12 y13 y14 y15 y16 y17 y18 y19 y20 y21 y22 y23 y24 y25 y26 y27 y28 y29 y30 y31 y32 y33 y34 y35 : Nat} {H : Heap} {locs : List Loc} (hP : va_P D vwCl (WL cy x0 x1 x2 x3 x4 x5 x6 x7 x8 x9 x10 x11 x12 x13 x14 x15 x16 x17 x18 x19 x20 x21 x22 x23 x24 x25 x26 x27 x28 x29 x30 x31 x32 x33 x34 x35 x36 x37 x38 x39 x40 x41 x42 x43 x44 x45 x46 x47 x48 x49 x50 x51 x52 x53 x54 x55 x56 x57 x58 x59 x60 x61 x62 x63 x64 x65 x66 x67 x68 x69 x70 x71 x72 x73 x74 x75 x76 x77 x78 x79 x80 x81 x82 x83 x84 x85 x86 x87 x88 x89 x90 x91 y0 y1 y2 y3 y4 y5 y6 y7 y8 y9 y10 y11 y12 y13 y14 y15 y16 y17 y18 y19 y20 y21 y22 y23 y24 y25 y26 y27 y28 y29 y30 y31 y32 y33 y34 y35) H) (hD : va_D A (WL cy x0 x1 x2 x3 x4 x5 x6 x7 x8 x9 x10 x11 x12 x13 x14 x15 x16 x17 x18 x19 x20 x21 x22 x23 x24 x25 x26 x27 x28 x29 x30 x31 x32 x33 x34 x35 x36 x37 x38 x39 x40 x41 x42 x43 x44 x45 x46 x47 x48 x49 x50 x51 x52 x53 x54 x55 x56 x57 x58 x59 x60 x61 x62 x63 x64 x65 x66 x67 x68 x69 x70 x71 x72 x73 x74 x75 x76 x77 x78 x79 x80 x81 x82 x83 x84 x85 x86 x87 x88 x89 x90 x91 y0 y1 y2 y3 y4 y5 y6 y7 y8 y9 y10 y11 y12 y13 y14 y15 y16 y17 y18 y19 y20 y21 y22 y23 y24 y25 y26 y27 y28 y29 y30 y31 y32 y33 y34 y35)) (hS : va_S A s.heap H locs) (ls : Array Slot) (hl : lv_has ls 4 [(3, .int 0), (2, .ref y0), (1, .ref x0), (0, .ref b)]) : W p l e room_1 s m #[Value.ref b] below meth c H locs 128 11575 (lw_Z below #[Value.ref b] s) (F0 m 1527 ls []) := by
  obtain ⟨hx, hb, hr, hml, hown, hts0, hX, hbl, hlocks, hgv⟩ := id C0
  have hts : ∀ w ∈ wsL_law, w.before #[Value.ref b] s = true := fun w h => hts0 w (wsL_law_in w h)
  have hown : s.vm.findClass RL = some m.cls := hown
  have hK := hKW.1
  have hA : ∀ q : Nat, s.heap.size ≤ q → A q := fun _ h => by rw [hAe]; exact h
  have hbA : ¬ A b := by rw [hAe]; exact Nat.not_le.mpr hbl
  have hP := hP.sub (ws' := [(x0, .inr (11, [.ref x1, .ref x2, .ref x3, .ref x4, .ref x5, .ref x6, .ref x7])), (x1, .inr (9, [.ref x8, .ref x9, .ref x10, .ref x11, .ref x12, .int 0, .int (-1)])), (x9, .inl (cy 0, 3, .inl (fun _ => 0))), (x2, .inl (cy 6, 3, .inr (.inr (.inr (.inr (fun _ => none)))))), (y0, .inr (12, [.int 0, .ref y1, .ref y2, .ref y3, .ref y4, .ref y5, .ref y6, .ref y7, .ref y8, .int 0, .int 0, .int 0, .int 0, .int 0, .long 0, .int 0, .int 0, .int 0, .ref y9, .ref y10, .int 0, .int 0, .int 0, .int 0, .int 0, .int 0, .int 0, .int 0, .int 0, .int 0, .ref y11, .ref y12, .ref y13, .int 0, .int 0, .int 0, .ref y14, .ref y15, .ref y16, .ref y17, .ref y18, .ref y19, .ref y20, .ref y21, .ref y22, .ref y23, .ref y24, .ref y25, .ref y26, .int 0, .int 0, .int 0, .ref y27, .ref y28, .ref y29, .int 0, .int 0, .int 0, .ref y30, .ref y31, .ref y32, .ref y33, .ref y34, .ref y35])), (y35, .inl (cy 2, 3, .inl (fun _ => 0)))]) [0, 1, 4, 40, 92, 127] rfl
  have hD := hD.sub (ws' := [(x0, .inr (11, [.ref x1, .ref x2, .ref x3, .ref x4, .ref x5, .ref x6, .ref x7])), (x1, .inr (9, [.ref x8, .ref x9, .ref x10, .ref x11, .ref x12, .int 0, .int (-1)])), (x9, .inl (cy 0, 3, .inl (fun _ => 0))), (x2, .inl (cy 6, 3, .inr (.inr (.inr (.inr (fun _ => none)))))), (y0, .inr (12, [.int 0, .ref y1, .ref y2, .ref y3, .ref y4, .ref y5, .ref y6, .ref y7, .ref y8, .int 0, .int 0, .int 0, .int 0, .int 0, .long 0, .int 0, .int 0, .int 0, .ref y9, .ref y10, .int 0, .int 0, .int 0, .int 0, .int 0, .int 0, .int 0, .int 0, .int 0, .int 0, .ref y11, .ref y12, .ref y13, .int 0, .int 0, .int 0, .ref y14, .ref y15, .ref y16, .ref y17, .ref y18, .ref y19, .ref y20, .ref y21, .ref y22, .ref y23, .ref y24, .ref y25, .ref y26, .int 0, .int 0, .int 0, .ref y27, .ref y28, .ref y29, .int 0, .int 0, .int 0, .ref y30, .ref y31, .ref y32, .ref y33, .ref y34, .ref y35])), (y35, .inl (cy 2, 3, .inl (fun _ => 0)))]) [0, 1, 4, 40, 92, 127] (by decide) rfl
  refine lv_aload_n hx hb dL_law_1527 rfl (lv_at hl 2 rfl) ?_
  refine lv_aload_n hx hb dL_law_1528 rfl (lv_at hl 3 rfl) ?_
  refine lv_iload_n hx hb dL_law_1529 rfl (lv_at hl 0 rfl) ?_
  refine lv_iconst (v := 1) hx hb dL_law_1530 (by decide +kernel) ?_
  refine lv_iadd hx hb dL_law_1531 ?_
  refine tp_i 1 (by decide +kernel) ?_
  refine va_sld hx hb hX hbl hbA hS (vi_c (by decide +kernel)) dL_law_1532 ?_
  refine tp_i (xs 1) rfl ?_
  have hPc_1 := hP.sub (ws' := [(x0, .inr (11, [.ref x1, .ref x2, .ref x3, .ref x4, .ref x5, .ref x6, .ref x7])), (x1, .inr (9, [.ref x8, .ref x9, .ref x10, .ref x11, .ref x12, .int 0, .int (-1)])), (x9, .inl (cy 0, 3, .inl (fun _ => 0))), (x2, .inl (cy 6, 3, .inr (.inr (.inr (.inr (fun _ => none))))))]) [0, 1, 2, 3] rfl
  refine pc_i (va_runV (As := [.int (xs 1)]) (rest := []) ⟨hx, hb, hml, hown, hts⟩ (c_X11_again l D cy x0 x2 x3 x4 x5 x6 x7 x1 x8 x9 x10 x11 x12 (xs 1)) (cwV 1 hts gL_law_X11_again rfl rfl rfl (by decide +kernel) ⟨Nat.le_of_ble_eq_true rfl, Nat.le_of_ble_eq_true rfl⟩) ⟨prB, va_recv hK hPc_1 (ci := 11) (q0 := 0) rfl rfl, fun U hU hW => ⟨rfl, PR.of hU hW hKW hPc_1⟩⟩ rfl rfl hl.1 rfl (lv_room (Nat.le_of_ble_eq_true rfl)) dL_law_1533 ⟨by decide +kernel, by decide +kernel⟩) (fun r_2 hr_2 => ?_)
  subst hr_2
  refine lv_aload_n hx hb dL_law_1536 rfl (lv_at hl 1 rfl) ?_
  refine lv_aload_n hx hb dL_law_1537 rfl (lv_at hl 3 rfl) ?_
  refine lv_iload_n hx hb dL_law_1538 rfl (lv_at hl 0 rfl) ?_
  refine lv_iconst (v := 1) hx hb dL_law_1539 (by decide +kernel) ?_
  refine lv_iadd hx hb dL_law_1540 ?_
  refine tp_i 1 (by decide +kernel) ?_
  refine va_sld hx hb hX hbl hbA hS (vi_c (by decide +kernel)) dL_law_1541 ?_
  refine tp_i (xs 1) rfl ?_
  have hPc_3 := hP.sub (ws' := [(y0, .inr (12, [.int 0, .ref y1, .ref y2, .ref y3, .ref y4, .ref y5, .ref y6, .ref y7, .ref y8, .int 0, .int 0, .int 0, .int 0, .int 0, .long 0, .int 0, .int 0, .int 0, .ref y9, .ref y10, .int 0, .int 0, .int 0, .int 0, .int 0, .int 0, .int 0, .int 0, .int 0, .int 0, .ref y11, .ref y12, .ref y13, .int 0, .int 0, .int 0, .ref y14, .ref y15, .ref y16, .ref y17, .ref y18, .ref y19, .ref y20, .ref y21, .ref y22, .ref y23, .ref y24, .ref y25, .ref y26, .int 0, .int 0, .int 0, .ref y27, .ref y28, .ref y29, .int 0, .int 0, .int 0, .ref y30, .ref y31, .ref y32, .ref y33, .ref y34, .ref y35])), (y35, .inl (cy 2, 3, .inl (fun _ => 0)))]) [4, 5] rfl
  have hDc_4 := hD.sub (ws' := [(y0, .inr (12, [.int 0, .ref y1, .ref y2, .ref y3, .ref y4, .ref y5, .ref y6, .ref y7, .ref y8, .int 0, .int 0, .int 0, .int 0, .int 0, .long 0, .int 0, .int 0, .int 0, .ref y9, .ref y10, .int 0, .int 0, .int 0, .int 0, .int 0, .int 0, .int 0, .int 0, .int 0, .int 0, .ref y11, .ref y12, .ref y13, .int 0, .int 0, .int 0, .ref y14, .ref y15, .ref y16, .ref y17, .ref y18, .ref y19, .ref y20, .ref y21, .ref y22, .ref y23, .ref y24, .ref y25, .ref y26, .int 0, .int 0, .int 0, .ref y27, .ref y28, .ref y29, .int 0, .int 0, .int 0, .ref y30, .ref y31, .ref y32, .ref y33, .ref y34, .ref y35])), (y35, .inl (cy 2, 3, .inl (fun _ => 0)))]) [4, 5] (by decide) rfl
  have hFc_5 := va_free (wc := [(y0, .inr (12, [.int 0, .ref y1, .ref y2, .ref y3, .ref y4, .ref y5, .ref y6, .ref y7, .ref y8, .int 0, .int 0, .int 0, .int 0, .int 0, .long 0, .int 0, .int 0, .int 0, .ref y9, .ref y10, .int 0, .int 0, .int 0, .int 0, .int 0, .int 0, .int 0, .int 0, .int 0, .int 0, .ref y11, .ref y12, .ref y13, .int 0, .int 0, .int 0, .ref y14, .ref y15, .ref y16, .ref y17, .ref y18, .ref y19, .ref y20, .ref y21, .ref y22, .ref y23, .ref y24, .ref y25, .ref y26, .int 0, .int 0, .int 0, .ref y27, .ref y28, .ref y29, .int 0, .int 0, .int 0, .ref y30, .ref y31, .ref y32, .ref y33, .ref y34, .ref y35])), (y35, .inl (cy 2, 3, .inl (fun _ => 0)))]) hD hS hA [4, 5] rfl
  refine va_calli (va_runV (As := [.int (xs 1)]) (rest := [.int 0]) ⟨hx, hb, hml, hown, hts⟩ (c_X12_again l D cy y0 y1 y2 y3 y4 y5 y6 y7 y8 y9 y10 y11 y12 y13 y14 y15 y16 y17 y18 y19 y20 y21 y22 y23 y24 y25 y26 y27 y28 y29 y30 y31 y32 y33 y34 y35 (xs 1) H.size) (cwV 1 hts gL_law_X12_again rfl rfl rfl (by decide +kernel) ⟨Nat.le_of_ble_eq_true rfl, Nat.le_of_ble_eq_true rfl⟩) ⟨pwB, va_recv hK hPc_3 (ci := 12) (q0 := 0) rfl rfl, fun U hU hW => ⟨rfl, PW.of hU hW hKW hPc_3 hDc_4⟩⟩ rfl rfl hl.1 rfl (lv_room (Nat.le_of_ble_eq_true rfl)) dL_law_1542 ⟨by decide +kernel, by decide +kernel⟩) hS (fun q _ h => hFc_5 q h) hFc_5 (fun r_7 u t H1 locs ht hvm hw_6 hB hz1 hk1 hS => ?_)
  subst hw_6
  obtain ⟨hP1, hD1⟩ := hB
  rw [ht] at hP1
  obtain ⟨hP, hD⟩ := va_join (wr := [(x0, .inr (11, [.ref x1, .ref x2, .ref x3, .ref x4, .ref x5, .ref x6, .ref x7])), (x1, .inr (9, [.ref x8, .ref x9, .ref x10, .ref x11, .ref x12, .int 0, .int (-1)])), (x9, .inl (cy 0, 3, .inl (fun _ => 0))), (x2, .inl (cy 6, 3, .inr (.inr (.inr (.inr (fun _ => none))))))]) (w1 := []) hP hD [4, 5] [0, 1, 2, 3] rfl rfl (by decide) (by decide) hk1 hFc_5 hP1 hD1
  generalize H1 = H at hP hS ⊢
  have hP : va_P D vwCl [(x0, .inr (11, [.ref x1, .ref x2, .ref x3, .ref x4, .ref x5, .ref x6, .ref x7])), (x1, .inr (9, [.ref x8, .ref x9, .ref x10, .ref x11, .ref x12, .int 0, .int (-1)])), (x9, .inl (cy 0, 3, .inl (fun _ => 0))), (x2, .inl (cy 6, 3, .inr (.inr (.inr (.inr (fun _ => none))))))] H := hP
  have hD : va_D A [(x0, .inr (11, [.ref x1, .ref x2, .ref x3, .ref x4, .ref x5, .ref x6, .ref x7])), (x1, .inr (9, [.ref x8, .ref x9, .ref x10, .ref x11, .ref x12, .int 0, .int (-1)])), (x9, .inl (cy 0, 3, .inl (fun _ => 0))), (x2, .inl (cy 6, 3, .inr (.inr (.inr (.inr (fun _ => none))))))] := hD
  refine lv_icmp_eq (tgt := 1550) hx hb dL_law_1545 (by decide) (fun _ => ?_) (fun c_8 => absurd (by decide +kernel) c_8)
  exact lw_tail l C0 hAe hS (by decide +kernel) (by decide +kernel) ls (lv_sub hl [0, 3] rfl)
