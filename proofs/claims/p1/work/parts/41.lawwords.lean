theorem mem_ap {a b big : List Cond} (ha : ∀ w ∈ a, w ∈ big) (hb : ∀ w ∈ b, w ∈ big) : ∀ w ∈ a ++ b, w ∈ big := fun w h => (List.mem_append.mp h).elim (ha w) (hb w)
theorem mem_pl {big : List Cond} (ws : List Cond) (ps : List Nat) (hp : ws = ps.filterMap (fun i => big[i]?)) : ∀ w ∈ ws, w ∈ big := by
  intro w hw
  rw [hp] at hw
  obtain ⟨i, -, hi⟩ := List.mem_filterMap.mp hw
  first | exact List.mem_of_getElem? hi | exact List.getElem?_mem hi
set_option maxRecDepth 100000 in
theorem lr_1 : ∀ w ∈ wsL_law_r1, w ∈ lw_tbl := fun w h => (goodIn_h wsL_law_r1 [122, 123, 101, 1293, 1294, 113, 124, 125, 127, 128, 130, 131, 102, 574, 575, 336, 337, 107, 576, 384, 385, 108] [126, 129] (by decide +kernel) (by decide +kernel) rfl w h).1
set_option maxRecDepth 100000 in
theorem lr_2 : ∀ w ∈ wsL_law_r2, w ∈ lw_tbl := fun w h => (goodIn_h wsL_law_r2 [577, 492, 493, 110, 578, 516, 517, 111, 579, 547, 548, 112, 580, 133, 135, 136, 137, 103, 309, 250, 311, 153, 155] [134] (by decide +kernel) (by decide +kernel) rfl w h).1
set_option maxRecDepth 100000 in
theorem lr_3 : ∀ w ∈ wsL_law_r3, w ∈ lw_tbl := fun w h => (goodIn_h wsL_law_r3 [104, 313, 251, 253, 105, 314, 273, 275, 106, 315, 318, 139, 141, 152, 142, 157, 159, 178, 186, 190, 194, 203] [140, 158] (by decide +kernel) (by decide +kernel) rfl w h).1
set_option maxRecDepth 100000 in
theorem lr_4 : ∀ w ∈ wsL_law_r4, w ∈ lw_tbl := fun w h => (goodIn_h wsL_law_r4 [208, 212, 255, 257, 262, 265, 277, 279, 284, 286, 292, 294, 339, 341, 342, 348, 344, 350, 346, 352, 358] [256, 278, 340] (by decide +kernel) (by decide +kernel) rfl w h).1
set_option maxRecDepth 100000 in
theorem lr_5 : ∀ w ∈ wsL_law_r5, w ∈ lw_tbl := fun w h => (goodIn_h wsL_law_r5 [359, 387, 389, 390, 391, 109, 434, 436, 438, 440, 458, 393, 395, 396, 399, 402, 404, 407, 409, 495, 497] [388, 394, 496] (by decide +kernel) (by decide +kernel) rfl w h).1
set_option maxRecDepth 100000 in
theorem lr_6 : ∀ w ∈ wsL_law_r6, w ∈ lw_tbl := fun w h => (goodIn_h wsL_law_r6 [498, 506, 519, 521, 528, 529, 530, 550, 552, 553, 555, 557, 558, 559, 560, 1295, 1296, 1298, 1300, 1301, 1302] [520, 551, 1297] (by decide +kernel) (by decide +kernel) rfl w h).1
set_option maxRecDepth 100000 in
theorem lr_7 : ∀ w ∈ wsL_law_r7, w ∈ lw_tbl := fun w h => (goodIn_h wsL_law_r7 [1303, 1304, 1305, 1306, 1307, 1317, 1318, 1329, 1330, 1331, 1335, 1336, 1337, 1338, 1339, 1340, 1341, 1342, 1343, 1344, 1345, 1346, 1347, 1492] [] (by decide +kernel) (by decide +kernel) rfl w h).1
set_option maxRecDepth 100000 in
theorem lr_8 : ∀ w ∈ wsL_law_r8, w ∈ lw_tbl := fun w h => (goodIn_h wsL_law_r8 [1351, 1352, 1353, 1357, 1358, 1359, 1360, 1361, 1362, 596, 597, 598, 310, 144, 600, 601, 602, 143, 1493, 1494, 1495] [599, 603, 1496] (by decide +kernel) (by decide +kernel) rfl w h).1
set_option maxRecDepth 100000 in
theorem lr_9 : ∀ w ∈ wsL_law_r9, w ∈ lw_tbl := fun w h => (goodIn_h wsL_law_r9 [1299, 1497, 1499, 30, 604, 605, 606, 1501, 1502, 1503, 1505, 1506, 608, 609, 610, 355, 357, 612, 613] [1500, 607, 1504, 1507, 611] (by decide +kernel) (by decide +kernel) rfl w h).1
set_option maxRecDepth 100000 in
theorem lr_10 : ∀ w ∈ wsL_law_r10, w ∈ lw_tbl := fun w h => (goodIn_h wsL_law_r10 [614, 616, 617, 618, 146, 316, 620, 621, 622, 354, 356, 362, 145, 624, 625, 626, 160, 163, 166, 170] [615, 619, 623, 627] (by decide +kernel) (by decide +kernel) rfl w h).1
set_option maxRecDepth 100000 in
theorem lr_11 : ∀ w ∈ wsL_law_r11, w ∈ lw_tbl := fun w h => (goodIn_h wsL_law_r11 [174, 183, 199, 215, 628, 629, 630, 258, 632, 633, 634, 280, 288, 636, 638, 0, 360, 361, 737, 640, 642] [631, 635, 639] (by decide +kernel) (by decide +kernel) rfl w h).1
set_option maxRecDepth 100000 in
theorem lr_12 : ∀ w ∈ wsL_law_r12, w ∈ lw_tbl := fun w h => (goodIn_h wsL_law_r12 [1, 644, 645, 646, 648, 649, 651, 652, 654, 655, 657, 659, 2, 661, 663, 664, 681] [643, 647, 650, 653, 656, 660, 665] (by decide +kernel) (by decide +kernel) rfl w h).1
set_option maxRecDepth 100000 in
theorem lr_13 : ∀ w ∈ wsL_law_r13, w ∈ lw_tbl := fun w h => (goodIn_h wsL_law_r13 [683, 3, 685, 686, 687, 114, 1938, 689, 690, 691, 693, 1939, 695, 696, 697, 699, 700, 701, 703] [684, 688, 692, 698, 702] (by decide +kernel) (by decide +kernel) rfl w h).1
set_option maxRecDepth 100000 in
theorem lr_14 : ∀ w ∈ wsL_law_r14, w ∈ lw_tbl := fun w h => (goodIn_h wsL_law_r14 [704, 115, 706, 707, 709, 711, 712, 116, 714, 715, 117, 717, 718, 720, 721, 723, 724, 725] [705, 708, 713, 716, 719, 722] (by decide +kernel) (by decide +kernel) rfl w h).1
set_option maxRecDepth 100000 in
theorem lr_15 : ∀ w ∈ wsL_law_r15, w ∈ lw_tbl := fun w h => (goodIn_h wsL_law_r15 [727, 729, 731, 733, 735, 4, 739, 741, 5, 743, 745, 6, 755, 757, 747, 749, 7, 185, 202] [726, 736, 742, 746, 750] (by decide +kernel) (by decide +kernel) rfl w h).1
set_option maxRecDepth 100000 in
theorem lr_16 : ∀ w ∈ wsL_law_r16, w ∈ lw_tbl := fun w h => (goodIn_h wsL_law_r16 [282, 290, 261, 751, 753, 8, 759, 761, 9, 162, 165, 169, 173, 177, 180, 763, 765, 764, 118, 218, 766, 767] [754, 762] (by decide +kernel) (by decide +kernel) rfl w h).1
set_option maxRecDepth 100000 in
theorem lr_17 : ∀ w ∈ wsL_law_r17, w ∈ lw_tbl := fun w h => (goodIn_h wsL_law_r17 [768, 770, 771, 772, 774, 775, 776, 778, 779, 780, 782, 783, 784, 786, 787, 788, 790, 791] [769, 773, 777, 781, 785, 789] (by decide +kernel) (by decide +kernel) rfl w h).1
set_option maxRecDepth 100000 in
theorem lr_18 : ∀ w ∈ wsL_law_r18, w ∈ lw_tbl := fun w h => (goodIn_h wsL_law_r18 [792, 794, 795, 796, 798, 799, 800, 802, 803, 804, 349, 351, 353, 821, 822, 119, 806, 807, 808] [793, 797, 801, 805, 823] (by decide +kernel) (by decide +kernel) rfl w h).1
set_option maxRecDepth 100000 in
theorem lr_19 : ∀ w ∈ wsL_law_r19, w ∈ lw_tbl := fun w h => (goodIn_h wsL_law_r19 [810, 811, 812, 813, 815, 816, 817, 818, 820, 1508, 1509, 1510, 1309, 1512, 1514, 31, 1516, 1518, 32] [809, 814, 819, 1511, 1515] (by decide +kernel) (by decide +kernel) rfl w h).1
set_option maxRecDepth 100000 in
theorem lr_20 : ∀ w ∈ wsL_law_r20, w ∈ lw_tbl := fun w h => (goodIn_h wsL_law_r20 [1319, 1320, 1308, 1315, 1310, 1314, 1316, 1520, 1522, 33, 1313, 1311, 1312, 1524, 1526, 34, 1528, 1530, 35, 1532] [1519, 1523, 1527, 1531] (by decide +kernel) (by decide +kernel) rfl w h).1
set_option maxRecDepth 100000 in
theorem lr_21 : ∀ w ∈ wsL_law_r21, w ∈ lw_tbl := fun w h => (goodIn_h wsL_law_r21 [1534, 36, 1536, 1537, 1538, 1539, 1540, 1541, 1542, 1321, 1543, 1545, 37, 1547, 1549, 38, 1551, 1553, 39, 1555] [1535, 1546, 1550, 1554] (by decide +kernel) (by decide +kernel) rfl w h).1
set_option maxRecDepth 100000 in
theorem lr_22 : ∀ w ∈ wsL_law_r22, w ∈ lw_tbl := fun w h => (goodIn_h wsL_law_r22 [1557, 40, 1559, 1561, 41, 1563, 1565, 42, 1567, 1569, 43, 1571, 1572, 1574, 1576, 44, 1578, 1580] [1558, 1562, 1566, 1570, 1573, 1577] (by decide +kernel) (by decide +kernel) rfl w h).1
set_option maxRecDepth 100000 in
theorem lr_23 : ∀ w ∈ wsL_law_r23, w ∈ lw_tbl := fun w h => (goodIn_h wsL_law_r23 [45, 1582, 1584, 46, 1586, 1588, 47, 1590, 1591, 1593, 1594, 1595, 1596, 1597, 1598, 1599, 1601, 48, 1603] [1581, 1585, 1589, 1592, 1602] (by decide +kernel) (by decide +kernel) rfl w h).1
set_option maxRecDepth 100000 in
theorem lr_24 : ∀ w ∈ wsL_law_r24, w ∈ lw_tbl := fun w h => (goodIn_h wsL_law_r24 [1604, 1605, 1607, 49, 1609, 1611, 50, 824, 825, 826, 317, 319, 1613, 1614, 1615, 828, 829, 830, 161] [1608, 1612, 827, 1616, 831] (by decide +kernel) (by decide +kernel) rfl w h).1
set_option maxRecDepth 100000 in
theorem lr_25 : ∀ w ∈ wsL_law_r25, w ∈ lw_tbl := fun w h => (goodIn_h wsL_law_r25 [164, 167, 171, 175, 184, 200, 179, 832, 833, 834, 1617, 1618, 1619, 1621, 1623, 51, 1322, 1323, 1324, 1325, 1326] [835, 1620, 1624] (by decide +kernel) (by decide +kernel) rfl w h).1
set_option maxRecDepth 100000 in
theorem lr_26 : ∀ w ∈ wsL_law_r26, w ∈ lw_tbl := fun w h => (goodIn_h wsL_law_r26 [1328, 1327, 1625, 1627, 52, 836, 837, 838, 189, 193, 197, 840, 841, 842, 1629, 1630, 1631, 844, 845, 846] [1628, 839, 843, 1632] (by decide +kernel) (by decide +kernel) rfl w h).1
set_option maxRecDepth 100000 in
theorem lr_27 : ∀ w ∈ wsL_law_r27, w ∈ lw_tbl := fun w h => (goodIn_h wsL_law_r27 [207, 211, 213, 217, 848, 849, 850, 1633, 1634, 1635, 1637, 1639, 53, 1641, 1642, 852, 853, 854] [847, 851, 1636, 1640, 1643, 855] (by decide +kernel) (by decide +kernel) rfl w h).1
set_option maxRecDepth 100000 in
theorem lr_28 : ∀ w ∈ wsL_law_r28, w ∈ lw_tbl := fun w h => (goodIn_h wsL_law_r28 [856, 857, 858, 859, 861, 862, 1644, 1645, 1646, 1648, 1650, 54, 1652, 1654, 55, 1656, 1658, 56] [860, 863, 1647, 1651, 1655, 1659] (by decide +kernel) (by decide +kernel) rfl w h).1
set_option maxRecDepth 100000 in
theorem lr_29 : ∀ w ∈ wsL_law_r29, w ∈ lw_tbl := fun w h => (goodIn_h wsL_law_r29 [864, 865, 866, 868, 869, 870, 872, 873, 874, 876, 877, 878, 879, 881, 882, 198, 884, 1660, 1661] [867, 871, 875, 880, 883] (by decide +kernel) (by decide +kernel) rfl w h).1
set_option maxRecDepth 100000 in
theorem lr_30 : ∀ w ∈ wsL_law_r30, w ∈ lw_tbl := fun w h => (goodIn_h wsL_law_r30 [1662, 1664, 1666, 57, 1668, 1670, 58, 1672, 1674, 59, 885, 886, 887, 889, 890, 891, 893, 894] [1663, 1667, 1671, 1675, 888, 892] (by decide +kernel) (by decide +kernel) rfl w h).1
set_option maxRecDepth 100000 in
theorem lr_31 : ∀ w ∈ wsL_law_r31, w ∈ lw_tbl := fun w h => (goodIn_h wsL_law_r31 [120, 896, 897, 898, 1676, 1677, 1678, 1680, 1681, 899, 900, 901, 260, 264, 903, 904, 905, 907, 908] [895, 1679, 1682, 902, 906] (by decide +kernel) (by decide +kernel) rfl w h).1
set_option maxRecDepth 100000 in
theorem lr_32 : ∀ w ∈ wsL_law_r32, w ∈ lw_tbl := fun w h => (goodIn_h wsL_law_r32 [909, 1683, 1684, 1685, 1687, 1689, 60, 1332, 1691, 1693, 61, 1695, 1697, 62, 911, 912, 913, 443] [910, 1686, 1690, 1694, 1698, 914] (by decide +kernel) (by decide +kernel) rfl w h).1
set_option maxRecDepth 100000 in
theorem lr_33 : ∀ w ∈ wsL_law_r33, w ∈ lw_tbl := fun w h => (goodIn_h wsL_law_r33 [915, 917, 10, 919, 920, 921, 430, 432, 204, 442, 444, 456, 457, 923, 924, 925, 412, 410, 181, 187, 191] [918, 922, 926] (by decide +kernel) (by decide +kernel) rfl w h).1
set_option maxRecDepth 100000 in
theorem lr_34 : ∀ w ∈ wsL_law_r34, w ∈ lw_tbl := fun w h => (goodIn_h wsL_law_r34 [195, 927, 929, 11, 931, 932, 933, 259, 935, 936, 938, 940, 12, 263, 411, 942, 943, 944, 946, 13] [930, 934, 937, 941] (by decide +kernel) (by decide +kernel) rfl w h).1
set_option maxRecDepth 100000 in
theorem lr_35 : ∀ w ∈ wsL_law_r35, w ∈ lw_tbl := fun w h => (goodIn_h wsL_law_r35 [948, 949, 950, 952, 953, 954, 956, 957, 958, 960, 962, 14, 210, 446, 448, 964, 965, 966, 967] [947, 951, 955, 959, 963] (by decide +kernel) (by decide +kernel) rfl w h).1
set_option maxRecDepth 100000 in
theorem lr_36 : ∀ w ∈ wsL_law_r36, w ∈ lw_tbl := fun w h => (goodIn_h wsL_law_r36 [969, 971, 15, 973, 975, 16, 977, 978, 979, 980, 397, 982, 983, 984, 986, 987, 988, 989, 990] [968, 972, 976, 981, 985] (by decide +kernel) (by decide +kernel) rfl w h).1
set_option maxRecDepth 100000 in
theorem lr_37 : ∀ w ∈ wsL_law_r37, w ∈ lw_tbl := fun w h => (goodIn_h wsL_law_r37 [992, 993, 994, 996, 998, 17, 1000, 1001, 1002, 1004, 1005, 1006, 1008, 1010, 18, 400, 452, 450] [991, 995, 999, 1003, 1007, 1011] (by decide +kernel) (by decide +kernel) rfl w h).1
set_option maxRecDepth 100000 in
theorem lr_38 : ∀ w ∈ wsL_law_r38, w ∈ lw_tbl := fun w h => (goodIn_h wsL_law_r38 [454, 1012, 1014, 19, 405, 176, 1016, 1017, 1018, 1020, 1021, 1022, 1024, 1025, 1026, 1027, 1029, 1699, 1700, 1701] [1015, 1019, 1023, 1028] (by decide +kernel) (by decide +kernel) rfl w h).1
set_option maxRecDepth 100000 in
theorem lr_39 : ∀ w ∈ wsL_law_r39, w ∈ lw_tbl := fun w h => (goodIn_h wsL_law_r39 [1333, 1703, 1705, 63, 1349, 1707, 1709, 64, 1711, 1713, 65, 1334, 1348, 1715, 1717, 66, 1719, 1721, 67] [1702, 1706, 1710, 1714, 1718] (by decide +kernel) (by decide +kernel) rfl w h).1
set_option maxRecDepth 100000 in
theorem lr_40 : ∀ w ∈ wsL_law_r40, w ∈ lw_tbl := fun w h => (goodIn_h wsL_law_r40 [1723, 1725, 68, 1727, 1729, 69, 1731, 1733, 70, 1735, 1737, 71, 1739, 1741, 72, 1743, 1745, 73] [1722, 1726, 1730, 1734, 1738, 1742] (by decide +kernel) (by decide +kernel) rfl w h).1
set_option maxRecDepth 100000 in
theorem lr_41 : ∀ w ∈ wsL_law_r41, w ∈ lw_tbl := fun w h => (goodIn_h wsL_law_r41 [1747, 1749, 74, 1350, 1751, 1752, 1754, 75, 1756, 1758, 76, 1760, 1762, 77, 1030, 1031, 1032, 435] [1746, 1750, 1755, 1759, 1763, 1033] (by decide +kernel) (by decide +kernel) rfl w h).1
set_option maxRecDepth 100000 in
theorem lr_42 : ∀ w ∈ wsL_law_r42, w ∈ lw_tbl := fun w h => (goodIn_h wsL_law_r42 [398, 401, 406, 408, 403, 1034, 1036, 20, 1038, 1039, 1764, 1765, 1766, 1768, 1770, 78, 1040, 1041, 1042, 431] [1037, 1767, 1771, 1043] (by decide +kernel) (by decide +kernel) rfl w h).1
set_option maxRecDepth 100000 in
theorem lr_43 : ∀ w ∈ wsL_law_r43, w ∈ lw_tbl := fun w h => (goodIn_h wsL_law_r43 [437, 439, 441, 1044, 1045, 1046, 1048, 1049, 1050, 1052, 1053, 1054, 1056, 1772, 1773, 1774, 1776, 1778, 79] [1047, 1051, 1055, 1775, 1779] (by decide +kernel) (by decide +kernel) rfl w h).1
set_option maxRecDepth 100000 in
theorem lr_44 : ∀ w ∈ wsL_law_r44, w ∈ lw_tbl := fun w h => (goodIn_h wsL_law_r44 [1780, 1782, 80, 1057, 1058, 1059, 433, 447, 449, 1784, 1785, 1786, 1061, 1062, 1063, 451, 453, 455, 1788, 1789] [1783, 1060, 1787, 1064] (by decide +kernel) (by decide +kernel) rfl w h).1
set_option maxRecDepth 100000 in
theorem lr_45 : ∀ w ∈ wsL_law_r45, w ∈ lw_tbl := fun w h => (goodIn_h wsL_law_r45 [1790, 1065, 1066, 1067, 445, 1792, 1793, 1794, 1069, 1070, 1071, 1073, 1074, 1075, 188, 205, 196, 1077, 1079] [1791, 1068, 1795, 1072, 1076] (by decide +kernel) (by decide +kernel) rfl w h).1
set_option maxRecDepth 100000 in
theorem lr_46 : ∀ w ∈ wsL_law_r46, w ∈ lw_tbl := fun w h => (goodIn_h wsL_law_r46 [21, 209, 1081, 1082, 1083, 1084, 1086, 1087, 1088, 1089, 1091, 22, 531, 1093, 1094, 1095, 1097, 23, 1099, 1100] [1080, 1085, 1092, 1098] (by decide +kernel) (by decide +kernel) rfl w h).1
set_option maxRecDepth 100000 in
theorem lr_47 : ∀ w ∈ wsL_law_r47, w ∈ lw_tbl := fun w h => (goodIn_h wsL_law_r47 [1101, 1103, 1104, 1105, 1106, 1108, 1110, 24, 1112, 1796, 1797, 1798, 1800, 1802, 81, 1804, 1806, 82] [1102, 1107, 1111, 1799, 1803, 1807] (by decide +kernel) (by decide +kernel) rfl w h).1
set_option maxRecDepth 100000 in
theorem lr_48 : ∀ w ∈ wsL_law_r48, w ∈ lw_tbl := fun w h => (goodIn_h wsL_law_r48 [1808, 1810, 83, 1812, 1814, 84, 1113, 1114, 1115, 527, 523, 1117, 1118, 1119, 526, 522, 1121, 1123, 25] [1811, 1815, 1116, 1120, 1124] (by decide +kernel) (by decide +kernel) rfl w h).1
set_option maxRecDepth 100000 in
theorem lr_49 : ∀ w ∈ wsL_law_r49, w ∈ lw_tbl := fun w h => (goodIn_h wsL_law_r49 [182, 192, 1816, 1817, 1818, 1820, 1822, 85, 1824, 1826, 86, 1125, 1126, 1127, 525, 1129, 1130, 1131, 524] [1819, 1823, 1827, 1128, 1132] (by decide +kernel) (by decide +kernel) rfl w h).1
set_option maxRecDepth 100000 in
theorem lr_50 : ∀ w ∈ wsL_law_r50, w ∈ lw_tbl := fun w h => (goodIn_h wsL_law_r50 [1133, 1135, 26, 216, 1828, 1829, 1830, 1137, 1138, 1139, 283, 291, 1141, 1142, 1143, 1145, 1146, 1147, 1149] [1136, 1831, 1140, 1144, 1148] (by decide +kernel) (by decide +kernel) rfl w h).1
set_option maxRecDepth 100000 in
theorem lr_51 : ∀ w ∈ wsL_law_r51, w ∈ lw_tbl := fun w h => (goodIn_h wsL_law_r51 [1150, 1151, 1153, 1155, 27, 281, 1157, 1159, 28, 289, 295, 293, 1161, 1162, 121, 1164, 1165, 1166, 1168] [1152, 1156, 1160, 1163, 1167] (by decide +kernel) (by decide +kernel) rfl w h).1
set_option maxRecDepth 100000 in
theorem lr_52 : ∀ w ∈ wsL_law_r52, w ∈ lw_tbl := fun w h => (goodIn_h wsL_law_r52 [1169, 1170, 1172, 1173, 1174, 1175, 285, 1177, 287, 1178, 1179, 1180, 1181, 1183, 1184, 1185, 1186, 1188, 1189, 1194] [1171, 1176, 1182, 1187] (by decide +kernel) (by decide +kernel) rfl w h).1
set_option maxRecDepth 100000 in
theorem lr_53 : ∀ w ∈ wsL_law_r53, w ∈ lw_tbl := fun w h => (goodIn_h wsL_law_r53 [1190, 1192, 29, 1832, 1833, 1834, 1355, 1356, 1836, 1838, 87, 1354, 1840, 1842, 88, 1844, 1846, 89, 1848] [1193, 1835, 1839, 1843, 1847] (by decide +kernel) (by decide +kernel) rfl w h).1
set_option maxRecDepth 100000 in
theorem lr_54 : ∀ w ∈ wsL_law_r54, w ∈ lw_tbl := fun w h => (goodIn_h wsL_law_r54 [1850, 90, 1852, 1854, 91, 1856, 1858, 92, 1860, 1862, 93, 1864, 1865, 1867, 1869, 94, 1871, 1873] [1851, 1855, 1859, 1863, 1866, 1870] (by decide +kernel) (by decide +kernel) rfl w h).1
set_option maxRecDepth 100000 in
theorem lr_55 : ∀ w ∈ wsL_law_r55, w ∈ lw_tbl := fun w h => (goodIn_h wsL_law_r55 [95, 1195, 1196, 1197, 556, 554, 1875, 1876, 1877, 1199, 1200, 1201, 1203, 1204, 1205, 201, 1879, 1880, 1881] [1874, 1198, 1878, 1202, 1206] (by decide +kernel) (by decide +kernel) rfl w h).1
set_option maxRecDepth 100000 in
theorem lr_56 : ∀ w ∈ wsL_law_r56, w ∈ lw_tbl := fun w h => (goodIn_h wsL_law_r56 [1207, 1208, 1209, 1211, 1212, 1883, 1884, 1885, 1213, 1214, 1215, 1217, 1218, 1219, 206, 1221, 1222, 1223, 1887] [1882, 1210, 1886, 1216, 1220] (by decide +kernel) (by decide +kernel) rfl w h).1
set_option maxRecDepth 100000 in
theorem lr_57 : ∀ w ∈ wsL_law_r57, w ∈ lw_tbl := fun w h => (goodIn_h wsL_law_r57 [1888, 1889, 1224, 1225, 1226, 505, 501, 503, 1228, 1229, 1230, 504, 172, 168, 500, 502, 1232, 1233, 1234, 1891] [1890, 1227, 1231, 1235] (by decide +kernel) (by decide +kernel) rfl w h).1
set_option maxRecDepth 100000 in
theorem lr_58 : ∀ w ∈ wsL_law_r58, w ∈ lw_tbl := fun w h => (goodIn_h wsL_law_r58 [1892, 1893, 1236, 1237, 1238, 1240, 1895, 1896, 1897, 1241, 1242, 1243, 1245, 1246, 1247, 1249, 1250, 1251] [1894, 1239, 1898, 1244, 1248, 1252] (by decide +kernel) (by decide +kernel) rfl w h).1
set_option maxRecDepth 100000 in
theorem lr_59 : ∀ w ∈ wsL_law_r59, w ∈ lw_tbl := fun w h => (goodIn_h wsL_law_r59 [1253, 1254, 1255, 1257, 1258, 1259, 214, 1261, 1262, 1899, 1900, 1901, 1903, 1905, 96, 1907, 1909, 97, 1911] [1256, 1260, 1902, 1906, 1910] (by decide +kernel) (by decide +kernel) rfl w h).1
set_option maxRecDepth 100000 in
theorem lr_60 : ∀ w ∈ wsL_law_r60, w ∈ lw_tbl := fun w h => (goodIn_h wsL_law_r60 [1913, 98, 1263, 1264, 1265, 1267, 1268, 1269, 1915, 1916, 1917, 1271, 1272, 1273, 312, 1919, 1920, 1921] [1914, 1266, 1270, 1918, 1274, 1922] (by decide +kernel) (by decide +kernel) rfl w h).1
set_option maxRecDepth 100000 in
theorem lr_61 : ∀ w ∈ wsL_law_r61, w ∈ lw_tbl := fun w h => (goodIn_h wsL_law_r61 [1275, 1276, 1277, 1279, 1280, 1281, 1288, 1283, 1284, 1285, 1287, 1923, 1924, 1925, 1927, 1929, 99, 1931, 1932] [1278, 1282, 1286, 1926, 1930] (by decide +kernel) (by decide +kernel) rfl w h).1
set_option maxRecDepth 100000 in
theorem lr_62 : ∀ w ∈ wsL_law_r62, w ∈ lw_tbl := fun w h => (goodIn_h wsL_law_r62 [1289, 1290, 1291, 1934, 1935, 1936] [1933, 1292, 1937] (by decide +kernel) (by decide +kernel) rfl w h).1
theorem lx_11 : ∀ w ∈ wsX110, w ∈ lw_tbl := mem_pl _ [581, 583, 585, 587, 589, 591, 593] (by decide +kernel)
theorem lx_12 : ∀ w ∈ wsX120, w ∈ lw_tbl := mem_pl _ [1363, 1365, 1367, 1369, 1371, 1373, 1375, 1377, 1379, 1381, 1383, 1385, 1387, 1389, 1391, 1393, 1395, 1397, 1399, 1401, 1403, 1405, 1407, 1409, 1411, 1413, 1415, 1417, 1419, 1421, 1423, 1425, 1427, 1429, 1431, 1433, 1435, 1437, 1439, 1441, 1443, 1445, 1447, 1449, 1451, 1453, 1455, 1457, 1459, 1461, 1463, 1465, 1467, 1469, 1471, 1473, 1475, 1477, 1479, 1481, 1483, 1485, 1487, 1489] (by decide +kernel)
theorem lx_9 : ∀ w ∈ wsX90, w ∈ lw_tbl := mem_pl _ [320, 322, 324, 326, 328, 330, 332] (by decide +kernel)
theorem lx_4 : ∀ w ∈ wsX40, w ∈ lw_tbl := mem_pl _ [363, 365, 367, 369, 371, 373, 375, 377, 379, 381] (by decide +kernel)
theorem lx_5 : ∀ w ∈ wsX50, w ∈ lw_tbl := mem_pl _ [459, 461, 463, 465, 467, 469, 471, 473, 475, 477, 479, 481, 483, 485, 487, 489] (by decide +kernel)
theorem lx_10 : ∀ w ∈ wsX100, w ∈ lw_tbl := mem_pl _ [507, 509, 511, 513] (by decide +kernel)
theorem lx_0 : ∀ w ∈ wsX00, w ∈ lw_tbl := mem_pl _ [532, 534, 536, 538, 540, 542, 544] (by decide +kernel)
theorem lx_3 : ∀ w ∈ wsX30, w ∈ lw_tbl := mem_pl _ [561, 563, 565, 567, 569, 571] (by decide +kernel)
theorem lx_8 : ∀ w ∈ wsX80, w ∈ lw_tbl := mem_pl _ [147, 149] (by decide +kernel)
theorem lx_6 : ∀ w ∈ wsX60, w ∈ lw_tbl := mem_pl _ [219, 221, 223, 225, 227, 229, 231, 233, 235, 237, 239, 241, 243, 245, 247] (by decide +kernel)
theorem lx_1 : ∀ w ∈ wsX10, w ∈ lw_tbl := mem_pl _ [266, 268, 270] (by decide +kernel)
theorem lx_2 : ∀ w ∈ wsX20, w ∈ lw_tbl := mem_pl _ [296, 298, 300, 302, 304, 306] (by decide +kernel)
theorem lx_7 : ∀ w ∈ wsX70, w ∈ lw_tbl := mem_pl _ [413, 415, 417, 419, 421, 423, 425, 427] (by decide +kernel)
set_option maxRecDepth 20000 in
theorem wsL_law_in : ∀ w ∈ wsL_law, w ∈ lw_tbl := mem_ap (mem_ap (mem_ap (mem_ap (mem_ap (mem_ap (mem_ap (mem_ap (mem_ap (mem_ap (mem_ap (mem_ap (mem_ap (mem_ap (mem_ap lr_1 (mem_ap lr_2 (mem_ap lr_3 (mem_ap lr_4 (mem_ap lr_5 (mem_ap lr_6 (mem_ap lr_7 (mem_ap lr_8 (mem_ap lr_9 (mem_ap lr_10 (mem_ap lr_11 (mem_ap lr_12 (mem_ap lr_13 (mem_ap lr_14 (mem_ap lr_15 (mem_ap lr_16 (mem_ap lr_17 (mem_ap lr_18 (mem_ap lr_19 (mem_ap lr_20 (mem_ap lr_21 (mem_ap lr_22 (mem_ap lr_23 (mem_ap lr_24 (mem_ap lr_25 (mem_ap lr_26 (mem_ap lr_27 (mem_ap lr_28 (mem_ap lr_29 (mem_ap lr_30 (mem_ap lr_31 (mem_ap lr_32 (mem_ap lr_33 (mem_ap lr_34 (mem_ap lr_35 (mem_ap lr_36 (mem_ap lr_37 (mem_ap lr_38 (mem_ap lr_39 (mem_ap lr_40 (mem_ap lr_41 (mem_ap lr_42 (mem_ap lr_43 (mem_ap lr_44 (mem_ap lr_45 (mem_ap lr_46 (mem_ap lr_47 (mem_ap lr_48 (mem_ap lr_49 (mem_ap lr_50 (mem_ap lr_51 (mem_ap lr_52 (mem_ap lr_53 (mem_ap lr_54 (mem_ap lr_55 (mem_ap lr_56 (mem_ap lr_57 (mem_ap lr_58 (mem_ap lr_59 (mem_ap lr_60 (mem_ap lr_61 (lr_62)))))))))))))))))))))))))))))))))))))))))))))))))))))))))))))) lx_11) lx_12) lx_9) lx_4) lx_5) lx_10) lx_0) lx_3) lx_8) lx_6) lx_1) lx_2) lx_7) (fun _ h => absurd h List.not_mem_nil)
theorem inlX11 : ∀ w ∈ wsX110, w ∈ wsL_law := fun _ h => List.mem_append_left _ (List.mem_append_left _ (List.mem_append_left _ (List.mem_append_left _ (List.mem_append_left _ (List.mem_append_left _ (List.mem_append_left _ (List.mem_append_left _ (List.mem_append_left _ (List.mem_append_left _ (List.mem_append_left _ (List.mem_append_left _ (List.mem_append_left _ (List.mem_append_right _ h)))))))))))))
theorem inlX12 : ∀ w ∈ wsX120, w ∈ wsL_law := fun _ h => List.mem_append_left _ (List.mem_append_left _ (List.mem_append_left _ (List.mem_append_left _ (List.mem_append_left _ (List.mem_append_left _ (List.mem_append_left _ (List.mem_append_left _ (List.mem_append_left _ (List.mem_append_left _ (List.mem_append_left _ (List.mem_append_left _ (List.mem_append_right _ h))))))))))))
theorem inlX9 : ∀ w ∈ wsX90, w ∈ wsL_law := fun _ h => List.mem_append_left _ (List.mem_append_left _ (List.mem_append_left _ (List.mem_append_left _ (List.mem_append_left _ (List.mem_append_left _ (List.mem_append_left _ (List.mem_append_left _ (List.mem_append_left _ (List.mem_append_left _ (List.mem_append_left _ (List.mem_append_right _ h)))))))))))
theorem inlX4 : ∀ w ∈ wsX40, w ∈ wsL_law := fun _ h => List.mem_append_left _ (List.mem_append_left _ (List.mem_append_left _ (List.mem_append_left _ (List.mem_append_left _ (List.mem_append_left _ (List.mem_append_left _ (List.mem_append_left _ (List.mem_append_left _ (List.mem_append_left _ (List.mem_append_right _ h))))))))))
theorem inlX5 : ∀ w ∈ wsX50, w ∈ wsL_law := fun _ h => List.mem_append_left _ (List.mem_append_left _ (List.mem_append_left _ (List.mem_append_left _ (List.mem_append_left _ (List.mem_append_left _ (List.mem_append_left _ (List.mem_append_left _ (List.mem_append_left _ (List.mem_append_right _ h)))))))))
theorem inlX10 : ∀ w ∈ wsX100, w ∈ wsL_law := fun _ h => List.mem_append_left _ (List.mem_append_left _ (List.mem_append_left _ (List.mem_append_left _ (List.mem_append_left _ (List.mem_append_left _ (List.mem_append_left _ (List.mem_append_left _ (List.mem_append_right _ h))))))))
theorem inlX0 : ∀ w ∈ wsX00, w ∈ wsL_law := fun _ h => List.mem_append_left _ (List.mem_append_left _ (List.mem_append_left _ (List.mem_append_left _ (List.mem_append_left _ (List.mem_append_left _ (List.mem_append_left _ (List.mem_append_right _ h)))))))
theorem inlX3 : ∀ w ∈ wsX30, w ∈ wsL_law := fun _ h => List.mem_append_left _ (List.mem_append_left _ (List.mem_append_left _ (List.mem_append_left _ (List.mem_append_left _ (List.mem_append_left _ (List.mem_append_right _ h))))))
theorem inlX8 : ∀ w ∈ wsX80, w ∈ wsL_law := fun _ h => List.mem_append_left _ (List.mem_append_left _ (List.mem_append_left _ (List.mem_append_left _ (List.mem_append_left _ (List.mem_append_right _ h)))))
theorem inlX6 : ∀ w ∈ wsX60, w ∈ wsL_law := fun _ h => List.mem_append_left _ (List.mem_append_left _ (List.mem_append_left _ (List.mem_append_left _ (List.mem_append_right _ h))))
theorem inlX1 : ∀ w ∈ wsX10, w ∈ wsL_law := fun _ h => List.mem_append_left _ (List.mem_append_left _ (List.mem_append_left _ (List.mem_append_right _ h)))
theorem inlX2 : ∀ w ∈ wsX20, w ∈ wsL_law := fun _ h => List.mem_append_left _ (List.mem_append_left _ (List.mem_append_right _ h))
theorem inlX7 : ∀ w ∈ wsX70, w ∈ wsL_law := fun _ h => List.mem_append_left _ (List.mem_append_right _ h)
