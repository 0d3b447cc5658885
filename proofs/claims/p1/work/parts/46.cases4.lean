theorem dL_law_903 : decode cL_law 903 = .ok (.aload_n 1, 1) := by decide +kernel
theorem dL_law_904 : decode cL_law 904 = .ok (.aload_n 0, 1) := by decide +kernel
theorem dL_law_905 : decode cL_law 905 = .ok (.iload_n 3, 1) := by decide +kernel
theorem dL_law_906 : decode cL_law 906 = .ok (.iconst 1, 1) := by decide +kernel
theorem dL_law_907 : decode cL_law 907 = .ok (.iadd, 1) := by decide +kernel
theorem dL_law_908 : decode cL_law 908 = .ok (.iaload, 1) := by decide +kernel
theorem dL_law_909 : decode cL_law 909 = .ok (.aload_n 0, 1) := by decide +kernel
theorem dL_law_910 : decode cL_law 910 = .ok (.iload_n 3, 1) := by decide +kernel
theorem dL_law_911 : decode cL_law 911 = .ok (.iconst 2, 1) := by decide +kernel
theorem dL_law_912 : decode cL_law 912 = .ok (.iadd, 1) := by decide +kernel
theorem dL_law_913 : decode cL_law 913 = .ok (.iaload, 1) := by decide +kernel
theorem dL_law_914 : decode cL_law 914 = .ok (.aload_n 0, 1) := by decide +kernel
theorem dL_law_915 : decode cL_law 915 = .ok (.iload_n 3, 1) := by decide +kernel
theorem dL_law_916 : decode cL_law 916 = .ok (.iconst 3, 1) := by decide +kernel
theorem dL_law_917 : decode cL_law 917 = .ok (.iadd, 1) := by decide +kernel
theorem dL_law_918 : decode cL_law 918 = .ok (.iaload, 1) := by decide +kernel
theorem dL_law_919 : decode cL_law 919 = .ok (.aload_n 0, 1) := by decide +kernel
theorem dL_law_920 : decode cL_law 920 = .ok (.iload_n 3, 1) := by decide +kernel
theorem dL_law_921 : decode cL_law 921 = .ok (.iconst 4, 1) := by decide +kernel
theorem dL_law_922 : decode cL_law 922 = .ok (.iadd, 1) := by decide +kernel
theorem dL_law_923 : decode cL_law 923 = .ok (.iaload, 1) := by decide +kernel
theorem dL_law_924 : decode cL_law 924 = .ok (.invokevirtual 87, 3) := by decide +kernel
set_option maxRecDepth 100000 in
theorem ggL_law_X11_soon : GoodIn wsL_law wsX11_soon := goodIn_h _ [15, 32, 583, 584, 585, 14, 45, 49, 629, 630, 631, 48, 242, 613, 614, 615, 241, 1071, 1072, 1073, 31, 1075, 1076, 1077, 1078, 1079, 1080, 1082, 125, 126, 1083, 411, 412, 236, 237, 1084, 1085, 1086, 68, 684, 650, 651, 238, 653, 654, 427, 239, 1088, 838, 839, 67, 73, 1089, 681, 682, 243, 1090, 719, 720, 722, 723, 724, 1091, 1092, 1093, 1095, 1096, 1097, 1098, 1099, 1100, 1102, 1103, 1104, 821, 822, 823, 825, 826, 827, 1106, 905, 906, 908, 818, 819, 1107, 1108, 1109, 1111, 1112, 1113, 1115, 1473, 1474, 1475, 1476, 1477, 1478, 1479, 1544, 1545, 1546, 1547, 1548, 1549, 1550, 1596, 1597, 1598, 1599, 1600, 1601, 1602, 1603, 1604, 1605, 1606, 1607, 1608, 1609, 1610, 1581, 1582, 1583, 1584, 1585, 1586, 1587] [1070, 586, 632, 616, 1074, 1081, 413, 1087, 652, 655, 840, 683, 721, 1094, 1101, 1105, 824, 828, 907, 820, 1110, 1114] (by decide +kernel) (by decide +kernel) rfl
set_option maxRecDepth 20000 in
theorem gL_law_X11_soon : GoodIn wsL_law (wsV RL 87 RX11 yX11_soon wsX11_soon) := goodIn_app (goodIn_of _ (by decide +kernel)) ggL_law_X11_soon
theorem dL_law_927 : decode cL_law 927 = .ok (.aload_n 2, 1) := by decide +kernel
theorem dL_law_928 : decode cL_law 928 = .ok (.aload_n 0, 1) := by decide +kernel
theorem dL_law_929 : decode cL_law 929 = .ok (.iload_n 3, 1) := by decide +kernel
theorem dL_law_930 : decode cL_law 930 = .ok (.iconst 1, 1) := by decide +kernel
theorem dL_law_931 : decode cL_law 931 = .ok (.iadd, 1) := by decide +kernel
theorem dL_law_932 : decode cL_law 932 = .ok (.iaload, 1) := by decide +kernel
theorem dL_law_933 : decode cL_law 933 = .ok (.aload_n 0, 1) := by decide +kernel
theorem dL_law_934 : decode cL_law 934 = .ok (.iload_n 3, 1) := by decide +kernel
theorem dL_law_935 : decode cL_law 935 = .ok (.iconst 2, 1) := by decide +kernel
theorem dL_law_936 : decode cL_law 936 = .ok (.iadd, 1) := by decide +kernel
theorem dL_law_937 : decode cL_law 937 = .ok (.iaload, 1) := by decide +kernel
theorem dL_law_938 : decode cL_law 938 = .ok (.aload_n 0, 1) := by decide +kernel
theorem dL_law_939 : decode cL_law 939 = .ok (.iload_n 3, 1) := by decide +kernel
theorem dL_law_940 : decode cL_law 940 = .ok (.iconst 3, 1) := by decide +kernel
theorem dL_law_941 : decode cL_law 941 = .ok (.iadd, 1) := by decide +kernel
theorem dL_law_942 : decode cL_law 942 = .ok (.iaload, 1) := by decide +kernel
theorem dL_law_943 : decode cL_law 943 = .ok (.aload_n 0, 1) := by decide +kernel
theorem dL_law_944 : decode cL_law 944 = .ok (.iload_n 3, 1) := by decide +kernel
theorem dL_law_945 : decode cL_law 945 = .ok (.iconst 4, 1) := by decide +kernel
theorem dL_law_946 : decode cL_law 946 = .ok (.iadd, 1) := by decide +kernel
theorem dL_law_947 : decode cL_law 947 = .ok (.iaload, 1) := by decide +kernel
theorem dL_law_948 : decode cL_law 948 = .ok (.invokevirtual 90, 3) := by decide +kernel
set_option maxRecDepth 100000 in
theorem ggL_law_X12_soon : GoodIn wsL_law wsX12_soon := goodIn_h _ [192, 170, 1120, 1121, 1122, 5, 591, 592, 593, 595, 596, 597, 598, 599, 600, 601, 151, 152, 449, 450, 451, 145, 205, 206, 602, 603, 604, 146, 923, 924, 925, 913, 927, 154, 155, 156, 157, 158, 159, 160, 161, 928, 637, 638, 639, 941, 942, 943, 1124, 1125, 1126, 168, 169, 1128, 1129, 1130, 971, 972, 973, 698, 699, 700, 702, 703, 704, 641, 642, 664, 665, 666, 668, 669, 670, 519, 520, 967, 968, 969, 945, 946, 947, 729, 730, 1132, 1133, 1134, 933, 934, 935, 975, 976, 977, 1480, 1481, 1482, 1483, 1484, 1485, 1486, 1487, 1488, 1489, 1490, 1491, 1492, 1493, 1494, 1495, 1496, 1497, 1498, 1499, 1500, 1501, 1502, 1503, 1504, 1505, 1506, 1507, 1508, 1509, 1510, 1511, 1512, 1513, 1514, 1515, 1516, 1517, 1518, 1519, 1520, 1521, 1522, 1523, 1524, 1525, 1526, 1527, 1528, 1529, 1530, 1531, 1532, 1533, 1534, 1535, 1536, 1537, 1538, 1539, 1540, 1541, 1542, 1543] [1119, 1123, 594, 452, 207, 605, 926, 640, 944, 1127, 1131, 974, 701, 705, 643, 667, 671, 521, 970, 948, 731, 1135, 936, 978] (by decide +kernel) (by decide +kernel) rfl
set_option maxRecDepth 20000 in
theorem gL_law_X12_soon : GoodIn wsL_law (wsV RL 90 RX12 yX12_soon wsX12_soon) := goodIn_app (goodIn_of _ (by decide +kernel)) ggL_law_X12_soon
theorem dL_law_951 : decode cL_law 951 = .ok (.if_icmp .eq 599, 3) := by decide +kernel
theorem dL_law_956 : decode cL_law 956 = .ok (.aload_n 1, 1) := by decide +kernel
theorem dL_law_957 : decode cL_law 957 = .ok (.aload_n 0, 1) := by decide +kernel
theorem dL_law_958 : decode cL_law 958 = .ok (.iload_n 3, 1) := by decide +kernel
theorem dL_law_959 : decode cL_law 959 = .ok (.iconst 1, 1) := by decide +kernel
theorem dL_law_960 : decode cL_law 960 = .ok (.iadd, 1) := by decide +kernel
theorem dL_law_961 : decode cL_law 961 = .ok (.iaload, 1) := by decide +kernel
theorem dL_law_962 : decode cL_law 962 = .ok (.aload_n 0, 1) := by decide +kernel
theorem dL_law_963 : decode cL_law 963 = .ok (.iload_n 3, 1) := by decide +kernel
theorem dL_law_964 : decode cL_law 964 = .ok (.iconst 2, 1) := by decide +kernel
theorem dL_law_965 : decode cL_law 965 = .ok (.iadd, 1) := by decide +kernel
theorem dL_law_966 : decode cL_law 966 = .ok (.iaload, 1) := by decide +kernel
theorem dL_law_967 : decode cL_law 967 = .ok (.aload_n 0, 1) := by decide +kernel
theorem dL_law_968 : decode cL_law 968 = .ok (.iload_n 3, 1) := by decide +kernel
theorem dL_law_969 : decode cL_law 969 = .ok (.iconst 3, 1) := by decide +kernel
theorem dL_law_970 : decode cL_law 970 = .ok (.iadd, 1) := by decide +kernel
theorem dL_law_971 : decode cL_law 971 = .ok (.iaload, 1) := by decide +kernel
theorem dL_law_972 : decode cL_law 972 = .ok (.ifCond .eq 7, 3) := by decide +kernel
theorem dL_law_979 : decode cL_law 979 = .ok (.iconst 0, 1) := by decide +kernel
theorem dL_law_980 : decode cL_law 980 = .ok (.invokevirtual 91, 3) := by decide +kernel
set_option maxRecDepth 100000 in
theorem ggL_law_X11_berth : GoodIn wsL_law wsX11_berth := goodIn_h _ [15, 32, 1140, 1141, 583, 584, 585, 14, 45, 49, 629, 630, 631, 48, 242, 1142, 1143, 1144, 31, 1146, 126, 127, 125, 1147, 1148, 1149, 1150, 1152, 1153, 1078, 1079, 1080, 1082, 1076, 1083, 411, 412, 236, 237, 1084, 1085, 1086, 241, 68, 684, 650, 651, 238, 653, 654, 427, 239, 1088, 838, 839, 67, 73, 1089, 681, 682, 243, 1090, 719, 720, 722, 723, 724, 1096, 1473, 1474, 1475, 1476, 1477, 1478, 1479, 1581, 1582, 1583, 1584, 1585, 1586, 1587, 1544, 1545, 1546, 1547, 1548, 1549, 1550, 1596, 1597, 1598, 1599, 1600, 1601, 1602, 1603, 1604, 1605, 1606, 1607, 1608, 1609, 1610] [1139, 586, 632, 1145, 1151, 1081, 413, 1087, 652, 655, 840, 683, 721] (by decide +kernel) (by decide +kernel) rfl
set_option maxRecDepth 20000 in
theorem gL_law_X11_berth : GoodIn wsL_law (wsV RL 91 RX11 yX11_berth wsX11_berth) := goodIn_app (goodIn_of _ (by decide +kernel)) ggL_law_X11_berth
theorem dL_law_983 : decode cL_law 983 = .ok (.aload_n 2, 1) := by decide +kernel
theorem dL_law_984 : decode cL_law 984 = .ok (.aload_n 0, 1) := by decide +kernel
theorem dL_law_985 : decode cL_law 985 = .ok (.iload_n 3, 1) := by decide +kernel
theorem dL_law_986 : decode cL_law 986 = .ok (.iconst 1, 1) := by decide +kernel
theorem dL_law_987 : decode cL_law 987 = .ok (.iadd, 1) := by decide +kernel
theorem dL_law_988 : decode cL_law 988 = .ok (.iaload, 1) := by decide +kernel
theorem dL_law_989 : decode cL_law 989 = .ok (.aload_n 0, 1) := by decide +kernel
theorem dL_law_990 : decode cL_law 990 = .ok (.iload_n 3, 1) := by decide +kernel
theorem dL_law_991 : decode cL_law 991 = .ok (.iconst 2, 1) := by decide +kernel
theorem dL_law_992 : decode cL_law 992 = .ok (.iadd, 1) := by decide +kernel
theorem dL_law_993 : decode cL_law 993 = .ok (.iaload, 1) := by decide +kernel
theorem dL_law_994 : decode cL_law 994 = .ok (.aload_n 0, 1) := by decide +kernel
theorem dL_law_995 : decode cL_law 995 = .ok (.iload_n 3, 1) := by decide +kernel
theorem dL_law_996 : decode cL_law 996 = .ok (.iconst 3, 1) := by decide +kernel
theorem dL_law_997 : decode cL_law 997 = .ok (.iadd, 1) := by decide +kernel
theorem dL_law_998 : decode cL_law 998 = .ok (.iaload, 1) := by decide +kernel
theorem dL_law_999 : decode cL_law 999 = .ok (.ifCond .eq 7, 3) := by decide +kernel
theorem dL_law_1006 : decode cL_law 1006 = .ok (.iconst 0, 1) := by decide +kernel
theorem dL_law_1007 : decode cL_law 1007 = .ok (.invokevirtual 95, 3) := by decide +kernel
set_option maxRecDepth 100000 in
theorem ggL_law_X12_berth : GoodIn wsL_law wsX12_berth := goodIn_h _ [192, 596, 597, 151, 1120, 1121, 1122, 5, 591, 592, 593, 595, 598, 599, 600, 601, 152, 449, 450, 451, 145, 205, 206, 602, 603, 604, 146, 923, 924, 925, 913, 927, 154, 155, 156, 157, 158, 159, 160, 161, 928, 637, 638, 639, 1158, 1159, 1160, 1128, 1129, 1130, 971, 972, 973, 698, 699, 700, 702, 703, 704, 641, 642, 664, 665, 666, 668, 669, 670, 519, 520, 967, 968, 969, 945, 946, 947, 729, 730, 1162, 1163, 1164, 1480, 1481, 1482, 1483, 1484, 1485, 1486, 1487, 1488, 1489, 1490, 1491, 1492, 1493, 1494, 1495, 1496, 1497, 1498, 1499, 1500, 1501, 1502, 1503, 1504, 1505, 1506, 1507, 1508, 1509, 1510, 1511, 1512, 1513, 1514, 1515, 1516, 1517, 1518, 1519, 1520, 1521, 1522, 1523, 1524, 1525, 1526, 1527, 1528, 1529, 1530, 1531, 1532, 1533, 1534, 1535, 1536, 1537, 1538, 1539, 1540, 1541, 1542, 1543] [1157, 1123, 594, 452, 207, 605, 926, 640, 1161, 1131, 974, 701, 705, 643, 667, 671, 521, 970, 948, 731, 1165] (by decide +kernel) (by decide +kernel) rfl
set_option maxRecDepth 20000 in
theorem gL_law_X12_berth : GoodIn wsL_law (wsV RL 95 RX12 yX12_berth wsX12_berth) := goodIn_app (goodIn_of _ (by decide +kernel)) ggL_law_X12_berth
theorem dL_law_1010 : decode cL_law 1010 = .ok (.if_icmp .eq 540, 3) := by decide +kernel
theorem dL_law_1002 : decode cL_law 1002 = .ok (.iconst 1, 1) := by decide +kernel
theorem dL_law_1003 : decode cL_law 1003 = .ok (.goto 4, 3) := by decide +kernel
theorem dL_law_975 : decode cL_law 975 = .ok (.iconst 1, 1) := by decide +kernel
theorem dL_law_976 : decode cL_law 976 = .ok (.goto 4, 3) := by decide +kernel
theorem dL_law_1015 : decode cL_law 1015 = .ok (.aload_n 1, 1) := by decide +kernel
theorem dL_law_1016 : decode cL_law 1016 = .ok (.aload_n 0, 1) := by decide +kernel
theorem dL_law_1017 : decode cL_law 1017 = .ok (.iload_n 3, 1) := by decide +kernel
theorem dL_law_1018 : decode cL_law 1018 = .ok (.iconst 1, 1) := by decide +kernel
theorem dL_law_1019 : decode cL_law 1019 = .ok (.iadd, 1) := by decide +kernel
theorem dL_law_1020 : decode cL_law 1020 = .ok (.iaload, 1) := by decide +kernel
theorem dL_law_1021 : decode cL_law 1021 = .ok (.aload_n 0, 1) := by decide +kernel
theorem dL_law_1022 : decode cL_law 1022 = .ok (.iload_n 3, 1) := by decide +kernel
theorem dL_law_1023 : decode cL_law 1023 = .ok (.iconst 2, 1) := by decide +kernel
theorem dL_law_1024 : decode cL_law 1024 = .ok (.iadd, 1) := by decide +kernel
theorem dL_law_1025 : decode cL_law 1025 = .ok (.iaload, 1) := by decide +kernel
theorem dL_law_1026 : decode cL_law 1026 = .ok (.aload_n 0, 1) := by decide +kernel
theorem dL_law_1027 : decode cL_law 1027 = .ok (.iload_n 3, 1) := by decide +kernel
theorem dL_law_1028 : decode cL_law 1028 = .ok (.iconst 3, 1) := by decide +kernel
theorem dL_law_1029 : decode cL_law 1029 = .ok (.iadd, 1) := by decide +kernel
theorem dL_law_1030 : decode cL_law 1030 = .ok (.iaload, 1) := by decide +kernel
theorem dL_law_1031 : decode cL_law 1031 = .ok (.aload_n 0, 1) := by decide +kernel
theorem dL_law_1032 : decode cL_law 1032 = .ok (.iload_n 3, 1) := by decide +kernel
theorem dL_law_1033 : decode cL_law 1033 = .ok (.iconst 4, 1) := by decide +kernel
theorem dL_law_1034 : decode cL_law 1034 = .ok (.iadd, 1) := by decide +kernel
theorem dL_law_1035 : decode cL_law 1035 = .ok (.iaload, 1) := by decide +kernel
theorem dL_law_1036 : decode cL_law 1036 = .ok (.invokevirtual 96, 3) := by decide +kernel
set_option maxRecDepth 100000 in
theorem ggL_law_X11_pair : GoodIn wsL_law wsX11_pair := goodIn_h _ [15, 32, 1140, 1141, 1170, 583, 584, 585, 14, 45, 49, 629, 630, 631, 48, 242, 1171, 1172, 1173, 31, 1146, 127, 1147, 1175, 1148, 1149, 1150, 1152, 1153, 1078, 1079, 1080, 1082, 125, 1076, 126, 1083, 411, 412, 236, 237, 1084, 1085, 1086, 241, 68, 684, 650, 651, 238, 653, 654, 427, 239, 1088, 838, 839, 67, 73, 1089, 681, 682, 243, 1090, 719, 720, 722, 723, 724, 1176, 1177, 1178, 1180, 1097, 1096, 1473, 1474, 1475, 1476, 1477, 1478, 1479, 1581, 1582, 1583, 1584, 1585, 1586, 1587, 1544, 1545, 1546, 1547, 1548, 1549, 1550, 1596, 1597, 1598, 1599, 1600, 1601, 1602, 1603, 1604, 1605, 1606, 1607, 1608, 1609, 1610] [1169, 586, 632, 1174, 1151, 1081, 413, 1087, 652, 655, 840, 683, 721, 1179] (by decide +kernel) (by decide +kernel) rfl
set_option maxRecDepth 20000 in
theorem gL_law_X11_pair : GoodIn wsL_law (wsV RL 96 RX11 yX11_pair wsX11_pair) := goodIn_app (goodIn_of _ (by decide +kernel)) ggL_law_X11_pair
theorem dL_law_1039 : decode cL_law 1039 = .ok (.aload_n 2, 1) := by decide +kernel
theorem dL_law_1040 : decode cL_law 1040 = .ok (.aload_n 0, 1) := by decide +kernel
theorem dL_law_1041 : decode cL_law 1041 = .ok (.iload_n 3, 1) := by decide +kernel
theorem dL_law_1042 : decode cL_law 1042 = .ok (.iconst 1, 1) := by decide +kernel
theorem dL_law_1043 : decode cL_law 1043 = .ok (.iadd, 1) := by decide +kernel
theorem dL_law_1044 : decode cL_law 1044 = .ok (.iaload, 1) := by decide +kernel
theorem dL_law_1045 : decode cL_law 1045 = .ok (.aload_n 0, 1) := by decide +kernel
theorem dL_law_1046 : decode cL_law 1046 = .ok (.iload_n 3, 1) := by decide +kernel
theorem dL_law_1047 : decode cL_law 1047 = .ok (.iconst 2, 1) := by decide +kernel
theorem dL_law_1048 : decode cL_law 1048 = .ok (.iadd, 1) := by decide +kernel
theorem dL_law_1049 : decode cL_law 1049 = .ok (.iaload, 1) := by decide +kernel
theorem dL_law_1050 : decode cL_law 1050 = .ok (.aload_n 0, 1) := by decide +kernel
theorem dL_law_1051 : decode cL_law 1051 = .ok (.iload_n 3, 1) := by decide +kernel
theorem dL_law_1052 : decode cL_law 1052 = .ok (.iconst 3, 1) := by decide +kernel
theorem dL_law_1053 : decode cL_law 1053 = .ok (.iadd, 1) := by decide +kernel
theorem dL_law_1054 : decode cL_law 1054 = .ok (.iaload, 1) := by decide +kernel
theorem dL_law_1055 : decode cL_law 1055 = .ok (.aload_n 0, 1) := by decide +kernel
theorem dL_law_1056 : decode cL_law 1056 = .ok (.iload_n 3, 1) := by decide +kernel
theorem dL_law_1057 : decode cL_law 1057 = .ok (.iconst 4, 1) := by decide +kernel
theorem dL_law_1058 : decode cL_law 1058 = .ok (.iadd, 1) := by decide +kernel
theorem dL_law_1059 : decode cL_law 1059 = .ok (.iaload, 1) := by decide +kernel
theorem dL_law_1060 : decode cL_law 1060 = .ok (.invokevirtual 99, 3) := by decide +kernel
set_option maxRecDepth 100000 in
theorem ggL_law_X12_pair : GoodIn wsL_law wsX12_pair := goodIn_h _ [192, 596, 597, 151, 205, 206, 5, 1120, 1121, 1122, 591, 592, 593, 595, 598, 599, 600, 601, 152, 449, 450, 451, 145, 602, 603, 604, 146, 923, 924, 925, 913, 927, 154, 155, 156, 157, 158, 159, 160, 161, 928, 637, 638, 639, 1158, 1159, 1160, 1128, 1129, 1130, 971, 972, 973, 698, 699, 700, 702, 703, 704, 641, 642, 664, 665, 666, 668, 669, 670, 519, 520, 967, 968, 969, 945, 946, 947, 729, 730, 1162, 1163, 1164, 1480, 1481, 1482, 1483, 1484, 1485, 1486, 1487, 1488, 1489, 1490, 1491, 1492, 1493, 1494, 1495, 1496, 1497, 1498, 1499, 1500, 1501, 1502, 1503, 1504, 1505, 1506, 1507, 1508, 1509, 1510, 1511, 1512, 1513, 1514, 1515, 1516, 1517, 1518, 1519, 1520, 1521, 1522, 1523, 1524, 1525, 1526, 1527, 1528, 1529, 1530, 1531, 1532, 1533, 1534, 1535, 1536, 1537, 1538, 1539, 1540, 1541, 1542, 1543] [1184, 207, 1123, 594, 452, 605, 926, 640, 1161, 1131, 974, 701, 705, 643, 667, 671, 521, 970, 948, 731, 1165] (by decide +kernel) (by decide +kernel) rfl
set_option maxRecDepth 20000 in
theorem gL_law_X12_pair : GoodIn wsL_law (wsV RL 99 RX12 yX12_pair wsX12_pair) := goodIn_app (goodIn_of _ (by decide +kernel)) ggL_law_X12_pair
theorem dL_law_1063 : decode cL_law 1063 = .ok (.if_icmp .eq 487, 3) := by decide +kernel
theorem dL_law_1068 : decode cL_law 1068 = .ok (.aload_n 1, 1) := by decide +kernel
theorem dL_law_1069 : decode cL_law 1069 = .ok (.aload_n 0, 1) := by decide +kernel
theorem dL_law_1070 : decode cL_law 1070 = .ok (.iload_n 3, 1) := by decide +kernel
theorem dL_law_1071 : decode cL_law 1071 = .ok (.iconst 1, 1) := by decide +kernel
theorem dL_law_1072 : decode cL_law 1072 = .ok (.iadd, 1) := by decide +kernel
theorem dL_law_1073 : decode cL_law 1073 = .ok (.iaload, 1) := by decide +kernel
theorem dL_law_1074 : decode cL_law 1074 = .ok (.aload_n 0, 1) := by decide +kernel
theorem dL_law_1075 : decode cL_law 1075 = .ok (.iload_n 3, 1) := by decide +kernel
theorem dL_law_1076 : decode cL_law 1076 = .ok (.iconst 2, 1) := by decide +kernel
theorem dL_law_1077 : decode cL_law 1077 = .ok (.iadd, 1) := by decide +kernel
theorem dL_law_1078 : decode cL_law 1078 = .ok (.iaload, 1) := by decide +kernel
theorem dL_law_1079 : decode cL_law 1079 = .ok (.invokevirtual 100, 3) := by decide +kernel
set_option maxRecDepth 100000 in
theorem ggL_law_X11_dispute : GoodIn wsL_law wsX11_dispute := goodIn_h _ [15, 1189, 36, 1190, 1191, 1192, 1193, 14, 45, 57, 1195, 1196, 1197, 56, 253, 82, 83, 254, 84, 85, 1199, 1200, 1201, 35, 134, 1203, 1204, 1205, 1207, 133, 1208, 1209, 1210, 1212, 1213, 1214, 1215, 1216, 1217, 1219, 1220, 1221, 135, 1223, 1224, 1225, 1227, 719, 720, 722, 723, 724, 1228, 1229, 1230, 1232, 131, 1233, 426, 427, 1234, 132, 1235, 803, 1236, 1237, 1238, 1240, 1241, 1242, 1243, 136, 1245, 1246, 1247, 1248, 1249, 1250, 1473, 1474, 1475, 1476, 1477, 1478, 1479, 1614, 1615, 1616, 1617, 1618, 1619, 1544, 1545, 1546, 1547, 1548, 1549, 1550, 1588, 1589, 1590, 1591, 1592, 1593] [1188, 1194, 1198, 1202, 1206, 1211, 1218, 1222, 1226, 721, 1231, 428, 804, 1239, 1244, 1251] (by decide +kernel) (by decide +kernel) rfl
set_option maxRecDepth 20000 in
theorem gL_law_X11_dispute : GoodIn wsL_law (wsV RL 100 RX11 yX11_dispute wsX11_dispute) := goodIn_app (goodIn_of _ (by decide +kernel)) ggL_law_X11_dispute
theorem dL_law_1082 : decode cL_law 1082 = .ok (.aload_n 2, 1) := by decide +kernel
theorem dL_law_1083 : decode cL_law 1083 = .ok (.aload_n 0, 1) := by decide +kernel
theorem dL_law_1084 : decode cL_law 1084 = .ok (.iload_n 3, 1) := by decide +kernel
theorem dL_law_1085 : decode cL_law 1085 = .ok (.iconst 1, 1) := by decide +kernel
theorem dL_law_1086 : decode cL_law 1086 = .ok (.iadd, 1) := by decide +kernel
theorem dL_law_1087 : decode cL_law 1087 = .ok (.iaload, 1) := by decide +kernel
theorem dL_law_1088 : decode cL_law 1088 = .ok (.aload_n 0, 1) := by decide +kernel
theorem dL_law_1089 : decode cL_law 1089 = .ok (.iload_n 3, 1) := by decide +kernel
theorem dL_law_1090 : decode cL_law 1090 = .ok (.iconst 2, 1) := by decide +kernel
theorem dL_law_1091 : decode cL_law 1091 = .ok (.iadd, 1) := by decide +kernel
theorem dL_law_1092 : decode cL_law 1092 = .ok (.iaload, 1) := by decide +kernel
theorem dL_law_1093 : decode cL_law 1093 = .ok (.invokevirtual 103, 3) := by decide +kernel
set_option maxRecDepth 100000 in
theorem ggL_law_X12_dispute : GoodIn wsL_law wsX12_dispute := goodIn_h _ [192, 1256, 175, 1257, 1258, 1259, 1260, 5, 1262, 449, 450, 451, 145, 205, 206, 1263, 1264, 1265, 148, 1267, 1268, 1269, 171, 641, 642, 1271, 1272, 1273, 1275, 1276, 1277, 172, 1279, 1280, 1281, 729, 730, 1283, 1284, 1285, 173, 174, 519, 520, 1287, 1288, 1290, 1291, 1292, 1294, 1295, 1296, 1480, 1481, 1482, 1483, 1484, 1485, 1486, 1487, 1488, 1489, 1490, 1491, 1492, 1493, 1494, 1495, 1496, 1497, 1498, 1499, 1500, 1501, 1502, 1503, 1504, 1505, 1506, 1507, 1508, 1509, 1510, 1511, 1512, 1513, 1514, 1515, 1516, 1517, 1518, 1519, 1520, 1521, 1522, 1523, 1524, 1525, 1526, 1527, 1528, 1529, 1530, 1531, 1532, 1533, 1534, 1535, 1536, 1537, 1538, 1539, 1540, 1541, 1542, 1543] [1255, 1261, 452, 207, 1266, 1270, 643, 1274, 1278, 1282, 731, 1286, 521, 1289, 1293, 1297] (by decide +kernel) (by decide +kernel) rfl
set_option maxRecDepth 20000 in
theorem gL_law_X12_dispute : GoodIn wsL_law (wsV RL 103 RX12 yX12_dispute wsX12_dispute) := goodIn_app (goodIn_of _ (by decide +kernel)) ggL_law_X12_dispute
theorem dL_law_1096 : decode cL_law 1096 = .ok (.if_icmp .eq 454, 3) := by decide +kernel
theorem dL_law_1101 : decode cL_law 1101 = .ok (.aload_n 1, 1) := by decide +kernel
theorem dL_law_1102 : decode cL_law 1102 = .ok (.aload_n 0, 1) := by decide +kernel
theorem dL_law_1103 : decode cL_law 1103 = .ok (.iload_n 3, 1) := by decide +kernel
theorem dL_law_1104 : decode cL_law 1104 = .ok (.iconst 1, 1) := by decide +kernel
theorem dL_law_1105 : decode cL_law 1105 = .ok (.iadd, 1) := by decide +kernel
theorem dL_law_1106 : decode cL_law 1106 = .ok (.iaload, 1) := by decide +kernel
theorem dL_law_1107 : decode cL_law 1107 = .ok (.aload_n 0, 1) := by decide +kernel
theorem dL_law_1108 : decode cL_law 1108 = .ok (.iload_n 3, 1) := by decide +kernel
theorem dL_law_1109 : decode cL_law 1109 = .ok (.iconst 2, 1) := by decide +kernel
theorem dL_law_1110 : decode cL_law 1110 = .ok (.iadd, 1) := by decide +kernel
theorem dL_law_1111 : decode cL_law 1111 = .ok (.iaload, 1) := by decide +kernel
theorem dL_law_1112 : decode cL_law 1112 = .ok (.aload_n 0, 1) := by decide +kernel
theorem dL_law_1113 : decode cL_law 1113 = .ok (.iload_n 3, 1) := by decide +kernel
theorem dL_law_1114 : decode cL_law 1114 = .ok (.iconst 3, 1) := by decide +kernel
theorem dL_law_1115 : decode cL_law 1115 = .ok (.iadd, 1) := by decide +kernel
theorem dL_law_1116 : decode cL_law 1116 = .ok (.iaload, 1) := by decide +kernel
theorem dL_law_1117 : decode cL_law 1117 = .ok (.ifCond .eq 7, 3) := by decide +kernel
theorem dL_law_1124 : decode cL_law 1124 = .ok (.iconst 0, 1) := by decide +kernel
theorem dL_law_1125 : decode cL_law 1125 = .ok (.invokevirtual 104, 3) := by decide +kernel
set_option maxRecDepth 100000 in
theorem ggL_law_X11_hours : GoodIn wsL_law wsX11_hours := goodIn_h _ [15, 1189, 36, 1302, 1303, 1191, 1192, 1193, 14, 45, 57, 1228, 1229, 1230, 35, 1207, 134, 1232, 133, 131, 1233, 426, 427, 1234, 132, 1235, 803, 1203, 1204, 1205, 1208, 1209, 1210, 1212, 1213, 1214, 1215, 1216, 1217, 1473, 1474, 1475, 1476, 1477, 1478, 1479, 1614, 1615, 1616, 1617, 1618, 1619, 1588, 1589, 1590, 1591, 1592, 1593, 1544, 1545, 1546, 1547, 1548, 1549, 1550] [1301, 1194, 1231, 428, 804, 1206, 1211, 1218] (by decide +kernel) (by decide +kernel) rfl
set_option maxRecDepth 20000 in
theorem gL_law_X11_hours : GoodIn wsL_law (wsV RL 104 RX11 yX11_hours wsX11_hours) := goodIn_app (goodIn_of _ (by decide +kernel)) ggL_law_X11_hours
theorem dL_law_1128 : decode cL_law 1128 = .ok (.aload_n 2, 1) := by decide +kernel
theorem dL_law_1129 : decode cL_law 1129 = .ok (.aload_n 0, 1) := by decide +kernel
theorem dL_law_1130 : decode cL_law 1130 = .ok (.iload_n 3, 1) := by decide +kernel
theorem dL_law_1131 : decode cL_law 1131 = .ok (.iconst 1, 1) := by decide +kernel
theorem dL_law_1132 : decode cL_law 1132 = .ok (.iadd, 1) := by decide +kernel
theorem dL_law_1133 : decode cL_law 1133 = .ok (.iaload, 1) := by decide +kernel
theorem dL_law_1134 : decode cL_law 1134 = .ok (.aload_n 0, 1) := by decide +kernel
theorem dL_law_1135 : decode cL_law 1135 = .ok (.iload_n 3, 1) := by decide +kernel
theorem dL_law_1136 : decode cL_law 1136 = .ok (.iconst 2, 1) := by decide +kernel
theorem dL_law_1137 : decode cL_law 1137 = .ok (.iadd, 1) := by decide +kernel
theorem dL_law_1138 : decode cL_law 1138 = .ok (.iaload, 1) := by decide +kernel
theorem dL_law_1139 : decode cL_law 1139 = .ok (.aload_n 0, 1) := by decide +kernel
theorem dL_law_1140 : decode cL_law 1140 = .ok (.iload_n 3, 1) := by decide +kernel
theorem dL_law_1141 : decode cL_law 1141 = .ok (.iconst 3, 1) := by decide +kernel
theorem dL_law_1142 : decode cL_law 1142 = .ok (.iadd, 1) := by decide +kernel
theorem dL_law_1143 : decode cL_law 1143 = .ok (.iaload, 1) := by decide +kernel
theorem dL_law_1144 : decode cL_law 1144 = .ok (.ifCond .eq 7, 3) := by decide +kernel
theorem dL_law_1151 : decode cL_law 1151 = .ok (.iconst 0, 1) := by decide +kernel
theorem dL_law_1152 : decode cL_law 1152 = .ok (.invokevirtual 107, 3) := by decide +kernel
set_option maxRecDepth 100000 in
theorem ggL_law_X12_hours : GoodIn wsL_law wsX12_hours := goodIn_h _ [192, 1256, 174, 173, 1258, 1259, 1260, 5, 1262, 1257, 449, 450, 451, 145, 205, 206, 1263, 1264, 1265, 148, 1267, 1268, 1269, 171, 641, 642, 1283, 1284, 1285, 175, 1271, 1272, 1273, 519, 520, 1287, 1288, 1480, 1481, 1482, 1483, 1484, 1485, 1486, 1487, 1488, 1489, 1490, 1491, 1492, 1493, 1494, 1495, 1496, 1497, 1498, 1499, 1500, 1501, 1502, 1503, 1504, 1505, 1506, 1507, 1508, 1509, 1510, 1511, 1512, 1513, 1514, 1515, 1516, 1517, 1518, 1519, 1520, 1521, 1522, 1523, 1524, 1525, 1526, 1527, 1528, 1529, 1530, 1531, 1532, 1533, 1534, 1535, 1536, 1537, 1538, 1539, 1540, 1541, 1542, 1543] [1307, 1261, 452, 207, 1266, 1270, 643, 1286, 1274, 521, 1289] (by decide +kernel) (by decide +kernel) rfl
set_option maxRecDepth 20000 in
theorem gL_law_X12_hours : GoodIn wsL_law (wsV RL 107 RX12 yX12_hours wsX12_hours) := goodIn_app (goodIn_of _ (by decide +kernel)) ggL_law_X12_hours
theorem dL_law_1155 : decode cL_law 1155 = .ok (.if_icmp .eq 395, 3) := by decide +kernel
theorem dL_law_1147 : decode cL_law 1147 = .ok (.iconst 1, 1) := by decide +kernel
theorem dL_law_1148 : decode cL_law 1148 = .ok (.goto 4, 3) := by decide +kernel
theorem dL_law_1120 : decode cL_law 1120 = .ok (.iconst 1, 1) := by decide +kernel
theorem dL_law_1121 : decode cL_law 1121 = .ok (.goto 4, 3) := by decide +kernel
theorem dL_law_1160 : decode cL_law 1160 = .ok (.aload_n 1, 1) := by decide +kernel
theorem dL_law_1161 : decode cL_law 1161 = .ok (.aload_n 0, 1) := by decide +kernel
theorem dL_law_1162 : decode cL_law 1162 = .ok (.iload_n 3, 1) := by decide +kernel
theorem dL_law_1163 : decode cL_law 1163 = .ok (.iconst 1, 1) := by decide +kernel
theorem dL_law_1164 : decode cL_law 1164 = .ok (.iadd, 1) := by decide +kernel
theorem dL_law_1165 : decode cL_law 1165 = .ok (.iaload, 1) := by decide +kernel
theorem dL_law_1166 : decode cL_law 1166 = .ok (.aload_n 0, 1) := by decide +kernel
theorem dL_law_1167 : decode cL_law 1167 = .ok (.iload_n 3, 1) := by decide +kernel
theorem dL_law_1168 : decode cL_law 1168 = .ok (.iconst 2, 1) := by decide +kernel
theorem dL_law_1169 : decode cL_law 1169 = .ok (.iadd, 1) := by decide +kernel
theorem dL_law_1170 : decode cL_law 1170 = .ok (.iaload, 1) := by decide +kernel
theorem dL_law_1171 : decode cL_law 1171 = .ok (.aload_n 0, 1) := by decide +kernel
theorem dL_law_1172 : decode cL_law 1172 = .ok (.iload_n 3, 1) := by decide +kernel
theorem dL_law_1173 : decode cL_law 1173 = .ok (.iconst 3, 1) := by decide +kernel
theorem dL_law_1174 : decode cL_law 1174 = .ok (.iadd, 1) := by decide +kernel
theorem dL_law_1175 : decode cL_law 1175 = .ok (.iaload, 1) := by decide +kernel
theorem dL_law_1176 : decode cL_law 1176 = .ok (.aload_n 0, 1) := by decide +kernel
theorem dL_law_1177 : decode cL_law 1177 = .ok (.iload_n 3, 1) := by decide +kernel
theorem dL_law_1178 : decode cL_law 1178 = .ok (.iconst 4, 1) := by decide +kernel
theorem dL_law_1179 : decode cL_law 1179 = .ok (.iadd, 1) := by decide +kernel
theorem dL_law_1180 : decode cL_law 1180 = .ok (.iaload, 1) := by decide +kernel
theorem dL_law_1181 : decode cL_law 1181 = .ok (.aload_n 0, 1) := by decide +kernel
theorem dL_law_1182 : decode cL_law 1182 = .ok (.iload_n 3, 1) := by decide +kernel
theorem dL_law_1183 : decode cL_law 1183 = .ok (.iconst 5, 1) := by decide +kernel
theorem dL_law_1184 : decode cL_law 1184 = .ok (.iadd, 1) := by decide +kernel
theorem dL_law_1185 : decode cL_law 1185 = .ok (.iaload, 1) := by decide +kernel
theorem dL_law_1186 : decode cL_law 1186 = .ok (.invokevirtual 108, 3) := by decide +kernel
set_option maxRecDepth 100000 in
theorem ggL_law_X11_gulls : GoodIn wsL_law wsX11_gulls := goodIn_h _ [15, 24, 1009, 767, 583, 584, 585, 14, 45, 49, 738, 739, 740, 53, 629, 630, 631, 48, 242, 772, 773, 774, 23, 776, 777, 103, 104, 778, 105, 106, 779, 780, 781, 782, 783, 784, 785, 102, 787, 788, 789, 790, 791, 792, 793, 794, 795, 111, 112, 113, 116, 114, 115, 797, 798, 799, 801, 802, 803, 427, 805, 806, 807, 809, 810, 811, 743, 744, 52, 78, 812, 813, 814, 815, 817, 818, 819, 236, 237, 821, 822, 823, 825, 826, 827, 829, 830, 831, 833, 834, 835, 836, 681, 682, 243, 684, 650, 651, 238, 653, 654, 239, 837, 838, 839, 67, 73, 841, 842, 843, 845, 846, 847, 849, 850, 851, 852, 854, 855, 856, 857, 859, 719, 720, 722, 723, 724, 860, 861, 862, 863, 865, 866, 867, 869, 870, 871, 873, 874, 875, 877, 878, 879, 881, 882, 883, 885, 886, 887, 888, 889, 890, 891, 893, 894, 895, 896, 897, 899, 900, 901, 903, 904, 905, 906, 908, 1312, 1313, 1314, 1316, 1473, 1474, 1475, 1476, 1477, 1478, 1479, 1561, 1562, 1563, 1564, 1565, 1566, 1567, 1568, 1569, 1570, 1571, 1572, 1573, 1574, 1575, 1576, 1544, 1545, 1546, 1547, 1548, 1549, 1550, 1596, 1597, 1598, 1599, 1600, 1601, 1602, 1603, 1604, 1605, 1606, 1607, 1608, 1609, 1610, 1620, 1621, 1622, 1623, 1624, 1625, 1626, 1627, 1611, 1612, 1613] [1311, 586, 741, 632, 775, 786, 796, 800, 804, 808, 745, 816, 820, 824, 828, 832, 683, 652, 655, 840, 844, 848, 853, 858, 721, 864, 868, 872, 876, 880, 884, 892, 898, 902, 907, 1315] (by decide +kernel) (by decide +kernel) rfl
set_option maxRecDepth 20000 in
theorem gL_law_X11_gulls : GoodIn wsL_law (wsV RL 108 RX11 yX11_gulls wsX11_gulls) := goodIn_app (goodIn_of _ (by decide +kernel)) ggL_law_X11_gulls
theorem dL_law_1189 : decode cL_law 1189 = .ok (.aload_n 2, 1) := by decide +kernel
theorem dL_law_1190 : decode cL_law 1190 = .ok (.aload_n 0, 1) := by decide +kernel
theorem dL_law_1191 : decode cL_law 1191 = .ok (.iload_n 3, 1) := by decide +kernel
theorem dL_law_1192 : decode cL_law 1192 = .ok (.iconst 1, 1) := by decide +kernel
theorem dL_law_1193 : decode cL_law 1193 = .ok (.iadd, 1) := by decide +kernel
theorem dL_law_1194 : decode cL_law 1194 = .ok (.iaload, 1) := by decide +kernel
theorem dL_law_1195 : decode cL_law 1195 = .ok (.aload_n 0, 1) := by decide +kernel
theorem dL_law_1196 : decode cL_law 1196 = .ok (.iload_n 3, 1) := by decide +kernel
theorem dL_law_1197 : decode cL_law 1197 = .ok (.iconst 2, 1) := by decide +kernel
theorem dL_law_1198 : decode cL_law 1198 = .ok (.iadd, 1) := by decide +kernel
theorem dL_law_1199 : decode cL_law 1199 = .ok (.iaload, 1) := by decide +kernel
theorem dL_law_1200 : decode cL_law 1200 = .ok (.aload_n 0, 1) := by decide +kernel
theorem dL_law_1201 : decode cL_law 1201 = .ok (.iload_n 3, 1) := by decide +kernel
theorem dL_law_1202 : decode cL_law 1202 = .ok (.iconst 3, 1) := by decide +kernel
theorem dL_law_1203 : decode cL_law 1203 = .ok (.iadd, 1) := by decide +kernel
theorem dL_law_1204 : decode cL_law 1204 = .ok (.iaload, 1) := by decide +kernel
theorem dL_law_1205 : decode cL_law 1205 = .ok (.aload_n 0, 1) := by decide +kernel
theorem dL_law_1206 : decode cL_law 1206 = .ok (.iload_n 3, 1) := by decide +kernel
theorem dL_law_1207 : decode cL_law 1207 = .ok (.iconst 4, 1) := by decide +kernel
theorem dL_law_1208 : decode cL_law 1208 = .ok (.iadd, 1) := by decide +kernel
theorem dL_law_1209 : decode cL_law 1209 = .ok (.iaload, 1) := by decide +kernel
theorem dL_law_1210 : decode cL_law 1210 = .ok (.aload_n 0, 1) := by decide +kernel
theorem dL_law_1211 : decode cL_law 1211 = .ok (.iload_n 3, 1) := by decide +kernel
theorem dL_law_1212 : decode cL_law 1212 = .ok (.iconst 5, 1) := by decide +kernel
theorem dL_law_1213 : decode cL_law 1213 = .ok (.iadd, 1) := by decide +kernel
theorem dL_law_1214 : decode cL_law 1214 = .ok (.iaload, 1) := by decide +kernel
theorem dL_law_1215 : decode cL_law 1215 = .ok (.invokevirtual 111, 3) := by decide +kernel
set_option maxRecDepth 100000 in
theorem ggL_law_X12_gulls : GoodIn wsL_law wsX12_gulls := goodIn_h _ [192, 601, 965, 918, 161, 913, 160, 205, 206, 5, 750, 751, 752, 754, 449, 450, 451, 145, 591, 592, 593, 595, 596, 597, 598, 599, 600, 151, 152, 602, 603, 604, 146, 755, 756, 757, 147, 919, 920, 921, 923, 924, 925, 927, 154, 155, 156, 157, 158, 159, 928, 929, 930, 931, 162, 163, 759, 760, 761, 637, 638, 639, 933, 934, 935, 937, 938, 939, 941, 942, 943, 945, 946, 947, 949, 950, 951, 164, 165, 166, 953, 954, 955, 957, 958, 959, 698, 699, 700, 702, 703, 704, 641, 642, 664, 665, 666, 668, 669, 670, 519, 520, 961, 962, 963, 966, 967, 968, 969, 729, 730, 971, 972, 973, 975, 976, 977, 1480, 1481, 1482, 1483, 1484, 1485, 1486, 1487, 1488, 1489, 1490, 1491, 1492, 1493, 1494, 1495, 1496, 1497, 1498, 1499, 1500, 1501, 1502, 1503, 1504, 1505, 1506, 1507, 1508, 1509, 1510, 1511, 1512, 1513, 1514, 1515, 1516, 1517, 1518, 1519, 1520, 1521, 1522, 1523, 1524, 1525, 1526, 1527, 1528, 1529, 1530, 1531, 1532, 1533, 1534, 1535, 1536, 1537, 1538, 1539, 1540, 1541, 1542, 1543] [1320, 207, 753, 452, 594, 605, 758, 922, 926, 932, 762, 640, 936, 940, 944, 948, 952, 956, 960, 701, 705, 643, 667, 671, 521, 964, 970, 731, 974, 978] (by decide +kernel) (by decide +kernel) rfl
set_option maxRecDepth 20000 in
theorem gL_law_X12_gulls : GoodIn wsL_law (wsV RL 111 RX12 yX12_gulls wsX12_gulls) := goodIn_app (goodIn_of _ (by decide +kernel)) ggL_law_X12_gulls
theorem dL_law_1218 : decode cL_law 1218 = .ok (.if_icmp .eq 332, 3) := by decide +kernel
theorem dL_law_1223 : decode cL_law 1223 = .ok (.aload_n 1, 1) := by decide +kernel
theorem dL_law_1224 : decode cL_law 1224 = .ok (.aload_n 0, 1) := by decide +kernel
theorem dL_law_1225 : decode cL_law 1225 = .ok (.iload_n 3, 1) := by decide +kernel
theorem dL_law_1226 : decode cL_law 1226 = .ok (.iconst 1, 1) := by decide +kernel
theorem dL_law_1227 : decode cL_law 1227 = .ok (.iadd, 1) := by decide +kernel
theorem dL_law_1228 : decode cL_law 1228 = .ok (.iaload, 1) := by decide +kernel
theorem dL_law_1229 : decode cL_law 1229 = .ok (.aload_n 0, 1) := by decide +kernel
theorem dL_law_1230 : decode cL_law 1230 = .ok (.iload_n 3, 1) := by decide +kernel
theorem dL_law_1231 : decode cL_law 1231 = .ok (.iconst 2, 1) := by decide +kernel
theorem dL_law_1232 : decode cL_law 1232 = .ok (.iadd, 1) := by decide +kernel
theorem dL_law_1233 : decode cL_law 1233 = .ok (.iaload, 1) := by decide +kernel
theorem dL_law_1234 : decode cL_law 1234 = .ok (.aload_n 0, 1) := by decide +kernel
theorem dL_law_1235 : decode cL_law 1235 = .ok (.iload_n 3, 1) := by decide +kernel
theorem dL_law_1236 : decode cL_law 1236 = .ok (.iconst 3, 1) := by decide +kernel
theorem dL_law_1237 : decode cL_law 1237 = .ok (.iadd, 1) := by decide +kernel
theorem dL_law_1238 : decode cL_law 1238 = .ok (.iaload, 1) := by decide +kernel
theorem dL_law_1239 : decode cL_law 1239 = .ok (.aload_n 0, 1) := by decide +kernel
theorem dL_law_1240 : decode cL_law 1240 = .ok (.iload_n 3, 1) := by decide +kernel
theorem dL_law_1241 : decode cL_law 1241 = .ok (.iconst 4, 1) := by decide +kernel
theorem dL_law_1242 : decode cL_law 1242 = .ok (.iadd, 1) := by decide +kernel
theorem dL_law_1243 : decode cL_law 1243 = .ok (.iaload, 1) := by decide +kernel
theorem dL_law_1244 : decode cL_law 1244 = .ok (.aload_n 0, 1) := by decide +kernel
theorem dL_law_1245 : decode cL_law 1245 = .ok (.iload_n 3, 1) := by decide +kernel
theorem dL_law_1246 : decode cL_law 1246 = .ok (.iconst 5, 1) := by decide +kernel
theorem dL_law_1247 : decode cL_law 1247 = .ok (.iadd, 1) := by decide +kernel
theorem dL_law_1248 : decode cL_law 1248 = .ok (.iaload, 1) := by decide +kernel
theorem dL_law_1249 : decode cL_law 1249 = .ok (.invokevirtual 112, 3) := by decide +kernel
set_option maxRecDepth 100000 in
theorem ggL_law_X11_lack : GoodIn wsL_law wsX11_lack := goodIn_h _ [24, 1007, 983, 989, 990, 991, 2, 15, 736, 767, 583, 584, 585, 14, 45, 49, 738, 739, 740, 53, 772, 773, 774, 23, 776, 777, 103, 104, 778, 105, 106, 779, 780, 781, 782, 783, 784, 785, 102, 787, 788, 789, 790, 791, 792, 793, 794, 795, 111, 112, 113, 116, 114, 115, 797, 798, 799, 801, 802, 803, 427, 805, 806, 807, 809, 810, 811, 743, 744, 52, 78, 812, 630, 631, 48, 242, 813, 814, 815, 817, 818, 819, 236, 237, 821, 822, 823, 825, 826, 827, 829, 830, 831, 833, 834, 835, 836, 681, 682, 243, 684, 650, 651, 238, 653, 654, 239, 837, 838, 839, 67, 73, 841, 842, 843, 845, 846, 847, 849, 850, 851, 852, 854, 855, 856, 857, 859, 719, 720, 722, 723, 724, 860, 861, 862, 863, 865, 866, 867, 869, 870, 871, 873, 874, 875, 877, 878, 879, 881, 882, 883, 885, 886, 887, 888, 889, 890, 891, 893, 894, 895, 896, 897, 899, 900, 901, 903, 904, 905, 906, 908, 629, 993, 1325, 1016, 1017, 1326, 1473, 1474, 1475, 1476, 1477, 1478, 1479, 1561, 1562, 1563, 1564, 1565, 1566, 1567, 1568, 1569, 1570, 1571, 1572, 1573, 1574, 1575, 1576, 1611, 1612, 1613, 1544, 1545, 1546, 1547, 1548, 1549, 1550, 1596, 1597, 1598, 1599, 1600, 1601, 1602, 1603, 1604, 1605, 1606, 1607, 1608, 1609, 1610, 1620, 1621, 1622, 1623, 1624, 1625, 1626, 1627] [1324, 992, 586, 741, 775, 786, 796, 800, 804, 808, 745, 632, 816, 820, 824, 828, 832, 683, 652, 655, 840, 844, 848, 853, 858, 721, 864, 868, 872, 876, 880, 884, 892, 898, 902, 907, 1018] (by decide +kernel) (by decide +kernel) rfl
set_option maxRecDepth 20000 in
theorem gL_law_X11_lack : GoodIn wsL_law (wsV RL 112 RX11 yX11_lack wsX11_lack) := goodIn_app (goodIn_of _ (by decide +kernel)) ggL_law_X11_lack
theorem dL_law_1252 : decode cL_law 1252 = .ok (.aload_n 2, 1) := by decide +kernel
theorem dL_law_1253 : decode cL_law 1253 = .ok (.aload_n 0, 1) := by decide +kernel
theorem dL_law_1254 : decode cL_law 1254 = .ok (.iload_n 3, 1) := by decide +kernel
theorem dL_law_1255 : decode cL_law 1255 = .ok (.iconst 1, 1) := by decide +kernel
theorem dL_law_1256 : decode cL_law 1256 = .ok (.iadd, 1) := by decide +kernel
theorem dL_law_1257 : decode cL_law 1257 = .ok (.iaload, 1) := by decide +kernel
theorem dL_law_1258 : decode cL_law 1258 = .ok (.aload_n 0, 1) := by decide +kernel
theorem dL_law_1259 : decode cL_law 1259 = .ok (.iload_n 3, 1) := by decide +kernel
theorem dL_law_1260 : decode cL_law 1260 = .ok (.iconst 2, 1) := by decide +kernel
theorem dL_law_1261 : decode cL_law 1261 = .ok (.iadd, 1) := by decide +kernel
theorem dL_law_1262 : decode cL_law 1262 = .ok (.iaload, 1) := by decide +kernel
theorem dL_law_1263 : decode cL_law 1263 = .ok (.aload_n 0, 1) := by decide +kernel
theorem dL_law_1264 : decode cL_law 1264 = .ok (.iload_n 3, 1) := by decide +kernel
theorem dL_law_1265 : decode cL_law 1265 = .ok (.iconst 3, 1) := by decide +kernel
theorem dL_law_1266 : decode cL_law 1266 = .ok (.iadd, 1) := by decide +kernel
theorem dL_law_1267 : decode cL_law 1267 = .ok (.iaload, 1) := by decide +kernel
theorem dL_law_1268 : decode cL_law 1268 = .ok (.aload_n 0, 1) := by decide +kernel
theorem dL_law_1269 : decode cL_law 1269 = .ok (.iload_n 3, 1) := by decide +kernel
theorem dL_law_1270 : decode cL_law 1270 = .ok (.iconst 4, 1) := by decide +kernel
theorem dL_law_1271 : decode cL_law 1271 = .ok (.iadd, 1) := by decide +kernel
theorem dL_law_1272 : decode cL_law 1272 = .ok (.iaload, 1) := by decide +kernel
theorem dL_law_1273 : decode cL_law 1273 = .ok (.aload_n 0, 1) := by decide +kernel
theorem dL_law_1274 : decode cL_law 1274 = .ok (.iload_n 3, 1) := by decide +kernel
theorem dL_law_1275 : decode cL_law 1275 = .ok (.iconst 5, 1) := by decide +kernel
theorem dL_law_1276 : decode cL_law 1276 = .ok (.iadd, 1) := by decide +kernel
theorem dL_law_1277 : decode cL_law 1277 = .ok (.iaload, 1) := by decide +kernel
theorem dL_law_1278 : decode cL_law 1278 = .ok (.invokevirtual 115, 3) := by decide +kernel
set_option maxRecDepth 100000 in
theorem ggL_law_X12_lack : GoodIn wsL_law wsX12_lack := goodIn_h _ [192, 999, 1000, 1001, 5, 913, 914, 915, 916, 918, 750, 751, 752, 754, 449, 450, 451, 145, 205, 206, 591, 592, 593, 595, 596, 597, 598, 599, 600, 601, 151, 152, 602, 603, 604, 146, 755, 756, 757, 147, 919, 920, 921, 923, 924, 925, 927, 154, 155, 156, 157, 158, 159, 160, 161, 928, 929, 930, 931, 162, 163, 759, 760, 761, 637, 638, 639, 933, 934, 935, 937, 938, 939, 941, 942, 943, 945, 946, 947, 949, 950, 951, 164, 165, 166, 953, 954, 955, 957, 958, 959, 698, 699, 700, 702, 703, 704, 641, 642, 664, 665, 666, 668, 669, 670, 519, 520, 961, 962, 963, 965, 966, 967, 968, 969, 729, 730, 971, 972, 973, 975, 976, 977, 1480, 1481, 1482, 1483, 1484, 1485, 1486, 1487, 1488, 1489, 1490, 1491, 1492, 1493, 1494, 1495, 1496, 1497, 1498, 1499, 1500, 1501, 1502, 1503, 1504, 1505, 1506, 1507, 1508, 1509, 1510, 1511, 1512, 1513, 1514, 1515, 1516, 1517, 1518, 1519, 1520, 1521, 1522, 1523, 1524, 1525, 1526, 1527, 1528, 1529, 1530, 1531, 1532, 1533, 1534, 1535, 1536, 1537, 1538, 1539, 1540, 1541, 1542, 1543] [1330, 1002, 917, 753, 452, 207, 594, 605, 758, 922, 926, 932, 762, 640, 936, 940, 944, 948, 952, 956, 960, 701, 705, 643, 667, 671, 521, 964, 970, 731, 974, 978] (by decide +kernel) (by decide +kernel) rfl
set_option maxRecDepth 20000 in
theorem gL_law_X12_lack : GoodIn wsL_law (wsV RL 115 RX12 yX12_lack wsX12_lack) := goodIn_app (goodIn_of _ (by decide +kernel)) ggL_law_X12_lack
theorem dL_law_1281 : decode cL_law 1281 = .ok (.if_icmp .eq 269, 3) := by decide +kernel
set_option maxHeartbeats 4000000 in
set_option maxRecDepth 100000 in
theorem lw_c17 {p : Program} {e : Env} {s : State} {m : MethodId} {below : List Frame} {meth : Method} {c : Code} (l : Launch) {b : Nat} {xs : Nat → Int32} (C0 : lw_At p s m meth c b 6 xs)  {A : Nat → Prop} (hAe : A = fun q : Nat => s.heap.size ≤ q) {D : va_G} {cy : Nat → ClassId} (hKW : KW D cy s) {x0 x1 x2 x3 x4 x5 x6 x7 x8 x9 x10 x11 x12 x13 x14 x15 x16 x17 x18 x19 x20 x21 x22 x23 x24 x25 x26 x27 x28 x29 x30 x31 x32 x33 x34 x35 x36 x37 x38 x39 x40 x41 x42 x43 x44 x45 x46 x47 x48 x49 x50 x51 x52 x53 x54 x55 x56 x57 x58 x59 x60 x61 x62 x63 x64 x65 x66 x67 x68 x69 x70 x71 x72 x73 x74 x75 x76 x77 x78 x79 x80 x81 x82 x83 x84 x85 x86 x87 x88 x89 x90 x91 y0 y1 y2 y3 y4 y5 y6 y7 y8 y9 y10 y11 y12 y13 y14 y15 y16 y17 y18 y19 y20 y21 y22 y23 y24 y25 y26 y27 y28 y29 y30 y31 y32 y33 y34 y35 : Nat} {H : Heap} {locs : List Loc} (hP : va_P D vwCl (WL cy x0 x1 x2 x3 x4 x5 x6 x7 x8 x9 x10 x11 x12 x13 x14 x15 x16 x17 x18 x19 x20 x21 x22 x23 x24 x25 x26 x27 x28 x29 x30 x31 x32 x33 x34 x35 x36 x37 x38 x39 x40 x41 x42 x43 x44 x45 x46 x47 x48 x49 x50 x51 x52 x53 x54 x55 x56 x57 x58 x59 x60 x61 x62 x63 x64 x65 x66 x67 x68 x69 x70 x71 x72 x73 x74 x75 x76 x77 x78 x79 x80 x81 x82 x83 x84 x85 x86 x87 x88 x89 x90 x91 y0 y1 y2 y3 y4 y5 y6 y7 y8 y9 y10 y11 y12 y13 y14 y15 y16 y17 y18 y19 y20 y21 y22 y23 y24 y25 y26 y27 y28 y29 y30 y31 y32 y33 y34 y35) H) (hD : va_D A (WL cy x0 x1 x2 x3 x4 x5 x6 x7 x8 x9 x10 x11 x12 x13 x14 x15 x16 x17 x18 x19 x20 x21 x22 x23 x24 x25 x26 x27 x28 x29 x30 x31 x32 x33 x34 x35 x36 x37 x38 x39 x40 x41 x42 x43 x44 x45 x46 x47 x48 x49 x50 x51 x52 x53 x54 x55 x56 x57 x58 x59 x60 x61 x62 x63 x64 x65 x66 x67 x68 x69 x70 x71 x72 x73 x74 x75 x76 x77 x78 x79 x80 x81 x82 x83 x84 x85 x86 x87 x88 x89 x90 x91 y0 y1 y2 y3 y4 y5 y6 y7 y8 y9 y10 y11 y12 y13 y14 y15 y16 y17 y18 y19 y20 y21 y22 y23 y24 y25 y26 y27 y28 y29 y30 y31 y32 y33 y34 y35)) (hS : va_S A s.heap H locs) (ls : Array Slot) (hl : lv_has ls 4 [(3, .int 0), (2, .ref y0), (1, .ref x0), (0, .ref b)]) : W p l e room_1 s m #[Value.ref b] below meth c H locs 128 11575 (lw_Z below #[Value.ref b] s) (F0 m 903 ls []) := by
  obtain ⟨hx, hb, hr, hml, hown, hts0, hX, hbl, hlocks, hgv⟩ := id C0
  have hts : ∀ w ∈ wsL_law, w.before #[Value.ref b] s = true := fun w h => hts0 w (wsL_law_in w h)
  have hown : s.vm.findClass RL = some m.cls := hown
  have hK := hKW.1
  have hA : ∀ q : Nat, s.heap.size ≤ q → A q := fun _ h => by rw [hAe]; exact h
  have hbA : ¬ A b := by rw [hAe]; exact Nat.not_le.mpr hbl
  have hP := hP.sub (ws' := [(x0, .inr (11, [.ref x1, .ref x2, .ref x3, .ref x4, .ref x5, .ref x6, .ref x7])), (x1, .inr (9, [.ref x8, .ref x9, .ref x10, .ref x11, .ref x12, .int 0, .int (-1)])), (x9, .inl (cy 0, 3, .inl (fun _ => 0))), (y0, .inr (12, [.int 0, .ref y1, .ref y2, .ref y3, .ref y4, .ref y5, .ref y6, .ref y7, .ref y8, .int 0, .int 0, .int 0, .int 0, .int 0, .long 0, .int 0, .int 0, .int 0, .ref y9, .ref y10, .int 0, .int 0, .int 0, .int 0, .int 0, .int 0, .int 0, .int 0, .int 0, .int 0, .ref y11, .ref y12, .ref y13, .int 0, .int 0, .int 0, .ref y14, .ref y15, .ref y16, .ref y17, .ref y18, .ref y19, .ref y20, .ref y21, .ref y22, .ref y23, .ref y24, .ref y25, .ref y26, .int 0, .int 0, .int 0, .ref y27, .ref y28, .ref y29, .int 0, .int 0, .int 0, .ref y30, .ref y31, .ref y32, .ref y33, .ref y34, .ref y35])), (y5, .inl (cy 0, 12, .inl (fun _ => 0)))]) [0, 1, 4, 92, 97] rfl
  have hD := hD.sub (ws' := [(x0, .inr (11, [.ref x1, .ref x2, .ref x3, .ref x4, .ref x5, .ref x6, .ref x7])), (x1, .inr (9, [.ref x8, .ref x9, .ref x10, .ref x11, .ref x12, .int 0, .int (-1)])), (x9, .inl (cy 0, 3, .inl (fun _ => 0))), (y0, .inr (12, [.int 0, .ref y1, .ref y2, .ref y3, .ref y4, .ref y5, .ref y6, .ref y7, .ref y8, .int 0, .int 0, .int 0, .int 0, .int 0, .long 0, .int 0, .int 0, .int 0, .ref y9, .ref y10, .int 0, .int 0, .int 0, .int 0, .int 0, .int 0, .int 0, .int 0, .int 0, .int 0, .ref y11, .ref y12, .ref y13, .int 0, .int 0, .int 0, .ref y14, .ref y15, .ref y16, .ref y17, .ref y18, .ref y19, .ref y20, .ref y21, .ref y22, .ref y23, .ref y24, .ref y25, .ref y26, .int 0, .int 0, .int 0, .ref y27, .ref y28, .ref y29, .int 0, .int 0, .int 0, .ref y30, .ref y31, .ref y32, .ref y33, .ref y34, .ref y35])), (y5, .inl (cy 0, 12, .inl (fun _ => 0)))]) [0, 1, 4, 92, 97] (by decide) rfl
  refine lv_aload_n hx hb dL_law_903 rfl (lv_at hl 2 rfl) ?_
  refine lv_aload_n hx hb dL_law_904 rfl (lv_at hl 3 rfl) ?_
  refine lv_iload_n hx hb dL_law_905 rfl (lv_at hl 0 rfl) ?_
  refine lv_iconst (v := 1) hx hb dL_law_906 (by decide +kernel) ?_
  refine lv_iadd hx hb dL_law_907 ?_
  refine tp_i 1 (by decide +kernel) ?_
  refine va_sld hx hb hX hbl hbA hS (vi_c (by decide +kernel)) dL_law_908 ?_
  refine tp_i (xs 1) rfl ?_
  refine lv_aload_n hx hb dL_law_909 rfl (lv_at hl 3 rfl) ?_
  refine lv_iload_n hx hb dL_law_910 rfl (lv_at hl 0 rfl) ?_
  refine lv_iconst (v := 2) hx hb dL_law_911 (by decide +kernel) ?_
  refine lv_iadd hx hb dL_law_912 ?_
  refine tp_i 2 (by decide +kernel) ?_
  refine va_sld hx hb hX hbl hbA hS (vi_c (by decide +kernel)) dL_law_913 ?_
  refine tp_i (xs 2) rfl ?_
  refine lv_aload_n hx hb dL_law_914 rfl (lv_at hl 3 rfl) ?_
  refine lv_iload_n hx hb dL_law_915 rfl (lv_at hl 0 rfl) ?_
  refine lv_iconst (v := 3) hx hb dL_law_916 (by decide +kernel) ?_
  refine lv_iadd hx hb dL_law_917 ?_
  refine tp_i 3 (by decide +kernel) ?_
  refine va_sld hx hb hX hbl hbA hS (vi_c (by decide +kernel)) dL_law_918 ?_
  refine tp_i (xs 3) rfl ?_
  refine lv_aload_n hx hb dL_law_919 rfl (lv_at hl 3 rfl) ?_
  refine lv_iload_n hx hb dL_law_920 rfl (lv_at hl 0 rfl) ?_
  refine lv_iconst (v := 4) hx hb dL_law_921 (by decide +kernel) ?_
  refine lv_iadd hx hb dL_law_922 ?_
  refine tp_i 4 (by decide +kernel) ?_
  refine va_sld hx hb hX hbl hbA hS (vi_c (by decide +kernel)) dL_law_923 ?_
  refine tp_i (xs 4) rfl ?_
  have hPc_1 := hP.sub (ws' := [(x0, .inr (11, [.ref x1, .ref x2, .ref x3, .ref x4, .ref x5, .ref x6, .ref x7])), (x1, .inr (9, [.ref x8, .ref x9, .ref x10, .ref x11, .ref x12, .int 0, .int (-1)])), (x9, .inl (cy 0, 3, .inl (fun _ => 0)))]) [0, 1, 2] rfl
  refine pc_i (va_runV (As := [.int (xs 1), .int (xs 2), .int (xs 3), .int (xs 4)]) (rest := []) ⟨hx, hb, hml, hown, hts⟩ (c_X11_soon l D cy x0 x2 x3 x4 x5 x6 x7 x1 x8 x9 x10 x11 x12 (xs 1) (xs 2) (xs 3) (xs 4)) (cwV 4 hts gL_law_X11_soon rfl rfl rfl (by decide +kernel) ⟨Nat.le_of_ble_eq_true rfl, Nat.le_of_ble_eq_true rfl⟩) ⟨prB, va_recv hK hPc_1 (ci := 11) (q0 := 0) rfl rfl, fun U hU hW => ⟨rfl, PR.of hU hW hKW hPc_1⟩⟩ rfl rfl hl.1 rfl (lv_room (Nat.le_of_ble_eq_true rfl)) dL_law_924 ⟨by decide +kernel, by decide +kernel⟩) (fun r_2 hr_2 => ?_)
  subst hr_2
  refine lv_aload_n hx hb dL_law_927 rfl (lv_at hl 1 rfl) ?_
  refine lv_aload_n hx hb dL_law_928 rfl (lv_at hl 3 rfl) ?_
  refine lv_iload_n hx hb dL_law_929 rfl (lv_at hl 0 rfl) ?_
  refine lv_iconst (v := 1) hx hb dL_law_930 (by decide +kernel) ?_
  refine lv_iadd hx hb dL_law_931 ?_
  refine tp_i 1 (by decide +kernel) ?_
  refine va_sld hx hb hX hbl hbA hS (vi_c (by decide +kernel)) dL_law_932 ?_
  refine tp_i (xs 1) rfl ?_
  refine lv_aload_n hx hb dL_law_933 rfl (lv_at hl 3 rfl) ?_
  refine lv_iload_n hx hb dL_law_934 rfl (lv_at hl 0 rfl) ?_
  refine lv_iconst (v := 2) hx hb dL_law_935 (by decide +kernel) ?_
  refine lv_iadd hx hb dL_law_936 ?_
  refine tp_i 2 (by decide +kernel) ?_
  refine va_sld hx hb hX hbl hbA hS (vi_c (by decide +kernel)) dL_law_937 ?_
  refine tp_i (xs 2) rfl ?_
  refine lv_aload_n hx hb dL_law_938 rfl (lv_at hl 3 rfl) ?_
  refine lv_iload_n hx hb dL_law_939 rfl (lv_at hl 0 rfl) ?_
  refine lv_iconst (v := 3) hx hb dL_law_940 (by decide +kernel) ?_
  refine lv_iadd hx hb dL_law_941 ?_
  refine tp_i 3 (by decide +kernel) ?_
  refine va_sld hx hb hX hbl hbA hS (vi_c (by decide +kernel)) dL_law_942 ?_
  refine tp_i (xs 3) rfl ?_
  refine lv_aload_n hx hb dL_law_943 rfl (lv_at hl 3 rfl) ?_
  refine lv_iload_n hx hb dL_law_944 rfl (lv_at hl 0 rfl) ?_
  refine lv_iconst (v := 4) hx hb dL_law_945 (by decide +kernel) ?_
  refine lv_iadd hx hb dL_law_946 ?_
  refine tp_i 4 (by decide +kernel) ?_
  refine va_sld hx hb hX hbl hbA hS (vi_c (by decide +kernel)) dL_law_947 ?_
  refine tp_i (xs 4) rfl ?_
  have hPc_3 := hP.sub (ws' := [(y0, .inr (12, [.int 0, .ref y1, .ref y2, .ref y3, .ref y4, .ref y5, .ref y6, .ref y7, .ref y8, .int 0, .int 0, .int 0, .int 0, .int 0, .long 0, .int 0, .int 0, .int 0, .ref y9, .ref y10, .int 0, .int 0, .int 0, .int 0, .int 0, .int 0, .int 0, .int 0, .int 0, .int 0, .ref y11, .ref y12, .ref y13, .int 0, .int 0, .int 0, .ref y14, .ref y15, .ref y16, .ref y17, .ref y18, .ref y19, .ref y20, .ref y21, .ref y22, .ref y23, .ref y24, .ref y25, .ref y26, .int 0, .int 0, .int 0, .ref y27, .ref y28, .ref y29, .int 0, .int 0, .int 0, .ref y30, .ref y31, .ref y32, .ref y33, .ref y34, .ref y35])), (y5, .inl (cy 0, 12, .inl (fun _ => 0)))]) [3, 4] rfl
  have hDc_4 := hD.sub (ws' := [(y0, .inr (12, [.int 0, .ref y1, .ref y2, .ref y3, .ref y4, .ref y5, .ref y6, .ref y7, .ref y8, .int 0, .int 0, .int 0, .int 0, .int 0, .long 0, .int 0, .int 0, .int 0, .ref y9, .ref y10, .int 0, .int 0, .int 0, .int 0, .int 0, .int 0, .int 0, .int 0, .int 0, .int 0, .ref y11, .ref y12, .ref y13, .int 0, .int 0, .int 0, .ref y14, .ref y15, .ref y16, .ref y17, .ref y18, .ref y19, .ref y20, .ref y21, .ref y22, .ref y23, .ref y24, .ref y25, .ref y26, .int 0, .int 0, .int 0, .ref y27, .ref y28, .ref y29, .int 0, .int 0, .int 0, .ref y30, .ref y31, .ref y32, .ref y33, .ref y34, .ref y35])), (y5, .inl (cy 0, 12, .inl (fun _ => 0)))]) [3, 4] (by decide) rfl
  have hFc_5 := va_free (wc := [(y0, .inr (12, [.int 0, .ref y1, .ref y2, .ref y3, .ref y4, .ref y5, .ref y6, .ref y7, .ref y8, .int 0, .int 0, .int 0, .int 0, .int 0, .long 0, .int 0, .int 0, .int 0, .ref y9, .ref y10, .int 0, .int 0, .int 0, .int 0, .int 0, .int 0, .int 0, .int 0, .int 0, .int 0, .ref y11, .ref y12, .ref y13, .int 0, .int 0, .int 0, .ref y14, .ref y15, .ref y16, .ref y17, .ref y18, .ref y19, .ref y20, .ref y21, .ref y22, .ref y23, .ref y24, .ref y25, .ref y26, .int 0, .int 0, .int 0, .ref y27, .ref y28, .ref y29, .int 0, .int 0, .int 0, .ref y30, .ref y31, .ref y32, .ref y33, .ref y34, .ref y35])), (y5, .inl (cy 0, 12, .inl (fun _ => 0)))]) hD hS hA [3, 4] rfl
  refine va_calli (va_runV (As := [.int (xs 1), .int (xs 2), .int (xs 3), .int (xs 4)]) (rest := [.int (-1)]) ⟨hx, hb, hml, hown, hts⟩ (c_X12_soon l D cy y0 y1 y2 y3 y4 y5 y6 y7 y8 y9 y10 y11 y12 y13 y14 y15 y16 y17 y18 y19 y20 y21 y22 y23 y24 y25 y26 y27 y28 y29 y30 y31 y32 y33 y34 y35 (xs 1) (xs 2) (xs 3) (xs 4) H.size) (cwV 4 hts gL_law_X12_soon rfl rfl rfl (by decide +kernel) ⟨Nat.le_of_ble_eq_true rfl, Nat.le_of_ble_eq_true rfl⟩) ⟨pwB, va_recv hK hPc_3 (ci := 12) (q0 := 0) rfl rfl, fun U hU hW => ⟨rfl, PW.of hU hW hKW hPc_3 hDc_4⟩⟩ rfl rfl hl.1 rfl (lv_room (Nat.le_of_ble_eq_true rfl)) dL_law_948 ⟨by decide +kernel, by decide +kernel⟩) hS (fun q _ h => hFc_5 q h) hFc_5 (fun r_7 u t H1 locs ht hvm hw_6 hB hz1 hk1 hS => ?_)
  subst hw_6
  obtain ⟨hP1, hD1⟩ := hB
  rw [ht] at hP1
  obtain ⟨hP, hD⟩ := va_join (wr := [(x0, .inr (11, [.ref x1, .ref x2, .ref x3, .ref x4, .ref x5, .ref x6, .ref x7])), (x1, .inr (9, [.ref x8, .ref x9, .ref x10, .ref x11, .ref x12, .int 0, .int (-1)])), (x9, .inl (cy 0, 3, .inl (fun _ => 0)))]) (w1 := []) hP hD [3, 4] [0, 1, 2] rfl rfl (by decide) (by decide) hk1 hFc_5 hP1 hD1
  generalize H1 = H at hP hS ⊢
  have hP : va_P D vwCl [(x0, .inr (11, [.ref x1, .ref x2, .ref x3, .ref x4, .ref x5, .ref x6, .ref x7])), (x1, .inr (9, [.ref x8, .ref x9, .ref x10, .ref x11, .ref x12, .int 0, .int (-1)])), (x9, .inl (cy 0, 3, .inl (fun _ => 0)))] H := hP
  have hD : va_D A [(x0, .inr (11, [.ref x1, .ref x2, .ref x3, .ref x4, .ref x5, .ref x6, .ref x7])), (x1, .inr (9, [.ref x8, .ref x9, .ref x10, .ref x11, .ref x12, .int 0, .int (-1)])), (x9, .inl (cy 0, 3, .inl (fun _ => 0)))] := hD
  refine lv_icmp_eq (tgt := 1550) hx hb dL_law_951 (by decide) (fun _ => ?_) (fun c_8 => absurd (by decide +kernel) c_8)
  exact lw_tail l C0 hAe hS (by decide +kernel) (by decide +kernel) ls (lv_sub hl [0, 3] rfl)
set_option maxHeartbeats 4000000 in
set_option maxRecDepth 100000 in
theorem lw_c18 {p : Program} {e : Env} {s : State} {m : MethodId} {below : List Frame} {meth : Method} {c : Code} (l : Launch) {b : Nat} {xs : Nat → Int32} (C0 : lw_At p s m meth c b 6 xs)  {A : Nat → Prop} (hAe : A = fun q : Nat => s.heap.size ≤ q) {D : va_G} {cy : Nat → ClassId} (hKW : KW D cy s) {x0 x1 x2 x3 x4 x5 x6 x7 x8 x9 x10 x11 x12 x13 x14 x15 x16 x17 x18 x19 x20 x21 x22 x23 x24 x25 x26 x27 x28 x29 x30 x31 x32 x33 x34 x35 x36 x37 x38 x39 x40 x41 x42 x43 x44 x45 x46 x47 x48 x49 x50 x51 x52 x53 x54 x55 x56 x57 x58 x59 x60 x61 x62 x63 x64 x65 x66 x67 x68 x69 x70 x71 x72 x73 x74 x75 x76 x77 x78 x79 x80 x81 x82 x83 x84 x85 x86 x87 x88 x89 x90 x91 y0 y1 y2 y3 y4 y5 y6 y7 y8 y9 y10 y11 y12 y13 y14 y15 y16 y17 y18 y19 y20 y21 y22 y23 y24 y25 y26 y27 y28 y29 y30 y31 y32 y33 y34 y35 : Nat} {H : Heap} {locs : List Loc} (hP : va_P D vwCl (WL cy x0 x1 x2 x3 x4 x5 x6 x7 x8 x9 x10 x11 x12 x13 x14 x15 x16 x17 x18 x19 x20 x21 x22 x23 x24 x25 x26 x27 x28 x29 x30 x31 x32 x33 x34 x35 x36 x37 x38 x39 x40 x41 x42 x43 x44 x45 x46 x47 x48 x49 x50 x51 x52 x53 x54 x55 x56 x57 x58 x59 x60 x61 x62 x63 x64 x65 x66 x67 x68 x69 x70 x71 x72 x73 x74 x75 x76 x77 x78 x79 x80 x81 x82 x83 x84 x85 x86 x87 x88 x89 x90 x91 y0 y1 y2 y3 y4 y5 y6 y7 y8 y9 y10 y11 y12 y13 y14 y15 y16 y17 y18 y19 y20 y21 y22 y23 y24 y25 y26 y27 y28 y29 y30 y31 y32 y33 y34 y35) H) (hD : va_D A (WL cy x0 x1 x2 x3 x4 x5 x6 x7 x8 x9 x10 x11 x12 x13 x14 x15 x16 x17 x18 x19 x20 x21 x22 x23 x24 x25 x26 x27 x28 x29 x30 x31 x32 x33 x34 x35 x36 x37 x38 x39 x40 x41 x42 x43 x44 x45 x46 x47 x48 x49 x50 x51 x52 x53 x54 x55 x56 x57 x58 x59 x60 x61 x62 x63 x64 x65 x66 x67 x68 x69 x70 x71 x72 x73 x74 x75 x76 x77 x78 x79 x80 x81 x82 x83 x84 x85 x86 x87 x88 x89 x90 x91 y0 y1 y2 y3 y4 y5 y6 y7 y8 y9 y10 y11 y12 y13 y14 y15 y16 y17 y18 y19 y20 y21 y22 y23 y24 y25 y26 y27 y28 y29 y30 y31 y32 y33 y34 y35)) (hS : va_S A s.heap H locs) (ls : Array Slot) (hl : lv_has ls 4 [(3, .int 0), (2, .ref y0), (1, .ref x0), (0, .ref b)]) : W p l e room_1 s m #[Value.ref b] below meth c H locs 128 11575 (lw_Z below #[Value.ref b] s) (F0 m 956 ls []) := by
  obtain ⟨hx, hb, hr, hml, hown, hts0, hX, hbl, hlocks, hgv⟩ := id C0
  have hts : ∀ w ∈ wsL_law, w.before #[Value.ref b] s = true := fun w h => hts0 w (wsL_law_in w h)
  have hown : s.vm.findClass RL = some m.cls := hown
  have hK := hKW.1
  have hA : ∀ q : Nat, s.heap.size ≤ q → A q := fun _ h => by rw [hAe]; exact h
  have hbA : ¬ A b := by rw [hAe]; exact Nat.not_le.mpr hbl
  have hP := hP.sub (ws' := [(x0, .inr (11, [.ref x1, .ref x2, .ref x3, .ref x4, .ref x5, .ref x6, .ref x7])), (x1, .inr (9, [.ref x8, .ref x9, .ref x10, .ref x11, .ref x12, .int 0, .int (-1)])), (x9, .inl (cy 0, 3, .inl (fun _ => 0))), (y0, .inr (12, [.int 0, .ref y1, .ref y2, .ref y3, .ref y4, .ref y5, .ref y6, .ref y7, .ref y8, .int 0, .int 0, .int 0, .int 0, .int 0, .long 0, .int 0, .int 0, .int 0, .ref y9, .ref y10, .int 0, .int 0, .int 0, .int 0, .int 0, .int 0, .int 0, .int 0, .int 0, .int 0, .ref y11, .ref y12, .ref y13, .int 0, .int 0, .int 0, .ref y14, .ref y15, .ref y16, .ref y17, .ref y18, .ref y19, .ref y20, .ref y21, .ref y22, .ref y23, .ref y24, .ref y25, .ref y26, .int 0, .int 0, .int 0, .ref y27, .ref y28, .ref y29, .int 0, .int 0, .int 0, .ref y30, .ref y31, .ref y32, .ref y33, .ref y34, .ref y35])), (y5, .inl (cy 0, 12, .inl (fun _ => 0)))]) [0, 1, 4, 92, 97] rfl
  have hD := hD.sub (ws' := [(x0, .inr (11, [.ref x1, .ref x2, .ref x3, .ref x4, .ref x5, .ref x6, .ref x7])), (x1, .inr (9, [.ref x8, .ref x9, .ref x10, .ref x11, .ref x12, .int 0, .int (-1)])), (x9, .inl (cy 0, 3, .inl (fun _ => 0))), (y0, .inr (12, [.int 0, .ref y1, .ref y2, .ref y3, .ref y4, .ref y5, .ref y6, .ref y7, .ref y8, .int 0, .int 0, .int 0, .int 0, .int 0, .long 0, .int 0, .int 0, .int 0, .ref y9, .ref y10, .int 0, .int 0, .int 0, .int 0, .int 0, .int 0, .int 0, .int 0, .int 0, .int 0, .ref y11, .ref y12, .ref y13, .int 0, .int 0, .int 0, .ref y14, .ref y15, .ref y16, .ref y17, .ref y18, .ref y19, .ref y20, .ref y21, .ref y22, .ref y23, .ref y24, .ref y25, .ref y26, .int 0, .int 0, .int 0, .ref y27, .ref y28, .ref y29, .int 0, .int 0, .int 0, .ref y30, .ref y31, .ref y32, .ref y33, .ref y34, .ref y35])), (y5, .inl (cy 0, 12, .inl (fun _ => 0)))]) [0, 1, 4, 92, 97] (by decide) rfl
  refine lv_aload_n hx hb dL_law_956 rfl (lv_at hl 2 rfl) ?_
  refine lv_aload_n hx hb dL_law_957 rfl (lv_at hl 3 rfl) ?_
  refine lv_iload_n hx hb dL_law_958 rfl (lv_at hl 0 rfl) ?_
  refine lv_iconst (v := 1) hx hb dL_law_959 (by decide +kernel) ?_
  refine lv_iadd hx hb dL_law_960 ?_
  refine tp_i 1 (by decide +kernel) ?_
  refine va_sld hx hb hX hbl hbA hS (vi_c (by decide +kernel)) dL_law_961 ?_
  refine tp_i (xs 1) rfl ?_
  refine lv_aload_n hx hb dL_law_962 rfl (lv_at hl 3 rfl) ?_
  refine lv_iload_n hx hb dL_law_963 rfl (lv_at hl 0 rfl) ?_
  refine lv_iconst (v := 2) hx hb dL_law_964 (by decide +kernel) ?_
  refine lv_iadd hx hb dL_law_965 ?_
  refine tp_i 2 (by decide +kernel) ?_
  refine va_sld hx hb hX hbl hbA hS (vi_c (by decide +kernel)) dL_law_966 ?_
  refine tp_i (xs 2) rfl ?_
  refine lv_aload_n hx hb dL_law_967 rfl (lv_at hl 3 rfl) ?_
  refine lv_iload_n hx hb dL_law_968 rfl (lv_at hl 0 rfl) ?_
  refine lv_iconst (v := 3) hx hb dL_law_969 (by decide +kernel) ?_
  refine lv_iadd hx hb dL_law_970 ?_
  refine tp_i 3 (by decide +kernel) ?_
  refine va_sld hx hb hX hbl hbA hS (vi_c (by decide +kernel)) dL_law_971 ?_
  refine tp_i (xs 3) rfl ?_
  refine lv_if_eq (tgt := 979) hx hb dL_law_972 (by decide) (fun c_1 => ?_) (fun c_1 => ?_)
  · refine lv_iconst (v := 0) hx hb dL_law_979 (by decide +kernel) ?_
    have hPc_2 := hP.sub (ws' := [(x0, .inr (11, [.ref x1, .ref x2, .ref x3, .ref x4, .ref x5, .ref x6, .ref x7])), (x1, .inr (9, [.ref x8, .ref x9, .ref x10, .ref x11, .ref x12, .int 0, .int (-1)])), (x9, .inl (cy 0, 3, .inl (fun _ => 0)))]) [0, 1, 2] rfl
    refine pc_i (va_runV (As := [.int (xs 1), .int (xs 2), .int 0]) (rest := []) ⟨hx, hb, hml, hown, hts⟩ (c_X11_berth l D cy x0 x2 x3 x4 x5 x6 x7 x1 x8 x9 x10 x11 x12 (xs 1) (xs 2) 0) (cwV 3 hts gL_law_X11_berth rfl rfl rfl (by decide +kernel) ⟨Nat.le_of_ble_eq_true rfl, Nat.le_of_ble_eq_true rfl⟩) ⟨prB, va_recv hK hPc_2 (ci := 11) (q0 := 0) rfl rfl, fun U hU hW => ⟨rfl, PR.of hU hW hKW hPc_2⟩⟩ rfl rfl hl.1 rfl (lv_room (Nat.le_of_ble_eq_true rfl)) dL_law_980 ⟨by decide +kernel, by decide +kernel⟩) (fun r_3 hr_3 => ?_)
    subst hr_3
    refine lv_aload_n hx hb dL_law_983 rfl (lv_at hl 1 rfl) ?_
    refine lv_aload_n hx hb dL_law_984 rfl (lv_at hl 3 rfl) ?_
    refine lv_iload_n hx hb dL_law_985 rfl (lv_at hl 0 rfl) ?_
    refine lv_iconst (v := 1) hx hb dL_law_986 (by decide +kernel) ?_
    refine lv_iadd hx hb dL_law_987 ?_
    refine tp_i 1 (by decide +kernel) ?_
    refine va_sld hx hb hX hbl hbA hS (vi_c (by decide +kernel)) dL_law_988 ?_
    refine tp_i (xs 1) rfl ?_
    refine lv_aload_n hx hb dL_law_989 rfl (lv_at hl 3 rfl) ?_
    refine lv_iload_n hx hb dL_law_990 rfl (lv_at hl 0 rfl) ?_
    refine lv_iconst (v := 2) hx hb dL_law_991 (by decide +kernel) ?_
    refine lv_iadd hx hb dL_law_992 ?_
    refine tp_i 2 (by decide +kernel) ?_
    refine va_sld hx hb hX hbl hbA hS (vi_c (by decide +kernel)) dL_law_993 ?_
    refine tp_i (xs 2) rfl ?_
    refine lv_aload_n hx hb dL_law_994 rfl (lv_at hl 3 rfl) ?_
    refine lv_iload_n hx hb dL_law_995 rfl (lv_at hl 0 rfl) ?_
    refine lv_iconst (v := 3) hx hb dL_law_996 (by decide +kernel) ?_
    refine lv_iadd hx hb dL_law_997 ?_
    refine tp_i 3 (by decide +kernel) ?_
    refine va_sld hx hb hX hbl hbA hS (vi_c (by decide +kernel)) dL_law_998 ?_
    refine tp_i (xs 3) rfl ?_
    refine lv_if_eq (tgt := 1006) hx hb dL_law_999 (by decide) (fun c_4 => ?_) (fun c_4 => ?_)
    · refine lv_iconst (v := 0) hx hb dL_law_1006 (by decide +kernel) ?_
      have hPc_5 := hP.sub (ws' := [(y0, .inr (12, [.int 0, .ref y1, .ref y2, .ref y3, .ref y4, .ref y5, .ref y6, .ref y7, .ref y8, .int 0, .int 0, .int 0, .int 0, .int 0, .long 0, .int 0, .int 0, .int 0, .ref y9, .ref y10, .int 0, .int 0, .int 0, .int 0, .int 0, .int 0, .int 0, .int 0, .int 0, .int 0, .ref y11, .ref y12, .ref y13, .int 0, .int 0, .int 0, .ref y14, .ref y15, .ref y16, .ref y17, .ref y18, .ref y19, .ref y20, .ref y21, .ref y22, .ref y23, .ref y24, .ref y25, .ref y26, .int 0, .int 0, .int 0, .ref y27, .ref y28, .ref y29, .int 0, .int 0, .int 0, .ref y30, .ref y31, .ref y32, .ref y33, .ref y34, .ref y35])), (y5, .inl (cy 0, 12, .inl (fun _ => 0)))]) [3, 4] rfl
      have hDc_6 := hD.sub (ws' := [(y0, .inr (12, [.int 0, .ref y1, .ref y2, .ref y3, .ref y4, .ref y5, .ref y6, .ref y7, .ref y8, .int 0, .int 0, .int 0, .int 0, .int 0, .long 0, .int 0, .int 0, .int 0, .ref y9, .ref y10, .int 0, .int 0, .int 0, .int 0, .int 0, .int 0, .int 0, .int 0, .int 0, .int 0, .ref y11, .ref y12, .ref y13, .int 0, .int 0, .int 0, .ref y14, .ref y15, .ref y16, .ref y17, .ref y18, .ref y19, .ref y20, .ref y21, .ref y22, .ref y23, .ref y24, .ref y25, .ref y26, .int 0, .int 0, .int 0, .ref y27, .ref y28, .ref y29, .int 0, .int 0, .int 0, .ref y30, .ref y31, .ref y32, .ref y33, .ref y34, .ref y35])), (y5, .inl (cy 0, 12, .inl (fun _ => 0)))]) [3, 4] (by decide) rfl
      have hFc_7 := va_free (wc := [(y0, .inr (12, [.int 0, .ref y1, .ref y2, .ref y3, .ref y4, .ref y5, .ref y6, .ref y7, .ref y8, .int 0, .int 0, .int 0, .int 0, .int 0, .long 0, .int 0, .int 0, .int 0, .ref y9, .ref y10, .int 0, .int 0, .int 0, .int 0, .int 0, .int 0, .int 0, .int 0, .int 0, .int 0, .ref y11, .ref y12, .ref y13, .int 0, .int 0, .int 0, .ref y14, .ref y15, .ref y16, .ref y17, .ref y18, .ref y19, .ref y20, .ref y21, .ref y22, .ref y23, .ref y24, .ref y25, .ref y26, .int 0, .int 0, .int 0, .ref y27, .ref y28, .ref y29, .int 0, .int 0, .int 0, .ref y30, .ref y31, .ref y32, .ref y33, .ref y34, .ref y35])), (y5, .inl (cy 0, 12, .inl (fun _ => 0)))]) hD hS hA [3, 4] rfl
      refine va_calli (va_runV (As := [.int (xs 1), .int (xs 2), .int 0]) (rest := [.int (-1)]) ⟨hx, hb, hml, hown, hts⟩ (c_X12_berth l D cy y0 y1 y2 y3 y4 y5 y6 y7 y8 y9 y10 y11 y12 y13 y14 y15 y16 y17 y18 y19 y20 y21 y22 y23 y24 y25 y26 y27 y28 y29 y30 y31 y32 y33 y34 y35 (xs 1) (xs 2) 0 H.size) (cwV 3 hts gL_law_X12_berth rfl rfl rfl (by decide +kernel) ⟨Nat.le_of_ble_eq_true rfl, Nat.le_of_ble_eq_true rfl⟩) ⟨pwB, va_recv hK hPc_5 (ci := 12) (q0 := 0) rfl rfl, fun U hU hW => ⟨rfl, PW.of hU hW hKW hPc_5 hDc_6⟩⟩ rfl rfl hl.1 rfl (lv_room (Nat.le_of_ble_eq_true rfl)) dL_law_1007 ⟨by decide +kernel, by decide +kernel⟩) hS (fun q _ h => hFc_7 q h) hFc_7 (fun r_9 u t H1 locs ht hvm hw_8 hB hz1 hk1 hS => ?_)
      subst hw_8
      obtain ⟨hP1, hD1⟩ := hB
      rw [ht] at hP1
      obtain ⟨hP, hD⟩ := va_join (wr := [(x0, .inr (11, [.ref x1, .ref x2, .ref x3, .ref x4, .ref x5, .ref x6, .ref x7])), (x1, .inr (9, [.ref x8, .ref x9, .ref x10, .ref x11, .ref x12, .int 0, .int (-1)])), (x9, .inl (cy 0, 3, .inl (fun _ => 0)))]) (w1 := []) hP hD [3, 4] [0, 1, 2] rfl rfl (by decide) (by decide) hk1 hFc_7 hP1 hD1
      generalize H1 = H at hP hS ⊢
      have hP : va_P D vwCl [(x0, .inr (11, [.ref x1, .ref x2, .ref x3, .ref x4, .ref x5, .ref x6, .ref x7])), (x1, .inr (9, [.ref x8, .ref x9, .ref x10, .ref x11, .ref x12, .int 0, .int (-1)])), (x9, .inl (cy 0, 3, .inl (fun _ => 0)))] H := hP
      have hD : va_D A [(x0, .inr (11, [.ref x1, .ref x2, .ref x3, .ref x4, .ref x5, .ref x6, .ref x7])), (x1, .inr (9, [.ref x8, .ref x9, .ref x10, .ref x11, .ref x12, .int 0, .int (-1)])), (x9, .inl (cy 0, 3, .inl (fun _ => 0)))] := hD
      refine lv_icmp_eq (tgt := 1550) hx hb dL_law_1010 (by decide) (fun _ => ?_) (fun c_10 => absurd (by decide +kernel) c_10)
      exact lw_tail l C0 hAe hS (by decide +kernel) (by decide +kernel) ls (lv_sub hl [0, 3] rfl)
    · refine lv_iconst (v := 1) hx hb dL_law_1002 (by decide +kernel) ?_
      refine lv_goto (tgt := 1007) hx hb dL_law_1003 (by decide) ?_
      have hPc_11 := hP.sub (ws' := [(y0, .inr (12, [.int 0, .ref y1, .ref y2, .ref y3, .ref y4, .ref y5, .ref y6, .ref y7, .ref y8, .int 0, .int 0, .int 0, .int 0, .int 0, .long 0, .int 0, .int 0, .int 0, .ref y9, .ref y10, .int 0, .int 0, .int 0, .int 0, .int 0, .int 0, .int 0, .int 0, .int 0, .int 0, .ref y11, .ref y12, .ref y13, .int 0, .int 0, .int 0, .ref y14, .ref y15, .ref y16, .ref y17, .ref y18, .ref y19, .ref y20, .ref y21, .ref y22, .ref y23, .ref y24, .ref y25, .ref y26, .int 0, .int 0, .int 0, .ref y27, .ref y28, .ref y29, .int 0, .int 0, .int 0, .ref y30, .ref y31, .ref y32, .ref y33, .ref y34, .ref y35])), (y5, .inl (cy 0, 12, .inl (fun _ => 0)))]) [3, 4] rfl
      have hDc_12 := hD.sub (ws' := [(y0, .inr (12, [.int 0, .ref y1, .ref y2, .ref y3, .ref y4, .ref y5, .ref y6, .ref y7, .ref y8, .int 0, .int 0, .int 0, .int 0, .int 0, .long 0, .int 0, .int 0, .int 0, .ref y9, .ref y10, .int 0, .int 0, .int 0, .int 0, .int 0, .int 0, .int 0, .int 0, .int 0, .int 0, .ref y11, .ref y12, .ref y13, .int 0, .int 0, .int 0, .ref y14, .ref y15, .ref y16, .ref y17, .ref y18, .ref y19, .ref y20, .ref y21, .ref y22, .ref y23, .ref y24, .ref y25, .ref y26, .int 0, .int 0, .int 0, .ref y27, .ref y28, .ref y29, .int 0, .int 0, .int 0, .ref y30, .ref y31, .ref y32, .ref y33, .ref y34, .ref y35])), (y5, .inl (cy 0, 12, .inl (fun _ => 0)))]) [3, 4] (by decide) rfl
      have hFc_13 := va_free (wc := [(y0, .inr (12, [.int 0, .ref y1, .ref y2, .ref y3, .ref y4, .ref y5, .ref y6, .ref y7, .ref y8, .int 0, .int 0, .int 0, .int 0, .int 0, .long 0, .int 0, .int 0, .int 0, .ref y9, .ref y10, .int 0, .int 0, .int 0, .int 0, .int 0, .int 0, .int 0, .int 0, .int 0, .int 0, .ref y11, .ref y12, .ref y13, .int 0, .int 0, .int 0, .ref y14, .ref y15, .ref y16, .ref y17, .ref y18, .ref y19, .ref y20, .ref y21, .ref y22, .ref y23, .ref y24, .ref y25, .ref y26, .int 0, .int 0, .int 0, .ref y27, .ref y28, .ref y29, .int 0, .int 0, .int 0, .ref y30, .ref y31, .ref y32, .ref y33, .ref y34, .ref y35])), (y5, .inl (cy 0, 12, .inl (fun _ => 0)))]) hD hS hA [3, 4] rfl
      refine va_calli (va_runV (As := [.int (xs 1), .int (xs 2), .int 1]) (rest := [.int (-1)]) ⟨hx, hb, hml, hown, hts⟩ (c_X12_berth l D cy y0 y1 y2 y3 y4 y5 y6 y7 y8 y9 y10 y11 y12 y13 y14 y15 y16 y17 y18 y19 y20 y21 y22 y23 y24 y25 y26 y27 y28 y29 y30 y31 y32 y33 y34 y35 (xs 1) (xs 2) 1 H.size) (cwV 3 hts gL_law_X12_berth rfl rfl rfl (by decide +kernel) ⟨Nat.le_of_ble_eq_true rfl, Nat.le_of_ble_eq_true rfl⟩) ⟨pwB, va_recv hK hPc_11 (ci := 12) (q0 := 0) rfl rfl, fun U hU hW => ⟨rfl, PW.of hU hW hKW hPc_11 hDc_12⟩⟩ rfl rfl hl.1 rfl (lv_room (Nat.le_of_ble_eq_true rfl)) dL_law_1007 ⟨by decide +kernel, by decide +kernel⟩) hS (fun q _ h => hFc_13 q h) hFc_13 (fun r_15 u t H1 locs ht hvm hw_14 hB hz1 hk1 hS => ?_)
      subst hw_14
      obtain ⟨hP1, hD1⟩ := hB
      rw [ht] at hP1
      obtain ⟨hP, hD⟩ := va_join (wr := [(x0, .inr (11, [.ref x1, .ref x2, .ref x3, .ref x4, .ref x5, .ref x6, .ref x7])), (x1, .inr (9, [.ref x8, .ref x9, .ref x10, .ref x11, .ref x12, .int 0, .int (-1)])), (x9, .inl (cy 0, 3, .inl (fun _ => 0)))]) (w1 := []) hP hD [3, 4] [0, 1, 2] rfl rfl (by decide) (by decide) hk1 hFc_13 hP1 hD1
      generalize H1 = H at hP hS ⊢
      have hP : va_P D vwCl [(x0, .inr (11, [.ref x1, .ref x2, .ref x3, .ref x4, .ref x5, .ref x6, .ref x7])), (x1, .inr (9, [.ref x8, .ref x9, .ref x10, .ref x11, .ref x12, .int 0, .int (-1)])), (x9, .inl (cy 0, 3, .inl (fun _ => 0)))] H := hP
      have hD : va_D A [(x0, .inr (11, [.ref x1, .ref x2, .ref x3, .ref x4, .ref x5, .ref x6, .ref x7])), (x1, .inr (9, [.ref x8, .ref x9, .ref x10, .ref x11, .ref x12, .int 0, .int (-1)])), (x9, .inl (cy 0, 3, .inl (fun _ => 0)))] := hD
      refine lv_icmp_eq (tgt := 1550) hx hb dL_law_1010 (by decide) (fun _ => ?_) (fun c_16 => absurd (by decide +kernel) c_16)
      exact lw_tail l C0 hAe hS (by decide +kernel) (by decide +kernel) ls (lv_sub hl [0, 3] rfl)
  · refine lv_iconst (v := 1) hx hb dL_law_975 (by decide +kernel) ?_
    refine lv_goto (tgt := 980) hx hb dL_law_976 (by decide) ?_
    have hPc_17 := hP.sub (ws' := [(x0, .inr (11, [.ref x1, .ref x2, .ref x3, .ref x4, .ref x5, .ref x6, .ref x7])), (x1, .inr (9, [.ref x8, .ref x9, .ref x10, .ref x11, .ref x12, .int 0, .int (-1)])), (x9, .inl (cy 0, 3, .inl (fun _ => 0)))]) [0, 1, 2] rfl
    refine pc_i (va_runV (As := [.int (xs 1), .int (xs 2), .int 1]) (rest := []) ⟨hx, hb, hml, hown, hts⟩ (c_X11_berth l D cy x0 x2 x3 x4 x5 x6 x7 x1 x8 x9 x10 x11 x12 (xs 1) (xs 2) 1) (cwV 3 hts gL_law_X11_berth rfl rfl rfl (by decide +kernel) ⟨Nat.le_of_ble_eq_true rfl, Nat.le_of_ble_eq_true rfl⟩) ⟨prB, va_recv hK hPc_17 (ci := 11) (q0 := 0) rfl rfl, fun U hU hW => ⟨rfl, PR.of hU hW hKW hPc_17⟩⟩ rfl rfl hl.1 rfl (lv_room (Nat.le_of_ble_eq_true rfl)) dL_law_980 ⟨by decide +kernel, by decide +kernel⟩) (fun r_18 hr_18 => ?_)
    subst hr_18
    refine lv_aload_n hx hb dL_law_983 rfl (lv_at hl 1 rfl) ?_
    refine lv_aload_n hx hb dL_law_984 rfl (lv_at hl 3 rfl) ?_
    refine lv_iload_n hx hb dL_law_985 rfl (lv_at hl 0 rfl) ?_
    refine lv_iconst (v := 1) hx hb dL_law_986 (by decide +kernel) ?_
    refine lv_iadd hx hb dL_law_987 ?_
    refine tp_i 1 (by decide +kernel) ?_
    refine va_sld hx hb hX hbl hbA hS (vi_c (by decide +kernel)) dL_law_988 ?_
    refine tp_i (xs 1) rfl ?_
    refine lv_aload_n hx hb dL_law_989 rfl (lv_at hl 3 rfl) ?_
    refine lv_iload_n hx hb dL_law_990 rfl (lv_at hl 0 rfl) ?_
    refine lv_iconst (v := 2) hx hb dL_law_991 (by decide +kernel) ?_
    refine lv_iadd hx hb dL_law_992 ?_
    refine tp_i 2 (by decide +kernel) ?_
    refine va_sld hx hb hX hbl hbA hS (vi_c (by decide +kernel)) dL_law_993 ?_
    refine tp_i (xs 2) rfl ?_
    refine lv_aload_n hx hb dL_law_994 rfl (lv_at hl 3 rfl) ?_
    refine lv_iload_n hx hb dL_law_995 rfl (lv_at hl 0 rfl) ?_
    refine lv_iconst (v := 3) hx hb dL_law_996 (by decide +kernel) ?_
    refine lv_iadd hx hb dL_law_997 ?_
    refine tp_i 3 (by decide +kernel) ?_
    refine va_sld hx hb hX hbl hbA hS (vi_c (by decide +kernel)) dL_law_998 ?_
    refine tp_i (xs 3) rfl ?_
    refine lv_if_eq (tgt := 1006) hx hb dL_law_999 (by decide) (fun c_19 => ?_) (fun c_19 => ?_)
    · refine lv_iconst (v := 0) hx hb dL_law_1006 (by decide +kernel) ?_
      have hPc_20 := hP.sub (ws' := [(y0, .inr (12, [.int 0, .ref y1, .ref y2, .ref y3, .ref y4, .ref y5, .ref y6, .ref y7, .ref y8, .int 0, .int 0, .int 0, .int 0, .int 0, .long 0, .int 0, .int 0, .int 0, .ref y9, .ref y10, .int 0, .int 0, .int 0, .int 0, .int 0, .int 0, .int 0, .int 0, .int 0, .int 0, .ref y11, .ref y12, .ref y13, .int 0, .int 0, .int 0, .ref y14, .ref y15, .ref y16, .ref y17, .ref y18, .ref y19, .ref y20, .ref y21, .ref y22, .ref y23, .ref y24, .ref y25, .ref y26, .int 0, .int 0, .int 0, .ref y27, .ref y28, .ref y29, .int 0, .int 0, .int 0, .ref y30, .ref y31, .ref y32, .ref y33, .ref y34, .ref y35])), (y5, .inl (cy 0, 12, .inl (fun _ => 0)))]) [3, 4] rfl
      have hDc_21 := hD.sub (ws' := [(y0, .inr (12, [.int 0, .ref y1, .ref y2, .ref y3, .ref y4, .ref y5, .ref y6, .ref y7, .ref y8, .int 0, .int 0, .int 0, .int 0, .int 0, .long 0, .int 0, .int 0, .int 0, .ref y9, .ref y10, .int 0, .int 0, .int 0, .int 0, .int 0, .int 0, .int 0, .int 0, .int 0, .int 0, .ref y11, .ref y12, .ref y13, .int 0, .int 0, .int 0, .ref y14, .ref y15, .ref y16, .ref y17, .ref y18, .ref y19, .ref y20, .ref y21, .ref y22, .ref y23, .ref y24, .ref y25, .ref y26, .int 0, .int 0, .int 0, .ref y27, .ref y28, .ref y29, .int 0, .int 0, .int 0, .ref y30, .ref y31, .ref y32, .ref y33, .ref y34, .ref y35])), (y5, .inl (cy 0, 12, .inl (fun _ => 0)))]) [3, 4] (by decide) rfl
      have hFc_22 := va_free (wc := [(y0, .inr (12, [.int 0, .ref y1, .ref y2, .ref y3, .ref y4, .ref y5, .ref y6, .ref y7, .ref y8, .int 0, .int 0, .int 0, .int 0, .int 0, .long 0, .int 0, .int 0, .int 0, .ref y9, .ref y10, .int 0, .int 0, .int 0, .int 0, .int 0, .int 0, .int 0, .int 0, .int 0, .int 0, .ref y11, .ref y12, .ref y13, .int 0, .int 0, .int 0, .ref y14, .ref y15, .ref y16, .ref y17, .ref y18, .ref y19, .ref y20, .ref y21, .ref y22, .ref y23, .ref y24, .ref y25, .ref y26, .int 0, .int 0, .int 0, .ref y27, .ref y28, .ref y29, .int 0, .int 0, .int 0, .ref y30, .ref y31, .ref y32, .ref y33, .ref y34, .ref y35])), (y5, .inl (cy 0, 12, .inl (fun _ => 0)))]) hD hS hA [3, 4] rfl
      refine va_calli (va_runV (As := [.int (xs 1), .int (xs 2), .int 0]) (rest := [.int (-1)]) ⟨hx, hb, hml, hown, hts⟩ (c_X12_berth l D cy y0 y1 y2 y3 y4 y5 y6 y7 y8 y9 y10 y11 y12 y13 y14 y15 y16 y17 y18 y19 y20 y21 y22 y23 y24 y25 y26 y27 y28 y29 y30 y31 y32 y33 y34 y35 (xs 1) (xs 2) 0 H.size) (cwV 3 hts gL_law_X12_berth rfl rfl rfl (by decide +kernel) ⟨Nat.le_of_ble_eq_true rfl, Nat.le_of_ble_eq_true rfl⟩) ⟨pwB, va_recv hK hPc_20 (ci := 12) (q0 := 0) rfl rfl, fun U hU hW => ⟨rfl, PW.of hU hW hKW hPc_20 hDc_21⟩⟩ rfl rfl hl.1 rfl (lv_room (Nat.le_of_ble_eq_true rfl)) dL_law_1007 ⟨by decide +kernel, by decide +kernel⟩) hS (fun q _ h => hFc_22 q h) hFc_22 (fun r_24 u t H1 locs ht hvm hw_23 hB hz1 hk1 hS => ?_)
      subst hw_23
      obtain ⟨hP1, hD1⟩ := hB
      rw [ht] at hP1
      obtain ⟨hP, hD⟩ := va_join (wr := [(x0, .inr (11, [.ref x1, .ref x2, .ref x3, .ref x4, .ref x5, .ref x6, .ref x7])), (x1, .inr (9, [.ref x8, .ref x9, .ref x10, .ref x11, .ref x12, .int 0, .int (-1)])), (x9, .inl (cy 0, 3, .inl (fun _ => 0)))]) (w1 := []) hP hD [3, 4] [0, 1, 2] rfl rfl (by decide) (by decide) hk1 hFc_22 hP1 hD1
      generalize H1 = H at hP hS ⊢
      have hP : va_P D vwCl [(x0, .inr (11, [.ref x1, .ref x2, .ref x3, .ref x4, .ref x5, .ref x6, .ref x7])), (x1, .inr (9, [.ref x8, .ref x9, .ref x10, .ref x11, .ref x12, .int 0, .int (-1)])), (x9, .inl (cy 0, 3, .inl (fun _ => 0)))] H := hP
      have hD : va_D A [(x0, .inr (11, [.ref x1, .ref x2, .ref x3, .ref x4, .ref x5, .ref x6, .ref x7])), (x1, .inr (9, [.ref x8, .ref x9, .ref x10, .ref x11, .ref x12, .int 0, .int (-1)])), (x9, .inl (cy 0, 3, .inl (fun _ => 0)))] := hD
      refine lv_icmp_eq (tgt := 1550) hx hb dL_law_1010 (by decide) (fun _ => ?_) (fun c_25 => absurd (by decide +kernel) c_25)
      exact lw_tail l C0 hAe hS (by decide +kernel) (by decide +kernel) ls (lv_sub hl [0, 3] rfl)
    · refine lv_iconst (v := 1) hx hb dL_law_1002 (by decide +kernel) ?_
      refine lv_goto (tgt := 1007) hx hb dL_law_1003 (by decide) ?_
      have hPc_26 := hP.sub (ws' := [(y0, .inr (12, [.int 0, .ref y1, .ref y2, .ref y3, .ref y4, .ref y5, .ref y6, .ref y7, .ref y8, .int 0, .int 0, .int 0, .int 0, .int 0, .long 0, .int 0, .int 0, .int 0, .ref y9, .ref y10, .int 0, .int 0, .int 0, .int 0, .int 0, .int 0, .int 0, .int 0, .int 0, .int 0, .ref y11, .ref y12, .ref y13, .int 0, .int 0, .int 0, .ref y14, .ref y15, .ref y16, .ref y17, .ref y18, .ref y19, .ref y20, .ref y21, .ref y22, .ref y23, .ref y24, .ref y25, .ref y26, .int 0, .int 0, .int 0, .ref y27, .ref y28, .ref y29, .int 0, .int 0, .int 0, .ref y30, .ref y31, .ref y32, .ref y33, .ref y34, .ref y35])), (y5, .inl (cy 0, 12, .inl (fun _ => 0)))]) [3, 4] rfl
      have hDc_27 := hD.sub (ws' := [(y0, .inr (12, [.int 0, .ref y1, .ref y2, .ref y3, .ref y4, .ref y5, .ref y6, .ref y7, .ref y8, .int 0, .int 0, .int 0, .int 0, .int 0, .long 0, .int 0, .int 0, .int 0, .ref y9, .ref y10, .int 0, .int 0, .int 0, .int 0, .int 0, .int 0, .int 0, .int 0, .int 0, .int 0, .ref y11, .ref y12, .ref y13, .int 0, .int 0, .int 0, .ref y14, .ref y15, .ref y16, .ref y17, .ref y18, .ref y19, .ref y20, .ref y21, .ref y22, .ref y23, .ref y24, .ref y25, .ref y26, .int 0, .int 0, .int 0, .ref y27, .ref y28, .ref y29, .int 0, .int 0, .int 0, .ref y30, .ref y31, .ref y32, .ref y33, .ref y34, .ref y35])), (y5, .inl (cy 0, 12, .inl (fun _ => 0)))]) [3, 4] (by decide) rfl
      have hFc_28 := va_free (wc := [(y0, .inr (12, [.int 0, .ref y1, .ref y2, .ref y3, .ref y4, .ref y5, .ref y6, .ref y7, .ref y8, .int 0, .int 0, .int 0, .int 0, .int 0, .long 0, .int 0, .int 0, .int 0, .ref y9, .ref y10, .int 0, .int 0, .int 0, .int 0, .int 0, .int 0, .int 0, .int 0, .int 0, .int 0, .ref y11, .ref y12, .ref y13, .int 0, .int 0, .int 0, .ref y14, .ref y15, .ref y16, .ref y17, .ref y18, .ref y19, .ref y20, .ref y21, .ref y22, .ref y23, .ref y24, .ref y25, .ref y26, .int 0, .int 0, .int 0, .ref y27, .ref y28, .ref y29, .int 0, .int 0, .int 0, .ref y30, .ref y31, .ref y32, .ref y33, .ref y34, .ref y35])), (y5, .inl (cy 0, 12, .inl (fun _ => 0)))]) hD hS hA [3, 4] rfl
      refine va_calli (va_runV (As := [.int (xs 1), .int (xs 2), .int 1]) (rest := [.int (-1)]) ⟨hx, hb, hml, hown, hts⟩ (c_X12_berth l D cy y0 y1 y2 y3 y4 y5 y6 y7 y8 y9 y10 y11 y12 y13 y14 y15 y16 y17 y18 y19 y20 y21 y22 y23 y24 y25 y26 y27 y28 y29 y30 y31 y32 y33 y34 y35 (xs 1) (xs 2) 1 H.size) (cwV 3 hts gL_law_X12_berth rfl rfl rfl (by decide +kernel) ⟨Nat.le_of_ble_eq_true rfl, Nat.le_of_ble_eq_true rfl⟩) ⟨pwB, va_recv hK hPc_26 (ci := 12) (q0 := 0) rfl rfl, fun U hU hW => ⟨rfl, PW.of hU hW hKW hPc_26 hDc_27⟩⟩ rfl rfl hl.1 rfl (lv_room (Nat.le_of_ble_eq_true rfl)) dL_law_1007 ⟨by decide +kernel, by decide +kernel⟩) hS (fun q _ h => hFc_28 q h) hFc_28 (fun r_30 u t H1 locs ht hvm hw_29 hB hz1 hk1 hS => ?_)
      subst hw_29
      obtain ⟨hP1, hD1⟩ := hB
      rw [ht] at hP1
      obtain ⟨hP, hD⟩ := va_join (wr := [(x0, .inr (11, [.ref x1, .ref x2, .ref x3, .ref x4, .ref x5, .ref x6, .ref x7])), (x1, .inr (9, [.ref x8, .ref x9, .ref x10, .ref x11, .ref x12, .int 0, .int (-1)])), (x9, .inl (cy 0, 3, .inl (fun _ => 0)))]) (w1 := []) hP hD [3, 4] [0, 1, 2] rfl rfl (by decide) (by decide) hk1 hFc_28 hP1 hD1
      generalize H1 = H at hP hS ⊢
      have hP : va_P D vwCl [(x0, .inr (11, [.ref x1, .ref x2, .ref x3, .ref x4, .ref x5, .ref x6, .ref x7])), (x1, .inr (9, [.ref x8, .ref x9, .ref x10, .ref x11, .ref x12, .int 0, .int (-1)])), (x9, .inl (cy 0, 3, .inl (fun _ => 0)))] H := hP
      have hD : va_D A [(x0, .inr (11, [.ref x1, .ref x2, .ref x3, .ref x4, .ref x5, .ref x6, .ref x7])), (x1, .inr (9, [.ref x8, .ref x9, .ref x10, .ref x11, .ref x12, .int 0, .int (-1)])), (x9, .inl (cy 0, 3, .inl (fun _ => 0)))] := hD
      refine lv_icmp_eq (tgt := 1550) hx hb dL_law_1010 (by decide) (fun _ => ?_) (fun c_31 => absurd (by decide +kernel) c_31)
      exact lw_tail l C0 hAe hS (by decide +kernel) (by decide +kernel) ls (lv_sub hl [0, 3] rfl)
set_option maxHeartbeats 4000000 in
set_option maxRecDepth 100000 in
theorem lw_c19 {p : Program} {e : Env} {s : State} {m : MethodId} {below : List Frame} {meth : Method} {c : Code} (l : Launch) {b : Nat} {xs : Nat → Int32} (C0 : lw_At p s m meth c b 6 xs)  {A : Nat → Prop} (hAe : A = fun q : Nat => s.heap.size ≤ q) {D : va_G} {cy : Nat → ClassId} (hKW : KW D cy s) {x0 x1 x2 x3 x4 x5 x6 x7 x8 x9 x10 x11 x12 x13 x14 x15 x16 x17 x18 x19 x20 x21 x22 x23 x24 x25 x26 x27 x28 x29 x30 x31 x32 x33 x34 x35 x36 x37 x38 x39 x40 x41 x42 x43 x44 x45 x46 x47 x48 x49 x50 x51 x52 x53 x54 x55 x56 x57 x58 x59 x60 x61 x62 x63 x64 x65 x66 x67 x68 x69 x70 x71 x72 x73 x74 x75 x76 x77 x78 x79 x80 x81 x82 x83 x84 x85 x86 x87 x88 x89 x90 x91 y0 y1 y2 y3 y4 y5 y6 y7 y8 y9 y10 y11 y12 y13 y14 y15 y16 y17 y18 y19 y20 y21 y22 y23 y24 y25 y26 y27 y28 y29 y30 y31 y32 y33 y34 y35 : Nat} {H : Heap} {locs : List Loc} (hP : va_P D vwCl (WL cy x0 x1 x2 x3 x4 x5 x6 x7 x8 x9 x10 x11 x12 x13 x14 x15 x16 x17 x18 x19 x20 x21 x22 x23 x24 x25 x26 x27 x28 x29 x30 x31 x32 x33 x34 x35 x36 x37 x38 x39 x40 x41 x42 x43 x44 x45 x46 x47 x48 x49 x50 x51 x52 x53 x54 x55 x56 x57 x58 x59 x60 x61 x62 x63 x64 x65 x66 x67 x68 x69 x70 x71 x72 x73 x74 x75 x76 x77 x78 x79 x80 x81 x82 x83 x84 x85 x86 x87 x88 x89 x90 x91 y0 y1 y2 y3 y4 y5 y6 y7 y8 y9 y10 y11 y12 y13 y14 y15 y16 y17 y18 y19 y20 y21 y22 y23 y24 y25 y26 y27 y28 y29 y30 y31 y32 y33 y34 y35) H) (hD : va_D A (WL cy x0 x1 x2 x3 x4 x5 x6 x7 x8 x9 x10 x11 x12 x13 x14 x15 x16 x17 x18 x19 x20 x21 x22 x23 x24 x25 x26 x27 x28 x29 x30 x31 x32 x33 x34 x35 x36 x37 x38 x39 x40 x41 x42 x43 x44 x45 x46 x47 x48 x49 x50 x51 x52 x53 x54 x55 x56 x57 x58 x59 x60 x61 x62 x63 x64 x65 x66 x67 x68 x69 x70 x71 x72 x73 x74 x75 x76 x77 x78 x79 x80 x81 x82 x83 x84 x85 x86 x87 x88 x89 x90 x91 y0 y1 y2 y3 y4 y5 y6 y7 y8 y9 y10 y11 y12 y13 y14 y15 y16 y17 y18 y19 y20 y21 y22 y23 y24 y25 y26 y27 y28 y29 y30 y31 y32 y33 y34 y35)) (hS : va_S A s.heap H locs) (ls : Array Slot) (hl : lv_has ls 4 [(3, .int 0), (2, .ref y0), (1, .ref x0), (0, .ref b)]) : W p l e room_1 s m #[Value.ref b] below meth c H locs 128 11575 (lw_Z below #[Value.ref b] s) (F0 m 1015 ls []) := by
  obtain ⟨hx, hb, hr, hml, hown, hts0, hX, hbl, hlocks, hgv⟩ := id C0
  have hts : ∀ w ∈ wsL_law, w.before #[Value.ref b] s = true := fun w h => hts0 w (wsL_law_in w h)
  have hown : s.vm.findClass RL = some m.cls := hown
  have hK := hKW.1
  have hA : ∀ q : Nat, s.heap.size ≤ q → A q := fun _ h => by rw [hAe]; exact h
  have hbA : ¬ A b := by rw [hAe]; exact Nat.not_le.mpr hbl
  have hP := hP.sub (ws' := [(x0, .inr (11, [.ref x1, .ref x2, .ref x3, .ref x4, .ref x5, .ref x6, .ref x7])), (x1, .inr (9, [.ref x8, .ref x9, .ref x10, .ref x11, .ref x12, .int 0, .int (-1)])), (x9, .inl (cy 0, 3, .inl (fun _ => 0))), (y0, .inr (12, [.int 0, .ref y1, .ref y2, .ref y3, .ref y4, .ref y5, .ref y6, .ref y7, .ref y8, .int 0, .int 0, .int 0, .int 0, .int 0, .long 0, .int 0, .int 0, .int 0, .ref y9, .ref y10, .int 0, .int 0, .int 0, .int 0, .int 0, .int 0, .int 0, .int 0, .int 0, .int 0, .ref y11, .ref y12, .ref y13, .int 0, .int 0, .int 0, .ref y14, .ref y15, .ref y16, .ref y17, .ref y18, .ref y19, .ref y20, .ref y21, .ref y22, .ref y23, .ref y24, .ref y25, .ref y26, .int 0, .int 0, .int 0, .ref y27, .ref y28, .ref y29, .int 0, .int 0, .int 0, .ref y30, .ref y31, .ref y32, .ref y33, .ref y34, .ref y35])), (y5, .inl (cy 0, 12, .inl (fun _ => 0)))]) [0, 1, 4, 92, 97] rfl
  have hD := hD.sub (ws' := [(x0, .inr (11, [.ref x1, .ref x2, .ref x3, .ref x4, .ref x5, .ref x6, .ref x7])), (x1, .inr (9, [.ref x8, .ref x9, .ref x10, .ref x11, .ref x12, .int 0, .int (-1)])), (x9, .inl (cy 0, 3, .inl (fun _ => 0))), (y0, .inr (12, [.int 0, .ref y1, .ref y2, .ref y3, .ref y4, .ref y5, .ref y6, .ref y7, .ref y8, .int 0, .int 0, .int 0, .int 0, .int 0, .long 0, .int 0, .int 0, .int 0, .ref y9, .ref y10, .int 0, .int 0, .int 0, .int 0, .int 0, .int 0, .int 0, .int 0, .int 0, .int 0, .ref y11, .ref y12, .ref y13, .int 0, .int 0, .int 0, .ref y14, .ref y15, .ref y16, .ref y17, .ref y18, .ref y19, .ref y20, .ref y21, .ref y22, .ref y23, .ref y24, .ref y25, .ref y26, .int 0, .int 0, .int 0, .ref y27, .ref y28, .ref y29, .int 0, .int 0, .int 0, .ref y30, .ref y31, .ref y32, .ref y33, .ref y34, .ref y35])), (y5, .inl (cy 0, 12, .inl (fun _ => 0)))]) [0, 1, 4, 92, 97] (by decide) rfl
  refine lv_aload_n hx hb dL_law_1015 rfl (lv_at hl 2 rfl) ?_
  refine lv_aload_n hx hb dL_law_1016 rfl (lv_at hl 3 rfl) ?_
  refine lv_iload_n hx hb dL_law_1017 rfl (lv_at hl 0 rfl) ?_
  refine lv_iconst (v := 1) hx hb dL_law_1018 (by decide +kernel) ?_
  refine lv_iadd hx hb dL_law_1019 ?_
  refine tp_i 1 (by decide +kernel) ?_
  refine va_sld hx hb hX hbl hbA hS (vi_c (by decide +kernel)) dL_law_1020 ?_
  refine tp_i (xs 1) rfl ?_
  refine lv_aload_n hx hb dL_law_1021 rfl (lv_at hl 3 rfl) ?_
  refine lv_iload_n hx hb dL_law_1022 rfl (lv_at hl 0 rfl) ?_
  refine lv_iconst (v := 2) hx hb dL_law_1023 (by decide +kernel) ?_
  refine lv_iadd hx hb dL_law_1024 ?_
  refine tp_i 2 (by decide +kernel) ?_
  refine va_sld hx hb hX hbl hbA hS (vi_c (by decide +kernel)) dL_law_1025 ?_
  refine tp_i (xs 2) rfl ?_
  refine lv_aload_n hx hb dL_law_1026 rfl (lv_at hl 3 rfl) ?_
  refine lv_iload_n hx hb dL_law_1027 rfl (lv_at hl 0 rfl) ?_
  refine lv_iconst (v := 3) hx hb dL_law_1028 (by decide +kernel) ?_
  refine lv_iadd hx hb dL_law_1029 ?_
  refine tp_i 3 (by decide +kernel) ?_
  refine va_sld hx hb hX hbl hbA hS (vi_c (by decide +kernel)) dL_law_1030 ?_
  refine tp_i (xs 3) rfl ?_
  refine lv_aload_n hx hb dL_law_1031 rfl (lv_at hl 3 rfl) ?_
  refine lv_iload_n hx hb dL_law_1032 rfl (lv_at hl 0 rfl) ?_
  refine lv_iconst (v := 4) hx hb dL_law_1033 (by decide +kernel) ?_
  refine lv_iadd hx hb dL_law_1034 ?_
  refine tp_i 4 (by decide +kernel) ?_
  refine va_sld hx hb hX hbl hbA hS (vi_c (by decide +kernel)) dL_law_1035 ?_
  refine tp_i (xs 4) rfl ?_
  have hPc_1 := hP.sub (ws' := [(x0, .inr (11, [.ref x1, .ref x2, .ref x3, .ref x4, .ref x5, .ref x6, .ref x7])), (x1, .inr (9, [.ref x8, .ref x9, .ref x10, .ref x11, .ref x12, .int 0, .int (-1)])), (x9, .inl (cy 0, 3, .inl (fun _ => 0)))]) [0, 1, 2] rfl
  refine pc_i (va_runV (As := [.int (xs 1), .int (xs 2), .int (xs 3), .int (xs 4)]) (rest := []) ⟨hx, hb, hml, hown, hts⟩ (c_X11_pair l D cy x0 x2 x3 x4 x5 x6 x7 x1 x8 x9 x10 x11 x12 (xs 1) (xs 2) (xs 3) (xs 4)) (cwV 4 hts gL_law_X11_pair rfl rfl rfl (by decide +kernel) ⟨Nat.le_of_ble_eq_true rfl, Nat.le_of_ble_eq_true rfl⟩) ⟨prB, va_recv hK hPc_1 (ci := 11) (q0 := 0) rfl rfl, fun U hU hW => ⟨rfl, PR.of hU hW hKW hPc_1⟩⟩ rfl rfl hl.1 rfl (lv_room (Nat.le_of_ble_eq_true rfl)) dL_law_1036 ⟨by decide +kernel, by decide +kernel⟩) (fun r_2 hr_2 => ?_)
  subst hr_2
  refine lv_aload_n hx hb dL_law_1039 rfl (lv_at hl 1 rfl) ?_
  refine lv_aload_n hx hb dL_law_1040 rfl (lv_at hl 3 rfl) ?_
  refine lv_iload_n hx hb dL_law_1041 rfl (lv_at hl 0 rfl) ?_
  refine lv_iconst (v := 1) hx hb dL_law_1042 (by decide +kernel) ?_
  refine lv_iadd hx hb dL_law_1043 ?_
  refine tp_i 1 (by decide +kernel) ?_
  refine va_sld hx hb hX hbl hbA hS (vi_c (by decide +kernel)) dL_law_1044 ?_
  refine tp_i (xs 1) rfl ?_
  refine lv_aload_n hx hb dL_law_1045 rfl (lv_at hl 3 rfl) ?_
  refine lv_iload_n hx hb dL_law_1046 rfl (lv_at hl 0 rfl) ?_
  refine lv_iconst (v := 2) hx hb dL_law_1047 (by decide +kernel) ?_
  refine lv_iadd hx hb dL_law_1048 ?_
  refine tp_i 2 (by decide +kernel) ?_
  refine va_sld hx hb hX hbl hbA hS (vi_c (by decide +kernel)) dL_law_1049 ?_
  refine tp_i (xs 2) rfl ?_
  refine lv_aload_n hx hb dL_law_1050 rfl (lv_at hl 3 rfl) ?_
  refine lv_iload_n hx hb dL_law_1051 rfl (lv_at hl 0 rfl) ?_
  refine lv_iconst (v := 3) hx hb dL_law_1052 (by decide +kernel) ?_
  refine lv_iadd hx hb dL_law_1053 ?_
  refine tp_i 3 (by decide +kernel) ?_
  refine va_sld hx hb hX hbl hbA hS (vi_c (by decide +kernel)) dL_law_1054 ?_
  refine tp_i (xs 3) rfl ?_
  refine lv_aload_n hx hb dL_law_1055 rfl (lv_at hl 3 rfl) ?_
  refine lv_iload_n hx hb dL_law_1056 rfl (lv_at hl 0 rfl) ?_
  refine lv_iconst (v := 4) hx hb dL_law_1057 (by decide +kernel) ?_
  refine lv_iadd hx hb dL_law_1058 ?_
  refine tp_i 4 (by decide +kernel) ?_
  refine va_sld hx hb hX hbl hbA hS (vi_c (by decide +kernel)) dL_law_1059 ?_
  refine tp_i (xs 4) rfl ?_
  have hPc_3 := hP.sub (ws' := [(y0, .inr (12, [.int 0, .ref y1, .ref y2, .ref y3, .ref y4, .ref y5, .ref y6, .ref y7, .ref y8, .int 0, .int 0, .int 0, .int 0, .int 0, .long 0, .int 0, .int 0, .int 0, .ref y9, .ref y10, .int 0, .int 0, .int 0, .int 0, .int 0, .int 0, .int 0, .int 0, .int 0, .int 0, .ref y11, .ref y12, .ref y13, .int 0, .int 0, .int 0, .ref y14, .ref y15, .ref y16, .ref y17, .ref y18, .ref y19, .ref y20, .ref y21, .ref y22, .ref y23, .ref y24, .ref y25, .ref y26, .int 0, .int 0, .int 0, .ref y27, .ref y28, .ref y29, .int 0, .int 0, .int 0, .ref y30, .ref y31, .ref y32, .ref y33, .ref y34, .ref y35])), (y5, .inl (cy 0, 12, .inl (fun _ => 0)))]) [3, 4] rfl
  have hDc_4 := hD.sub (ws' := [(y0, .inr (12, [.int 0, .ref y1, .ref y2, .ref y3, .ref y4, .ref y5, .ref y6, .ref y7, .ref y8, .int 0, .int 0, .int 0, .int 0, .int 0, .long 0, .int 0, .int 0, .int 0, .ref y9, .ref y10, .int 0, .int 0, .int 0, .int 0, .int 0, .int 0, .int 0, .int 0, .int 0, .int 0, .ref y11, .ref y12, .ref y13, .int 0, .int 0, .int 0, .ref y14, .ref y15, .ref y16, .ref y17, .ref y18, .ref y19, .ref y20, .ref y21, .ref y22, .ref y23, .ref y24, .ref y25, .ref y26, .int 0, .int 0, .int 0, .ref y27, .ref y28, .ref y29, .int 0, .int 0, .int 0, .ref y30, .ref y31, .ref y32, .ref y33, .ref y34, .ref y35])), (y5, .inl (cy 0, 12, .inl (fun _ => 0)))]) [3, 4] (by decide) rfl
  have hFc_5 := va_free (wc := [(y0, .inr (12, [.int 0, .ref y1, .ref y2, .ref y3, .ref y4, .ref y5, .ref y6, .ref y7, .ref y8, .int 0, .int 0, .int 0, .int 0, .int 0, .long 0, .int 0, .int 0, .int 0, .ref y9, .ref y10, .int 0, .int 0, .int 0, .int 0, .int 0, .int 0, .int 0, .int 0, .int 0, .int 0, .ref y11, .ref y12, .ref y13, .int 0, .int 0, .int 0, .ref y14, .ref y15, .ref y16, .ref y17, .ref y18, .ref y19, .ref y20, .ref y21, .ref y22, .ref y23, .ref y24, .ref y25, .ref y26, .int 0, .int 0, .int 0, .ref y27, .ref y28, .ref y29, .int 0, .int 0, .int 0, .ref y30, .ref y31, .ref y32, .ref y33, .ref y34, .ref y35])), (y5, .inl (cy 0, 12, .inl (fun _ => 0)))]) hD hS hA [3, 4] rfl
  refine va_calli (va_runV (As := [.int (xs 1), .int (xs 2), .int (xs 3), .int (xs 4)]) (rest := [.int (-1)]) ⟨hx, hb, hml, hown, hts⟩ (c_X12_pair l D cy y0 y1 y2 y3 y4 y5 y6 y7 y8 y9 y10 y11 y12 y13 y14 y15 y16 y17 y18 y19 y20 y21 y22 y23 y24 y25 y26 y27 y28 y29 y30 y31 y32 y33 y34 y35 (xs 1) (xs 2) (xs 3) (xs 4) H.size) (cwV 4 hts gL_law_X12_pair rfl rfl rfl (by decide +kernel) ⟨Nat.le_of_ble_eq_true rfl, Nat.le_of_ble_eq_true rfl⟩) ⟨pwB, va_recv hK hPc_3 (ci := 12) (q0 := 0) rfl rfl, fun U hU hW => ⟨rfl, PW.of hU hW hKW hPc_3 hDc_4⟩⟩ rfl rfl hl.1 rfl (lv_room (Nat.le_of_ble_eq_true rfl)) dL_law_1060 ⟨by decide +kernel, by decide +kernel⟩) hS (fun q _ h => hFc_5 q h) hFc_5 (fun r_7 u t H1 locs ht hvm hw_6 hB hz1 hk1 hS => ?_)
  subst hw_6
  obtain ⟨hP1, hD1⟩ := hB
  rw [ht] at hP1
  obtain ⟨hP, hD⟩ := va_join (wr := [(x0, .inr (11, [.ref x1, .ref x2, .ref x3, .ref x4, .ref x5, .ref x6, .ref x7])), (x1, .inr (9, [.ref x8, .ref x9, .ref x10, .ref x11, .ref x12, .int 0, .int (-1)])), (x9, .inl (cy 0, 3, .inl (fun _ => 0)))]) (w1 := []) hP hD [3, 4] [0, 1, 2] rfl rfl (by decide) (by decide) hk1 hFc_5 hP1 hD1
  generalize H1 = H at hP hS ⊢
  have hP : va_P D vwCl [(x0, .inr (11, [.ref x1, .ref x2, .ref x3, .ref x4, .ref x5, .ref x6, .ref x7])), (x1, .inr (9, [.ref x8, .ref x9, .ref x10, .ref x11, .ref x12, .int 0, .int (-1)])), (x9, .inl (cy 0, 3, .inl (fun _ => 0)))] H := hP
  have hD : va_D A [(x0, .inr (11, [.ref x1, .ref x2, .ref x3, .ref x4, .ref x5, .ref x6, .ref x7])), (x1, .inr (9, [.ref x8, .ref x9, .ref x10, .ref x11, .ref x12, .int 0, .int (-1)])), (x9, .inl (cy 0, 3, .inl (fun _ => 0)))] := hD
  refine lv_icmp_eq (tgt := 1550) hx hb dL_law_1063 (by decide) (fun _ => ?_) (fun c_8 => absurd (by decide +kernel) c_8)
  exact lw_tail l C0 hAe hS (by decide +kernel) (by decide +kernel) ls (lv_sub hl [0, 3] rfl)
set_option maxHeartbeats 4000000 in
set_option maxRecDepth 100000 in
theorem lw_c20 {p : Program} {e : Env} {s : State} {m : MethodId} {below : List Frame} {meth : Method} {c : Code} (l : Launch) {b : Nat} {xs : Nat → Int32} (C0 : lw_At p s m meth c b 6 xs)  {A : Nat → Prop} (hAe : A = fun q : Nat => s.heap.size ≤ q) {D : va_G} {cy : Nat → ClassId} (hKW : KW D cy s) {x0 x1 x2 x3 x4 x5 x6 x7 x8 x9 x10 x11 x12 x13 x14 x15 x16 x17 x18 x19 x20 x21 x22 x23 x24 x25 x26 x27 x28 x29 x30 x31 x32 x33 x34 x35 x36 x37 x38 x39 x40 x41 x42 x43 x44 x45 x46 x47 x48 x49 x50 x51 x52 x53 x54 x55 x56 x57 x58 x59 x60 x61 x62 x63 x64 x65 x66 x67 x68 x69 x70 x71 x72 x73 x74 x75 x76 x77 x78 x79 x80 x81 x82 x83 x84 x85 x86 x87 x88 x89 x90 x91 y0 y1 y2 y3 y4 y5 y6 y7 y8 y9 y10 y11 y12 y13 y14 y15 y16 y17 y18 y19 y20 y21 y22 y23 y24 y25 y26 y27 y28 y29 y30 y31 y32 y33 y34 y35 : Nat} {H : Heap} {locs : List Loc} (hP : va_P D vwCl (WL cy x0 x1 x2 x3 x4 x5 x6 x7 x8 x9 x10 x11 x12 x13 x14 x15 x16 x17 x18 x19 x20 x21 x22 x23 x24 x25 x26 x27 x28 x29 x30 x31 x32 x33 x34 x35 x36 x37 x38 x39 x40 x41 x42 x43 x44 x45 x46 x47 x48 x49 x50 x51 x52 x53 x54 x55 x56 x57 x58 x59 x60 x61 x62 x63 x64 x65 x66 x67 x68 x69 x70 x71 x72 x73 x74 x75 x76 x77 x78 x79 x80 x81 x82 x83 x84 x85 x86 x87 x88 x89 x90 x91 y0 y1 y2 y3 y4 y5 y6 y7 y8 y9 y10 y11 y12 y13 y14 y15 y16 y17 y18 y19 y20 y21 y22 y23 y24 y25 y26 y27 y28 y29 y30 y31 y32 y33 y34 y35) H) (hD : va_D A (WL cy x0 x1 x2 x3 x4 x5 x6 x7 x8 x9 x10 x11 x12 x13 x14 x15 x16 x17 x18 x19 x20 x21 x22 x23 x24 x25 x26 x27 x28 x29 x30 x31 x32 x33 x34 x35 x36 x37 x38 x39 x40 x41 x42 x43 x44 x45 x46 x47 x48 x49 x50 x51 x52 x53 x54 x55 x56 x57 x58 x59 x60 x61 x62 x63 x64 x65 x66 x67 x68 x69 x70 x71 x72 x73 x74 x75 x76 x77 x78 x79 x80 x81 x82 x83 x84 x85 x86 x87 x88 x89 x90 x91 y0 y1 y2 y3 y4 y5 y6 y7 y8 y9 y10 y11 y12 y13 y14 y15 y16 y17 y18 y19 y20 y21 y22 y23 y24 y25 y26 y27 y28 y29 y30 y31 y32 y33 y34 y35)) (hS : va_S A s.heap H locs) (ls : Array Slot) (hl : lv_has ls 4 [(3, .int 0), (2, .ref y0), (1, .ref x0), (0, .ref b)]) : W p l e room_1 s m #[Value.ref b] below meth c H locs 128 11575 (lw_Z below #[Value.ref b] s) (F0 m 1068 ls []) := by
  obtain ⟨hx, hb, hr, hml, hown, hts0, hX, hbl, hlocks, hgv⟩ := id C0
  have hts : ∀ w ∈ wsL_law, w.before #[Value.ref b] s = true := fun w h => hts0 w (wsL_law_in w h)
  have hown : s.vm.findClass RL = some m.cls := hown
  have hK := hKW.1
  have hA : ∀ q : Nat, s.heap.size ≤ q → A q := fun _ h => by rw [hAe]; exact h
  have hbA : ¬ A b := by rw [hAe]; exact Nat.not_le.mpr hbl
  have hP := hP.sub (ws' := [(x0, .inr (11, [.ref x1, .ref x2, .ref x3, .ref x4, .ref x5, .ref x6, .ref x7])), (x1, .inr (9, [.ref x8, .ref x9, .ref x10, .ref x11, .ref x12, .int 0, .int (-1)])), (x9, .inl (cy 0, 3, .inl (fun _ => 0))), (y0, .inr (12, [.int 0, .ref y1, .ref y2, .ref y3, .ref y4, .ref y5, .ref y6, .ref y7, .ref y8, .int 0, .int 0, .int 0, .int 0, .int 0, .long 0, .int 0, .int 0, .int 0, .ref y9, .ref y10, .int 0, .int 0, .int 0, .int 0, .int 0, .int 0, .int 0, .int 0, .int 0, .int 0, .ref y11, .ref y12, .ref y13, .int 0, .int 0, .int 0, .ref y14, .ref y15, .ref y16, .ref y17, .ref y18, .ref y19, .ref y20, .ref y21, .ref y22, .ref y23, .ref y24, .ref y25, .ref y26, .int 0, .int 0, .int 0, .ref y27, .ref y28, .ref y29, .int 0, .int 0, .int 0, .ref y30, .ref y31, .ref y32, .ref y33, .ref y34, .ref y35])), (y5, .inl (cy 0, 12, .inl (fun _ => 0)))]) [0, 1, 4, 92, 97] rfl
  have hD := hD.sub (ws' := [(x0, .inr (11, [.ref x1, .ref x2, .ref x3, .ref x4, .ref x5, .ref x6, .ref x7])), (x1, .inr (9, [.ref x8, .ref x9, .ref x10, .ref x11, .ref x12, .int 0, .int (-1)])), (x9, .inl (cy 0, 3, .inl (fun _ => 0))), (y0, .inr (12, [.int 0, .ref y1, .ref y2, .ref y3, .ref y4, .ref y5, .ref y6, .ref y7, .ref y8, .int 0, .int 0, .int 0, .int 0, .int 0, .long 0, .int 0, .int 0, .int 0, .ref y9, .ref y10, .int 0, .int 0, .int 0, .int 0, .int 0, .int 0, .int 0, .int 0, .int 0, .int 0, .ref y11, .ref y12, .ref y13, .int 0, .int 0, .int 0, .ref y14, .ref y15, .ref y16, .ref y17, .ref y18, .ref y19, .ref y20, .ref y21, .ref y22, .ref y23, .ref y24, .ref y25, .ref y26, .int 0, .int 0, .int 0, .ref y27, .ref y28, .ref y29, .int 0, .int 0, .int 0, .ref y30, .ref y31, .ref y32, .ref y33, .ref y34, .ref y35])), (y5, .inl (cy 0, 12, .inl (fun _ => 0)))]) [0, 1, 4, 92, 97] (by decide) rfl
  refine lv_aload_n hx hb dL_law_1068 rfl (lv_at hl 2 rfl) ?_
  refine lv_aload_n hx hb dL_law_1069 rfl (lv_at hl 3 rfl) ?_
  refine lv_iload_n hx hb dL_law_1070 rfl (lv_at hl 0 rfl) ?_
  refine lv_iconst (v := 1) hx hb dL_law_1071 (by decide +kernel) ?_
  refine lv_iadd hx hb dL_law_1072 ?_
  refine tp_i 1 (by decide +kernel) ?_
  refine va_sld hx hb hX hbl hbA hS (vi_c (by decide +kernel)) dL_law_1073 ?_
  refine tp_i (xs 1) rfl ?_
  refine lv_aload_n hx hb dL_law_1074 rfl (lv_at hl 3 rfl) ?_
  refine lv_iload_n hx hb dL_law_1075 rfl (lv_at hl 0 rfl) ?_
  refine lv_iconst (v := 2) hx hb dL_law_1076 (by decide +kernel) ?_
  refine lv_iadd hx hb dL_law_1077 ?_
  refine tp_i 2 (by decide +kernel) ?_
  refine va_sld hx hb hX hbl hbA hS (vi_c (by decide +kernel)) dL_law_1078 ?_
  refine tp_i (xs 2) rfl ?_
  have hPc_1 := hP.sub (ws' := [(x0, .inr (11, [.ref x1, .ref x2, .ref x3, .ref x4, .ref x5, .ref x6, .ref x7])), (x1, .inr (9, [.ref x8, .ref x9, .ref x10, .ref x11, .ref x12, .int 0, .int (-1)])), (x9, .inl (cy 0, 3, .inl (fun _ => 0)))]) [0, 1, 2] rfl
  refine pc_i (va_runV (As := [.int (xs 1), .int (xs 2)]) (rest := []) ⟨hx, hb, hml, hown, hts⟩ (c_X11_dispute l D cy x0 x2 x3 x4 x5 x6 x7 x1 x8 x9 x10 x11 x12 (xs 1) (xs 2)) (cwV 2 hts gL_law_X11_dispute rfl rfl rfl (by decide +kernel) ⟨Nat.le_of_ble_eq_true rfl, Nat.le_of_ble_eq_true rfl⟩) ⟨prB, va_recv hK hPc_1 (ci := 11) (q0 := 0) rfl rfl, fun U hU hW => ⟨rfl, PR.of hU hW hKW hPc_1⟩⟩ rfl rfl hl.1 rfl (lv_room (Nat.le_of_ble_eq_true rfl)) dL_law_1079 ⟨by decide +kernel, by decide +kernel⟩) (fun r_2 hr_2 => ?_)
  subst hr_2
  refine lv_aload_n hx hb dL_law_1082 rfl (lv_at hl 1 rfl) ?_
  refine lv_aload_n hx hb dL_law_1083 rfl (lv_at hl 3 rfl) ?_
  refine lv_iload_n hx hb dL_law_1084 rfl (lv_at hl 0 rfl) ?_
  refine lv_iconst (v := 1) hx hb dL_law_1085 (by decide +kernel) ?_
  refine lv_iadd hx hb dL_law_1086 ?_
  refine tp_i 1 (by decide +kernel) ?_
  refine va_sld hx hb hX hbl hbA hS (vi_c (by decide +kernel)) dL_law_1087 ?_
  refine tp_i (xs 1) rfl ?_
  refine lv_aload_n hx hb dL_law_1088 rfl (lv_at hl 3 rfl) ?_
  refine lv_iload_n hx hb dL_law_1089 rfl (lv_at hl 0 rfl) ?_
  refine lv_iconst (v := 2) hx hb dL_law_1090 (by decide +kernel) ?_
  refine lv_iadd hx hb dL_law_1091 ?_
  refine tp_i 2 (by decide +kernel) ?_
  refine va_sld hx hb hX hbl hbA hS (vi_c (by decide +kernel)) dL_law_1092 ?_
  refine tp_i (xs 2) rfl ?_
  have hPc_3 := hP.sub (ws' := [(y0, .inr (12, [.int 0, .ref y1, .ref y2, .ref y3, .ref y4, .ref y5, .ref y6, .ref y7, .ref y8, .int 0, .int 0, .int 0, .int 0, .int 0, .long 0, .int 0, .int 0, .int 0, .ref y9, .ref y10, .int 0, .int 0, .int 0, .int 0, .int 0, .int 0, .int 0, .int 0, .int 0, .int 0, .ref y11, .ref y12, .ref y13, .int 0, .int 0, .int 0, .ref y14, .ref y15, .ref y16, .ref y17, .ref y18, .ref y19, .ref y20, .ref y21, .ref y22, .ref y23, .ref y24, .ref y25, .ref y26, .int 0, .int 0, .int 0, .ref y27, .ref y28, .ref y29, .int 0, .int 0, .int 0, .ref y30, .ref y31, .ref y32, .ref y33, .ref y34, .ref y35])), (y5, .inl (cy 0, 12, .inl (fun _ => 0)))]) [3, 4] rfl
  have hDc_4 := hD.sub (ws' := [(y0, .inr (12, [.int 0, .ref y1, .ref y2, .ref y3, .ref y4, .ref y5, .ref y6, .ref y7, .ref y8, .int 0, .int 0, .int 0, .int 0, .int 0, .long 0, .int 0, .int 0, .int 0, .ref y9, .ref y10, .int 0, .int 0, .int 0, .int 0, .int 0, .int 0, .int 0, .int 0, .int 0, .int 0, .ref y11, .ref y12, .ref y13, .int 0, .int 0, .int 0, .ref y14, .ref y15, .ref y16, .ref y17, .ref y18, .ref y19, .ref y20, .ref y21, .ref y22, .ref y23, .ref y24, .ref y25, .ref y26, .int 0, .int 0, .int 0, .ref y27, .ref y28, .ref y29, .int 0, .int 0, .int 0, .ref y30, .ref y31, .ref y32, .ref y33, .ref y34, .ref y35])), (y5, .inl (cy 0, 12, .inl (fun _ => 0)))]) [3, 4] (by decide) rfl
  have hFc_5 := va_free (wc := [(y0, .inr (12, [.int 0, .ref y1, .ref y2, .ref y3, .ref y4, .ref y5, .ref y6, .ref y7, .ref y8, .int 0, .int 0, .int 0, .int 0, .int 0, .long 0, .int 0, .int 0, .int 0, .ref y9, .ref y10, .int 0, .int 0, .int 0, .int 0, .int 0, .int 0, .int 0, .int 0, .int 0, .int 0, .ref y11, .ref y12, .ref y13, .int 0, .int 0, .int 0, .ref y14, .ref y15, .ref y16, .ref y17, .ref y18, .ref y19, .ref y20, .ref y21, .ref y22, .ref y23, .ref y24, .ref y25, .ref y26, .int 0, .int 0, .int 0, .ref y27, .ref y28, .ref y29, .int 0, .int 0, .int 0, .ref y30, .ref y31, .ref y32, .ref y33, .ref y34, .ref y35])), (y5, .inl (cy 0, 12, .inl (fun _ => 0)))]) hD hS hA [3, 4] rfl
  refine va_calli (va_runV (As := [.int (xs 1), .int (xs 2)]) (rest := [.int (-2)]) ⟨hx, hb, hml, hown, hts⟩ (c_X12_dispute l D cy y0 y1 y2 y3 y4 y5 y6 y7 y8 y9 y10 y11 y12 y13 y14 y15 y16 y17 y18 y19 y20 y21 y22 y23 y24 y25 y26 y27 y28 y29 y30 y31 y32 y33 y34 y35 (xs 1) (xs 2) H.size) (cwV 2 hts gL_law_X12_dispute rfl rfl rfl (by decide +kernel) ⟨Nat.le_of_ble_eq_true rfl, Nat.le_of_ble_eq_true rfl⟩) ⟨pwB, va_recv hK hPc_3 (ci := 12) (q0 := 0) rfl rfl, fun U hU hW => ⟨rfl, PW.of hU hW hKW hPc_3 hDc_4⟩⟩ rfl rfl hl.1 rfl (lv_room (Nat.le_of_ble_eq_true rfl)) dL_law_1093 ⟨by decide +kernel, by decide +kernel⟩) hS (fun q _ h => hFc_5 q h) hFc_5 (fun r_7 u t H1 locs ht hvm hw_6 hB hz1 hk1 hS => ?_)
  subst hw_6
  obtain ⟨hP1, hD1⟩ := hB
  rw [ht] at hP1
  obtain ⟨hP, hD⟩ := va_join (wr := [(x0, .inr (11, [.ref x1, .ref x2, .ref x3, .ref x4, .ref x5, .ref x6, .ref x7])), (x1, .inr (9, [.ref x8, .ref x9, .ref x10, .ref x11, .ref x12, .int 0, .int (-1)])), (x9, .inl (cy 0, 3, .inl (fun _ => 0)))]) (w1 := []) hP hD [3, 4] [0, 1, 2] rfl rfl (by decide) (by decide) hk1 hFc_5 hP1 hD1
  generalize H1 = H at hP hS ⊢
  have hP : va_P D vwCl [(x0, .inr (11, [.ref x1, .ref x2, .ref x3, .ref x4, .ref x5, .ref x6, .ref x7])), (x1, .inr (9, [.ref x8, .ref x9, .ref x10, .ref x11, .ref x12, .int 0, .int (-1)])), (x9, .inl (cy 0, 3, .inl (fun _ => 0)))] H := hP
  have hD : va_D A [(x0, .inr (11, [.ref x1, .ref x2, .ref x3, .ref x4, .ref x5, .ref x6, .ref x7])), (x1, .inr (9, [.ref x8, .ref x9, .ref x10, .ref x11, .ref x12, .int 0, .int (-1)])), (x9, .inl (cy 0, 3, .inl (fun _ => 0)))] := hD
  refine lv_icmp_eq (tgt := 1550) hx hb dL_law_1096 (by decide) (fun _ => ?_) (fun c_8 => absurd (by decide +kernel) c_8)
  exact lw_tail l C0 hAe hS (by decide +kernel) (by decide +kernel) ls (lv_sub hl [0, 3] rfl)
set_option maxHeartbeats 4000000 in
set_option maxRecDepth 100000 in
theorem lw_c21 {p : Program} {e : Env} {s : State} {m : MethodId} {below : List Frame} {meth : Method} {c : Code} (l : Launch) {b : Nat} {xs : Nat → Int32} (C0 : lw_At p s m meth c b 6 xs)  {A : Nat → Prop} (hAe : A = fun q : Nat => s.heap.size ≤ q) {D : va_G} {cy : Nat → ClassId} (hKW : KW D cy s) {x0 x1 x2 x3 x4 x5 x6 x7 x8 x9 x10 x11 x12 x13 x14 x15 x16 x17 x18 x19 x20 x21 x22 x23 x24 x25 x26 x27 x28 x29 x30 x31 x32 x33 x34 x35 x36 x37 x38 x39 x40 x41 x42 x43 x44 x45 x46 x47 x48 x49 x50 x51 x52 x53 x54 x55 x56 x57 x58 x59 x60 x61 x62 x63 x64 x65 x66 x67 x68 x69 x70 x71 x72 x73 x74 x75 x76 x77 x78 x79 x80 x81 x82 x83 x84 x85 x86 x87 x88 x89 x90 x91 y0 y1 y2 y3 y4 y5 y6 y7 y8 y9 y10 y11 y12 y13 y14 y15 y16 y17 y18 y19 y20 y21 y22 y23 y24 y25 y26 y27 y28 y29 y30 y31 y32 y33 y34 y35 : Nat} {H : Heap} {locs : List Loc} (hP : va_P D vwCl (WL cy x0 x1 x2 x3 x4 x5 x6 x7 x8 x9 x10 x11 x12 x13 x14 x15 x16 x17 x18 x19 x20 x21 x22 x23 x24 x25 x26 x27 x28 x29 x30 x31 x32 x33 x34 x35 x36 x37 x38 x39 x40 x41 x42 x43 x44 x45 x46 x47 x48 x49 x50 x51 x52 x53 x54 x55 x56 x57 x58 x59 x60 x61 x62 x63 x64 x65 x66 x67 x68 x69 x70 x71 x72 x73 x74 x75 x76 x77 x78 x79 x80 x81 x82 x83 x84 x85 x86 x87 x88 x89 x90 x91 y0 y1 y2 y3 y4 y5 y6 y7 y8 y9 y10 y11 y12 y13 y14 y15 y16 y17 y18 y19 y20 y21 y22 y23 y24 y25 y26 y27 y28 y29 y30 y31 y32 y33 y34 y35) H) (hD : va_D A (WL cy x0 x1 x2 x3 x4 x5 x6 x7 x8 x9 x10 x11 x12 x13 x14 x15 x16 x17 x18 x19 x20 x21 x22 x23 x24 x25 x26 x27 x28 x29 x30 x31 x32 x33 x34 x35 x36 x37 x38 x39 x40 x41 x42 x43 x44 x45 x46 x47 x48 x49 x50 x51 x52 x53 x54 x55 x56 x57 x58 x59 x60 x61 x62 x63 x64 x65 x66 x67 x68 x69 x70 x71 x72 x73 x74 x75 x76 x77 x78 x79 x80 x81 x82 x83 x84 x85 x86 x87 x88 x89 x90 x91 y0 y1 y2 y3 y4 y5 y6 y7 y8 y9 y10 y11 y12 y13 y14 y15 y16 y17 y18 y19 y20 y21 y22 y23 y24 y25 y26 y27 y28 y29 y30 y31 y32 y33 y34 y35)) (hS : va_S A s.heap H locs) (ls : Array Slot) (hl : lv_has ls 4 [(3, .int 0), (2, .ref y0), (1, .ref x0), (0, .ref b)]) : W p l e room_1 s m #[Value.ref b] below meth c H locs 128 11575 (lw_Z below #[Value.ref b] s) (F0 m 1101 ls []) := by
  obtain ⟨hx, hb, hr, hml, hown, hts0, hX, hbl, hlocks, hgv⟩ := id C0
  have hts : ∀ w ∈ wsL_law, w.before #[Value.ref b] s = true := fun w h => hts0 w (wsL_law_in w h)
  have hown : s.vm.findClass RL = some m.cls := hown
  have hK := hKW.1
  have hA : ∀ q : Nat, s.heap.size ≤ q → A q := fun _ h => by rw [hAe]; exact h
  have hbA : ¬ A b := by rw [hAe]; exact Nat.not_le.mpr hbl
  have hP := hP.sub (ws' := [(x0, .inr (11, [.ref x1, .ref x2, .ref x3, .ref x4, .ref x5, .ref x6, .ref x7])), (x1, .inr (9, [.ref x8, .ref x9, .ref x10, .ref x11, .ref x12, .int 0, .int (-1)])), (x9, .inl (cy 0, 3, .inl (fun _ => 0))), (y0, .inr (12, [.int 0, .ref y1, .ref y2, .ref y3, .ref y4, .ref y5, .ref y6, .ref y7, .ref y8, .int 0, .int 0, .int 0, .int 0, .int 0, .long 0, .int 0, .int 0, .int 0, .ref y9, .ref y10, .int 0, .int 0, .int 0, .int 0, .int 0, .int 0, .int 0, .int 0, .int 0, .int 0, .ref y11, .ref y12, .ref y13, .int 0, .int 0, .int 0, .ref y14, .ref y15, .ref y16, .ref y17, .ref y18, .ref y19, .ref y20, .ref y21, .ref y22, .ref y23, .ref y24, .ref y25, .ref y26, .int 0, .int 0, .int 0, .ref y27, .ref y28, .ref y29, .int 0, .int 0, .int 0, .ref y30, .ref y31, .ref y32, .ref y33, .ref y34, .ref y35])), (y5, .inl (cy 0, 12, .inl (fun _ => 0)))]) [0, 1, 4, 92, 97] rfl
  have hD := hD.sub (ws' := [(x0, .inr (11, [.ref x1, .ref x2, .ref x3, .ref x4, .ref x5, .ref x6, .ref x7])), (x1, .inr (9, [.ref x8, .ref x9, .ref x10, .ref x11, .ref x12, .int 0, .int (-1)])), (x9, .inl (cy 0, 3, .inl (fun _ => 0))), (y0, .inr (12, [.int 0, .ref y1, .ref y2, .ref y3, .ref y4, .ref y5, .ref y6, .ref y7, .ref y8, .int 0, .int 0, .int 0, .int 0, .int 0, .long 0, .int 0, .int 0, .int 0, .ref y9, .ref y10, .int 0, .int 0, .int 0, .int 0, .int 0, .int 0, .int 0, .int 0, .int 0, .int 0, .ref y11, .ref y12, .ref y13, .int 0, .int 0, .int 0, .ref y14, .ref y15, .ref y16, .ref y17, .ref y18, .ref y19, .ref y20, .ref y21, .ref y22, .ref y23, .ref y24, .ref y25, .ref y26, .int 0, .int 0, .int 0, .ref y27, .ref y28, .ref y29, .int 0, .int 0, .int 0, .ref y30, .ref y31, .ref y32, .ref y33, .ref y34, .ref y35])), (y5, .inl (cy 0, 12, .inl (fun _ => 0)))]) [0, 1, 4, 92, 97] (by decide) rfl
  refine lv_aload_n hx hb dL_law_1101 rfl (lv_at hl 2 rfl) ?_
  refine lv_aload_n hx hb dL_law_1102 rfl (lv_at hl 3 rfl) ?_
  refine lv_iload_n hx hb dL_law_1103 rfl (lv_at hl 0 rfl) ?_
  refine lv_iconst (v := 1) hx hb dL_law_1104 (by decide +kernel) ?_
  refine lv_iadd hx hb dL_law_1105 ?_
  refine tp_i 1 (by decide +kernel) ?_
  refine va_sld hx hb hX hbl hbA hS (vi_c (by decide +kernel)) dL_law_1106 ?_
  refine tp_i (xs 1) rfl ?_
  refine lv_aload_n hx hb dL_law_1107 rfl (lv_at hl 3 rfl) ?_
  refine lv_iload_n hx hb dL_law_1108 rfl (lv_at hl 0 rfl) ?_
  refine lv_iconst (v := 2) hx hb dL_law_1109 (by decide +kernel) ?_
  refine lv_iadd hx hb dL_law_1110 ?_
  refine tp_i 2 (by decide +kernel) ?_
  refine va_sld hx hb hX hbl hbA hS (vi_c (by decide +kernel)) dL_law_1111 ?_
  refine tp_i (xs 2) rfl ?_
  refine lv_aload_n hx hb dL_law_1112 rfl (lv_at hl 3 rfl) ?_
  refine lv_iload_n hx hb dL_law_1113 rfl (lv_at hl 0 rfl) ?_
  refine lv_iconst (v := 3) hx hb dL_law_1114 (by decide +kernel) ?_
  refine lv_iadd hx hb dL_law_1115 ?_
  refine tp_i 3 (by decide +kernel) ?_
  refine va_sld hx hb hX hbl hbA hS (vi_c (by decide +kernel)) dL_law_1116 ?_
  refine tp_i (xs 3) rfl ?_
  refine lv_if_eq (tgt := 1124) hx hb dL_law_1117 (by decide) (fun c_1 => ?_) (fun c_1 => ?_)
  · refine lv_iconst (v := 0) hx hb dL_law_1124 (by decide +kernel) ?_
    have hPc_2 := hP.sub (ws' := [(x0, .inr (11, [.ref x1, .ref x2, .ref x3, .ref x4, .ref x5, .ref x6, .ref x7])), (x1, .inr (9, [.ref x8, .ref x9, .ref x10, .ref x11, .ref x12, .int 0, .int (-1)])), (x9, .inl (cy 0, 3, .inl (fun _ => 0)))]) [0, 1, 2] rfl
    refine pc_i (va_runV (As := [.int (xs 1), .int (xs 2), .int 0]) (rest := []) ⟨hx, hb, hml, hown, hts⟩ (c_X11_hours l D cy x0 x2 x3 x4 x5 x6 x7 x1 x8 x9 x10 x11 x12 (xs 1) (xs 2) 0) (cwV 3 hts gL_law_X11_hours rfl rfl rfl (by decide +kernel) ⟨Nat.le_of_ble_eq_true rfl, Nat.le_of_ble_eq_true rfl⟩) ⟨prB, va_recv hK hPc_2 (ci := 11) (q0 := 0) rfl rfl, fun U hU hW => ⟨rfl, PR.of hU hW hKW hPc_2⟩⟩ rfl rfl hl.1 rfl (lv_room (Nat.le_of_ble_eq_true rfl)) dL_law_1125 ⟨by decide +kernel, by decide +kernel⟩) (fun r_3 hr_3 => ?_)
    subst hr_3
    refine lv_aload_n hx hb dL_law_1128 rfl (lv_at hl 1 rfl) ?_
    refine lv_aload_n hx hb dL_law_1129 rfl (lv_at hl 3 rfl) ?_
    refine lv_iload_n hx hb dL_law_1130 rfl (lv_at hl 0 rfl) ?_
    refine lv_iconst (v := 1) hx hb dL_law_1131 (by decide +kernel) ?_
    refine lv_iadd hx hb dL_law_1132 ?_
    refine tp_i 1 (by decide +kernel) ?_
    refine va_sld hx hb hX hbl hbA hS (vi_c (by decide +kernel)) dL_law_1133 ?_
    refine tp_i (xs 1) rfl ?_
    refine lv_aload_n hx hb dL_law_1134 rfl (lv_at hl 3 rfl) ?_
    refine lv_iload_n hx hb dL_law_1135 rfl (lv_at hl 0 rfl) ?_
    refine lv_iconst (v := 2) hx hb dL_law_1136 (by decide +kernel) ?_
    refine lv_iadd hx hb dL_law_1137 ?_
    refine tp_i 2 (by decide +kernel) ?_
    refine va_sld hx hb hX hbl hbA hS (vi_c (by decide +kernel)) dL_law_1138 ?_
    refine tp_i (xs 2) rfl ?_
    refine lv_aload_n hx hb dL_law_1139 rfl (lv_at hl 3 rfl) ?_
    refine lv_iload_n hx hb dL_law_1140 rfl (lv_at hl 0 rfl) ?_
    refine lv_iconst (v := 3) hx hb dL_law_1141 (by decide +kernel) ?_
    refine lv_iadd hx hb dL_law_1142 ?_
    refine tp_i 3 (by decide +kernel) ?_
    refine va_sld hx hb hX hbl hbA hS (vi_c (by decide +kernel)) dL_law_1143 ?_
    refine tp_i (xs 3) rfl ?_
    refine lv_if_eq (tgt := 1151) hx hb dL_law_1144 (by decide) (fun c_4 => ?_) (fun c_4 => ?_)
    · refine lv_iconst (v := 0) hx hb dL_law_1151 (by decide +kernel) ?_
      have hPc_5 := hP.sub (ws' := [(y0, .inr (12, [.int 0, .ref y1, .ref y2, .ref y3, .ref y4, .ref y5, .ref y6, .ref y7, .ref y8, .int 0, .int 0, .int 0, .int 0, .int 0, .long 0, .int 0, .int 0, .int 0, .ref y9, .ref y10, .int 0, .int 0, .int 0, .int 0, .int 0, .int 0, .int 0, .int 0, .int 0, .int 0, .ref y11, .ref y12, .ref y13, .int 0, .int 0, .int 0, .ref y14, .ref y15, .ref y16, .ref y17, .ref y18, .ref y19, .ref y20, .ref y21, .ref y22, .ref y23, .ref y24, .ref y25, .ref y26, .int 0, .int 0, .int 0, .ref y27, .ref y28, .ref y29, .int 0, .int 0, .int 0, .ref y30, .ref y31, .ref y32, .ref y33, .ref y34, .ref y35])), (y5, .inl (cy 0, 12, .inl (fun _ => 0)))]) [3, 4] rfl
      have hDc_6 := hD.sub (ws' := [(y0, .inr (12, [.int 0, .ref y1, .ref y2, .ref y3, .ref y4, .ref y5, .ref y6, .ref y7, .ref y8, .int 0, .int 0, .int 0, .int 0, .int 0, .long 0, .int 0, .int 0, .int 0, .ref y9, .ref y10, .int 0, .int 0, .int 0, .int 0, .int 0, .int 0, .int 0, .int 0, .int 0, .int 0, .ref y11, .ref y12, .ref y13, .int 0, .int 0, .int 0, .ref y14, .ref y15, .ref y16, .ref y17, .ref y18, .ref y19, .ref y20, .ref y21, .ref y22, .ref y23, .ref y24, .ref y25, .ref y26, .int 0, .int 0, .int 0, .ref y27, .ref y28, .ref y29, .int 0, .int 0, .int 0, .ref y30, .ref y31, .ref y32, .ref y33, .ref y34, .ref y35])), (y5, .inl (cy 0, 12, .inl (fun _ => 0)))]) [3, 4] (by decide) rfl
      have hFc_7 := va_free (wc := [(y0, .inr (12, [.int 0, .ref y1, .ref y2, .ref y3, .ref y4, .ref y5, .ref y6, .ref y7, .ref y8, .int 0, .int 0, .int 0, .int 0, .int 0, .long 0, .int 0, .int 0, .int 0, .ref y9, .ref y10, .int 0, .int 0, .int 0, .int 0, .int 0, .int 0, .int 0, .int 0, .int 0, .int 0, .ref y11, .ref y12, .ref y13, .int 0, .int 0, .int 0, .ref y14, .ref y15, .ref y16, .ref y17, .ref y18, .ref y19, .ref y20, .ref y21, .ref y22, .ref y23, .ref y24, .ref y25, .ref y26, .int 0, .int 0, .int 0, .ref y27, .ref y28, .ref y29, .int 0, .int 0, .int 0, .ref y30, .ref y31, .ref y32, .ref y33, .ref y34, .ref y35])), (y5, .inl (cy 0, 12, .inl (fun _ => 0)))]) hD hS hA [3, 4] rfl
      refine va_calli (va_runV (As := [.int (xs 1), .int (xs 2), .int 0]) (rest := [.int (-1)]) ⟨hx, hb, hml, hown, hts⟩ (c_X12_hours l D cy y0 y1 y2 y3 y4 y5 y6 y7 y8 y9 y10 y11 y12 y13 y14 y15 y16 y17 y18 y19 y20 y21 y22 y23 y24 y25 y26 y27 y28 y29 y30 y31 y32 y33 y34 y35 (xs 1) (xs 2) 0 H.size) (cwV 3 hts gL_law_X12_hours rfl rfl rfl (by decide +kernel) ⟨Nat.le_of_ble_eq_true rfl, Nat.le_of_ble_eq_true rfl⟩) ⟨pwB, va_recv hK hPc_5 (ci := 12) (q0 := 0) rfl rfl, fun U hU hW => ⟨rfl, PW.of hU hW hKW hPc_5 hDc_6⟩⟩ rfl rfl hl.1 rfl (lv_room (Nat.le_of_ble_eq_true rfl)) dL_law_1152 ⟨by decide +kernel, by decide +kernel⟩) hS (fun q _ h => hFc_7 q h) hFc_7 (fun r_9 u t H1 locs ht hvm hw_8 hB hz1 hk1 hS => ?_)
      subst hw_8
      obtain ⟨hP1, hD1⟩ := hB
      rw [ht] at hP1
      obtain ⟨hP, hD⟩ := va_join (wr := [(x0, .inr (11, [.ref x1, .ref x2, .ref x3, .ref x4, .ref x5, .ref x6, .ref x7])), (x1, .inr (9, [.ref x8, .ref x9, .ref x10, .ref x11, .ref x12, .int 0, .int (-1)])), (x9, .inl (cy 0, 3, .inl (fun _ => 0)))]) (w1 := []) hP hD [3, 4] [0, 1, 2] rfl rfl (by decide) (by decide) hk1 hFc_7 hP1 hD1
      generalize H1 = H at hP hS ⊢
      have hP : va_P D vwCl [(x0, .inr (11, [.ref x1, .ref x2, .ref x3, .ref x4, .ref x5, .ref x6, .ref x7])), (x1, .inr (9, [.ref x8, .ref x9, .ref x10, .ref x11, .ref x12, .int 0, .int (-1)])), (x9, .inl (cy 0, 3, .inl (fun _ => 0)))] H := hP
      have hD : va_D A [(x0, .inr (11, [.ref x1, .ref x2, .ref x3, .ref x4, .ref x5, .ref x6, .ref x7])), (x1, .inr (9, [.ref x8, .ref x9, .ref x10, .ref x11, .ref x12, .int 0, .int (-1)])), (x9, .inl (cy 0, 3, .inl (fun _ => 0)))] := hD
      refine lv_icmp_eq (tgt := 1550) hx hb dL_law_1155 (by decide) (fun _ => ?_) (fun c_10 => absurd (by decide +kernel) c_10)
      exact lw_tail l C0 hAe hS (by decide +kernel) (by decide +kernel) ls (lv_sub hl [0, 3] rfl)
    · refine lv_iconst (v := 1) hx hb dL_law_1147 (by decide +kernel) ?_
      refine lv_goto (tgt := 1152) hx hb dL_law_1148 (by decide) ?_
      have hPc_11 := hP.sub (ws' := [(y0, .inr (12, [.int 0, .ref y1, .ref y2, .ref y3, .ref y4, .ref y5, .ref y6, .ref y7, .ref y8, .int 0, .int 0, .int 0, .int 0, .int 0, .long 0, .int 0, .int 0, .int 0, .ref y9, .ref y10, .int 0, .int 0, .int 0, .int 0, .int 0, .int 0, .int 0, .int 0, .int 0, .int 0, .ref y11, .ref y12, .ref y13, .int 0, .int 0, .int 0, .ref y14, .ref y15, .ref y16, .ref y17, .ref y18, .ref y19, .ref y20, .ref y21, .ref y22, .ref y23, .ref y24, .ref y25, .ref y26, .int 0, .int 0, .int 0, .ref y27, .ref y28, .ref y29, .int 0, .int 0, .int 0, .ref y30, .ref y31, .ref y32, .ref y33, .ref y34, .ref y35])), (y5, .inl (cy 0, 12, .inl (fun _ => 0)))]) [3, 4] rfl
      have hDc_12 := hD.sub (ws' := [(y0, .inr (12, [.int 0, .ref y1, .ref y2, .ref y3, .ref y4, .ref y5, .ref y6, .ref y7, .ref y8, .int 0, .int 0, .int 0, .int 0, .int 0, .long 0, .int 0, .int 0, .int 0, .ref y9, .ref y10, .int 0, .int 0, .int 0, .int 0, .int 0, .int 0, .int 0, .int 0, .int 0, .int 0, .ref y11, .ref y12, .ref y13, .int 0, .int 0, .int 0, .ref y14, .ref y15, .ref y16, .ref y17, .ref y18, .ref y19, .ref y20, .ref y21, .ref y22, .ref y23, .ref y24, .ref y25, .ref y26, .int 0, .int 0, .int 0, .ref y27, .ref y28, .ref y29, .int 0, .int 0, .int 0, .ref y30, .ref y31, .ref y32, .ref y33, .ref y34, .ref y35])), (y5, .inl (cy 0, 12, .inl (fun _ => 0)))]) [3, 4] (by decide) rfl
      have hFc_13 := va_free (wc := [(y0, .inr (12, [.int 0, .ref y1, .ref y2, .ref y3, .ref y4, .ref y5, .ref y6, .ref y7, .ref y8, .int 0, .int 0, .int 0, .int 0, .int 0, .long 0, .int 0, .int 0, .int 0, .ref y9, .ref y10, .int 0, .int 0, .int 0, .int 0, .int 0, .int 0, .int 0, .int 0, .int 0, .int 0, .ref y11, .ref y12, .ref y13, .int 0, .int 0, .int 0, .ref y14, .ref y15, .ref y16, .ref y17, .ref y18, .ref y19, .ref y20, .ref y21, .ref y22, .ref y23, .ref y24, .ref y25, .ref y26, .int 0, .int 0, .int 0, .ref y27, .ref y28, .ref y29, .int 0, .int 0, .int 0, .ref y30, .ref y31, .ref y32, .ref y33, .ref y34, .ref y35])), (y5, .inl (cy 0, 12, .inl (fun _ => 0)))]) hD hS hA [3, 4] rfl
      refine va_calli (va_runV (As := [.int (xs 1), .int (xs 2), .int 1]) (rest := [.int (-1)]) ⟨hx, hb, hml, hown, hts⟩ (c_X12_hours l D cy y0 y1 y2 y3 y4 y5 y6 y7 y8 y9 y10 y11 y12 y13 y14 y15 y16 y17 y18 y19 y20 y21 y22 y23 y24 y25 y26 y27 y28 y29 y30 y31 y32 y33 y34 y35 (xs 1) (xs 2) 1 H.size) (cwV 3 hts gL_law_X12_hours rfl rfl rfl (by decide +kernel) ⟨Nat.le_of_ble_eq_true rfl, Nat.le_of_ble_eq_true rfl⟩) ⟨pwB, va_recv hK hPc_11 (ci := 12) (q0 := 0) rfl rfl, fun U hU hW => ⟨rfl, PW.of hU hW hKW hPc_11 hDc_12⟩⟩ rfl rfl hl.1 rfl (lv_room (Nat.le_of_ble_eq_true rfl)) dL_law_1152 ⟨by decide +kernel, by decide +kernel⟩) hS (fun q _ h => hFc_13 q h) hFc_13 (fun r_15 u t H1 locs ht hvm hw_14 hB hz1 hk1 hS => ?_)
      subst hw_14
      obtain ⟨hP1, hD1⟩ := hB
      rw [ht] at hP1
      obtain ⟨hP, hD⟩ := va_join (wr := [(x0, .inr (11, [.ref x1, .ref x2, .ref x3, .ref x4, .ref x5, .ref x6, .ref x7])), (x1, .inr (9, [.ref x8, .ref x9, .ref x10, .ref x11, .ref x12, .int 0, .int (-1)])), (x9, .inl (cy 0, 3, .inl (fun _ => 0)))]) (w1 := []) hP hD [3, 4] [0, 1, 2] rfl rfl (by decide) (by decide) hk1 hFc_13 hP1 hD1
      generalize H1 = H at hP hS ⊢
      have hP : va_P D vwCl [(x0, .inr (11, [.ref x1, .ref x2, .ref x3, .ref x4, .ref x5, .ref x6, .ref x7])), (x1, .inr (9, [.ref x8, .ref x9, .ref x10, .ref x11, .ref x12, .int 0, .int (-1)])), (x9, .inl (cy 0, 3, .inl (fun _ => 0)))] H := hP
      have hD : va_D A [(x0, .inr (11, [.ref x1, .ref x2, .ref x3, .ref x4, .ref x5, .ref x6, .ref x7])), (x1, .inr (9, [.ref x8, .ref x9, .ref x10, .ref x11, .ref x12, .int 0, .int (-1)])), (x9, .inl (cy 0, 3, .inl (fun _ => 0)))] := hD
      refine lv_icmp_eq (tgt := 1550) hx hb dL_law_1155 (by decide) (fun _ => ?_) (fun c_16 => absurd (by decide +kernel) c_16)
      exact lw_tail l C0 hAe hS (by decide +kernel) (by decide +kernel) ls (lv_sub hl [0, 3] rfl)
  · refine lv_iconst (v := 1) hx hb dL_law_1120 (by decide +kernel) ?_
    refine lv_goto (tgt := 1125) hx hb dL_law_1121 (by decide) ?_
    have hPc_17 := hP.sub (ws' := [(x0, .inr (11, [.ref x1, .ref x2, .ref x3, .ref x4, .ref x5, .ref x6, .ref x7])), (x1, .inr (9, [.ref x8, .ref x9, .ref x10, .ref x11, .ref x12, .int 0, .int (-1)])), (x9, .inl (cy 0, 3, .inl (fun _ => 0)))]) [0, 1, 2] rfl
    refine pc_i (va_runV (As := [.int (xs 1), .int (xs 2), .int 1]) (rest := []) ⟨hx, hb, hml, hown, hts⟩ (c_X11_hours l D cy x0 x2 x3 x4 x5 x6 x7 x1 x8 x9 x10 x11 x12 (xs 1) (xs 2) 1) (cwV 3 hts gL_law_X11_hours rfl rfl rfl (by decide +kernel) ⟨Nat.le_of_ble_eq_true rfl, Nat.le_of_ble_eq_true rfl⟩) ⟨prB, va_recv hK hPc_17 (ci := 11) (q0 := 0) rfl rfl, fun U hU hW => ⟨rfl, PR.of hU hW hKW hPc_17⟩⟩ rfl rfl hl.1 rfl (lv_room (Nat.le_of_ble_eq_true rfl)) dL_law_1125 ⟨by decide +kernel, by decide +kernel⟩) (fun r_18 hr_18 => ?_)
    subst hr_18
    refine lv_aload_n hx hb dL_law_1128 rfl (lv_at hl 1 rfl) ?_
    refine lv_aload_n hx hb dL_law_1129 rfl (lv_at hl 3 rfl) ?_
    refine lv_iload_n hx hb dL_law_1130 rfl (lv_at hl 0 rfl) ?_
    refine lv_iconst (v := 1) hx hb dL_law_1131 (by decide +kernel) ?_
    refine lv_iadd hx hb dL_law_1132 ?_
    refine tp_i 1 (by decide +kernel) ?_
    refine va_sld hx hb hX hbl hbA hS (vi_c (by decide +kernel)) dL_law_1133 ?_
    refine tp_i (xs 1) rfl ?_
    refine lv_aload_n hx hb dL_law_1134 rfl (lv_at hl 3 rfl) ?_
    refine lv_iload_n hx hb dL_law_1135 rfl (lv_at hl 0 rfl) ?_
    refine lv_iconst (v := 2) hx hb dL_law_1136 (by decide +kernel) ?_
    refine lv_iadd hx hb dL_law_1137 ?_
    refine tp_i 2 (by decide +kernel) ?_
    refine va_sld hx hb hX hbl hbA hS (vi_c (by decide +kernel)) dL_law_1138 ?_
    refine tp_i (xs 2) rfl ?_
    refine lv_aload_n hx hb dL_law_1139 rfl (lv_at hl 3 rfl) ?_
    refine lv_iload_n hx hb dL_law_1140 rfl (lv_at hl 0 rfl) ?_
    refine lv_iconst (v := 3) hx hb dL_law_1141 (by decide +kernel) ?_
    refine lv_iadd hx hb dL_law_1142 ?_
    refine tp_i 3 (by decide +kernel) ?_
    refine va_sld hx hb hX hbl hbA hS (vi_c (by decide +kernel)) dL_law_1143 ?_
    refine tp_i (xs 3) rfl ?_
    refine lv_if_eq (tgt := 1151) hx hb dL_law_1144 (by decide) (fun c_19 => ?_) (fun c_19 => ?_)
    · refine lv_iconst (v := 0) hx hb dL_law_1151 (by decide +kernel) ?_
      have hPc_20 := hP.sub (ws' := [(y0, .inr (12, [.int 0, .ref y1, .ref y2, .ref y3, .ref y4, .ref y5, .ref y6, .ref y7, .ref y8, .int 0, .int 0, .int 0, .int 0, .int 0, .long 0, .int 0, .int 0, .int 0, .ref y9, .ref y10, .int 0, .int 0, .int 0, .int 0, .int 0, .int 0, .int 0, .int 0, .int 0, .int 0, .ref y11, .ref y12, .ref y13, .int 0, .int 0, .int 0, .ref y14, .ref y15, .ref y16, .ref y17, .ref y18, .ref y19, .ref y20, .ref y21, .ref y22, .ref y23, .ref y24, .ref y25, .ref y26, .int 0, .int 0, .int 0, .ref y27, .ref y28, .ref y29, .int 0, .int 0, .int 0, .ref y30, .ref y31, .ref y32, .ref y33, .ref y34, .ref y35])), (y5, .inl (cy 0, 12, .inl (fun _ => 0)))]) [3, 4] rfl
      have hDc_21 := hD.sub (ws' := [(y0, .inr (12, [.int 0, .ref y1, .ref y2, .ref y3, .ref y4, .ref y5, .ref y6, .ref y7, .ref y8, .int 0, .int 0, .int 0, .int 0, .int 0, .long 0, .int 0, .int 0, .int 0, .ref y9, .ref y10, .int 0, .int 0, .int 0, .int 0, .int 0, .int 0, .int 0, .int 0, .int 0, .int 0, .ref y11, .ref y12, .ref y13, .int 0, .int 0, .int 0, .ref y14, .ref y15, .ref y16, .ref y17, .ref y18, .ref y19, .ref y20, .ref y21, .ref y22, .ref y23, .ref y24, .ref y25, .ref y26, .int 0, .int 0, .int 0, .ref y27, .ref y28, .ref y29, .int 0, .int 0, .int 0, .ref y30, .ref y31, .ref y32, .ref y33, .ref y34, .ref y35])), (y5, .inl (cy 0, 12, .inl (fun _ => 0)))]) [3, 4] (by decide) rfl
      have hFc_22 := va_free (wc := [(y0, .inr (12, [.int 0, .ref y1, .ref y2, .ref y3, .ref y4, .ref y5, .ref y6, .ref y7, .ref y8, .int 0, .int 0, .int 0, .int 0, .int 0, .long 0, .int 0, .int 0, .int 0, .ref y9, .ref y10, .int 0, .int 0, .int 0, .int 0, .int 0, .int 0, .int 0, .int 0, .int 0, .int 0, .ref y11, .ref y12, .ref y13, .int 0, .int 0, .int 0, .ref y14, .ref y15, .ref y16, .ref y17, .ref y18, .ref y19, .ref y20, .ref y21, .ref y22, .ref y23, .ref y24, .ref y25, .ref y26, .int 0, .int 0, .int 0, .ref y27, .ref y28, .ref y29, .int 0, .int 0, .int 0, .ref y30, .ref y31, .ref y32, .ref y33, .ref y34, .ref y35])), (y5, .inl (cy 0, 12, .inl (fun _ => 0)))]) hD hS hA [3, 4] rfl
      refine va_calli (va_runV (As := [.int (xs 1), .int (xs 2), .int 0]) (rest := [.int (-1)]) ⟨hx, hb, hml, hown, hts⟩ (c_X12_hours l D cy y0 y1 y2 y3 y4 y5 y6 y7 y8 y9 y10 y11 y12 y13 y14 y15 y16 y17 y18 y19 y20 y21 y22 y23 y24 y25 y26 y27 y28 y29 y30 y31 y32 y33 y34 y35 (xs 1) (xs 2) 0 H.size) (cwV 3 hts gL_law_X12_hours rfl rfl rfl (by decide +kernel) ⟨Nat.le_of_ble_eq_true rfl, Nat.le_of_ble_eq_true rfl⟩) ⟨pwB, va_recv hK hPc_20 (ci := 12) (q0 := 0) rfl rfl, fun U hU hW => ⟨rfl, PW.of hU hW hKW hPc_20 hDc_21⟩⟩ rfl rfl hl.1 rfl (lv_room (Nat.le_of_ble_eq_true rfl)) dL_law_1152 ⟨by decide +kernel, by decide +kernel⟩) hS (fun q _ h => hFc_22 q h) hFc_22 (fun r_24 u t H1 locs ht hvm hw_23 hB hz1 hk1 hS => ?_)
      subst hw_23
      obtain ⟨hP1, hD1⟩ := hB
      rw [ht] at hP1
      obtain ⟨hP, hD⟩ := va_join (wr := [(x0, .inr (11, [.ref x1, .ref x2, .ref x3, .ref x4, .ref x5, .ref x6, .ref x7])), (x1, .inr (9, [.ref x8, .ref x9, .ref x10, .ref x11, .ref x12, .int 0, .int (-1)])), (x9, .inl (cy 0, 3, .inl (fun _ => 0)))]) (w1 := []) hP hD [3, 4] [0, 1, 2] rfl rfl (by decide) (by decide) hk1 hFc_22 hP1 hD1
      generalize H1 = H at hP hS ⊢
      have hP : va_P D vwCl [(x0, .inr (11, [.ref x1, .ref x2, .ref x3, .ref x4, .ref x5, .ref x6, .ref x7])), (x1, .inr (9, [.ref x8, .ref x9, .ref x10, .ref x11, .ref x12, .int 0, .int (-1)])), (x9, .inl (cy 0, 3, .inl (fun _ => 0)))] H := hP
      have hD : va_D A [(x0, .inr (11, [.ref x1, .ref x2, .ref x3, .ref x4, .ref x5, .ref x6, .ref x7])), (x1, .inr (9, [.ref x8, .ref x9, .ref x10, .ref x11, .ref x12, .int 0, .int (-1)])), (x9, .inl (cy 0, 3, .inl (fun _ => 0)))] := hD
      refine lv_icmp_eq (tgt := 1550) hx hb dL_law_1155 (by decide) (fun _ => ?_) (fun c_25 => absurd (by decide +kernel) c_25)
      exact lw_tail l C0 hAe hS (by decide +kernel) (by decide +kernel) ls (lv_sub hl [0, 3] rfl)
    · refine lv_iconst (v := 1) hx hb dL_law_1147 (by decide +kernel) ?_
      refine lv_goto (tgt := 1152) hx hb dL_law_1148 (by decide) ?_
      have hPc_26 := hP.sub (ws' := [(y0, .inr (12, [.int 0, .ref y1, .ref y2, .ref y3, .ref y4, .ref y5, .ref y6, .ref y7, .ref y8, .int 0, .int 0, .int 0, .int 0, .int 0, .long 0, .int 0, .int 0, .int 0, .ref y9, .ref y10, .int 0, .int 0, .int 0, .int 0, .int 0, .int 0, .int 0, .int 0, .int 0, .int 0, .ref y11, .ref y12, .ref y13, .int 0, .int 0, .int 0, .ref y14, .ref y15, .ref y16, .ref y17, .ref y18, .ref y19, .ref y20, .ref y21, .ref y22, .ref y23, .ref y24, .ref y25, .ref y26, .int 0, .int 0, .int 0, .ref y27, .ref y28, .ref y29, .int 0, .int 0, .int 0, .ref y30, .ref y31, .ref y32, .ref y33, .ref y34, .ref y35])), (y5, .inl (cy 0, 12, .inl (fun _ => 0)))]) [3, 4] rfl
      have hDc_27 := hD.sub (ws' := [(y0, .inr (12, [.int 0, .ref y1, .ref y2, .ref y3, .ref y4, .ref y5, .ref y6, .ref y7, .ref y8, .int 0, .int 0, .int 0, .int 0, .int 0, .long 0, .int 0, .int 0, .int 0, .ref y9, .ref y10, .int 0, .int 0, .int 0, .int 0, .int 0, .int 0, .int 0, .int 0, .int 0, .int 0, .ref y11, .ref y12, .ref y13, .int 0, .int 0, .int 0, .ref y14, .ref y15, .ref y16, .ref y17, .ref y18, .ref y19, .ref y20, .ref y21, .ref y22, .ref y23, .ref y24, .ref y25, .ref y26, .int 0, .int 0, .int 0, .ref y27, .ref y28, .ref y29, .int 0, .int 0, .int 0, .ref y30, .ref y31, .ref y32, .ref y33, .ref y34, .ref y35])), (y5, .inl (cy 0, 12, .inl (fun _ => 0)))]) [3, 4] (by decide) rfl
      have hFc_28 := va_free (wc := [(y0, .inr (12, [.int 0, .ref y1, .ref y2, .ref y3, .ref y4, .ref y5, .ref y6, .ref y7, .ref y8, .int 0, .int 0, .int 0, .int 0, .int 0, .long 0, .int 0, .int 0, .int 0, .ref y9, .ref y10, .int 0, .int 0, .int 0, .int 0, .int 0, .int 0, .int 0, .int 0, .int 0, .int 0, .ref y11, .ref y12, .ref y13, .int 0, .int 0, .int 0, .ref y14, .ref y15, .ref y16, .ref y17, .ref y18, .ref y19, .ref y20, .ref y21, .ref y22, .ref y23, .ref y24, .ref y25, .ref y26, .int 0, .int 0, .int 0, .ref y27, .ref y28, .ref y29, .int 0, .int 0, .int 0, .ref y30, .ref y31, .ref y32, .ref y33, .ref y34, .ref y35])), (y5, .inl (cy 0, 12, .inl (fun _ => 0)))]) hD hS hA [3, 4] rfl
      refine va_calli (va_runV (As := [.int (xs 1), .int (xs 2), .int 1]) (rest := [.int (-1)]) ⟨hx, hb, hml, hown, hts⟩ (c_X12_hours l D cy y0 y1 y2 y3 y4 y5 y6 y7 y8 y9 y10 y11 y12 y13 y14 y15 y16 y17 y18 y19 y20 y21 y22 y23 y24 y25 y26 y27 y28 y29 y30 y31 y32 y33 y34 y35 (xs 1) (xs 2) 1 H.size) (cwV 3 hts gL_law_X12_hours rfl rfl rfl (by decide +kernel) ⟨Nat.le_of_ble_eq_true rfl, Nat.le_of_ble_eq_true rfl⟩) ⟨pwB, va_recv hK hPc_26 (ci := 12) (q0 := 0) rfl rfl, fun U hU hW => ⟨rfl, PW.of hU hW hKW hPc_26 hDc_27⟩⟩ rfl rfl hl.1 rfl (lv_room (Nat.le_of_ble_eq_true rfl)) dL_law_1152 ⟨by decide +kernel, by decide +kernel⟩) hS (fun q _ h => hFc_28 q h) hFc_28 (fun r_30 u t H1 locs ht hvm hw_29 hB hz1 hk1 hS => ?_)
      subst hw_29
      obtain ⟨hP1, hD1⟩ := hB
      rw [ht] at hP1
      obtain ⟨hP, hD⟩ := va_join (wr := [(x0, .inr (11, [.ref x1, .ref x2, .ref x3, .ref x4, .ref x5, .ref x6, .ref x7])), (x1, .inr (9, [.ref x8, .ref x9, .ref x10, .ref x11, .ref x12, .int 0, .int (-1)])), (x9, .inl (cy 0, 3, .inl (fun _ => 0)))]) (w1 := []) hP hD [3, 4] [0, 1, 2] rfl rfl (by decide) (by decide) hk1 hFc_28 hP1 hD1
      generalize H1 = H at hP hS ⊢
      have hP : va_P D vwCl [(x0, .inr (11, [.ref x1, .ref x2, .ref x3, .ref x4, .ref x5, .ref x6, .ref x7])), (x1, .inr (9, [.ref x8, .ref x9, .ref x10, .ref x11, .ref x12, .int 0, .int (-1)])), (x9, .inl (cy 0, 3, .inl (fun _ => 0)))] H := hP
      have hD : va_D A [(x0, .inr (11, [.ref x1, .ref x2, .ref x3, .ref x4, .ref x5, .ref x6, .ref x7])), (x1, .inr (9, [.ref x8, .ref x9, .ref x10, .ref x11, .ref x12, .int 0, .int (-1)])), (x9, .inl (cy 0, 3, .inl (fun _ => 0)))] := hD
      refine lv_icmp_eq (tgt := 1550) hx hb dL_law_1155 (by decide) (fun _ => ?_) (fun c_31 => absurd (by decide +kernel) c_31)
      exact lw_tail l C0 hAe hS (by decide +kernel) (by decide +kernel) ls (lv_sub hl [0, 3] rfl)
set_option maxHeartbeats 4000000 in
set_option maxRecDepth 100000 in
theorem lw_c22 {p : Program} {e : Env} {s : State} {m : MethodId} {below : List Frame} {meth : Method} {c : Code} (l : Launch) {b : Nat} {xs : Nat → Int32} (C0 : lw_At p s m meth c b 6 xs)  {A : Nat → Prop} (hAe : A = fun q : Nat => s.heap.size ≤ q) {D : va_G} {cy : Nat → ClassId} (hKW : KW D cy s) {x0 x1 x2 x3 x4 x5 x6 x7 x8 x9 x10 x11 x12 x13 x14 x15 x16 x17 x18 x19 x20 x21 x22 x23 x24 x25 x26 x27 x28 x29 x30 x31 x32 x33 x34 x35 x36 x37 x38 x39 x40 x41 x42 x43 x44 x45 x46 x47 x48 x49 x50 x51 x52 x53 x54 x55 x56 x57 x58 x59 x60 x61 x62 x63 x64 x65 x66 x67 x68 x69 x70 x71 x72 x73 x74 x75 x76 x77 x78 x79 x80 x81 x82 x83 x84 x85 x86 x87 x88 x89 x90 x91 y0 y1 y2 y3 y4 y5 y6 y7 y8 y9 y10 y11 y12 y13 y14 y15 y16 y17 y18 y19 y20 y21 y22 y23 y24 y25 y26 y27 y28 y29 y30 y31 y32 y33 y34 y35 : Nat} {H : Heap} {locs : List Loc} (hP : va_P D vwCl (WL cy x0 x1 x2 x3 x4 x5 x6 x7 x8 x9 x10 x11 x12 x13 x14 x15 x16 x17 x18 x19 x20 x21 x22 x23 x24 x25 x26 x27 x28 x29 x30 x31 x32 x33 x34 x35 x36 x37 x38 x39 x40 x41 x42 x43 x44 x45 x46 x47 x48 x49 x50 x51 x52 x53 x54 x55 x56 x57 x58 x59 x60 x61 x62 x63 x64 x65 x66 x67 x68 x69 x70 x71 x72 x73 x74 x75 x76 x77 x78 x79 x80 x81 x82 x83 x84 x85 x86 x87 x88 x89 x90 x91 y0 y1 y2 y3 y4 y5 y6 y7 y8 y9 y10 y11 y12 y13 y14 y15 y16 y17 y18 y19 y20 y21 y22 y23 y24 y25 y26 y27 y28 y29 y30 y31 y32 y33 y34 y35) H) (hD : va_D A (WL cy x0 x1 x2 x3 x4 x5 x6 x7 x8 x9 x10 x11 x12 x13 x14 x15 x16 x17 x18 x19 x20 x21 x22 x23 x24 x25 x26 x27 x28 x29 x30 x31 x32 x33 x34 x35 x36 x37 x38 x39 x40 x41 x42 x43 x44 x45 x46 x47 x48 x49 x50 x51 x52 x53 x54 x55 x56 x57 x58 x59 x60 x61 x62 x63 x64 x65 x66 x67 x68 x69 x70 x71 x72 x73 x74 x75 x76 x77 x78 x79 x80 x81 x82 x83 x84 x85 x86 x87 x88 x89 x90 x91 y0 y1 y2 y3 y4 y5 y6 y7 y8 y9 y10 y11 y12 y13 y14 y15 y16 y17 y18 y19 y20 y21 y22 y23 y24 y25 y26 y27 y28 y29 y30 y31 y32 y33 y34 y35)) (hS : va_S A s.heap H locs) (ls : Array Slot) (hl : lv_has ls 4 [(3, .int 0), (2, .ref y0), (1, .ref x0), (0, .ref b)]) : W p l e room_1 s m #[Value.ref b] below meth c H locs 128 11575 (lw_Z below #[Value.ref b] s) (F0 m 1160 ls []) := by
  obtain ⟨hx, hb, hr, hml, hown, hts0, hX, hbl, hlocks, hgv⟩ := id C0
  have hts : ∀ w ∈ wsL_law, w.before #[Value.ref b] s = true := fun w h => hts0 w (wsL_law_in w h)
  have hown : s.vm.findClass RL = some m.cls := hown
  have hK := hKW.1
  have hA : ∀ q : Nat, s.heap.size ≤ q → A q := fun _ h => by rw [hAe]; exact h
  have hbA : ¬ A b := by rw [hAe]; exact Nat.not_le.mpr hbl
  have hP := hP.sub (ws' := [(x0, .inr (11, [.ref x1, .ref x2, .ref x3, .ref x4, .ref x5, .ref x6, .ref x7])), (x1, .inr (9, [.ref x8, .ref x9, .ref x10, .ref x11, .ref x12, .int 0, .int (-1)])), (x9, .inl (cy 0, 3, .inl (fun _ => 0))), (y0, .inr (12, [.int 0, .ref y1, .ref y2, .ref y3, .ref y4, .ref y5, .ref y6, .ref y7, .ref y8, .int 0, .int 0, .int 0, .int 0, .int 0, .long 0, .int 0, .int 0, .int 0, .ref y9, .ref y10, .int 0, .int 0, .int 0, .int 0, .int 0, .int 0, .int 0, .int 0, .int 0, .int 0, .ref y11, .ref y12, .ref y13, .int 0, .int 0, .int 0, .ref y14, .ref y15, .ref y16, .ref y17, .ref y18, .ref y19, .ref y20, .ref y21, .ref y22, .ref y23, .ref y24, .ref y25, .ref y26, .int 0, .int 0, .int 0, .ref y27, .ref y28, .ref y29, .int 0, .int 0, .int 0, .ref y30, .ref y31, .ref y32, .ref y33, .ref y34, .ref y35])), (y5, .inl (cy 0, 12, .inl (fun _ => 0)))]) [0, 1, 4, 92, 97] rfl
  have hD := hD.sub (ws' := [(x0, .inr (11, [.ref x1, .ref x2, .ref x3, .ref x4, .ref x5, .ref x6, .ref x7])), (x1, .inr (9, [.ref x8, .ref x9, .ref x10, .ref x11, .ref x12, .int 0, .int (-1)])), (x9, .inl (cy 0, 3, .inl (fun _ => 0))), (y0, .inr (12, [.int 0, .ref y1, .ref y2, .ref y3, .ref y4, .ref y5, .ref y6, .ref y7, .ref y8, .int 0, .int 0, .int 0, .int 0, .int 0, .long 0, .int 0, .int 0, .int 0, .ref y9, .ref y10, .int 0, .int 0, .int 0, .int 0, .int 0, .int 0, .int 0, .int 0, .int 0, .int 0, .ref y11, .ref y12, .ref y13, .int 0, .int 0, .int 0, .ref y14, .ref y15, .ref y16, .ref y17, .ref y18, .ref y19, .ref y20, .ref y21, .ref y22, .ref y23, .ref y24, .ref y25, .ref y26, .int 0, .int 0, .int 0, .ref y27, .ref y28, .ref y29, .int 0, .int 0, .int 0, .ref y30, .ref y31, .ref y32, .ref y33, .ref y34, .ref y35])), (y5, .inl (cy 0, 12, .inl (fun _ => 0)))]) [0, 1, 4, 92, 97] (by decide) rfl
  refine lv_aload_n hx hb dL_law_1160 rfl (lv_at hl 2 rfl) ?_
  refine lv_aload_n hx hb dL_law_1161 rfl (lv_at hl 3 rfl) ?_
  refine lv_iload_n hx hb dL_law_1162 rfl (lv_at hl 0 rfl) ?_
  refine lv_iconst (v := 1) hx hb dL_law_1163 (by decide +kernel) ?_
  refine lv_iadd hx hb dL_law_1164 ?_
  refine tp_i 1 (by decide +kernel) ?_
  refine va_sld hx hb hX hbl hbA hS (vi_c (by decide +kernel)) dL_law_1165 ?_
  refine tp_i (xs 1) rfl ?_
  refine lv_aload_n hx hb dL_law_1166 rfl (lv_at hl 3 rfl) ?_
  refine lv_iload_n hx hb dL_law_1167 rfl (lv_at hl 0 rfl) ?_
  refine lv_iconst (v := 2) hx hb dL_law_1168 (by decide +kernel) ?_
  refine lv_iadd hx hb dL_law_1169 ?_
  refine tp_i 2 (by decide +kernel) ?_
  refine va_sld hx hb hX hbl hbA hS (vi_c (by decide +kernel)) dL_law_1170 ?_
  refine tp_i (xs 2) rfl ?_
  refine lv_aload_n hx hb dL_law_1171 rfl (lv_at hl 3 rfl) ?_
  refine lv_iload_n hx hb dL_law_1172 rfl (lv_at hl 0 rfl) ?_
  refine lv_iconst (v := 3) hx hb dL_law_1173 (by decide +kernel) ?_
  refine lv_iadd hx hb dL_law_1174 ?_
  refine tp_i 3 (by decide +kernel) ?_
  refine va_sld hx hb hX hbl hbA hS (vi_c (by decide +kernel)) dL_law_1175 ?_
  refine tp_i (xs 3) rfl ?_
  refine lv_aload_n hx hb dL_law_1176 rfl (lv_at hl 3 rfl) ?_
  refine lv_iload_n hx hb dL_law_1177 rfl (lv_at hl 0 rfl) ?_
  refine lv_iconst (v := 4) hx hb dL_law_1178 (by decide +kernel) ?_
  refine lv_iadd hx hb dL_law_1179 ?_
  refine tp_i 4 (by decide +kernel) ?_
  refine va_sld hx hb hX hbl hbA hS (vi_c (by decide +kernel)) dL_law_1180 ?_
  refine tp_i (xs 4) rfl ?_
  refine lv_aload_n hx hb dL_law_1181 rfl (lv_at hl 3 rfl) ?_
  refine lv_iload_n hx hb dL_law_1182 rfl (lv_at hl 0 rfl) ?_
  refine lv_iconst (v := 5) hx hb dL_law_1183 (by decide +kernel) ?_
  refine lv_iadd hx hb dL_law_1184 ?_
  refine tp_i 5 (by decide +kernel) ?_
  refine va_sld hx hb hX hbl hbA hS (vi_c (by decide +kernel)) dL_law_1185 ?_
  refine tp_i (xs 5) rfl ?_
  have hPc_1 := hP.sub (ws' := [(x0, .inr (11, [.ref x1, .ref x2, .ref x3, .ref x4, .ref x5, .ref x6, .ref x7])), (x1, .inr (9, [.ref x8, .ref x9, .ref x10, .ref x11, .ref x12, .int 0, .int (-1)])), (x9, .inl (cy 0, 3, .inl (fun _ => 0)))]) [0, 1, 2] rfl
  refine pc_i (va_runV (As := [.int (xs 1), .int (xs 2), .int (xs 3), .int (xs 4), .int (xs 5)]) (rest := []) ⟨hx, hb, hml, hown, hts⟩ (c_X11_gulls l D cy x0 x2 x3 x4 x5 x6 x7 x1 x8 x9 x10 x11 x12 (xs 1) (xs 2) (xs 3) (xs 4) (xs 5)) (cwV 5 hts gL_law_X11_gulls rfl rfl rfl (by decide +kernel) ⟨Nat.le_of_ble_eq_true rfl, Nat.le_of_ble_eq_true rfl⟩) ⟨prB, va_recv hK hPc_1 (ci := 11) (q0 := 0) rfl rfl, fun U hU hW => ⟨rfl, PR.of hU hW hKW hPc_1⟩⟩ rfl rfl hl.1 rfl (lv_room (Nat.le_of_ble_eq_true rfl)) dL_law_1186 ⟨by decide +kernel, by decide +kernel⟩) (fun r_2 hr_2 => ?_)
  subst hr_2
  refine lv_aload_n hx hb dL_law_1189 rfl (lv_at hl 1 rfl) ?_
  refine lv_aload_n hx hb dL_law_1190 rfl (lv_at hl 3 rfl) ?_
  refine lv_iload_n hx hb dL_law_1191 rfl (lv_at hl 0 rfl) ?_
  refine lv_iconst (v := 1) hx hb dL_law_1192 (by decide +kernel) ?_
  refine lv_iadd hx hb dL_law_1193 ?_
  refine tp_i 1 (by decide +kernel) ?_
  refine va_sld hx hb hX hbl hbA hS (vi_c (by decide +kernel)) dL_law_1194 ?_
  refine tp_i (xs 1) rfl ?_
  refine lv_aload_n hx hb dL_law_1195 rfl (lv_at hl 3 rfl) ?_
  refine lv_iload_n hx hb dL_law_1196 rfl (lv_at hl 0 rfl) ?_
  refine lv_iconst (v := 2) hx hb dL_law_1197 (by decide +kernel) ?_
  refine lv_iadd hx hb dL_law_1198 ?_
  refine tp_i 2 (by decide +kernel) ?_
  refine va_sld hx hb hX hbl hbA hS (vi_c (by decide +kernel)) dL_law_1199 ?_
  refine tp_i (xs 2) rfl ?_
  refine lv_aload_n hx hb dL_law_1200 rfl (lv_at hl 3 rfl) ?_
  refine lv_iload_n hx hb dL_law_1201 rfl (lv_at hl 0 rfl) ?_
  refine lv_iconst (v := 3) hx hb dL_law_1202 (by decide +kernel) ?_
  refine lv_iadd hx hb dL_law_1203 ?_
  refine tp_i 3 (by decide +kernel) ?_
  refine va_sld hx hb hX hbl hbA hS (vi_c (by decide +kernel)) dL_law_1204 ?_
  refine tp_i (xs 3) rfl ?_
  refine lv_aload_n hx hb dL_law_1205 rfl (lv_at hl 3 rfl) ?_
  refine lv_iload_n hx hb dL_law_1206 rfl (lv_at hl 0 rfl) ?_
  refine lv_iconst (v := 4) hx hb dL_law_1207 (by decide +kernel) ?_
  refine lv_iadd hx hb dL_law_1208 ?_
  refine tp_i 4 (by decide +kernel) ?_
  refine va_sld hx hb hX hbl hbA hS (vi_c (by decide +kernel)) dL_law_1209 ?_
  refine tp_i (xs 4) rfl ?_
  refine lv_aload_n hx hb dL_law_1210 rfl (lv_at hl 3 rfl) ?_
  refine lv_iload_n hx hb dL_law_1211 rfl (lv_at hl 0 rfl) ?_
  refine lv_iconst (v := 5) hx hb dL_law_1212 (by decide +kernel) ?_
  refine lv_iadd hx hb dL_law_1213 ?_
  refine tp_i 5 (by decide +kernel) ?_
  refine va_sld hx hb hX hbl hbA hS (vi_c (by decide +kernel)) dL_law_1214 ?_
  refine tp_i (xs 5) rfl ?_
  have hPc_3 := hP.sub (ws' := [(y0, .inr (12, [.int 0, .ref y1, .ref y2, .ref y3, .ref y4, .ref y5, .ref y6, .ref y7, .ref y8, .int 0, .int 0, .int 0, .int 0, .int 0, .long 0, .int 0, .int 0, .int 0, .ref y9, .ref y10, .int 0, .int 0, .int 0, .int 0, .int 0, .int 0, .int 0, .int 0, .int 0, .int 0, .ref y11, .ref y12, .ref y13, .int 0, .int 0, .int 0, .ref y14, .ref y15, .ref y16, .ref y17, .ref y18, .ref y19, .ref y20, .ref y21, .ref y22, .ref y23, .ref y24, .ref y25, .ref y26, .int 0, .int 0, .int 0, .ref y27, .ref y28, .ref y29, .int 0, .int 0, .int 0, .ref y30, .ref y31, .ref y32, .ref y33, .ref y34, .ref y35])), (y5, .inl (cy 0, 12, .inl (fun _ => 0)))]) [3, 4] rfl
  have hDc_4 := hD.sub (ws' := [(y0, .inr (12, [.int 0, .ref y1, .ref y2, .ref y3, .ref y4, .ref y5, .ref y6, .ref y7, .ref y8, .int 0, .int 0, .int 0, .int 0, .int 0, .long 0, .int 0, .int 0, .int 0, .ref y9, .ref y10, .int 0, .int 0, .int 0, .int 0, .int 0, .int 0, .int 0, .int 0, .int 0, .int 0, .ref y11, .ref y12, .ref y13, .int 0, .int 0, .int 0, .ref y14, .ref y15, .ref y16, .ref y17, .ref y18, .ref y19, .ref y20, .ref y21, .ref y22, .ref y23, .ref y24, .ref y25, .ref y26, .int 0, .int 0, .int 0, .ref y27, .ref y28, .ref y29, .int 0, .int 0, .int 0, .ref y30, .ref y31, .ref y32, .ref y33, .ref y34, .ref y35])), (y5, .inl (cy 0, 12, .inl (fun _ => 0)))]) [3, 4] (by decide) rfl
  have hFc_5 := va_free (wc := [(y0, .inr (12, [.int 0, .ref y1, .ref y2, .ref y3, .ref y4, .ref y5, .ref y6, .ref y7, .ref y8, .int 0, .int 0, .int 0, .int 0, .int 0, .long 0, .int 0, .int 0, .int 0, .ref y9, .ref y10, .int 0, .int 0, .int 0, .int 0, .int 0, .int 0, .int 0, .int 0, .int 0, .int 0, .ref y11, .ref y12, .ref y13, .int 0, .int 0, .int 0, .ref y14, .ref y15, .ref y16, .ref y17, .ref y18, .ref y19, .ref y20, .ref y21, .ref y22, .ref y23, .ref y24, .ref y25, .ref y26, .int 0, .int 0, .int 0, .ref y27, .ref y28, .ref y29, .int 0, .int 0, .int 0, .ref y30, .ref y31, .ref y32, .ref y33, .ref y34, .ref y35])), (y5, .inl (cy 0, 12, .inl (fun _ => 0)))]) hD hS hA [3, 4] rfl
  refine va_calli (va_runV (As := [.int (xs 1), .int (xs 2), .int (xs 3), .int (xs 4), .int (xs 5)]) (rest := [.int (-1)]) ⟨hx, hb, hml, hown, hts⟩ (c_X12_gulls l D cy y0 y1 y2 y3 y4 y5 y6 y7 y8 y9 y10 y11 y12 y13 y14 y15 y16 y17 y18 y19 y20 y21 y22 y23 y24 y25 y26 y27 y28 y29 y30 y31 y32 y33 y34 y35 (xs 1) (xs 2) (xs 3) (xs 4) (xs 5) H.size) (cwV 5 hts gL_law_X12_gulls rfl rfl rfl (by decide +kernel) ⟨Nat.le_of_ble_eq_true rfl, Nat.le_of_ble_eq_true rfl⟩) ⟨pwB, va_recv hK hPc_3 (ci := 12) (q0 := 0) rfl rfl, fun U hU hW => ⟨rfl, PW.of hU hW hKW hPc_3 hDc_4⟩⟩ rfl rfl hl.1 rfl (lv_room (Nat.le_of_ble_eq_true rfl)) dL_law_1215 ⟨by decide +kernel, by decide +kernel⟩) hS (fun q _ h => hFc_5 q h) hFc_5 (fun r_7 u t H1 locs ht hvm hw_6 hB hz1 hk1 hS => ?_)
  subst hw_6
  obtain ⟨hP1, hD1⟩ := hB
  rw [ht] at hP1
  obtain ⟨hP, hD⟩ := va_join (wr := [(x0, .inr (11, [.ref x1, .ref x2, .ref x3, .ref x4, .ref x5, .ref x6, .ref x7])), (x1, .inr (9, [.ref x8, .ref x9, .ref x10, .ref x11, .ref x12, .int 0, .int (-1)])), (x9, .inl (cy 0, 3, .inl (fun _ => 0)))]) (w1 := []) hP hD [3, 4] [0, 1, 2] rfl rfl (by decide) (by decide) hk1 hFc_5 hP1 hD1
  generalize H1 = H at hP hS ⊢
  have hP : va_P D vwCl [(x0, .inr (11, [.ref x1, .ref x2, .ref x3, .ref x4, .ref x5, .ref x6, .ref x7])), (x1, .inr (9, [.ref x8, .ref x9, .ref x10, .ref x11, .ref x12, .int 0, .int (-1)])), (x9, .inl (cy 0, 3, .inl (fun _ => 0)))] H := hP
  have hD : va_D A [(x0, .inr (11, [.ref x1, .ref x2, .ref x3, .ref x4, .ref x5, .ref x6, .ref x7])), (x1, .inr (9, [.ref x8, .ref x9, .ref x10, .ref x11, .ref x12, .int 0, .int (-1)])), (x9, .inl (cy 0, 3, .inl (fun _ => 0)))] := hD
  refine lv_icmp_eq (tgt := 1550) hx hb dL_law_1218 (by decide) (fun _ => ?_) (fun c_8 => absurd (by decide +kernel) c_8)
  exact lw_tail l C0 hAe hS (by decide +kernel) (by decide +kernel) ls (lv_sub hl [0, 3] rfl)
set_option maxHeartbeats 4000000 in
set_option maxRecDepth 100000 in
theorem lw_c23 {p : Program} {e : Env} {s : State} {m : MethodId} {below : List Frame} {meth : Method} {c : Code} (l : Launch) {b : Nat} {xs : Nat → Int32} (C0 : lw_At p s m meth c b 6 xs)  {A : Nat → Prop} (hAe : A = fun q : Nat => s.heap.size ≤ q) {D : va_G} {cy : Nat → ClassId} (hKW : KW D cy s) {x0 x1 x2 x3 x4 x5 x6 x7 x8 x9 x10 x11 x12 x13 x14 x15 x16 x17 x18 x19 x20 x21 x22 x23 x24 x25 x26 x27 x28 x29 x30 x31 x32 x33 x34 x35 x36 x37 x38 x39 x40 x41 x42 x43 x44 x45 x46 x47 x48 x49 x50 x51 x52 x53 x54 x55 x56 x57 x58 x59 x60 x61 x62 x63 x64 x65 x66 x67 x68 x69 x70 x71 x72 x73 x74 x75 x76 x77 x78 x79 x80 x81 x82 x83 x84 x85 x86 x87 x88 x89 x90 x91 y0 y1 y2 y3 y4 y5 y6 y7 y8 y9 y10 y11 y12 y13 y14 y15 y16 y17 y18 y19 y20 y21 y22 y23 y24 y25 y26 y27 y28 y29 y30 y31 y32 y33 y34 y35 : Nat} {H : Heap} {locs : List Loc} (hP : va_P D vwCl (WL cy x0 x1 x2 x3 x4 x5 x6 x7 x8 x9 x10 x11 x12 x13 x14 x15 x16 x17 x18 x19 x20 x21 x22 x23 x24 x25 x26 x27 x28 x29 x30 x31 x32 x33 x34 x35 x36 x37 x38 x39 x40 x41 x42 x43 x44 x45 x46 x47 x48 x49 x50 x51 x52 x53 x54 x55 x56 x57 x58 x59 x60 x61 x62 x63 x64 x65 x66 x67 x68 x69 x70 x71 x72 x73 x74 x75 x76 x77 x78 x79 x80 x81 x82 x83 x84 x85 x86 x87 x88 x89 x90 x91 y0 y1 y2 y3 y4 y5 y6 y7 y8 y9 y10 y11 y12 y13 y14 y15 y16 y17 y18 y19 y20 y21 y22 y23 y24 y25 y26 y27 y28 y29 y30 y31 y32 y33 y34 y35) H) (hD : va_D A (WL cy x0 x1 x2 x3 x4 x5 x6 x7 x8 x9 x10 x11 x12 x13 x14 x15 x16 x17 x18 x19 x20 x21 x22 x23 x24 x25 x26 x27 x28 x29 x30 x31 x32 x33 x34 x35 x36 x37 x38 x39 x40 x41 x42 x43 x44 x45 x46 x47 x48 x49 x50 x51 x52 x53 x54 x55 x56 x57 x58 x59 x60 x61 x62 x63 x64 x65 x66 x67 x68 x69 x70 x71 x72 x73 x74 x75 x76 x77 x78 x79 x80 x81 x82 x83 x84 x85 x86 x87 x88 x89 x90 x91 y0 y1 y2 y3 y4 y5 y6 y7 y8 y9 y10 y11 y12 y13 y14 y15 y16 y17 y18 y19 y20 y21 y22 y23 y24 y25 y26 y27 y28 y29 y30 y31 y32 y33 y34 y35)) (hS : va_S A s.heap H locs) (ls : Array Slot) (hl : lv_has ls 4 [(3, .int 0), (2, .ref y0), (1, .ref x0), (0, .ref b)]) : W p l e room_1 s m #[Value.ref b] below meth c H locs 128 11575 (lw_Z below #[Value.ref b] s) (F0 m 1223 ls []) := by
  obtain ⟨hx, hb, hr, hml, hown, hts0, hX, hbl, hlocks, hgv⟩ := id C0
  have hts : ∀ w ∈ wsL_law, w.before #[Value.ref b] s = true := fun w h => hts0 w (wsL_law_in w h)
  have hown : s.vm.findClass RL = some m.cls := hown
  have hK := hKW.1
  have hA : ∀ q : Nat, s.heap.size ≤ q → A q := fun _ h => by rw [hAe]; exact h
  have hbA : ¬ A b := by rw [hAe]; exact Nat.not_le.mpr hbl
  have hP := hP.sub (ws' := [(x0, .inr (11, [.ref x1, .ref x2, .ref x3, .ref x4, .ref x5, .ref x6, .ref x7])), (x1, .inr (9, [.ref x8, .ref x9, .ref x10, .ref x11, .ref x12, .int 0, .int (-1)])), (x9, .inl (cy 0, 3, .inl (fun _ => 0))), (y0, .inr (12, [.int 0, .ref y1, .ref y2, .ref y3, .ref y4, .ref y5, .ref y6, .ref y7, .ref y8, .int 0, .int 0, .int 0, .int 0, .int 0, .long 0, .int 0, .int 0, .int 0, .ref y9, .ref y10, .int 0, .int 0, .int 0, .int 0, .int 0, .int 0, .int 0, .int 0, .int 0, .int 0, .ref y11, .ref y12, .ref y13, .int 0, .int 0, .int 0, .ref y14, .ref y15, .ref y16, .ref y17, .ref y18, .ref y19, .ref y20, .ref y21, .ref y22, .ref y23, .ref y24, .ref y25, .ref y26, .int 0, .int 0, .int 0, .ref y27, .ref y28, .ref y29, .int 0, .int 0, .int 0, .ref y30, .ref y31, .ref y32, .ref y33, .ref y34, .ref y35])), (y5, .inl (cy 0, 12, .inl (fun _ => 0)))]) [0, 1, 4, 92, 97] rfl
  have hD := hD.sub (ws' := [(x0, .inr (11, [.ref x1, .ref x2, .ref x3, .ref x4, .ref x5, .ref x6, .ref x7])), (x1, .inr (9, [.ref x8, .ref x9, .ref x10, .ref x11, .ref x12, .int 0, .int (-1)])), (x9, .inl (cy 0, 3, .inl (fun _ => 0))), (y0, .inr (12, [.int 0, .ref y1, .ref y2, .ref y3, .ref y4, .ref y5, .ref y6, .ref y7, .ref y8, .int 0, .int 0, .int 0, .int 0, .int 0, .long 0, .int 0, .int 0, .int 0, .ref y9, .ref y10, .int 0, .int 0, .int 0, .int 0, .int 0, .int 0, .int 0, .int 0, .int 0, .int 0, .ref y11, .ref y12, .ref y13, .int 0, .int 0, .int 0, .ref y14, .ref y15, .ref y16, .ref y17, .ref y18, .ref y19, .ref y20, .ref y21, .ref y22, .ref y23, .ref y24, .ref y25, .ref y26, .int 0, .int 0, .int 0, .ref y27, .ref y28, .ref y29, .int 0, .int 0, .int 0, .ref y30, .ref y31, .ref y32, .ref y33, .ref y34, .ref y35])), (y5, .inl (cy 0, 12, .inl (fun _ => 0)))]) [0, 1, 4, 92, 97] (by decide) rfl
  refine lv_aload_n hx hb dL_law_1223 rfl (lv_at hl 2 rfl) ?_
  refine lv_aload_n hx hb dL_law_1224 rfl (lv_at hl 3 rfl) ?_
  refine lv_iload_n hx hb dL_law_1225 rfl (lv_at hl 0 rfl) ?_
  refine lv_iconst (v := 1) hx hb dL_law_1226 (by decide +kernel) ?_
  refine lv_iadd hx hb dL_law_1227 ?_
  refine tp_i 1 (by decide +kernel) ?_
  refine va_sld hx hb hX hbl hbA hS (vi_c (by decide +kernel)) dL_law_1228 ?_
  refine tp_i (xs 1) rfl ?_
  refine lv_aload_n hx hb dL_law_1229 rfl (lv_at hl 3 rfl) ?_
  refine lv_iload_n hx hb dL_law_1230 rfl (lv_at hl 0 rfl) ?_
  refine lv_iconst (v := 2) hx hb dL_law_1231 (by decide +kernel) ?_
  refine lv_iadd hx hb dL_law_1232 ?_
  refine tp_i 2 (by decide +kernel) ?_
  refine va_sld hx hb hX hbl hbA hS (vi_c (by decide +kernel)) dL_law_1233 ?_
  refine tp_i (xs 2) rfl ?_
  refine lv_aload_n hx hb dL_law_1234 rfl (lv_at hl 3 rfl) ?_
  refine lv_iload_n hx hb dL_law_1235 rfl (lv_at hl 0 rfl) ?_
  refine lv_iconst (v := 3) hx hb dL_law_1236 (by decide +kernel) ?_
  refine lv_iadd hx hb dL_law_1237 ?_
  refine tp_i 3 (by decide +kernel) ?_
  refine va_sld hx hb hX hbl hbA hS (vi_c (by decide +kernel)) dL_law_1238 ?_
  refine tp_i (xs 3) rfl ?_
  refine lv_aload_n hx hb dL_law_1239 rfl (lv_at hl 3 rfl) ?_
  refine lv_iload_n hx hb dL_law_1240 rfl (lv_at hl 0 rfl) ?_
  refine lv_iconst (v := 4) hx hb dL_law_1241 (by decide +kernel) ?_
  refine lv_iadd hx hb dL_law_1242 ?_
  refine tp_i 4 (by decide +kernel) ?_
  refine va_sld hx hb hX hbl hbA hS (vi_c (by decide +kernel)) dL_law_1243 ?_
  refine tp_i (xs 4) rfl ?_
  refine lv_aload_n hx hb dL_law_1244 rfl (lv_at hl 3 rfl) ?_
  refine lv_iload_n hx hb dL_law_1245 rfl (lv_at hl 0 rfl) ?_
  refine lv_iconst (v := 5) hx hb dL_law_1246 (by decide +kernel) ?_
  refine lv_iadd hx hb dL_law_1247 ?_
  refine tp_i 5 (by decide +kernel) ?_
  refine va_sld hx hb hX hbl hbA hS (vi_c (by decide +kernel)) dL_law_1248 ?_
  refine tp_i (xs 5) rfl ?_
  have hPc_1 := hP.sub (ws' := [(x0, .inr (11, [.ref x1, .ref x2, .ref x3, .ref x4, .ref x5, .ref x6, .ref x7])), (x1, .inr (9, [.ref x8, .ref x9, .ref x10, .ref x11, .ref x12, .int 0, .int (-1)])), (x9, .inl (cy 0, 3, .inl (fun _ => 0)))]) [0, 1, 2] rfl
  refine pc_i (va_runV (As := [.int (xs 1), .int (xs 2), .int (xs 3), .int (xs 4), .int (xs 5)]) (rest := []) ⟨hx, hb, hml, hown, hts⟩ (c_X11_lack l D cy x0 x2 x3 x4 x5 x6 x7 x1 x8 x9 x10 x11 x12 (xs 1) (xs 2) (xs 3) (xs 4) (xs 5)) (cwV 5 hts gL_law_X11_lack rfl rfl rfl (by decide +kernel) ⟨Nat.le_of_ble_eq_true rfl, Nat.le_of_ble_eq_true rfl⟩) ⟨prB, va_recv hK hPc_1 (ci := 11) (q0 := 0) rfl rfl, fun U hU hW => ⟨rfl, PR.of hU hW hKW hPc_1⟩⟩ rfl rfl hl.1 rfl (lv_room (Nat.le_of_ble_eq_true rfl)) dL_law_1249 ⟨by decide +kernel, by decide +kernel⟩) (fun r_2 hr_2 => ?_)
  subst hr_2
  refine lv_aload_n hx hb dL_law_1252 rfl (lv_at hl 1 rfl) ?_
  refine lv_aload_n hx hb dL_law_1253 rfl (lv_at hl 3 rfl) ?_
  refine lv_iload_n hx hb dL_law_1254 rfl (lv_at hl 0 rfl) ?_
  refine lv_iconst (v := 1) hx hb dL_law_1255 (by decide +kernel) ?_
  refine lv_iadd hx hb dL_law_1256 ?_
  refine tp_i 1 (by decide +kernel) ?_
  refine va_sld hx hb hX hbl hbA hS (vi_c (by decide +kernel)) dL_law_1257 ?_
  refine tp_i (xs 1) rfl ?_
  refine lv_aload_n hx hb dL_law_1258 rfl (lv_at hl 3 rfl) ?_
  refine lv_iload_n hx hb dL_law_1259 rfl (lv_at hl 0 rfl) ?_
  refine lv_iconst (v := 2) hx hb dL_law_1260 (by decide +kernel) ?_
  refine lv_iadd hx hb dL_law_1261 ?_
  refine tp_i 2 (by decide +kernel) ?_
  refine va_sld hx hb hX hbl hbA hS (vi_c (by decide +kernel)) dL_law_1262 ?_
  refine tp_i (xs 2) rfl ?_
  refine lv_aload_n hx hb dL_law_1263 rfl (lv_at hl 3 rfl) ?_
  refine lv_iload_n hx hb dL_law_1264 rfl (lv_at hl 0 rfl) ?_
  refine lv_iconst (v := 3) hx hb dL_law_1265 (by decide +kernel) ?_
  refine lv_iadd hx hb dL_law_1266 ?_
  refine tp_i 3 (by decide +kernel) ?_
  refine va_sld hx hb hX hbl hbA hS (vi_c (by decide +kernel)) dL_law_1267 ?_
  refine tp_i (xs 3) rfl ?_
  refine lv_aload_n hx hb dL_law_1268 rfl (lv_at hl 3 rfl) ?_
  refine lv_iload_n hx hb dL_law_1269 rfl (lv_at hl 0 rfl) ?_
  refine lv_iconst (v := 4) hx hb dL_law_1270 (by decide +kernel) ?_
  refine lv_iadd hx hb dL_law_1271 ?_
  refine tp_i 4 (by decide +kernel) ?_
  refine va_sld hx hb hX hbl hbA hS (vi_c (by decide +kernel)) dL_law_1272 ?_
  refine tp_i (xs 4) rfl ?_
  refine lv_aload_n hx hb dL_law_1273 rfl (lv_at hl 3 rfl) ?_
  refine lv_iload_n hx hb dL_law_1274 rfl (lv_at hl 0 rfl) ?_
  refine lv_iconst (v := 5) hx hb dL_law_1275 (by decide +kernel) ?_
  refine lv_iadd hx hb dL_law_1276 ?_
  refine tp_i 5 (by decide +kernel) ?_
  refine va_sld hx hb hX hbl hbA hS (vi_c (by decide +kernel)) dL_law_1277 ?_
  refine tp_i (xs 5) rfl ?_
  have hPc_3 := hP.sub (ws' := [(y0, .inr (12, [.int 0, .ref y1, .ref y2, .ref y3, .ref y4, .ref y5, .ref y6, .ref y7, .ref y8, .int 0, .int 0, .int 0, .int 0, .int 0, .long 0, .int 0, .int 0, .int 0, .ref y9, .ref y10, .int 0, .int 0, .int 0, .int 0, .int 0, .int 0, .int 0, .int 0, .int 0, .int 0, .ref y11, .ref y12, .ref y13, .int 0, .int 0, .int 0, .ref y14, .ref y15, .ref y16, .ref y17, .ref y18, .ref y19, .ref y20, .ref y21, .ref y22, .ref y23, .ref y24, .ref y25, .ref y26, .int 0, .int 0, .int 0, .ref y27, .ref y28, .ref y29, .int 0, .int 0, .int 0, .ref y30, .ref y31, .ref y32, .ref y33, .ref y34, .ref y35])), (y5, .inl (cy 0, 12, .inl (fun _ => 0)))]) [3, 4] rfl
  have hDc_4 := hD.sub (ws' := [(y0, .inr (12, [.int 0, .ref y1, .ref y2, .ref y3, .ref y4, .ref y5, .ref y6, .ref y7, .ref y8, .int 0, .int 0, .int 0, .int 0, .int 0, .long 0, .int 0, .int 0, .int 0, .ref y9, .ref y10, .int 0, .int 0, .int 0, .int 0, .int 0, .int 0, .int 0, .int 0, .int 0, .int 0, .ref y11, .ref y12, .ref y13, .int 0, .int 0, .int 0, .ref y14, .ref y15, .ref y16, .ref y17, .ref y18, .ref y19, .ref y20, .ref y21, .ref y22, .ref y23, .ref y24, .ref y25, .ref y26, .int 0, .int 0, .int 0, .ref y27, .ref y28, .ref y29, .int 0, .int 0, .int 0, .ref y30, .ref y31, .ref y32, .ref y33, .ref y34, .ref y35])), (y5, .inl (cy 0, 12, .inl (fun _ => 0)))]) [3, 4] (by decide) rfl
  have hFc_5 := va_free (wc := [(y0, .inr (12, [.int 0, .ref y1, .ref y2, .ref y3, .ref y4, .ref y5, .ref y6, .ref y7, .ref y8, .int 0, .int 0, .int 0, .int 0, .int 0, .long 0, .int 0, .int 0, .int 0, .ref y9, .ref y10, .int 0, .int 0, .int 0, .int 0, .int 0, .int 0, .int 0, .int 0, .int 0, .int 0, .ref y11, .ref y12, .ref y13, .int 0, .int 0, .int 0, .ref y14, .ref y15, .ref y16, .ref y17, .ref y18, .ref y19, .ref y20, .ref y21, .ref y22, .ref y23, .ref y24, .ref y25, .ref y26, .int 0, .int 0, .int 0, .ref y27, .ref y28, .ref y29, .int 0, .int 0, .int 0, .ref y30, .ref y31, .ref y32, .ref y33, .ref y34, .ref y35])), (y5, .inl (cy 0, 12, .inl (fun _ => 0)))]) hD hS hA [3, 4] rfl
  refine va_calli (va_runV (As := [.int (xs 1), .int (xs 2), .int (xs 3), .int (xs 4), .int (xs 5)]) (rest := [.int (-1)]) ⟨hx, hb, hml, hown, hts⟩ (c_X12_lack l D cy y0 y1 y2 y3 y4 y5 y6 y7 y8 y9 y10 y11 y12 y13 y14 y15 y16 y17 y18 y19 y20 y21 y22 y23 y24 y25 y26 y27 y28 y29 y30 y31 y32 y33 y34 y35 (xs 1) (xs 2) (xs 3) (xs 4) (xs 5) H.size) (cwV 5 hts gL_law_X12_lack rfl rfl rfl (by decide +kernel) ⟨Nat.le_of_ble_eq_true rfl, Nat.le_of_ble_eq_true rfl⟩) ⟨pwB, va_recv hK hPc_3 (ci := 12) (q0 := 0) rfl rfl, fun U hU hW => ⟨rfl, PW.of hU hW hKW hPc_3 hDc_4⟩⟩ rfl rfl hl.1 rfl (lv_room (Nat.le_of_ble_eq_true rfl)) dL_law_1278 ⟨by decide +kernel, by decide +kernel⟩) hS (fun q _ h => hFc_5 q h) hFc_5 (fun r_7 u t H1 locs ht hvm hw_6 hB hz1 hk1 hS => ?_)
  subst hw_6
  obtain ⟨hP1, hD1⟩ := hB
  rw [ht] at hP1
  obtain ⟨hP, hD⟩ := va_join (wr := [(x0, .inr (11, [.ref x1, .ref x2, .ref x3, .ref x4, .ref x5, .ref x6, .ref x7])), (x1, .inr (9, [.ref x8, .ref x9, .ref x10, .ref x11, .ref x12, .int 0, .int (-1)])), (x9, .inl (cy 0, 3, .inl (fun _ => 0)))]) (w1 := []) hP hD [3, 4] [0, 1, 2] rfl rfl (by decide) (by decide) hk1 hFc_5 hP1 hD1
  generalize H1 = H at hP hS ⊢
  have hP : va_P D vwCl [(x0, .inr (11, [.ref x1, .ref x2, .ref x3, .ref x4, .ref x5, .ref x6, .ref x7])), (x1, .inr (9, [.ref x8, .ref x9, .ref x10, .ref x11, .ref x12, .int 0, .int (-1)])), (x9, .inl (cy 0, 3, .inl (fun _ => 0)))] H := hP
  have hD : va_D A [(x0, .inr (11, [.ref x1, .ref x2, .ref x3, .ref x4, .ref x5, .ref x6, .ref x7])), (x1, .inr (9, [.ref x8, .ref x9, .ref x10, .ref x11, .ref x12, .int 0, .int (-1)])), (x9, .inl (cy 0, 3, .inl (fun _ => 0)))] := hD
  refine lv_icmp_eq (tgt := 1550) hx hb dL_law_1281 (by decide) (fun _ => ?_) (fun c_8 => absurd (by decide +kernel) c_8)
  exact lw_tail l C0 hAe hS (by decide +kernel) (by decide +kernel) ls (lv_sub hl [0, 3] rfl)
