theorem dL_law_546 : decode cL_law 546 = .ok (.aload_n 1, 1) := by decide +kernel
theorem dL_law_547 : decode cL_law 547 = .ok (.aload_n 0, 1) := by decide +kernel
theorem dL_law_548 : decode cL_law 548 = .ok (.iload_n 3, 1) := by decide +kernel
theorem dL_law_549 : decode cL_law 549 = .ok (.iconst 1, 1) := by decide +kernel
theorem dL_law_550 : decode cL_law 550 = .ok (.iadd, 1) := by decide +kernel
theorem dL_law_551 : decode cL_law 551 = .ok (.iaload, 1) := by decide +kernel
theorem dL_law_552 : decode cL_law 552 = .ok (.aload_n 0, 1) := by decide +kernel
theorem dL_law_553 : decode cL_law 553 = .ok (.iload_n 3, 1) := by decide +kernel
theorem dL_law_554 : decode cL_law 554 = .ok (.iconst 2, 1) := by decide +kernel
theorem dL_law_555 : decode cL_law 555 = .ok (.iadd, 1) := by decide +kernel
theorem dL_law_556 : decode cL_law 556 = .ok (.iaload, 1) := by decide +kernel
theorem dL_law_557 : decode cL_law 557 = .ok (.aload_n 0, 1) := by decide +kernel
theorem dL_law_558 : decode cL_law 558 = .ok (.iload_n 3, 1) := by decide +kernel
theorem dL_law_559 : decode cL_law 559 = .ok (.iconst 3, 1) := by decide +kernel
theorem dL_law_560 : decode cL_law 560 = .ok (.iadd, 1) := by decide +kernel
theorem dL_law_561 : decode cL_law 561 = .ok (.iaload, 1) := by decide +kernel
theorem dL_law_562 : decode cL_law 562 = .ok (.invokevirtual 57, 3) := by decide +kernel
set_option maxRecDepth 100000 in
theorem ggL_law_X11_deed : GoodIn wsL_law wsX11_deed := goodIn_h _ [15, 736, 737, 738, 739, 740, 14, 45, 53, 742, 743, 744, 52, 78, 1473, 1474, 1475, 1476, 1477, 1478, 1479, 1611, 1612, 1613, 1544, 1545, 1546, 1547, 1548, 1549, 1550] [735, 741, 745] (by decide +kernel) (by decide +kernel) rfl
set_option maxRecDepth 20000 in
theorem gL_law_X11_deed : GoodIn wsL_law (wsV RL 57 RX11 yX11_deed wsX11_deed) := goodIn_app (goodIn_of _ (by decide +kernel)) ggL_law_X11_deed
theorem dL_law_565 : decode cL_law 565 = .ok (.aload_n 2, 1) := by decide +kernel
theorem dL_law_566 : decode cL_law 566 = .ok (.aload_n 0, 1) := by decide +kernel
theorem dL_law_567 : decode cL_law 567 = .ok (.iload_n 3, 1) := by decide +kernel
theorem dL_law_568 : decode cL_law 568 = .ok (.iconst 1, 1) := by decide +kernel
theorem dL_law_569 : decode cL_law 569 = .ok (.iadd, 1) := by decide +kernel
theorem dL_law_570 : decode cL_law 570 = .ok (.iaload, 1) := by decide +kernel
theorem dL_law_571 : decode cL_law 571 = .ok (.aload_n 0, 1) := by decide +kernel
theorem dL_law_572 : decode cL_law 572 = .ok (.iload_n 3, 1) := by decide +kernel
theorem dL_law_573 : decode cL_law 573 = .ok (.iconst 2, 1) := by decide +kernel
theorem dL_law_574 : decode cL_law 574 = .ok (.iadd, 1) := by decide +kernel
theorem dL_law_575 : decode cL_law 575 = .ok (.iaload, 1) := by decide +kernel
theorem dL_law_576 : decode cL_law 576 = .ok (.aload_n 0, 1) := by decide +kernel
theorem dL_law_577 : decode cL_law 577 = .ok (.iload_n 3, 1) := by decide +kernel
theorem dL_law_578 : decode cL_law 578 = .ok (.iconst 3, 1) := by decide +kernel
theorem dL_law_579 : decode cL_law 579 = .ok (.iadd, 1) := by decide +kernel
theorem dL_law_580 : decode cL_law 580 = .ok (.iaload, 1) := by decide +kernel
theorem dL_law_581 : decode cL_law 581 = .ok (.invokevirtual 60, 3) := by decide +kernel
set_option maxRecDepth 100000 in
theorem ggL_law_X12_deed : GoodIn wsL_law wsX12_deed := goodIn_h _ [192, 750, 751, 752, 5, 754, 449, 450, 451, 145, 205, 206, 755, 756, 757, 147, 759, 760, 761, 1480, 1481, 1482, 1483, 1484, 1485, 1486, 1487, 1488, 1489, 1490, 1491, 1492, 1493, 1494, 1495, 1496, 1497, 1498, 1499, 1500, 1501, 1502, 1503, 1504, 1505, 1506, 1507, 1508, 1509, 1510, 1511, 1512, 1513, 1514, 1515, 1516, 1517, 1518, 1519, 1520, 1521, 1522, 1523, 1524, 1525, 1526, 1527, 1528, 1529, 1530, 1531, 1532, 1533, 1534, 1535, 1536, 1537, 1538, 1539, 1540, 1541, 1542, 1543] [749, 753, 452, 207, 758, 762] (by decide +kernel) (by decide +kernel) rfl
set_option maxRecDepth 20000 in
theorem gL_law_X12_deed : GoodIn wsL_law (wsV RL 60 RX12 yX12_deed wsX12_deed) := goodIn_app (goodIn_of _ (by decide +kernel)) ggL_law_X12_deed
theorem dL_law_584 : decode cL_law 584 = .ok (.if_icmp .eq 966, 3) := by decide +kernel
theorem dL_law_589 : decode cL_law 589 = .ok (.aload_n 1, 1) := by decide +kernel
theorem dL_law_590 : decode cL_law 590 = .ok (.aload_n 0, 1) := by decide +kernel
theorem dL_law_591 : decode cL_law 591 = .ok (.iload_n 3, 1) := by decide +kernel
theorem dL_law_592 : decode cL_law 592 = .ok (.iconst 1, 1) := by decide +kernel
theorem dL_law_593 : decode cL_law 593 = .ok (.iadd, 1) := by decide +kernel
theorem dL_law_594 : decode cL_law 594 = .ok (.iaload, 1) := by decide +kernel
theorem dL_law_595 : decode cL_law 595 = .ok (.aload_n 0, 1) := by decide +kernel
theorem dL_law_596 : decode cL_law 596 = .ok (.iload_n 3, 1) := by decide +kernel
theorem dL_law_597 : decode cL_law 597 = .ok (.iconst 2, 1) := by decide +kernel
theorem dL_law_598 : decode cL_law 598 = .ok (.iadd, 1) := by decide +kernel
theorem dL_law_599 : decode cL_law 599 = .ok (.iaload, 1) := by decide +kernel
theorem dL_law_600 : decode cL_law 600 = .ok (.invokevirtual 61, 3) := by decide +kernel
set_option maxRecDepth 100000 in
theorem ggL_law_X11_stop : GoodIn wsL_law wsX11_stop := goodIn_h _ [24, 767, 768, 769, 770, 2, 15, 583, 584, 585, 14, 45, 49, 738, 739, 740, 53, 772, 773, 774, 23, 776, 777, 103, 104, 778, 105, 106, 779, 780, 781, 782, 783, 784, 785, 102, 787, 788, 789, 790, 791, 792, 793, 794, 795, 111, 112, 113, 116, 114, 115, 797, 798, 799, 801, 802, 803, 427, 805, 806, 807, 809, 810, 811, 743, 744, 52, 78, 812, 630, 631, 48, 242, 813, 814, 815, 817, 818, 819, 236, 237, 821, 822, 823, 825, 826, 827, 829, 830, 831, 833, 834, 835, 836, 681, 682, 243, 684, 650, 651, 238, 653, 654, 239, 837, 838, 839, 67, 73, 841, 842, 843, 845, 846, 847, 849, 850, 851, 852, 854, 855, 856, 857, 859, 719, 720, 722, 723, 724, 860, 861, 862, 863, 865, 866, 867, 869, 870, 871, 873, 874, 875, 877, 878, 879, 881, 882, 883, 885, 886, 887, 888, 889, 890, 891, 893, 894, 895, 896, 897, 899, 900, 901, 903, 904, 905, 906, 908, 1473, 1474, 1475, 1476, 1477, 1478, 1479, 1561, 1562, 1563, 1564, 1565, 1566, 1567, 1568, 1569, 1570, 1571, 1572, 1573, 1574, 1575, 1576, 1544, 1545, 1546, 1547, 1548, 1549, 1550, 1596, 1597, 1598, 1599, 1600, 1601, 1602, 1603, 1604, 1605, 1606, 1607, 1608, 1609, 1610, 1620, 1621, 1622, 1623, 1624, 1625, 1626, 1627, 1611, 1612, 1613] [766, 771, 586, 741, 775, 786, 796, 800, 804, 808, 745, 632, 816, 820, 824, 828, 832, 683, 652, 655, 840, 844, 848, 853, 858, 721, 864, 868, 872, 876, 880, 884, 892, 898, 902, 907] (by decide +kernel) (by decide +kernel) rfl
set_option maxRecDepth 20000 in
theorem gL_law_X11_stop : GoodIn wsL_law (wsV RL 61 RX11 yX11_stop wsX11_stop) := goodIn_app (goodIn_of _ (by decide +kernel)) ggL_law_X11_stop
theorem dL_law_603 : decode cL_law 603 = .ok (.aload_n 2, 1) := by decide +kernel
theorem dL_law_604 : decode cL_law 604 = .ok (.aload_n 0, 1) := by decide +kernel
theorem dL_law_605 : decode cL_law 605 = .ok (.iload_n 3, 1) := by decide +kernel
theorem dL_law_606 : decode cL_law 606 = .ok (.iconst 1, 1) := by decide +kernel
theorem dL_law_607 : decode cL_law 607 = .ok (.iadd, 1) := by decide +kernel
theorem dL_law_608 : decode cL_law 608 = .ok (.iaload, 1) := by decide +kernel
theorem dL_law_609 : decode cL_law 609 = .ok (.aload_n 0, 1) := by decide +kernel
theorem dL_law_610 : decode cL_law 610 = .ok (.iload_n 3, 1) := by decide +kernel
theorem dL_law_611 : decode cL_law 611 = .ok (.iconst 2, 1) := by decide +kernel
theorem dL_law_612 : decode cL_law 612 = .ok (.iadd, 1) := by decide +kernel
theorem dL_law_613 : decode cL_law 613 = .ok (.iaload, 1) := by decide +kernel
theorem dL_law_614 : decode cL_law 614 = .ok (.invokevirtual 64, 3) := by decide +kernel
set_option maxRecDepth 100000 in
theorem ggL_law_X12_stop : GoodIn wsL_law wsX12_stop := goodIn_h _ [192, 913, 914, 915, 916, 5, 918, 750, 751, 752, 754, 449, 450, 451, 145, 205, 206, 591, 592, 593, 595, 596, 597, 598, 599, 600, 601, 151, 152, 602, 603, 604, 146, 755, 756, 757, 147, 919, 920, 921, 923, 924, 925, 927, 154, 155, 156, 157, 158, 159, 160, 161, 928, 929, 930, 931, 162, 163, 759, 760, 761, 637, 638, 639, 933, 934, 935, 937, 938, 939, 941, 942, 943, 945, 946, 947, 949, 950, 951, 164, 165, 166, 953, 954, 955, 957, 958, 959, 698, 699, 700, 702, 703, 704, 641, 642, 664, 665, 666, 668, 669, 670, 519, 520, 961, 962, 963, 965, 966, 967, 968, 969, 729, 730, 971, 972, 973, 975, 976, 977, 1480, 1481, 1482, 1483, 1484, 1485, 1486, 1487, 1488, 1489, 1490, 1491, 1492, 1493, 1494, 1495, 1496, 1497, 1498, 1499, 1500, 1501, 1502, 1503, 1504, 1505, 1506, 1507, 1508, 1509, 1510, 1511, 1512, 1513, 1514, 1515, 1516, 1517, 1518, 1519, 1520, 1521, 1522, 1523, 1524, 1525, 1526, 1527, 1528, 1529, 1530, 1531, 1532, 1533, 1534, 1535, 1536, 1537, 1538, 1539, 1540, 1541, 1542, 1543] [912, 917, 753, 452, 207, 594, 605, 758, 922, 926, 932, 762, 640, 936, 940, 944, 948, 952, 956, 960, 701, 705, 643, 667, 671, 521, 964, 970, 731, 974, 978] (by decide +kernel) (by decide +kernel) rfl
set_option maxRecDepth 20000 in
theorem gL_law_X12_stop : GoodIn wsL_law (wsV RL 64 RX12 yX12_stop wsX12_stop) := goodIn_app (goodIn_of _ (by decide +kernel)) ggL_law_X12_stop
theorem dL_law_617 : decode cL_law 617 = .ok (.if_icmp .eq 933, 3) := by decide +kernel
theorem dL_law_622 : decode cL_law 622 = .ok (.aload_n 1, 1) := by decide +kernel
theorem dL_law_623 : decode cL_law 623 = .ok (.aload_n 0, 1) := by decide +kernel
theorem dL_law_624 : decode cL_law 624 = .ok (.iload_n 3, 1) := by decide +kernel
theorem dL_law_625 : decode cL_law 625 = .ok (.iconst 1, 1) := by decide +kernel
theorem dL_law_626 : decode cL_law 626 = .ok (.iadd, 1) := by decide +kernel
theorem dL_law_627 : decode cL_law 627 = .ok (.iaload, 1) := by decide +kernel
theorem dL_law_628 : decode cL_law 628 = .ok (.aload_n 0, 1) := by decide +kernel
theorem dL_law_629 : decode cL_law 629 = .ok (.iload_n 3, 1) := by decide +kernel
theorem dL_law_630 : decode cL_law 630 = .ok (.iconst 2, 1) := by decide +kernel
theorem dL_law_631 : decode cL_law 631 = .ok (.iadd, 1) := by decide +kernel
theorem dL_law_632 : decode cL_law 632 = .ok (.iaload, 1) := by decide +kernel
theorem dL_law_633 : decode cL_law 633 = .ok (.aload_n 0, 1) := by decide +kernel
theorem dL_law_634 : decode cL_law 634 = .ok (.iload_n 3, 1) := by decide +kernel
theorem dL_law_635 : decode cL_law 635 = .ok (.iconst 3, 1) := by decide +kernel
theorem dL_law_636 : decode cL_law 636 = .ok (.iadd, 1) := by decide +kernel
theorem dL_law_637 : decode cL_law 637 = .ok (.iaload, 1) := by decide +kernel
theorem dL_law_638 : decode cL_law 638 = .ok (.aload_n 0, 1) := by decide +kernel
theorem dL_law_639 : decode cL_law 639 = .ok (.iload_n 3, 1) := by decide +kernel
theorem dL_law_640 : decode cL_law 640 = .ok (.iconst 4, 1) := by decide +kernel
theorem dL_law_641 : decode cL_law 641 = .ok (.iadd, 1) := by decide +kernel
theorem dL_law_642 : decode cL_law 642 = .ok (.iaload, 1) := by decide +kernel
theorem dL_law_643 : decode cL_law 643 = .ok (.aload_n 0, 1) := by decide +kernel
theorem dL_law_644 : decode cL_law 644 = .ok (.iload_n 3, 1) := by decide +kernel
theorem dL_law_645 : decode cL_law 645 = .ok (.iconst 5, 1) := by decide +kernel
theorem dL_law_646 : decode cL_law 646 = .ok (.iadd, 1) := by decide +kernel
theorem dL_law_647 : decode cL_law 647 = .ok (.iaload, 1) := by decide +kernel
theorem dL_law_648 : decode cL_law 648 = .ok (.invokevirtual 65, 3) := by decide +kernel
set_option maxRecDepth 100000 in
theorem ggL_law_X11_state : GoodIn wsL_law wsX11_state := goodIn_h _ [24, 983, 984, 985, 986, 987, 988, 989, 990, 991, 2, 15, 736, 767, 583, 584, 585, 14, 45, 49, 738, 739, 740, 53, 772, 773, 774, 23, 776, 777, 103, 104, 778, 105, 106, 779, 780, 781, 782, 783, 784, 785, 102, 787, 788, 789, 790, 791, 792, 793, 794, 795, 111, 112, 113, 116, 114, 115, 797, 798, 799, 801, 802, 803, 427, 805, 806, 807, 809, 810, 811, 743, 744, 52, 78, 812, 630, 631, 48, 242, 813, 814, 815, 817, 818, 819, 236, 237, 821, 822, 823, 825, 826, 827, 829, 830, 831, 833, 834, 835, 836, 681, 682, 243, 684, 650, 651, 238, 653, 654, 239, 837, 838, 839, 67, 73, 841, 842, 843, 845, 846, 847, 849, 850, 851, 852, 854, 855, 856, 857, 859, 719, 720, 722, 723, 724, 860, 861, 862, 863, 865, 866, 867, 869, 870, 871, 873, 874, 875, 877, 878, 879, 881, 882, 883, 885, 886, 887, 888, 889, 890, 891, 893, 894, 895, 896, 897, 899, 900, 901, 903, 904, 905, 906, 908, 993, 994, 1473, 1474, 1475, 1476, 1477, 1478, 1479, 1561, 1562, 1563, 1564, 1565, 1566, 1567, 1568, 1569, 1570, 1571, 1572, 1573, 1574, 1575, 1576, 1620, 1621, 1622, 1623, 1624, 1625, 1626, 1627, 1611, 1612, 1613, 1544, 1545, 1546, 1547, 1548, 1549, 1550, 1596, 1597, 1598, 1599, 1600, 1601, 1602, 1603, 1604, 1605, 1606, 1607, 1608, 1609, 1610] [982, 992, 586, 741, 775, 786, 796, 800, 804, 808, 745, 632, 816, 820, 824, 828, 832, 683, 652, 655, 840, 844, 848, 853, 858, 721, 864, 868, 872, 876, 880, 884, 892, 898, 902, 907] (by decide +kernel) (by decide +kernel) rfl
set_option maxRecDepth 20000 in
theorem gL_law_X11_state : GoodIn wsL_law (wsV RL 65 RX11 yX11_state wsX11_state) := goodIn_app (goodIn_of _ (by decide +kernel)) ggL_law_X11_state
theorem dL_law_651 : decode cL_law 651 = .ok (.aload_n 2, 1) := by decide +kernel
theorem dL_law_652 : decode cL_law 652 = .ok (.aload_n 0, 1) := by decide +kernel
theorem dL_law_653 : decode cL_law 653 = .ok (.iload_n 3, 1) := by decide +kernel
theorem dL_law_654 : decode cL_law 654 = .ok (.iconst 1, 1) := by decide +kernel
theorem dL_law_655 : decode cL_law 655 = .ok (.iadd, 1) := by decide +kernel
theorem dL_law_656 : decode cL_law 656 = .ok (.iaload, 1) := by decide +kernel
theorem dL_law_657 : decode cL_law 657 = .ok (.aload_n 0, 1) := by decide +kernel
theorem dL_law_658 : decode cL_law 658 = .ok (.iload_n 3, 1) := by decide +kernel
theorem dL_law_659 : decode cL_law 659 = .ok (.iconst 2, 1) := by decide +kernel
theorem dL_law_660 : decode cL_law 660 = .ok (.iadd, 1) := by decide +kernel
theorem dL_law_661 : decode cL_law 661 = .ok (.iaload, 1) := by decide +kernel
theorem dL_law_662 : decode cL_law 662 = .ok (.aload_n 0, 1) := by decide +kernel
theorem dL_law_663 : decode cL_law 663 = .ok (.iload_n 3, 1) := by decide +kernel
theorem dL_law_664 : decode cL_law 664 = .ok (.iconst 3, 1) := by decide +kernel
theorem dL_law_665 : decode cL_law 665 = .ok (.iadd, 1) := by decide +kernel
theorem dL_law_666 : decode cL_law 666 = .ok (.iaload, 1) := by decide +kernel
theorem dL_law_667 : decode cL_law 667 = .ok (.aload_n 0, 1) := by decide +kernel
theorem dL_law_668 : decode cL_law 668 = .ok (.iload_n 3, 1) := by decide +kernel
theorem dL_law_669 : decode cL_law 669 = .ok (.iconst 4, 1) := by decide +kernel
theorem dL_law_670 : decode cL_law 670 = .ok (.iadd, 1) := by decide +kernel
theorem dL_law_671 : decode cL_law 671 = .ok (.iaload, 1) := by decide +kernel
theorem dL_law_672 : decode cL_law 672 = .ok (.aload_n 0, 1) := by decide +kernel
theorem dL_law_673 : decode cL_law 673 = .ok (.iload_n 3, 1) := by decide +kernel
theorem dL_law_674 : decode cL_law 674 = .ok (.iconst 5, 1) := by decide +kernel
theorem dL_law_675 : decode cL_law 675 = .ok (.iadd, 1) := by decide +kernel
theorem dL_law_676 : decode cL_law 676 = .ok (.iaload, 1) := by decide +kernel
theorem dL_law_677 : decode cL_law 677 = .ok (.invokevirtual 68, 3) := by decide +kernel
set_option maxRecDepth 100000 in
theorem ggL_law_X12_state : GoodIn wsL_law wsX12_state := goodIn_h _ [192, 154, 155, 158, 159, 913, 156, 999, 1000, 1001, 5, 914, 915, 916, 918, 750, 751, 752, 754, 449, 450, 451, 145, 205, 206, 591, 592, 593, 595, 596, 597, 598, 599, 600, 601, 151, 152, 602, 603, 604, 146, 755, 756, 757, 147, 919, 920, 921, 923, 924, 925, 927, 157, 160, 161, 928, 929, 930, 931, 162, 163, 759, 760, 761, 637, 638, 639, 933, 934, 935, 937, 938, 939, 941, 942, 943, 945, 946, 947, 949, 950, 951, 164, 165, 166, 953, 954, 955, 957, 958, 959, 698, 699, 700, 702, 703, 704, 641, 642, 664, 665, 666, 668, 669, 670, 519, 520, 961, 962, 963, 965, 966, 967, 968, 969, 729, 730, 971, 972, 973, 975, 976, 977, 1480, 1481, 1482, 1483, 1484, 1485, 1486, 1487, 1488, 1489, 1490, 1491, 1492, 1493, 1494, 1495, 1496, 1497, 1498, 1499, 1500, 1501, 1502, 1503, 1504, 1505, 1506, 1507, 1508, 1509, 1510, 1511, 1512, 1513, 1514, 1515, 1516, 1517, 1518, 1519, 1520, 1521, 1522, 1523, 1524, 1525, 1526, 1527, 1528, 1529, 1530, 1531, 1532, 1533, 1534, 1535, 1536, 1537, 1538, 1539, 1540, 1541, 1542, 1543] [998, 1002, 917, 753, 452, 207, 594, 605, 758, 922, 926, 932, 762, 640, 936, 940, 944, 948, 952, 956, 960, 701, 705, 643, 667, 671, 521, 964, 970, 731, 974, 978] (by decide +kernel) (by decide +kernel) rfl
set_option maxRecDepth 20000 in
theorem gL_law_X12_state : GoodIn wsL_law (wsV RL 68 RX12 yX12_state wsX12_state) := goodIn_app (goodIn_of _ (by decide +kernel)) ggL_law_X12_state
theorem dL_law_680 : decode cL_law 680 = .ok (.if_icmp .eq 870, 3) := by decide +kernel
theorem dL_law_685 : decode cL_law 685 = .ok (.aload_n 1, 1) := by decide +kernel
theorem dL_law_686 : decode cL_law 686 = .ok (.aload_n 0, 1) := by decide +kernel
theorem dL_law_687 : decode cL_law 687 = .ok (.iload_n 3, 1) := by decide +kernel
theorem dL_law_688 : decode cL_law 688 = .ok (.iconst 1, 1) := by decide +kernel
theorem dL_law_689 : decode cL_law 689 = .ok (.iadd, 1) := by decide +kernel
theorem dL_law_690 : decode cL_law 690 = .ok (.iaload, 1) := by decide +kernel
theorem dL_law_691 : decode cL_law 691 = .ok (.aload_n 0, 1) := by decide +kernel
theorem dL_law_692 : decode cL_law 692 = .ok (.iload_n 3, 1) := by decide +kernel
theorem dL_law_693 : decode cL_law 693 = .ok (.iconst 2, 1) := by decide +kernel
theorem dL_law_694 : decode cL_law 694 = .ok (.iadd, 1) := by decide +kernel
theorem dL_law_695 : decode cL_law 695 = .ok (.iaload, 1) := by decide +kernel
theorem dL_law_696 : decode cL_law 696 = .ok (.aload_n 0, 1) := by decide +kernel
theorem dL_law_697 : decode cL_law 697 = .ok (.iload_n 3, 1) := by decide +kernel
theorem dL_law_698 : decode cL_law 698 = .ok (.iconst 3, 1) := by decide +kernel
theorem dL_law_699 : decode cL_law 699 = .ok (.iadd, 1) := by decide +kernel
theorem dL_law_700 : decode cL_law 700 = .ok (.iaload, 1) := by decide +kernel
theorem dL_law_701 : decode cL_law 701 = .ok (.aload_n 0, 1) := by decide +kernel
theorem dL_law_702 : decode cL_law 702 = .ok (.iload_n 3, 1) := by decide +kernel
theorem dL_law_703 : decode cL_law 703 = .ok (.iconst 4, 1) := by decide +kernel
theorem dL_law_704 : decode cL_law 704 = .ok (.iadd, 1) := by decide +kernel
theorem dL_law_705 : decode cL_law 705 = .ok (.iaload, 1) := by decide +kernel
theorem dL_law_706 : decode cL_law 706 = .ok (.aload_n 0, 1) := by decide +kernel
theorem dL_law_707 : decode cL_law 707 = .ok (.iload_n 3, 1) := by decide +kernel
theorem dL_law_708 : decode cL_law 708 = .ok (.iconst 5, 1) := by decide +kernel
theorem dL_law_709 : decode cL_law 709 = .ok (.iadd, 1) := by decide +kernel
theorem dL_law_710 : decode cL_law 710 = .ok (.iaload, 1) := by decide +kernel
theorem dL_law_711 : decode cL_law 711 = .ok (.invokevirtual 69, 3) := by decide +kernel
set_option maxRecDepth 100000 in
theorem ggL_law_X11_has : GoodIn wsL_law wsX11_has := goodIn_h _ [24, 1007, 1008, 1009, 983, 1010, 989, 990, 991, 2, 15, 736, 767, 583, 584, 585, 14, 45, 49, 738, 739, 740, 53, 772, 773, 774, 23, 776, 777, 103, 104, 778, 105, 106, 779, 780, 781, 782, 783, 784, 785, 102, 787, 788, 789, 790, 791, 792, 793, 794, 795, 111, 112, 113, 116, 114, 115, 797, 798, 799, 801, 802, 803, 427, 805, 806, 807, 809, 810, 811, 743, 744, 52, 78, 812, 630, 631, 48, 242, 813, 814, 815, 817, 818, 819, 236, 237, 821, 822, 823, 825, 826, 827, 829, 830, 831, 833, 834, 835, 836, 681, 682, 243, 684, 650, 651, 238, 653, 654, 239, 837, 838, 839, 67, 73, 841, 842, 843, 845, 846, 847, 849, 850, 851, 852, 854, 855, 856, 857, 859, 719, 720, 722, 723, 724, 860, 861, 862, 863, 865, 866, 867, 869, 870, 871, 873, 874, 875, 877, 878, 879, 881, 882, 883, 885, 886, 887, 888, 889, 890, 891, 893, 894, 895, 896, 897, 899, 900, 901, 903, 904, 905, 906, 908, 629, 1011, 1012, 1013, 1015, 1016, 1017, 1019, 1020, 1021, 1023, 1473, 1474, 1475, 1476, 1477, 1478, 1479, 1561, 1562, 1563, 1564, 1565, 1566, 1567, 1568, 1569, 1570, 1571, 1572, 1573, 1574, 1575, 1576, 1611, 1612, 1613, 1544, 1545, 1546, 1547, 1548, 1549, 1550, 1596, 1597, 1598, 1599, 1600, 1601, 1602, 1603, 1604, 1605, 1606, 1607, 1608, 1609, 1610, 1620, 1621, 1622, 1623, 1624, 1625, 1626, 1627] [1006, 992, 586, 741, 775, 786, 796, 800, 804, 808, 745, 632, 816, 820, 824, 828, 832, 683, 652, 655, 840, 844, 848, 853, 858, 721, 864, 868, 872, 876, 880, 884, 892, 898, 902, 907, 1014, 1018, 1022] (by decide +kernel) (by decide +kernel) rfl
set_option maxRecDepth 20000 in
theorem gL_law_X11_has : GoodIn wsL_law (wsV RL 69 RX11 yX11_has wsX11_has) := goodIn_app (goodIn_of _ (by decide +kernel)) ggL_law_X11_has
theorem dL_law_714 : decode cL_law 714 = .ok (.aload_n 2, 1) := by decide +kernel
theorem dL_law_715 : decode cL_law 715 = .ok (.aload_n 0, 1) := by decide +kernel
theorem dL_law_716 : decode cL_law 716 = .ok (.iload_n 3, 1) := by decide +kernel
theorem dL_law_717 : decode cL_law 717 = .ok (.iconst 1, 1) := by decide +kernel
theorem dL_law_718 : decode cL_law 718 = .ok (.iadd, 1) := by decide +kernel
theorem dL_law_719 : decode cL_law 719 = .ok (.iaload, 1) := by decide +kernel
theorem dL_law_720 : decode cL_law 720 = .ok (.aload_n 0, 1) := by decide +kernel
theorem dL_law_721 : decode cL_law 721 = .ok (.iload_n 3, 1) := by decide +kernel
theorem dL_law_722 : decode cL_law 722 = .ok (.iconst 2, 1) := by decide +kernel
theorem dL_law_723 : decode cL_law 723 = .ok (.iadd, 1) := by decide +kernel
theorem dL_law_724 : decode cL_law 724 = .ok (.iaload, 1) := by decide +kernel
theorem dL_law_725 : decode cL_law 725 = .ok (.aload_n 0, 1) := by decide +kernel
theorem dL_law_726 : decode cL_law 726 = .ok (.iload_n 3, 1) := by decide +kernel
theorem dL_law_727 : decode cL_law 727 = .ok (.iconst 3, 1) := by decide +kernel
theorem dL_law_728 : decode cL_law 728 = .ok (.iadd, 1) := by decide +kernel
theorem dL_law_729 : decode cL_law 729 = .ok (.iaload, 1) := by decide +kernel
theorem dL_law_730 : decode cL_law 730 = .ok (.aload_n 0, 1) := by decide +kernel
theorem dL_law_731 : decode cL_law 731 = .ok (.iload_n 3, 1) := by decide +kernel
theorem dL_law_732 : decode cL_law 732 = .ok (.iconst 4, 1) := by decide +kernel
theorem dL_law_733 : decode cL_law 733 = .ok (.iadd, 1) := by decide +kernel
theorem dL_law_734 : decode cL_law 734 = .ok (.iaload, 1) := by decide +kernel
theorem dL_law_735 : decode cL_law 735 = .ok (.aload_n 0, 1) := by decide +kernel
theorem dL_law_736 : decode cL_law 736 = .ok (.iload_n 3, 1) := by decide +kernel
theorem dL_law_737 : decode cL_law 737 = .ok (.iconst 5, 1) := by decide +kernel
theorem dL_law_738 : decode cL_law 738 = .ok (.iadd, 1) := by decide +kernel
theorem dL_law_739 : decode cL_law 739 = .ok (.iaload, 1) := by decide +kernel
theorem dL_law_740 : decode cL_law 740 = .ok (.invokevirtual 72, 3) := by decide +kernel
set_option maxRecDepth 100000 in
theorem ggL_law_X12_has : GoodIn wsL_law wsX12_has := goodIn_h _ [192, 151, 160, 161, 999, 1000, 1001, 5, 913, 914, 915, 916, 918, 750, 751, 752, 754, 449, 450, 451, 145, 205, 206, 591, 592, 593, 595, 596, 597, 598, 599, 600, 601, 152, 602, 603, 604, 146, 755, 756, 757, 147, 919, 920, 921, 923, 924, 925, 927, 154, 155, 156, 157, 158, 159, 928, 929, 930, 931, 162, 163, 759, 760, 761, 637, 638, 639, 933, 934, 935, 937, 938, 939, 941, 942, 943, 945, 946, 947, 949, 950, 951, 164, 165, 166, 953, 954, 955, 957, 958, 959, 698, 699, 700, 702, 703, 704, 641, 642, 664, 665, 666, 668, 669, 670, 519, 520, 961, 962, 963, 965, 966, 967, 968, 969, 729, 730, 971, 972, 973, 975, 976, 977, 1028, 1029, 1030, 1032, 1033, 1034, 1480, 1481, 1482, 1483, 1484, 1485, 1486, 1487, 1488, 1489, 1490, 1491, 1492, 1493, 1494, 1495, 1496, 1497, 1498, 1499, 1500, 1501, 1502, 1503, 1504, 1505, 1506, 1507, 1508, 1509, 1510, 1511, 1512, 1513, 1514, 1515, 1516, 1517, 1518, 1519, 1520, 1521, 1522, 1523, 1524, 1525, 1526, 1527, 1528, 1529, 1530, 1531, 1532, 1533, 1534, 1535, 1536, 1537, 1538, 1539, 1540, 1541, 1542, 1543] [1027, 1002, 917, 753, 452, 207, 594, 605, 758, 922, 926, 932, 762, 640, 936, 940, 944, 948, 952, 956, 960, 701, 705, 643, 667, 671, 521, 964, 970, 731, 974, 978, 1031, 1035] (by decide +kernel) (by decide +kernel) rfl
set_option maxRecDepth 20000 in
theorem gL_law_X12_has : GoodIn wsL_law (wsV RL 72 RX12 yX12_has wsX12_has) := goodIn_app (goodIn_of _ (by decide +kernel)) ggL_law_X12_has
theorem dL_law_743 : decode cL_law 743 = .ok (.if_icmp .eq 807, 3) := by decide +kernel
theorem dL_law_748 : decode cL_law 748 = .ok (.aload_n 1, 1) := by decide +kernel
theorem dL_law_749 : decode cL_law 749 = .ok (.aload_n 0, 1) := by decide +kernel
theorem dL_law_750 : decode cL_law 750 = .ok (.iload_n 3, 1) := by decide +kernel
theorem dL_law_751 : decode cL_law 751 = .ok (.iconst 1, 1) := by decide +kernel
theorem dL_law_752 : decode cL_law 752 = .ok (.iadd, 1) := by decide +kernel
theorem dL_law_753 : decode cL_law 753 = .ok (.iaload, 1) := by decide +kernel
theorem dL_law_754 : decode cL_law 754 = .ok (.aload_n 0, 1) := by decide +kernel
theorem dL_law_755 : decode cL_law 755 = .ok (.iload_n 3, 1) := by decide +kernel
theorem dL_law_756 : decode cL_law 756 = .ok (.iconst 2, 1) := by decide +kernel
theorem dL_law_757 : decode cL_law 757 = .ok (.iadd, 1) := by decide +kernel
theorem dL_law_758 : decode cL_law 758 = .ok (.iaload, 1) := by decide +kernel
theorem dL_law_759 : decode cL_law 759 = .ok (.aload_n 0, 1) := by decide +kernel
theorem dL_law_760 : decode cL_law 760 = .ok (.iload_n 3, 1) := by decide +kernel
theorem dL_law_761 : decode cL_law 761 = .ok (.iconst 3, 1) := by decide +kernel
theorem dL_law_762 : decode cL_law 762 = .ok (.iadd, 1) := by decide +kernel
theorem dL_law_763 : decode cL_law 763 = .ok (.iaload, 1) := by decide +kernel
theorem dL_law_764 : decode cL_law 764 = .ok (.aload_n 0, 1) := by decide +kernel
theorem dL_law_765 : decode cL_law 765 = .ok (.iload_n 3, 1) := by decide +kernel
theorem dL_law_766 : decode cL_law 766 = .ok (.iconst 4, 1) := by decide +kernel
theorem dL_law_767 : decode cL_law 767 = .ok (.iadd, 1) := by decide +kernel
theorem dL_law_768 : decode cL_law 768 = .ok (.iaload, 1) := by decide +kernel
theorem dL_law_769 : decode cL_law 769 = .ok (.ifCond .eq 7, 3) := by decide +kernel
theorem dL_law_776 : decode cL_law 776 = .ok (.iconst 0, 1) := by decide +kernel
theorem dL_law_777 : decode cL_law 777 = .ok (.invokevirtual 73, 3) := by decide +kernel
set_option maxRecDepth 100000 in
theorem ggL_law_X11_claimed : GoodIn wsL_law wsX11_claimed := goodIn_h _ [24, 1040, 737, 1041, 1042, 989, 990, 991, 2, 15, 736, 767, 583, 584, 585, 14, 45, 49, 738, 739, 740, 53, 772, 773, 774, 23, 776, 777, 103, 104, 778, 105, 106, 779, 780, 781, 782, 783, 784, 785, 102, 787, 788, 789, 790, 791, 792, 793, 794, 795, 111, 112, 113, 116, 114, 115, 797, 798, 799, 801, 802, 803, 427, 805, 806, 807, 809, 810, 811, 743, 744, 52, 78, 812, 630, 631, 48, 242, 813, 814, 815, 817, 818, 819, 236, 237, 821, 822, 823, 825, 826, 827, 829, 830, 831, 833, 834, 835, 836, 681, 682, 243, 684, 650, 651, 238, 653, 654, 239, 837, 838, 839, 67, 73, 841, 842, 843, 845, 846, 847, 849, 850, 851, 852, 854, 855, 856, 857, 859, 719, 720, 722, 723, 724, 860, 861, 862, 863, 865, 866, 867, 869, 870, 871, 873, 874, 875, 877, 878, 879, 881, 882, 883, 885, 886, 887, 888, 889, 890, 891, 893, 894, 895, 896, 897, 899, 900, 901, 903, 904, 905, 906, 908, 1473, 1474, 1475, 1476, 1477, 1478, 1479, 1561, 1562, 1563, 1564, 1565, 1566, 1567, 1568, 1569, 1570, 1571, 1572, 1573, 1574, 1575, 1576, 1611, 1612, 1613, 1544, 1545, 1546, 1547, 1548, 1549, 1550, 1596, 1597, 1598, 1599, 1600, 1601, 1602, 1603, 1604, 1605, 1606, 1607, 1608, 1609, 1610, 1620, 1621, 1622, 1623, 1624, 1625, 1626, 1627] [1039, 992, 586, 741, 775, 786, 796, 800, 804, 808, 745, 632, 816, 820, 824, 828, 832, 683, 652, 655, 840, 844, 848, 853, 858, 721, 864, 868, 872, 876, 880, 884, 892, 898, 902, 907] (by decide +kernel) (by decide +kernel) rfl
set_option maxRecDepth 20000 in
theorem gL_law_X11_claimed : GoodIn wsL_law (wsV RL 73 RX11 yX11_claimed wsX11_claimed) := goodIn_app (goodIn_of _ (by decide +kernel)) ggL_law_X11_claimed
theorem dL_law_780 : decode cL_law 780 = .ok (.aload_n 2, 1) := by decide +kernel
theorem dL_law_781 : decode cL_law 781 = .ok (.aload_n 0, 1) := by decide +kernel
theorem dL_law_782 : decode cL_law 782 = .ok (.iload_n 3, 1) := by decide +kernel
theorem dL_law_783 : decode cL_law 783 = .ok (.iconst 1, 1) := by decide +kernel
theorem dL_law_784 : decode cL_law 784 = .ok (.iadd, 1) := by decide +kernel
theorem dL_law_785 : decode cL_law 785 = .ok (.iaload, 1) := by decide +kernel
theorem dL_law_786 : decode cL_law 786 = .ok (.aload_n 0, 1) := by decide +kernel
theorem dL_law_787 : decode cL_law 787 = .ok (.iload_n 3, 1) := by decide +kernel
theorem dL_law_788 : decode cL_law 788 = .ok (.iconst 2, 1) := by decide +kernel
theorem dL_law_789 : decode cL_law 789 = .ok (.iadd, 1) := by decide +kernel
theorem dL_law_790 : decode cL_law 790 = .ok (.iaload, 1) := by decide +kernel
theorem dL_law_791 : decode cL_law 791 = .ok (.aload_n 0, 1) := by decide +kernel
theorem dL_law_792 : decode cL_law 792 = .ok (.iload_n 3, 1) := by decide +kernel
theorem dL_law_793 : decode cL_law 793 = .ok (.iconst 3, 1) := by decide +kernel
theorem dL_law_794 : decode cL_law 794 = .ok (.iadd, 1) := by decide +kernel
theorem dL_law_795 : decode cL_law 795 = .ok (.iaload, 1) := by decide +kernel
theorem dL_law_796 : decode cL_law 796 = .ok (.aload_n 0, 1) := by decide +kernel
theorem dL_law_797 : decode cL_law 797 = .ok (.iload_n 3, 1) := by decide +kernel
theorem dL_law_798 : decode cL_law 798 = .ok (.iconst 4, 1) := by decide +kernel
theorem dL_law_799 : decode cL_law 799 = .ok (.iadd, 1) := by decide +kernel
theorem dL_law_800 : decode cL_law 800 = .ok (.iaload, 1) := by decide +kernel
theorem dL_law_801 : decode cL_law 801 = .ok (.ifCond .eq 7, 3) := by decide +kernel
theorem dL_law_808 : decode cL_law 808 = .ok (.iconst 0, 1) := by decide +kernel
theorem dL_law_809 : decode cL_law 809 = .ok (.invokevirtual 77, 3) := by decide +kernel
set_option maxRecDepth 100000 in
theorem ggL_law_X12_claimed : GoodIn wsL_law wsX12_claimed := goodIn_h _ [192, 913, 163, 162, 914, 915, 916, 5, 918, 750, 751, 752, 754, 449, 450, 451, 145, 205, 206, 591, 592, 593, 595, 596, 597, 598, 599, 600, 601, 151, 152, 602, 603, 604, 146, 755, 756, 757, 147, 919, 920, 921, 923, 924, 925, 927, 154, 155, 156, 157, 158, 159, 160, 161, 928, 929, 930, 931, 759, 760, 761, 637, 638, 639, 933, 934, 935, 937, 938, 939, 941, 942, 943, 945, 946, 947, 949, 950, 951, 164, 165, 166, 953, 954, 955, 957, 958, 959, 698, 699, 700, 702, 703, 704, 641, 642, 664, 665, 666, 668, 669, 670, 519, 520, 961, 962, 963, 965, 966, 967, 968, 969, 729, 730, 971, 972, 973, 975, 976, 977, 1480, 1481, 1482, 1483, 1484, 1485, 1486, 1487, 1488, 1489, 1490, 1491, 1492, 1493, 1494, 1495, 1496, 1497, 1498, 1499, 1500, 1501, 1502, 1503, 1504, 1505, 1506, 1507, 1508, 1509, 1510, 1511, 1512, 1513, 1514, 1515, 1516, 1517, 1518, 1519, 1520, 1521, 1522, 1523, 1524, 1525, 1526, 1527, 1528, 1529, 1530, 1531, 1532, 1533, 1534, 1535, 1536, 1537, 1538, 1539, 1540, 1541, 1542, 1543] [1046, 917, 753, 452, 207, 594, 605, 758, 922, 926, 932, 762, 640, 936, 940, 944, 948, 952, 956, 960, 701, 705, 643, 667, 671, 521, 964, 970, 731, 974, 978] (by decide +kernel) (by decide +kernel) rfl
set_option maxRecDepth 20000 in
theorem gL_law_X12_claimed : GoodIn wsL_law (wsV RL 77 RX12 yX12_claimed wsX12_claimed) := goodIn_app (goodIn_of _ (by decide +kernel)) ggL_law_X12_claimed
theorem dL_law_812 : decode cL_law 812 = .ok (.if_icmp .eq 738, 3) := by decide +kernel
theorem dL_law_804 : decode cL_law 804 = .ok (.iconst 1, 1) := by decide +kernel
theorem dL_law_805 : decode cL_law 805 = .ok (.goto 4, 3) := by decide +kernel
theorem dL_law_772 : decode cL_law 772 = .ok (.iconst 1, 1) := by decide +kernel
theorem dL_law_773 : decode cL_law 773 = .ok (.goto 4, 3) := by decide +kernel
theorem dL_law_817 : decode cL_law 817 = .ok (.aload_n 1, 1) := by decide +kernel
theorem dL_law_818 : decode cL_law 818 = .ok (.aload_n 0, 1) := by decide +kernel
theorem dL_law_819 : decode cL_law 819 = .ok (.iload_n 3, 1) := by decide +kernel
theorem dL_law_820 : decode cL_law 820 = .ok (.iconst 1, 1) := by decide +kernel
theorem dL_law_821 : decode cL_law 821 = .ok (.iadd, 1) := by decide +kernel
theorem dL_law_822 : decode cL_law 822 = .ok (.iaload, 1) := by decide +kernel
theorem dL_law_823 : decode cL_law 823 = .ok (.aload_n 0, 1) := by decide +kernel
theorem dL_law_824 : decode cL_law 824 = .ok (.iload_n 3, 1) := by decide +kernel
theorem dL_law_825 : decode cL_law 825 = .ok (.iconst 2, 1) := by decide +kernel
theorem dL_law_826 : decode cL_law 826 = .ok (.iadd, 1) := by decide +kernel
theorem dL_law_827 : decode cL_law 827 = .ok (.iaload, 1) := by decide +kernel
theorem dL_law_828 : decode cL_law 828 = .ok (.aload_n 0, 1) := by decide +kernel
theorem dL_law_829 : decode cL_law 829 = .ok (.iload_n 3, 1) := by decide +kernel
theorem dL_law_830 : decode cL_law 830 = .ok (.iconst 3, 1) := by decide +kernel
theorem dL_law_831 : decode cL_law 831 = .ok (.iadd, 1) := by decide +kernel
theorem dL_law_832 : decode cL_law 832 = .ok (.iaload, 1) := by decide +kernel
theorem dL_law_833 : decode cL_law 833 = .ok (.aload_n 0, 1) := by decide +kernel
theorem dL_law_834 : decode cL_law 834 = .ok (.iload_n 3, 1) := by decide +kernel
theorem dL_law_835 : decode cL_law 835 = .ok (.iconst 4, 1) := by decide +kernel
theorem dL_law_836 : decode cL_law 836 = .ok (.iadd, 1) := by decide +kernel
theorem dL_law_837 : decode cL_law 837 = .ok (.iaload, 1) := by decide +kernel
theorem dL_law_838 : decode cL_law 838 = .ok (.invokevirtual 78, 3) := by decide +kernel
set_option maxRecDepth 100000 in
theorem ggL_law_X11_shares : GoodIn wsL_law wsX11_shares := goodIn_h _ [24, 1040, 737, 1051, 1052, 1053, 989, 990, 991, 2, 15, 736, 767, 583, 584, 585, 14, 45, 49, 738, 739, 740, 53, 772, 773, 774, 23, 776, 777, 103, 104, 778, 105, 106, 779, 780, 781, 782, 783, 784, 785, 102, 787, 788, 789, 790, 791, 792, 793, 794, 795, 111, 112, 113, 116, 114, 115, 797, 798, 799, 801, 802, 803, 427, 805, 806, 807, 809, 810, 811, 743, 744, 52, 78, 812, 630, 631, 48, 242, 813, 814, 815, 817, 818, 819, 236, 237, 821, 822, 823, 825, 826, 827, 829, 830, 831, 833, 834, 835, 836, 681, 682, 243, 684, 650, 651, 238, 653, 654, 239, 837, 838, 839, 67, 73, 841, 842, 843, 845, 846, 847, 849, 850, 851, 852, 854, 855, 856, 857, 859, 719, 720, 722, 723, 724, 860, 861, 862, 863, 865, 866, 867, 869, 870, 871, 873, 874, 875, 877, 878, 879, 881, 882, 883, 885, 886, 887, 888, 889, 890, 891, 893, 894, 895, 896, 897, 899, 900, 901, 903, 904, 905, 906, 908, 1473, 1474, 1475, 1476, 1477, 1478, 1479, 1561, 1562, 1563, 1564, 1565, 1566, 1567, 1568, 1569, 1570, 1571, 1572, 1573, 1574, 1575, 1576, 1611, 1612, 1613, 1544, 1545, 1546, 1547, 1548, 1549, 1550, 1596, 1597, 1598, 1599, 1600, 1601, 1602, 1603, 1604, 1605, 1606, 1607, 1608, 1609, 1610, 1620, 1621, 1622, 1623, 1624, 1625, 1626, 1627] [1050, 992, 586, 741, 775, 786, 796, 800, 804, 808, 745, 632, 816, 820, 824, 828, 832, 683, 652, 655, 840, 844, 848, 853, 858, 721, 864, 868, 872, 876, 880, 884, 892, 898, 902, 907] (by decide +kernel) (by decide +kernel) rfl
set_option maxRecDepth 20000 in
theorem gL_law_X11_shares : GoodIn wsL_law (wsV RL 78 RX11 yX11_shares wsX11_shares) := goodIn_app (goodIn_of _ (by decide +kernel)) ggL_law_X11_shares
theorem dL_law_841 : decode cL_law 841 = .ok (.aload_n 2, 1) := by decide +kernel
theorem dL_law_842 : decode cL_law 842 = .ok (.aload_n 0, 1) := by decide +kernel
theorem dL_law_843 : decode cL_law 843 = .ok (.iload_n 3, 1) := by decide +kernel
theorem dL_law_844 : decode cL_law 844 = .ok (.iconst 1, 1) := by decide +kernel
theorem dL_law_845 : decode cL_law 845 = .ok (.iadd, 1) := by decide +kernel
theorem dL_law_846 : decode cL_law 846 = .ok (.iaload, 1) := by decide +kernel
theorem dL_law_847 : decode cL_law 847 = .ok (.aload_n 0, 1) := by decide +kernel
theorem dL_law_848 : decode cL_law 848 = .ok (.iload_n 3, 1) := by decide +kernel
theorem dL_law_849 : decode cL_law 849 = .ok (.iconst 2, 1) := by decide +kernel
theorem dL_law_850 : decode cL_law 850 = .ok (.iadd, 1) := by decide +kernel
theorem dL_law_851 : decode cL_law 851 = .ok (.iaload, 1) := by decide +kernel
theorem dL_law_852 : decode cL_law 852 = .ok (.aload_n 0, 1) := by decide +kernel
theorem dL_law_853 : decode cL_law 853 = .ok (.iload_n 3, 1) := by decide +kernel
theorem dL_law_854 : decode cL_law 854 = .ok (.iconst 3, 1) := by decide +kernel
theorem dL_law_855 : decode cL_law 855 = .ok (.iadd, 1) := by decide +kernel
theorem dL_law_856 : decode cL_law 856 = .ok (.iaload, 1) := by decide +kernel
theorem dL_law_857 : decode cL_law 857 = .ok (.aload_n 0, 1) := by decide +kernel
theorem dL_law_858 : decode cL_law 858 = .ok (.iload_n 3, 1) := by decide +kernel
theorem dL_law_859 : decode cL_law 859 = .ok (.iconst 4, 1) := by decide +kernel
theorem dL_law_860 : decode cL_law 860 = .ok (.iadd, 1) := by decide +kernel
theorem dL_law_861 : decode cL_law 861 = .ok (.iaload, 1) := by decide +kernel
theorem dL_law_862 : decode cL_law 862 = .ok (.invokevirtual 82, 3) := by decide +kernel
set_option maxRecDepth 100000 in
theorem ggL_law_X12_shares : GoodIn wsL_law wsX12_shares := goodIn_h _ [192, 913, 164, 165, 166, 205, 206, 5, 914, 915, 916, 918, 750, 751, 752, 754, 449, 450, 451, 145, 591, 592, 593, 595, 596, 597, 598, 599, 600, 601, 151, 152, 602, 603, 604, 146, 755, 756, 757, 147, 919, 920, 921, 923, 924, 925, 927, 154, 155, 156, 157, 158, 159, 160, 161, 928, 929, 930, 931, 162, 163, 759, 760, 761, 637, 638, 639, 933, 934, 935, 937, 938, 939, 941, 942, 943, 945, 946, 947, 949, 950, 951, 953, 954, 955, 957, 958, 959, 698, 699, 700, 702, 703, 704, 641, 642, 664, 665, 666, 668, 669, 670, 519, 520, 961, 962, 963, 965, 966, 967, 968, 969, 729, 730, 971, 972, 973, 975, 976, 977, 1480, 1481, 1482, 1483, 1484, 1485, 1486, 1487, 1488, 1489, 1490, 1491, 1492, 1493, 1494, 1495, 1496, 1497, 1498, 1499, 1500, 1501, 1502, 1503, 1504, 1505, 1506, 1507, 1508, 1509, 1510, 1511, 1512, 1513, 1514, 1515, 1516, 1517, 1518, 1519, 1520, 1521, 1522, 1523, 1524, 1525, 1526, 1527, 1528, 1529, 1530, 1531, 1532, 1533, 1534, 1535, 1536, 1537, 1538, 1539, 1540, 1541, 1542, 1543] [1057, 207, 917, 753, 452, 594, 605, 758, 922, 926, 932, 762, 640, 936, 940, 944, 948, 952, 956, 960, 701, 705, 643, 667, 671, 521, 964, 970, 731, 974, 978] (by decide +kernel) (by decide +kernel) rfl
set_option maxRecDepth 20000 in
theorem gL_law_X12_shares : GoodIn wsL_law (wsV RL 82 RX12 yX12_shares wsX12_shares) := goodIn_app (goodIn_of _ (by decide +kernel)) ggL_law_X12_shares
theorem dL_law_865 : decode cL_law 865 = .ok (.if_icmp .eq 685, 3) := by decide +kernel
theorem dL_law_870 : decode cL_law 870 = .ok (.aload_n 1, 1) := by decide +kernel
theorem dL_law_871 : decode cL_law 871 = .ok (.aload_n 0, 1) := by decide +kernel
theorem dL_law_872 : decode cL_law 872 = .ok (.iload_n 3, 1) := by decide +kernel
theorem dL_law_873 : decode cL_law 873 = .ok (.iconst 1, 1) := by decide +kernel
theorem dL_law_874 : decode cL_law 874 = .ok (.iadd, 1) := by decide +kernel
theorem dL_law_875 : decode cL_law 875 = .ok (.iaload, 1) := by decide +kernel
theorem dL_law_876 : decode cL_law 876 = .ok (.aload_n 0, 1) := by decide +kernel
theorem dL_law_877 : decode cL_law 877 = .ok (.iload_n 3, 1) := by decide +kernel
theorem dL_law_878 : decode cL_law 878 = .ok (.iconst 2, 1) := by decide +kernel
theorem dL_law_879 : decode cL_law 879 = .ok (.iadd, 1) := by decide +kernel
theorem dL_law_880 : decode cL_law 880 = .ok (.iaload, 1) := by decide +kernel
theorem dL_law_881 : decode cL_law 881 = .ok (.invokevirtual 83, 3) := by decide +kernel
set_option maxRecDepth 100000 in
theorem ggL_law_X11_twice : GoodIn wsL_law wsX11_twice := goodIn_h _ [24, 1062, 768, 769, 770, 2, 15, 583, 584, 585, 14, 45, 49, 738, 739, 740, 53, 772, 773, 774, 23, 776, 777, 103, 104, 778, 105, 106, 779, 780, 781, 782, 783, 784, 785, 102, 787, 788, 789, 790, 791, 792, 793, 794, 795, 111, 112, 113, 116, 114, 115, 797, 798, 799, 801, 802, 803, 427, 805, 806, 807, 809, 810, 811, 743, 744, 52, 78, 812, 630, 631, 48, 242, 813, 814, 815, 817, 818, 819, 236, 237, 821, 822, 823, 825, 826, 827, 829, 830, 831, 833, 834, 835, 836, 681, 682, 243, 684, 650, 651, 238, 653, 654, 239, 837, 838, 839, 67, 73, 841, 842, 843, 845, 846, 847, 849, 850, 851, 852, 854, 855, 856, 857, 859, 719, 720, 722, 723, 724, 860, 861, 862, 863, 865, 866, 867, 869, 870, 871, 873, 874, 875, 877, 878, 879, 881, 882, 883, 885, 886, 887, 888, 889, 890, 891, 893, 894, 895, 896, 897, 899, 900, 901, 903, 904, 905, 906, 908, 1473, 1474, 1475, 1476, 1477, 1478, 1479, 1561, 1562, 1563, 1564, 1565, 1566, 1567, 1568, 1569, 1570, 1571, 1572, 1573, 1574, 1575, 1576, 1544, 1545, 1546, 1547, 1548, 1549, 1550, 1596, 1597, 1598, 1599, 1600, 1601, 1602, 1603, 1604, 1605, 1606, 1607, 1608, 1609, 1610, 1620, 1621, 1622, 1623, 1624, 1625, 1626, 1627, 1611, 1612, 1613] [1061, 771, 586, 741, 775, 786, 796, 800, 804, 808, 745, 632, 816, 820, 824, 828, 832, 683, 652, 655, 840, 844, 848, 853, 858, 721, 864, 868, 872, 876, 880, 884, 892, 898, 902, 907] (by decide +kernel) (by decide +kernel) rfl
set_option maxRecDepth 20000 in
theorem gL_law_X11_twice : GoodIn wsL_law (wsV RL 83 RX11 yX11_twice wsX11_twice) := goodIn_app (goodIn_of _ (by decide +kernel)) ggL_law_X11_twice
theorem dL_law_884 : decode cL_law 884 = .ok (.aload_n 2, 1) := by decide +kernel
theorem dL_law_885 : decode cL_law 885 = .ok (.aload_n 0, 1) := by decide +kernel
theorem dL_law_886 : decode cL_law 886 = .ok (.iload_n 3, 1) := by decide +kernel
theorem dL_law_887 : decode cL_law 887 = .ok (.iconst 1, 1) := by decide +kernel
theorem dL_law_888 : decode cL_law 888 = .ok (.iadd, 1) := by decide +kernel
theorem dL_law_889 : decode cL_law 889 = .ok (.iaload, 1) := by decide +kernel
theorem dL_law_890 : decode cL_law 890 = .ok (.aload_n 0, 1) := by decide +kernel
theorem dL_law_891 : decode cL_law 891 = .ok (.iload_n 3, 1) := by decide +kernel
theorem dL_law_892 : decode cL_law 892 = .ok (.iconst 2, 1) := by decide +kernel
theorem dL_law_893 : decode cL_law 893 = .ok (.iadd, 1) := by decide +kernel
theorem dL_law_894 : decode cL_law 894 = .ok (.iaload, 1) := by decide +kernel
theorem dL_law_895 : decode cL_law 895 = .ok (.invokevirtual 86, 3) := by decide +kernel
set_option maxRecDepth 100000 in
theorem ggL_law_X12_twice : GoodIn wsL_law wsX12_twice := goodIn_h _ [192, 928, 914, 915, 916, 5, 918, 750, 751, 752, 754, 449, 450, 451, 145, 205, 206, 591, 592, 593, 595, 596, 597, 598, 599, 600, 601, 151, 152, 602, 603, 604, 146, 755, 756, 757, 147, 919, 920, 921, 913, 923, 924, 925, 927, 154, 155, 156, 157, 158, 159, 160, 161, 929, 930, 931, 162, 163, 759, 760, 761, 637, 638, 639, 933, 934, 935, 937, 938, 939, 941, 942, 943, 945, 946, 947, 949, 950, 951, 164, 165, 166, 953, 954, 955, 957, 958, 959, 698, 699, 700, 702, 703, 704, 641, 642, 664, 665, 666, 668, 669, 670, 519, 520, 961, 962, 963, 965, 966, 967, 968, 969, 729, 730, 971, 972, 973, 975, 976, 977, 1480, 1481, 1482, 1483, 1484, 1485, 1486, 1487, 1488, 1489, 1490, 1491, 1492, 1493, 1494, 1495, 1496, 1497, 1498, 1499, 1500, 1501, 1502, 1503, 1504, 1505, 1506, 1507, 1508, 1509, 1510, 1511, 1512, 1513, 1514, 1515, 1516, 1517, 1518, 1519, 1520, 1521, 1522, 1523, 1524, 1525, 1526, 1527, 1528, 1529, 1530, 1531, 1532, 1533, 1534, 1535, 1536, 1537, 1538, 1539, 1540, 1541, 1542, 1543] [1066, 917, 753, 452, 207, 594, 605, 758, 922, 926, 932, 762, 640, 936, 940, 944, 948, 952, 956, 960, 701, 705, 643, 667, 671, 521, 964, 970, 731, 974, 978] (by decide +kernel) (by decide +kernel) rfl
set_option maxRecDepth 20000 in
theorem gL_law_X12_twice : GoodIn wsL_law (wsV RL 86 RX12 yX12_twice wsX12_twice) := goodIn_app (goodIn_of _ (by decide +kernel)) ggL_law_X12_twice
theorem dL_law_898 : decode cL_law 898 = .ok (.if_icmp .eq 652, 3) := by decide +kernel
set_option maxHeartbeats 4000000 in
set_option maxRecDepth 100000 in
theorem lw_c10 {p : Program} {e : Env} {s : State} {m : MethodId} {below : List Frame} {meth : Method} {c : Code} (l : Launch) {b : Nat} {xs : Nat → Int32} (C0 : lw_At p s m meth c b 6 xs)  {A : Nat → Prop} (hAe : A = fun q : Nat => s.heap.size ≤ q) {D : va_G} {cy : Nat → ClassId} (hKW : KW D cy s) {x0 x1 x2 x3 x4 x5 x6 x7 x8 x9 x10 x11 x12 x13 x14 x15 x16 x17 x18 x19 x20 x21 x22 x23 x24 x25 x26 x27 x28 x29 x30 x31 x32 x33 x34 x35 x36 x37 x38 x39 x40 x41 x42 x43 x44 x45 x46 x47 x48 x49 x50 x51 x52 x53 x54 x55 x56 x57 x58 x59 x60 x61 x62 x63 x64 x65 x66 x67 x68 x69 x70 x71 x72 x73 x74 x75 x76 x77 x78 x79 x80 x81 x82 x83 x84 x85 x86 x87 x88 x89 x90 x91 y0 y1 y2 y3 y4 y5 y6 y7 y8 y9 y10 y11 y12 y13 y14 y15 y16 y17 y18 y19 y20 y21 y22 y23 y24 y25 y26 y27 y28 y29 y30 y31 y32 y33 y34 y35 : Nat} {H : Heap} {locs : List Loc} (hP : va_P D vwCl (WL cy x0 x1 x2 x3 x4 x5 x6 x7 x8 x9 x10 x11 x12 x13 x14 x15 x16 x17 x18 x19 x20 x21 x22 x23 x24 x25 x26 x27 x28 x29 x30 x31 x32 x33 x34 x35 x36 x37 x38 x39 x40 x41 x42 x43 x44 x45 x46 x47 x48 x49 x50 x51 x52 x53 x54 x55 x56 x57 x58 x59 x60 x61 x62 x63 x64 x65 x66 x67 x68 x69 x70 x71 x72 x73 x74 x75 x76 x77 x78 x79 x80 x81 x82 x83 x84 x85 x86 x87 x88 x89 x90 x91 y0 y1 y2 y3 y4 y5 y6 y7 y8 y9 y10 y11 y12 y13 y14 y15 y16 y17 y18 y19 y20 y21 y22 y23 y24 y25 y26 y27 y28 y29 y30 y31 y32 y33 y34 y35) H) (hD : va_D A (WL cy x0 x1 x2 x3 x4 x5 x6 x7 x8 x9 x10 x11 x12 x13 x14 x15 x16 x17 x18 x19 x20 x21 x22 x23 x24 x25 x26 x27 x28 x29 x30 x31 x32 x33 x34 x35 x36 x37 x38 x39 x40 x41 x42 x43 x44 x45 x46 x47 x48 x49 x50 x51 x52 x53 x54 x55 x56 x57 x58 x59 x60 x61 x62 x63 x64 x65 x66 x67 x68 x69 x70 x71 x72 x73 x74 x75 x76 x77 x78 x79 x80 x81 x82 x83 x84 x85 x86 x87 x88 x89 x90 x91 y0 y1 y2 y3 y4 y5 y6 y7 y8 y9 y10 y11 y12 y13 y14 y15 y16 y17 y18 y19 y20 y21 y22 y23 y24 y25 y26 y27 y28 y29 y30 y31 y32 y33 y34 y35)) (hS : va_S A s.heap H locs) (ls : Array Slot) (hl : lv_has ls 4 [(3, .int 0), (2, .ref y0), (1, .ref x0), (0, .ref b)]) : W p l e room_1 s m #[Value.ref b] below meth c H locs 128 11575 (lw_Z below #[Value.ref b] s) (F0 m 546 ls []) := by
  obtain ⟨hx, hb, hr, hml, hown, hts0, hX, hbl, hlocks, hgv⟩ := id C0
  have hts : ∀ w ∈ wsL_law, w.before #[Value.ref b] s = true := fun w h => hts0 w (wsL_law_in w h)
  have hown : s.vm.findClass RL = some m.cls := hown
  have hK := hKW.1
  have hA : ∀ q : Nat, s.heap.size ≤ q → A q := fun _ h => by rw [hAe]; exact h
  have hbA : ¬ A b := by rw [hAe]; exact Nat.not_le.mpr hbl
  have hP := hP.sub (ws' := [(x0, .inr (11, [.ref x1, .ref x2, .ref x3, .ref x4, .ref x5, .ref x6, .ref x7])), (x1, .inr (9, [.ref x8, .ref x9, .ref x10, .ref x11, .ref x12, .int 0, .int (-1)])), (x9, .inl (cy 0, 3, .inl (fun _ => 0))), (y0, .inr (12, [.int 0, .ref y1, .ref y2, .ref y3, .ref y4, .ref y5, .ref y6, .ref y7, .ref y8, .int 0, .int 0, .int 0, .int 0, .int 0, .long 0, .int 0, .int 0, .int 0, .ref y9, .ref y10, .int 0, .int 0, .int 0, .int 0, .int 0, .int 0, .int 0, .int 0, .int 0, .int 0, .ref y11, .ref y12, .ref y13, .int 0, .int 0, .int 0, .ref y14, .ref y15, .ref y16, .ref y17, .ref y18, .ref y19, .ref y20, .ref y21, .ref y22, .ref y23, .ref y24, .ref y25, .ref y26, .int 0, .int 0, .int 0, .ref y27, .ref y28, .ref y29, .int 0, .int 0, .int 0, .ref y30, .ref y31, .ref y32, .ref y33, .ref y34, .ref y35])), (y5, .inl (cy 0, 12, .inl (fun _ => 0)))]) [0, 1, 4, 92, 97] rfl
  have hD := hD.sub (ws' := [(x0, .inr (11, [.ref x1, .ref x2, .ref x3, .ref x4, .ref x5, .ref x6, .ref x7])), (x1, .inr (9, [.ref x8, .ref x9, .ref x10, .ref x11, .ref x12, .int 0, .int (-1)])), (x9, .inl (cy 0, 3, .inl (fun _ => 0))), (y0, .inr (12, [.int 0, .ref y1, .ref y2, .ref y3, .ref y4, .ref y5, .ref y6, .ref y7, .ref y8, .int 0, .int 0, .int 0, .int 0, .int 0, .long 0, .int 0, .int 0, .int 0, .ref y9, .ref y10, .int 0, .int 0, .int 0, .int 0, .int 0, .int 0, .int 0, .int 0, .int 0, .int 0, .ref y11, .ref y12, .ref y13, .int 0, .int 0, .int 0, .ref y14, .ref y15, .ref y16, .ref y17, .ref y18, .ref y19, .ref y20, .ref y21, .ref y22, .ref y23, .ref y24, .ref y25, .ref y26, .int 0, .int 0, .int 0, .ref y27, .ref y28, .ref y29, .int 0, .int 0, .int 0, .ref y30, .ref y31, .ref y32, .ref y33, .ref y34, .ref y35])), (y5, .inl (cy 0, 12, .inl (fun _ => 0)))]) [0, 1, 4, 92, 97] (by decide) rfl
  refine lv_aload_n hx hb dL_law_546 rfl (lv_at hl 2 rfl) ?_
  refine lv_aload_n hx hb dL_law_547 rfl (lv_at hl 3 rfl) ?_
  refine lv_iload_n hx hb dL_law_548 rfl (lv_at hl 0 rfl) ?_
  refine lv_iconst (v := 1) hx hb dL_law_549 (by decide +kernel) ?_
  refine lv_iadd hx hb dL_law_550 ?_
  refine tp_i 1 (by decide +kernel) ?_
  refine va_sld hx hb hX hbl hbA hS (vi_c (by decide +kernel)) dL_law_551 ?_
  refine tp_i (xs 1) rfl ?_
  refine lv_aload_n hx hb dL_law_552 rfl (lv_at hl 3 rfl) ?_
  refine lv_iload_n hx hb dL_law_553 rfl (lv_at hl 0 rfl) ?_
  refine lv_iconst (v := 2) hx hb dL_law_554 (by decide +kernel) ?_
  refine lv_iadd hx hb dL_law_555 ?_
  refine tp_i 2 (by decide +kernel) ?_
  refine va_sld hx hb hX hbl hbA hS (vi_c (by decide +kernel)) dL_law_556 ?_
  refine tp_i (xs 2) rfl ?_
  refine lv_aload_n hx hb dL_law_557 rfl (lv_at hl 3 rfl) ?_
  refine lv_iload_n hx hb dL_law_558 rfl (lv_at hl 0 rfl) ?_
  refine lv_iconst (v := 3) hx hb dL_law_559 (by decide +kernel) ?_
  refine lv_iadd hx hb dL_law_560 ?_
  refine tp_i 3 (by decide +kernel) ?_
  refine va_sld hx hb hX hbl hbA hS (vi_c (by decide +kernel)) dL_law_561 ?_
  refine tp_i (xs 3) rfl ?_
  have hPc_1 := hP.sub (ws' := [(x0, .inr (11, [.ref x1, .ref x2, .ref x3, .ref x4, .ref x5, .ref x6, .ref x7])), (x1, .inr (9, [.ref x8, .ref x9, .ref x10, .ref x11, .ref x12, .int 0, .int (-1)])), (x9, .inl (cy 0, 3, .inl (fun _ => 0)))]) [0, 1, 2] rfl
  refine pc_i (va_runV (As := [.int (xs 1), .int (xs 2), .int (xs 3)]) (rest := []) ⟨hx, hb, hml, hown, hts⟩ (c_X11_deed l D cy x0 x2 x3 x4 x5 x6 x7 x1 x8 x9 x10 x11 x12 (xs 1) (xs 2) (xs 3)) (cwV 3 hts gL_law_X11_deed rfl rfl rfl (by decide +kernel) ⟨Nat.le_of_ble_eq_true rfl, Nat.le_of_ble_eq_true rfl⟩) ⟨prB, va_recv hK hPc_1 (ci := 11) (q0 := 0) rfl rfl, fun U hU hW => ⟨rfl, PR.of hU hW hKW hPc_1⟩⟩ rfl rfl hl.1 rfl (lv_room (Nat.le_of_ble_eq_true rfl)) dL_law_562 ⟨by decide +kernel, by decide +kernel⟩) (fun r_2 hr_2 => ?_)
  subst hr_2
  refine lv_aload_n hx hb dL_law_565 rfl (lv_at hl 1 rfl) ?_
  refine lv_aload_n hx hb dL_law_566 rfl (lv_at hl 3 rfl) ?_
  refine lv_iload_n hx hb dL_law_567 rfl (lv_at hl 0 rfl) ?_
  refine lv_iconst (v := 1) hx hb dL_law_568 (by decide +kernel) ?_
  refine lv_iadd hx hb dL_law_569 ?_
  refine tp_i 1 (by decide +kernel) ?_
  refine va_sld hx hb hX hbl hbA hS (vi_c (by decide +kernel)) dL_law_570 ?_
  refine tp_i (xs 1) rfl ?_
  refine lv_aload_n hx hb dL_law_571 rfl (lv_at hl 3 rfl) ?_
  refine lv_iload_n hx hb dL_law_572 rfl (lv_at hl 0 rfl) ?_
  refine lv_iconst (v := 2) hx hb dL_law_573 (by decide +kernel) ?_
  refine lv_iadd hx hb dL_law_574 ?_
  refine tp_i 2 (by decide +kernel) ?_
  refine va_sld hx hb hX hbl hbA hS (vi_c (by decide +kernel)) dL_law_575 ?_
  refine tp_i (xs 2) rfl ?_
  refine lv_aload_n hx hb dL_law_576 rfl (lv_at hl 3 rfl) ?_
  refine lv_iload_n hx hb dL_law_577 rfl (lv_at hl 0 rfl) ?_
  refine lv_iconst (v := 3) hx hb dL_law_578 (by decide +kernel) ?_
  refine lv_iadd hx hb dL_law_579 ?_
  refine tp_i 3 (by decide +kernel) ?_
  refine va_sld hx hb hX hbl hbA hS (vi_c (by decide +kernel)) dL_law_580 ?_
  refine tp_i (xs 3) rfl ?_
  have hPc_3 := hP.sub (ws' := [(y0, .inr (12, [.int 0, .ref y1, .ref y2, .ref y3, .ref y4, .ref y5, .ref y6, .ref y7, .ref y8, .int 0, .int 0, .int 0, .int 0, .int 0, .long 0, .int 0, .int 0, .int 0, .ref y9, .ref y10, .int 0, .int 0, .int 0, .int 0, .int 0, .int 0, .int 0, .int 0, .int 0, .int 0, .ref y11, .ref y12, .ref y13, .int 0, .int 0, .int 0, .ref y14, .ref y15, .ref y16, .ref y17, .ref y18, .ref y19, .ref y20, .ref y21, .ref y22, .ref y23, .ref y24, .ref y25, .ref y26, .int 0, .int 0, .int 0, .ref y27, .ref y28, .ref y29, .int 0, .int 0, .int 0, .ref y30, .ref y31, .ref y32, .ref y33, .ref y34, .ref y35])), (y5, .inl (cy 0, 12, .inl (fun _ => 0)))]) [3, 4] rfl
  have hDc_4 := hD.sub (ws' := [(y0, .inr (12, [.int 0, .ref y1, .ref y2, .ref y3, .ref y4, .ref y5, .ref y6, .ref y7, .ref y8, .int 0, .int 0, .int 0, .int 0, .int 0, .long 0, .int 0, .int 0, .int 0, .ref y9, .ref y10, .int 0, .int 0, .int 0, .int 0, .int 0, .int 0, .int 0, .int 0, .int 0, .int 0, .ref y11, .ref y12, .ref y13, .int 0, .int 0, .int 0, .ref y14, .ref y15, .ref y16, .ref y17, .ref y18, .ref y19, .ref y20, .ref y21, .ref y22, .ref y23, .ref y24, .ref y25, .ref y26, .int 0, .int 0, .int 0, .ref y27, .ref y28, .ref y29, .int 0, .int 0, .int 0, .ref y30, .ref y31, .ref y32, .ref y33, .ref y34, .ref y35])), (y5, .inl (cy 0, 12, .inl (fun _ => 0)))]) [3, 4] (by decide) rfl
  have hFc_5 := va_free (wc := [(y0, .inr (12, [.int 0, .ref y1, .ref y2, .ref y3, .ref y4, .ref y5, .ref y6, .ref y7, .ref y8, .int 0, .int 0, .int 0, .int 0, .int 0, .long 0, .int 0, .int 0, .int 0, .ref y9, .ref y10, .int 0, .int 0, .int 0, .int 0, .int 0, .int 0, .int 0, .int 0, .int 0, .int 0, .ref y11, .ref y12, .ref y13, .int 0, .int 0, .int 0, .ref y14, .ref y15, .ref y16, .ref y17, .ref y18, .ref y19, .ref y20, .ref y21, .ref y22, .ref y23, .ref y24, .ref y25, .ref y26, .int 0, .int 0, .int 0, .ref y27, .ref y28, .ref y29, .int 0, .int 0, .int 0, .ref y30, .ref y31, .ref y32, .ref y33, .ref y34, .ref y35])), (y5, .inl (cy 0, 12, .inl (fun _ => 0)))]) hD hS hA [3, 4] rfl
  refine va_calli (va_runV (As := [.int (xs 1), .int (xs 2), .int (xs 3)]) (rest := [.int (-2)]) ⟨hx, hb, hml, hown, hts⟩ (c_X12_deed l D cy y0 y1 y2 y3 y4 y5 y6 y7 y8 y9 y10 y11 y12 y13 y14 y15 y16 y17 y18 y19 y20 y21 y22 y23 y24 y25 y26 y27 y28 y29 y30 y31 y32 y33 y34 y35 (xs 1) (xs 2) (xs 3) H.size) (cwV 3 hts gL_law_X12_deed rfl rfl rfl (by decide +kernel) ⟨Nat.le_of_ble_eq_true rfl, Nat.le_of_ble_eq_true rfl⟩) ⟨pwB, va_recv hK hPc_3 (ci := 12) (q0 := 0) rfl rfl, fun U hU hW => ⟨rfl, PW.of hU hW hKW hPc_3 hDc_4⟩⟩ rfl rfl hl.1 rfl (lv_room (Nat.le_of_ble_eq_true rfl)) dL_law_581 ⟨by decide +kernel, by decide +kernel⟩) hS (fun q _ h => hFc_5 q h) hFc_5 (fun r_7 u t H1 locs ht hvm hw_6 hB hz1 hk1 hS => ?_)
  subst hw_6
  obtain ⟨hP1, hD1⟩ := hB
  rw [ht] at hP1
  obtain ⟨hP, hD⟩ := va_join (wr := [(x0, .inr (11, [.ref x1, .ref x2, .ref x3, .ref x4, .ref x5, .ref x6, .ref x7])), (x1, .inr (9, [.ref x8, .ref x9, .ref x10, .ref x11, .ref x12, .int 0, .int (-1)])), (x9, .inl (cy 0, 3, .inl (fun _ => 0)))]) (w1 := []) hP hD [3, 4] [0, 1, 2] rfl rfl (by decide) (by decide) hk1 hFc_5 hP1 hD1
  generalize H1 = H at hP hS ⊢
  have hP : va_P D vwCl [(x0, .inr (11, [.ref x1, .ref x2, .ref x3, .ref x4, .ref x5, .ref x6, .ref x7])), (x1, .inr (9, [.ref x8, .ref x9, .ref x10, .ref x11, .ref x12, .int 0, .int (-1)])), (x9, .inl (cy 0, 3, .inl (fun _ => 0)))] H := hP
  have hD : va_D A [(x0, .inr (11, [.ref x1, .ref x2, .ref x3, .ref x4, .ref x5, .ref x6, .ref x7])), (x1, .inr (9, [.ref x8, .ref x9, .ref x10, .ref x11, .ref x12, .int 0, .int (-1)])), (x9, .inl (cy 0, 3, .inl (fun _ => 0)))] := hD
  refine lv_icmp_eq (tgt := 1550) hx hb dL_law_584 (by decide) (fun _ => ?_) (fun c_8 => absurd (by decide +kernel) c_8)
  exact lw_tail l C0 hAe hS (by decide +kernel) (by decide +kernel) ls (lv_sub hl [0, 3] rfl)
set_option maxHeartbeats 4000000 in
set_option maxRecDepth 100000 in
theorem lw_c11 {p : Program} {e : Env} {s : State} {m : MethodId} {below : List Frame} {meth : Method} {c : Code} (l : Launch) {b : Nat} {xs : Nat → Int32} (C0 : lw_At p s m meth c b 6 xs)  {A : Nat → Prop} (hAe : A = fun q : Nat => s.heap.size ≤ q) {D : va_G} {cy : Nat → ClassId} (hKW : KW D cy s) {x0 x1 x2 x3 x4 x5 x6 x7 x8 x9 x10 x11 x12 x13 x14 x15 x16 x17 x18 x19 x20 x21 x22 x23 x24 x25 x26 x27 x28 x29 x30 x31 x32 x33 x34 x35 x36 x37 x38 x39 x40 x41 x42 x43 x44 x45 x46 x47 x48 x49 x50 x51 x52 x53 x54 x55 x56 x57 x58 x59 x60 x61 x62 x63 x64 x65 x66 x67 x68 x69 x70 x71 x72 x73 x74 x75 x76 x77 x78 x79 x80 x81 x82 x83 x84 x85 x86 x87 x88 x89 x90 x91 y0 y1 y2 y3 y4 y5 y6 y7 y8 y9 y10 y11 y12 y13 y14 y15 y16 y17 y18 y19 y20 y21 y22 y23 y24 y25 y26 y27 y28 y29 y30 y31 y32 y33 y34 y35 : Nat} {H : Heap} {locs : List Loc} (hP : va_P D vwCl (WL cy x0 x1 x2 x3 x4 x5 x6 x7 x8 x9 x10 x11 x12 x13 x14 x15 x16 x17 x18 x19 x20 x21 x22 x23 x24 x25 x26 x27 x28 x29 x30 x31 x32 x33 x34 x35 x36 x37 x38 x39 x40 x41 x42 x43 x44 x45 x46 x47 x48 x49 x50 x51 x52 x53 x54 x55 x56 x57 x58 x59 x60 x61 x62 x63 x64 x65 x66 x67 x68 x69 x70 x71 x72 x73 x74 x75 x76 x77 x78 x79 x80 x81 x82 x83 x84 x85 x86 x87 x88 x89 x90 x91 y0 y1 y2 y3 y4 y5 y6 y7 y8 y9 y10 y11 y12 y13 y14 y15 y16 y17 y18 y19 y20 y21 y22 y23 y24 y25 y26 y27 y28 y29 y30 y31 y32 y33 y34 y35) H) (hD : va_D A (WL cy x0 x1 x2 x3 x4 x5 x6 x7 x8 x9 x10 x11 x12 x13 x14 x15 x16 x17 x18 x19 x20 x21 x22 x23 x24 x25 x26 x27 x28 x29 x30 x31 x32 x33 x34 x35 x36 x37 x38 x39 x40 x41 x42 x43 x44 x45 x46 x47 x48 x49 x50 x51 x52 x53 x54 x55 x56 x57 x58 x59 x60 x61 x62 x63 x64 x65 x66 x67 x68 x69 x70 x71 x72 x73 x74 x75 x76 x77 x78 x79 x80 x81 x82 x83 x84 x85 x86 x87 x88 x89 x90 x91 y0 y1 y2 y3 y4 y5 y6 y7 y8 y9 y10 y11 y12 y13 y14 y15 y16 y17 y18 y19 y20 y21 y22 y23 y24 y25 y26 y27 y28 y29 y30 y31 y32 y33 y34 y35)) (hS : va_S A s.heap H locs) (ls : Array Slot) (hl : lv_has ls 4 [(3, .int 0), (2, .ref y0), (1, .ref x0), (0, .ref b)]) : W p l e room_1 s m #[Value.ref b] below meth c H locs 128 11575 (lw_Z below #[Value.ref b] s) (F0 m 589 ls []) := by
  obtain ⟨hx, hb, hr, hml, hown, hts0, hX, hbl, hlocks, hgv⟩ := id C0
  have hts : ∀ w ∈ wsL_law, w.before #[Value.ref b] s = true := fun w h => hts0 w (wsL_law_in w h)
  have hown : s.vm.findClass RL = some m.cls := hown
  have hK := hKW.1
  have hA : ∀ q : Nat, s.heap.size ≤ q → A q := fun _ h => by rw [hAe]; exact h
  have hbA : ¬ A b := by rw [hAe]; exact Nat.not_le.mpr hbl
  have hP := hP.sub (ws' := [(x0, .inr (11, [.ref x1, .ref x2, .ref x3, .ref x4, .ref x5, .ref x6, .ref x7])), (x1, .inr (9, [.ref x8, .ref x9, .ref x10, .ref x11, .ref x12, .int 0, .int (-1)])), (x9, .inl (cy 0, 3, .inl (fun _ => 0))), (y0, .inr (12, [.int 0, .ref y1, .ref y2, .ref y3, .ref y4, .ref y5, .ref y6, .ref y7, .ref y8, .int 0, .int 0, .int 0, .int 0, .int 0, .long 0, .int 0, .int 0, .int 0, .ref y9, .ref y10, .int 0, .int 0, .int 0, .int 0, .int 0, .int 0, .int 0, .int 0, .int 0, .int 0, .ref y11, .ref y12, .ref y13, .int 0, .int 0, .int 0, .ref y14, .ref y15, .ref y16, .ref y17, .ref y18, .ref y19, .ref y20, .ref y21, .ref y22, .ref y23, .ref y24, .ref y25, .ref y26, .int 0, .int 0, .int 0, .ref y27, .ref y28, .ref y29, .int 0, .int 0, .int 0, .ref y30, .ref y31, .ref y32, .ref y33, .ref y34, .ref y35])), (y5, .inl (cy 0, 12, .inl (fun _ => 0)))]) [0, 1, 4, 92, 97] rfl
  have hD := hD.sub (ws' := [(x0, .inr (11, [.ref x1, .ref x2, .ref x3, .ref x4, .ref x5, .ref x6, .ref x7])), (x1, .inr (9, [.ref x8, .ref x9, .ref x10, .ref x11, .ref x12, .int 0, .int (-1)])), (x9, .inl (cy 0, 3, .inl (fun _ => 0))), (y0, .inr (12, [.int 0, .ref y1, .ref y2, .ref y3, .ref y4, .ref y5, .ref y6, .ref y7, .ref y8, .int 0, .int 0, .int 0, .int 0, .int 0, .long 0, .int 0, .int 0, .int 0, .ref y9, .ref y10, .int 0, .int 0, .int 0, .int 0, .int 0, .int 0, .int 0, .int 0, .int 0, .int 0, .ref y11, .ref y12, .ref y13, .int 0, .int 0, .int 0, .ref y14, .ref y15, .ref y16, .ref y17, .ref y18, .ref y19, .ref y20, .ref y21, .ref y22, .ref y23, .ref y24, .ref y25, .ref y26, .int 0, .int 0, .int 0, .ref y27, .ref y28, .ref y29, .int 0, .int 0, .int 0, .ref y30, .ref y31, .ref y32, .ref y33, .ref y34, .ref y35])), (y5, .inl (cy 0, 12, .inl (fun _ => 0)))]) [0, 1, 4, 92, 97] (by decide) rfl
  refine lv_aload_n hx hb dL_law_589 rfl (lv_at hl 2 rfl) ?_
  refine lv_aload_n hx hb dL_law_590 rfl (lv_at hl 3 rfl) ?_
  refine lv_iload_n hx hb dL_law_591 rfl (lv_at hl 0 rfl) ?_
  refine lv_iconst (v := 1) hx hb dL_law_592 (by decide +kernel) ?_
  refine lv_iadd hx hb dL_law_593 ?_
  refine tp_i 1 (by decide +kernel) ?_
  refine va_sld hx hb hX hbl hbA hS (vi_c (by decide +kernel)) dL_law_594 ?_
  refine tp_i (xs 1) rfl ?_
  refine lv_aload_n hx hb dL_law_595 rfl (lv_at hl 3 rfl) ?_
  refine lv_iload_n hx hb dL_law_596 rfl (lv_at hl 0 rfl) ?_
  refine lv_iconst (v := 2) hx hb dL_law_597 (by decide +kernel) ?_
  refine lv_iadd hx hb dL_law_598 ?_
  refine tp_i 2 (by decide +kernel) ?_
  refine va_sld hx hb hX hbl hbA hS (vi_c (by decide +kernel)) dL_law_599 ?_
  refine tp_i (xs 2) rfl ?_
  have hPc_1 := hP.sub (ws' := [(x0, .inr (11, [.ref x1, .ref x2, .ref x3, .ref x4, .ref x5, .ref x6, .ref x7])), (x1, .inr (9, [.ref x8, .ref x9, .ref x10, .ref x11, .ref x12, .int 0, .int (-1)])), (x9, .inl (cy 0, 3, .inl (fun _ => 0)))]) [0, 1, 2] rfl
  refine pc_i (va_runV (As := [.int (xs 1), .int (xs 2)]) (rest := []) ⟨hx, hb, hml, hown, hts⟩ (c_X11_stop l D cy x0 x2 x3 x4 x5 x6 x7 x1 x8 x9 x10 x11 x12 (xs 1) (xs 2)) (cwV 2 hts gL_law_X11_stop rfl rfl rfl (by decide +kernel) ⟨Nat.le_of_ble_eq_true rfl, Nat.le_of_ble_eq_true rfl⟩) ⟨prB, va_recv hK hPc_1 (ci := 11) (q0 := 0) rfl rfl, fun U hU hW => ⟨rfl, PR.of hU hW hKW hPc_1⟩⟩ rfl rfl hl.1 rfl (lv_room (Nat.le_of_ble_eq_true rfl)) dL_law_600 ⟨by decide +kernel, by decide +kernel⟩) (fun r_2 hr_2 => ?_)
  subst hr_2
  refine lv_aload_n hx hb dL_law_603 rfl (lv_at hl 1 rfl) ?_
  refine lv_aload_n hx hb dL_law_604 rfl (lv_at hl 3 rfl) ?_
  refine lv_iload_n hx hb dL_law_605 rfl (lv_at hl 0 rfl) ?_
  refine lv_iconst (v := 1) hx hb dL_law_606 (by decide +kernel) ?_
  refine lv_iadd hx hb dL_law_607 ?_
  refine tp_i 1 (by decide +kernel) ?_
  refine va_sld hx hb hX hbl hbA hS (vi_c (by decide +kernel)) dL_law_608 ?_
  refine tp_i (xs 1) rfl ?_
  refine lv_aload_n hx hb dL_law_609 rfl (lv_at hl 3 rfl) ?_
  refine lv_iload_n hx hb dL_law_610 rfl (lv_at hl 0 rfl) ?_
  refine lv_iconst (v := 2) hx hb dL_law_611 (by decide +kernel) ?_
  refine lv_iadd hx hb dL_law_612 ?_
  refine tp_i 2 (by decide +kernel) ?_
  refine va_sld hx hb hX hbl hbA hS (vi_c (by decide +kernel)) dL_law_613 ?_
  refine tp_i (xs 2) rfl ?_
  have hPc_3 := hP.sub (ws' := [(y0, .inr (12, [.int 0, .ref y1, .ref y2, .ref y3, .ref y4, .ref y5, .ref y6, .ref y7, .ref y8, .int 0, .int 0, .int 0, .int 0, .int 0, .long 0, .int 0, .int 0, .int 0, .ref y9, .ref y10, .int 0, .int 0, .int 0, .int 0, .int 0, .int 0, .int 0, .int 0, .int 0, .int 0, .ref y11, .ref y12, .ref y13, .int 0, .int 0, .int 0, .ref y14, .ref y15, .ref y16, .ref y17, .ref y18, .ref y19, .ref y20, .ref y21, .ref y22, .ref y23, .ref y24, .ref y25, .ref y26, .int 0, .int 0, .int 0, .ref y27, .ref y28, .ref y29, .int 0, .int 0, .int 0, .ref y30, .ref y31, .ref y32, .ref y33, .ref y34, .ref y35])), (y5, .inl (cy 0, 12, .inl (fun _ => 0)))]) [3, 4] rfl
  have hDc_4 := hD.sub (ws' := [(y0, .inr (12, [.int 0, .ref y1, .ref y2, .ref y3, .ref y4, .ref y5, .ref y6, .ref y7, .ref y8, .int 0, .int 0, .int 0, .int 0, .int 0, .long 0, .int 0, .int 0, .int 0, .ref y9, .ref y10, .int 0, .int 0, .int 0, .int 0, .int 0, .int 0, .int 0, .int 0, .int 0, .int 0, .ref y11, .ref y12, .ref y13, .int 0, .int 0, .int 0, .ref y14, .ref y15, .ref y16, .ref y17, .ref y18, .ref y19, .ref y20, .ref y21, .ref y22, .ref y23, .ref y24, .ref y25, .ref y26, .int 0, .int 0, .int 0, .ref y27, .ref y28, .ref y29, .int 0, .int 0, .int 0, .ref y30, .ref y31, .ref y32, .ref y33, .ref y34, .ref y35])), (y5, .inl (cy 0, 12, .inl (fun _ => 0)))]) [3, 4] (by decide) rfl
  have hFc_5 := va_free (wc := [(y0, .inr (12, [.int 0, .ref y1, .ref y2, .ref y3, .ref y4, .ref y5, .ref y6, .ref y7, .ref y8, .int 0, .int 0, .int 0, .int 0, .int 0, .long 0, .int 0, .int 0, .int 0, .ref y9, .ref y10, .int 0, .int 0, .int 0, .int 0, .int 0, .int 0, .int 0, .int 0, .int 0, .int 0, .ref y11, .ref y12, .ref y13, .int 0, .int 0, .int 0, .ref y14, .ref y15, .ref y16, .ref y17, .ref y18, .ref y19, .ref y20, .ref y21, .ref y22, .ref y23, .ref y24, .ref y25, .ref y26, .int 0, .int 0, .int 0, .ref y27, .ref y28, .ref y29, .int 0, .int 0, .int 0, .ref y30, .ref y31, .ref y32, .ref y33, .ref y34, .ref y35])), (y5, .inl (cy 0, 12, .inl (fun _ => 0)))]) hD hS hA [3, 4] rfl
  refine va_calli (va_runV (As := [.int (xs 1), .int (xs 2)]) (rest := [.int (-1)]) ⟨hx, hb, hml, hown, hts⟩ (c_X12_stop l D cy y0 y1 y2 y3 y4 y5 y6 y7 y8 y9 y10 y11 y12 y13 y14 y15 y16 y17 y18 y19 y20 y21 y22 y23 y24 y25 y26 y27 y28 y29 y30 y31 y32 y33 y34 y35 (xs 1) (xs 2) H.size) (cwV 2 hts gL_law_X12_stop rfl rfl rfl (by decide +kernel) ⟨Nat.le_of_ble_eq_true rfl, Nat.le_of_ble_eq_true rfl⟩) ⟨pwB, va_recv hK hPc_3 (ci := 12) (q0 := 0) rfl rfl, fun U hU hW => ⟨rfl, PW.of hU hW hKW hPc_3 hDc_4⟩⟩ rfl rfl hl.1 rfl (lv_room (Nat.le_of_ble_eq_true rfl)) dL_law_614 ⟨by decide +kernel, by decide +kernel⟩) hS (fun q _ h => hFc_5 q h) hFc_5 (fun r_7 u t H1 locs ht hvm hw_6 hB hz1 hk1 hS => ?_)
  subst hw_6
  obtain ⟨hP1, hD1⟩ := hB
  rw [ht] at hP1
  obtain ⟨hP, hD⟩ := va_join (wr := [(x0, .inr (11, [.ref x1, .ref x2, .ref x3, .ref x4, .ref x5, .ref x6, .ref x7])), (x1, .inr (9, [.ref x8, .ref x9, .ref x10, .ref x11, .ref x12, .int 0, .int (-1)])), (x9, .inl (cy 0, 3, .inl (fun _ => 0)))]) (w1 := []) hP hD [3, 4] [0, 1, 2] rfl rfl (by decide) (by decide) hk1 hFc_5 hP1 hD1
  generalize H1 = H at hP hS ⊢
  have hP : va_P D vwCl [(x0, .inr (11, [.ref x1, .ref x2, .ref x3, .ref x4, .ref x5, .ref x6, .ref x7])), (x1, .inr (9, [.ref x8, .ref x9, .ref x10, .ref x11, .ref x12, .int 0, .int (-1)])), (x9, .inl (cy 0, 3, .inl (fun _ => 0)))] H := hP
  have hD : va_D A [(x0, .inr (11, [.ref x1, .ref x2, .ref x3, .ref x4, .ref x5, .ref x6, .ref x7])), (x1, .inr (9, [.ref x8, .ref x9, .ref x10, .ref x11, .ref x12, .int 0, .int (-1)])), (x9, .inl (cy 0, 3, .inl (fun _ => 0)))] := hD
  refine lv_icmp_eq (tgt := 1550) hx hb dL_law_617 (by decide) (fun _ => ?_) (fun c_8 => absurd (by decide +kernel) c_8)
  exact lw_tail l C0 hAe hS (by decide +kernel) (by decide +kernel) ls (lv_sub hl [0, 3] rfl)
set_option maxHeartbeats 4000000 in
set_option maxRecDepth 100000 in
theorem lw_c12 {p : Program} {e : Env} {s : State} {m : MethodId} {below : List Frame} {meth : Method} {c : Code} (l : Launch) {b : Nat} {xs : Nat → Int32} (C0 : lw_At p s m meth c b 6 xs)  {A : Nat → Prop} (hAe : A = fun q : Nat => s.heap.size ≤ q) {D : va_G} {cy : Nat → ClassId} (hKW : KW D cy s) {x0 x1 x2 x3 x4 x5 x6 x7 x8 x9 x10 x11 x12 x13 x14 x15 x16 x17 x18 x19 x20 x21 x22 x23 x24 x25 x26 x27 x28 x29 x30 x31 x32 x33 x34 x35 x36 x37 x38 x39 x40 x41 x42 x43 x44 x45 x46 x47 x48 x49 x50 x51 x52 x53 x54 x55 x56 x57 x58 x59 x60 x61 x62 x63 x64 x65 x66 x67 x68 x69 x70 x71 x72 x73 x74 x75 x76 x77 x78 x79 x80 x81 x82 x83 x84 x85 x86 x87 x88 x89 x90 x91 y0 y1 y2 y3 y4 y5 y6 y7 y8 y9 y10 y11 y12 y13 y14 y15 y16 y17 y18 y19 y20 y21 y22 y23 y24 y25 y26 y27 y28 y29 y30 y31 y32 y33 y34 y35 : Nat} {H : Heap} {locs : List Loc} (hP : va_P D vwCl (WL cy x0 x1 x2 x3 x4 x5 x6 x7 x8 x9 x10 x11 x12 x13 x14 x15 x16 x17 x18 x19 x20 x21 x22 x23 x24 x25 x26 x27 x28 x29 x30 x31 x32 x33 x34 x35 x36 x37 x38 x39 x40 x41 x42 x43 x44 x45 x46 x47 x48 x49 x50 x51 x52 x53 x54 x55 x56 x57 x58 x59 x60 x61 x62 x63 x64 x65 x66 x67 x68 x69 x70 x71 x72 x73 x74 x75 x76 x77 x78 x79 x80 x81 x82 x83 x84 x85 x86 x87 x88 x89 x90 x91 y0 y1 y2 y3 y4 y5 y6 y7 y8 y9 y10 y11 y12 y13 y14 y15 y16 y17 y18 y19 y20 y21 y22 y23 y24 y25 y26 y27 y28 y29 y30 y31 y32 y33 y34 y35) H) (hD : va_D A (WL cy x0 x1 x2 x3 x4 x5 x6 x7 x8 x9 x10 x11 x12 x13 x14 x15 x16 x17 x18 x19 x20 x21 x22 x23 x24 x25 x26 x27 x28 x29 x30 x31 x32 x33 x34 x35 x36 x37 x38 x39 x40 x41 x42 x43 x44 x45 x46 x47 x48 x49 x50 x51 x52 x53 x54 x55 x56 x57 x58 x59 x60 x61 x62 x63 x64 x65 x66 x67 x68 x69 x70 x71 x72 x73 x74 x75 x76 x77 x78 x79 x80 x81 x82 x83 x84 x85 x86 x87 x88 x89 x90 x91 y0 y1 y2 y3 y4 y5 y6 y7 y8 y9 y10 y11 y12 y13 y14 y15 y16 y17 y18 y19 y20 y21 y22 y23 y24 y25 y26 y27 y28 y29 y30 y31 y32 y33 y34 y35)) (hS : va_S A s.heap H locs) (ls : Array Slot) (hl : lv_has ls 4 [(3, .int 0), (2, .ref y0), (1, .ref x0), (0, .ref b)]) : W p l e room_1 s m #[Value.ref b] below meth c H locs 128 11575 (lw_Z below #[Value.ref b] s) (F0 m 622 ls []) := by
  obtain ⟨hx, hb, hr, hml, hown, hts0, hX, hbl, hlocks, hgv⟩ := id C0
  have hts : ∀ w ∈ wsL_law, w.before #[Value.ref b] s = true := fun w h => hts0 w (wsL_law_in w h)
  have hown : s.vm.findClass RL = some m.cls := hown
  have hK := hKW.1
  have hA : ∀ q : Nat, s.heap.size ≤ q → A q := fun _ h => by rw [hAe]; exact h
  have hbA : ¬ A b := by rw [hAe]; exact Nat.not_le.mpr hbl
  have hP := hP.sub (ws' := [(x0, .inr (11, [.ref x1, .ref x2, .ref x3, .ref x4, .ref x5, .ref x6, .ref x7])), (x1, .inr (9, [.ref x8, .ref x9, .ref x10, .ref x11, .ref x12, .int 0, .int (-1)])), (x9, .inl (cy 0, 3, .inl (fun _ => 0))), (y0, .inr (12, [.int 0, .ref y1, .ref y2, .ref y3, .ref y4, .ref y5, .ref y6, .ref y7, .ref y8, .int 0, .int 0, .int 0, .int 0, .int 0, .long 0, .int 0, .int 0, .int 0, .ref y9, .ref y10, .int 0, .int 0, .int 0, .int 0, .int 0, .int 0, .int 0, .int 0, .int 0, .int 0, .ref y11, .ref y12, .ref y13, .int 0, .int 0, .int 0, .ref y14, .ref y15, .ref y16, .ref y17, .ref y18, .ref y19, .ref y20, .ref y21, .ref y22, .ref y23, .ref y24, .ref y25, .ref y26, .int 0, .int 0, .int 0, .ref y27, .ref y28, .ref y29, .int 0, .int 0, .int 0, .ref y30, .ref y31, .ref y32, .ref y33, .ref y34, .ref y35])), (y5, .inl (cy 0, 12, .inl (fun _ => 0)))]) [0, 1, 4, 92, 97] rfl
  have hD := hD.sub (ws' := [(x0, .inr (11, [.ref x1, .ref x2, .ref x3, .ref x4, .ref x5, .ref x6, .ref x7])), (x1, .inr (9, [.ref x8, .ref x9, .ref x10, .ref x11, .ref x12, .int 0, .int (-1)])), (x9, .inl (cy 0, 3, .inl (fun _ => 0))), (y0, .inr (12, [.int 0, .ref y1, .ref y2, .ref y3, .ref y4, .ref y5, .ref y6, .ref y7, .ref y8, .int 0, .int 0, .int 0, .int 0, .int 0, .long 0, .int 0, .int 0, .int 0, .ref y9, .ref y10, .int 0, .int 0, .int 0, .int 0, .int 0, .int 0, .int 0, .int 0, .int 0, .int 0, .ref y11, .ref y12, .ref y13, .int 0, .int 0, .int 0, .ref y14, .ref y15, .ref y16, .ref y17, .ref y18, .ref y19, .ref y20, .ref y21, .ref y22, .ref y23, .ref y24, .ref y25, .ref y26, .int 0, .int 0, .int 0, .ref y27, .ref y28, .ref y29, .int 0, .int 0, .int 0, .ref y30, .ref y31, .ref y32, .ref y33, .ref y34, .ref y35])), (y5, .inl (cy 0, 12, .inl (fun _ => 0)))]) [0, 1, 4, 92, 97] (by decide) rfl
  refine lv_aload_n hx hb dL_law_622 rfl (lv_at hl 2 rfl) ?_
  refine lv_aload_n hx hb dL_law_623 rfl (lv_at hl 3 rfl) ?_
  refine lv_iload_n hx hb dL_law_624 rfl (lv_at hl 0 rfl) ?_
  refine lv_iconst (v := 1) hx hb dL_law_625 (by decide +kernel) ?_
  refine lv_iadd hx hb dL_law_626 ?_
  refine tp_i 1 (by decide +kernel) ?_
  refine va_sld hx hb hX hbl hbA hS (vi_c (by decide +kernel)) dL_law_627 ?_
  refine tp_i (xs 1) rfl ?_
  refine lv_aload_n hx hb dL_law_628 rfl (lv_at hl 3 rfl) ?_
  refine lv_iload_n hx hb dL_law_629 rfl (lv_at hl 0 rfl) ?_
  refine lv_iconst (v := 2) hx hb dL_law_630 (by decide +kernel) ?_
  refine lv_iadd hx hb dL_law_631 ?_
  refine tp_i 2 (by decide +kernel) ?_
  refine va_sld hx hb hX hbl hbA hS (vi_c (by decide +kernel)) dL_law_632 ?_
  refine tp_i (xs 2) rfl ?_
  refine lv_aload_n hx hb dL_law_633 rfl (lv_at hl 3 rfl) ?_
  refine lv_iload_n hx hb dL_law_634 rfl (lv_at hl 0 rfl) ?_
  refine lv_iconst (v := 3) hx hb dL_law_635 (by decide +kernel) ?_
  refine lv_iadd hx hb dL_law_636 ?_
  refine tp_i 3 (by decide +kernel) ?_
  refine va_sld hx hb hX hbl hbA hS (vi_c (by decide +kernel)) dL_law_637 ?_
  refine tp_i (xs 3) rfl ?_
  refine lv_aload_n hx hb dL_law_638 rfl (lv_at hl 3 rfl) ?_
  refine lv_iload_n hx hb dL_law_639 rfl (lv_at hl 0 rfl) ?_
  refine lv_iconst (v := 4) hx hb dL_law_640 (by decide +kernel) ?_
  refine lv_iadd hx hb dL_law_641 ?_
  refine tp_i 4 (by decide +kernel) ?_
  refine va_sld hx hb hX hbl hbA hS (vi_c (by decide +kernel)) dL_law_642 ?_
  refine tp_i (xs 4) rfl ?_
  refine lv_aload_n hx hb dL_law_643 rfl (lv_at hl 3 rfl) ?_
  refine lv_iload_n hx hb dL_law_644 rfl (lv_at hl 0 rfl) ?_
  refine lv_iconst (v := 5) hx hb dL_law_645 (by decide +kernel) ?_
  refine lv_iadd hx hb dL_law_646 ?_
  refine tp_i 5 (by decide +kernel) ?_
  refine va_sld hx hb hX hbl hbA hS (vi_c (by decide +kernel)) dL_law_647 ?_
  refine tp_i (xs 5) rfl ?_
  have hPc_1 := hP.sub (ws' := [(x0, .inr (11, [.ref x1, .ref x2, .ref x3, .ref x4, .ref x5, .ref x6, .ref x7])), (x1, .inr (9, [.ref x8, .ref x9, .ref x10, .ref x11, .ref x12, .int 0, .int (-1)])), (x9, .inl (cy 0, 3, .inl (fun _ => 0)))]) [0, 1, 2] rfl
  refine pc_i (va_runV (As := [.int (xs 1), .int (xs 2), .int (xs 3), .int (xs 4), .int (xs 5)]) (rest := []) ⟨hx, hb, hml, hown, hts⟩ (c_X11_state l D cy x0 x2 x3 x4 x5 x6 x7 x1 x8 x9 x10 x11 x12 (xs 1) (xs 2) (xs 3) (xs 4) (xs 5)) (cwV 5 hts gL_law_X11_state rfl rfl rfl (by decide +kernel) ⟨Nat.le_of_ble_eq_true rfl, Nat.le_of_ble_eq_true rfl⟩) ⟨prB, va_recv hK hPc_1 (ci := 11) (q0 := 0) rfl rfl, fun U hU hW => ⟨rfl, PR.of hU hW hKW hPc_1⟩⟩ rfl rfl hl.1 rfl (lv_room (Nat.le_of_ble_eq_true rfl)) dL_law_648 ⟨by decide +kernel, by decide +kernel⟩) (fun r_2 hr_2 => ?_)
  subst hr_2
  refine lv_aload_n hx hb dL_law_651 rfl (lv_at hl 1 rfl) ?_
  refine lv_aload_n hx hb dL_law_652 rfl (lv_at hl 3 rfl) ?_
  refine lv_iload_n hx hb dL_law_653 rfl (lv_at hl 0 rfl) ?_
  refine lv_iconst (v := 1) hx hb dL_law_654 (by decide +kernel) ?_
  refine lv_iadd hx hb dL_law_655 ?_
  refine tp_i 1 (by decide +kernel) ?_
  refine va_sld hx hb hX hbl hbA hS (vi_c (by decide +kernel)) dL_law_656 ?_
  refine tp_i (xs 1) rfl ?_
  refine lv_aload_n hx hb dL_law_657 rfl (lv_at hl 3 rfl) ?_
  refine lv_iload_n hx hb dL_law_658 rfl (lv_at hl 0 rfl) ?_
  refine lv_iconst (v := 2) hx hb dL_law_659 (by decide +kernel) ?_
  refine lv_iadd hx hb dL_law_660 ?_
  refine tp_i 2 (by decide +kernel) ?_
  refine va_sld hx hb hX hbl hbA hS (vi_c (by decide +kernel)) dL_law_661 ?_
  refine tp_i (xs 2) rfl ?_
  refine lv_aload_n hx hb dL_law_662 rfl (lv_at hl 3 rfl) ?_
  refine lv_iload_n hx hb dL_law_663 rfl (lv_at hl 0 rfl) ?_
  refine lv_iconst (v := 3) hx hb dL_law_664 (by decide +kernel) ?_
  refine lv_iadd hx hb dL_law_665 ?_
  refine tp_i 3 (by decide +kernel) ?_
  refine va_sld hx hb hX hbl hbA hS (vi_c (by decide +kernel)) dL_law_666 ?_
  refine tp_i (xs 3) rfl ?_
  refine lv_aload_n hx hb dL_law_667 rfl (lv_at hl 3 rfl) ?_
  refine lv_iload_n hx hb dL_law_668 rfl (lv_at hl 0 rfl) ?_
  refine lv_iconst (v := 4) hx hb dL_law_669 (by decide +kernel) ?_
  refine lv_iadd hx hb dL_law_670 ?_
  refine tp_i 4 (by decide +kernel) ?_
  refine va_sld hx hb hX hbl hbA hS (vi_c (by decide +kernel)) dL_law_671 ?_
  refine tp_i (xs 4) rfl ?_
  refine lv_aload_n hx hb dL_law_672 rfl (lv_at hl 3 rfl) ?_
  refine lv_iload_n hx hb dL_law_673 rfl (lv_at hl 0 rfl) ?_
  refine lv_iconst (v := 5) hx hb dL_law_674 (by decide +kernel) ?_
  refine lv_iadd hx hb dL_law_675 ?_
  refine tp_i 5 (by decide +kernel) ?_
  refine va_sld hx hb hX hbl hbA hS (vi_c (by decide +kernel)) dL_law_676 ?_
  refine tp_i (xs 5) rfl ?_
  have hPc_3 := hP.sub (ws' := [(y0, .inr (12, [.int 0, .ref y1, .ref y2, .ref y3, .ref y4, .ref y5, .ref y6, .ref y7, .ref y8, .int 0, .int 0, .int 0, .int 0, .int 0, .long 0, .int 0, .int 0, .int 0, .ref y9, .ref y10, .int 0, .int 0, .int 0, .int 0, .int 0, .int 0, .int 0, .int 0, .int 0, .int 0, .ref y11, .ref y12, .ref y13, .int 0, .int 0, .int 0, .ref y14, .ref y15, .ref y16, .ref y17, .ref y18, .ref y19, .ref y20, .ref y21, .ref y22, .ref y23, .ref y24, .ref y25, .ref y26, .int 0, .int 0, .int 0, .ref y27, .ref y28, .ref y29, .int 0, .int 0, .int 0, .ref y30, .ref y31, .ref y32, .ref y33, .ref y34, .ref y35])), (y5, .inl (cy 0, 12, .inl (fun _ => 0)))]) [3, 4] rfl
  have hDc_4 := hD.sub (ws' := [(y0, .inr (12, [.int 0, .ref y1, .ref y2, .ref y3, .ref y4, .ref y5, .ref y6, .ref y7, .ref y8, .int 0, .int 0, .int 0, .int 0, .int 0, .long 0, .int 0, .int 0, .int 0, .ref y9, .ref y10, .int 0, .int 0, .int 0, .int 0, .int 0, .int 0, .int 0, .int 0, .int 0, .int 0, .ref y11, .ref y12, .ref y13, .int 0, .int 0, .int 0, .ref y14, .ref y15, .ref y16, .ref y17, .ref y18, .ref y19, .ref y20, .ref y21, .ref y22, .ref y23, .ref y24, .ref y25, .ref y26, .int 0, .int 0, .int 0, .ref y27, .ref y28, .ref y29, .int 0, .int 0, .int 0, .ref y30, .ref y31, .ref y32, .ref y33, .ref y34, .ref y35])), (y5, .inl (cy 0, 12, .inl (fun _ => 0)))]) [3, 4] (by decide) rfl
  have hFc_5 := va_free (wc := [(y0, .inr (12, [.int 0, .ref y1, .ref y2, .ref y3, .ref y4, .ref y5, .ref y6, .ref y7, .ref y8, .int 0, .int 0, .int 0, .int 0, .int 0, .long 0, .int 0, .int 0, .int 0, .ref y9, .ref y10, .int 0, .int 0, .int 0, .int 0, .int 0, .int 0, .int 0, .int 0, .int 0, .int 0, .ref y11, .ref y12, .ref y13, .int 0, .int 0, .int 0, .ref y14, .ref y15, .ref y16, .ref y17, .ref y18, .ref y19, .ref y20, .ref y21, .ref y22, .ref y23, .ref y24, .ref y25, .ref y26, .int 0, .int 0, .int 0, .ref y27, .ref y28, .ref y29, .int 0, .int 0, .int 0, .ref y30, .ref y31, .ref y32, .ref y33, .ref y34, .ref y35])), (y5, .inl (cy 0, 12, .inl (fun _ => 0)))]) hD hS hA [3, 4] rfl
  refine va_calli (va_runV (As := [.int (xs 1), .int (xs 2), .int (xs 3), .int (xs 4), .int (xs 5)]) (rest := [.int (-2)]) ⟨hx, hb, hml, hown, hts⟩ (c_X12_state l D cy y0 y1 y2 y3 y4 y5 y6 y7 y8 y9 y10 y11 y12 y13 y14 y15 y16 y17 y18 y19 y20 y21 y22 y23 y24 y25 y26 y27 y28 y29 y30 y31 y32 y33 y34 y35 (xs 1) (xs 2) (xs 3) (xs 4) (xs 5) H.size) (cwV 5 hts gL_law_X12_state rfl rfl rfl (by decide +kernel) ⟨Nat.le_of_ble_eq_true rfl, Nat.le_of_ble_eq_true rfl⟩) ⟨pwB, va_recv hK hPc_3 (ci := 12) (q0 := 0) rfl rfl, fun U hU hW => ⟨rfl, PW.of hU hW hKW hPc_3 hDc_4⟩⟩ rfl rfl hl.1 rfl (lv_room (Nat.le_of_ble_eq_true rfl)) dL_law_677 ⟨by decide +kernel, by decide +kernel⟩) hS (fun q _ h => hFc_5 q h) hFc_5 (fun r_7 u t H1 locs ht hvm hw_6 hB hz1 hk1 hS => ?_)
  subst hw_6
  obtain ⟨hP1, hD1⟩ := hB
  rw [ht] at hP1
  obtain ⟨hP, hD⟩ := va_join (wr := [(x0, .inr (11, [.ref x1, .ref x2, .ref x3, .ref x4, .ref x5, .ref x6, .ref x7])), (x1, .inr (9, [.ref x8, .ref x9, .ref x10, .ref x11, .ref x12, .int 0, .int (-1)])), (x9, .inl (cy 0, 3, .inl (fun _ => 0)))]) (w1 := []) hP hD [3, 4] [0, 1, 2] rfl rfl (by decide) (by decide) hk1 hFc_5 hP1 hD1
  generalize H1 = H at hP hS ⊢
  have hP : va_P D vwCl [(x0, .inr (11, [.ref x1, .ref x2, .ref x3, .ref x4, .ref x5, .ref x6, .ref x7])), (x1, .inr (9, [.ref x8, .ref x9, .ref x10, .ref x11, .ref x12, .int 0, .int (-1)])), (x9, .inl (cy 0, 3, .inl (fun _ => 0)))] H := hP
  have hD : va_D A [(x0, .inr (11, [.ref x1, .ref x2, .ref x3, .ref x4, .ref x5, .ref x6, .ref x7])), (x1, .inr (9, [.ref x8, .ref x9, .ref x10, .ref x11, .ref x12, .int 0, .int (-1)])), (x9, .inl (cy 0, 3, .inl (fun _ => 0)))] := hD
  refine lv_icmp_eq (tgt := 1550) hx hb dL_law_680 (by decide) (fun _ => ?_) (fun c_8 => absurd (by decide +kernel) c_8)
  exact lw_tail l C0 hAe hS (by decide +kernel) (by decide +kernel) ls (lv_sub hl [0, 3] rfl)
set_option maxHeartbeats 4000000 in
set_option maxRecDepth 100000 in
theorem lw_c13 {p : Program} {e : Env} {s : State} {m : MethodId} {below : List Frame} {meth : Method} {c : Code} (l : Launch) {b : Nat} {xs : Nat → Int32} (C0 : lw_At p s m meth c b 6 xs)  {A : Nat → Prop} (hAe : A = fun q : Nat => s.heap.size ≤ q) {D : va_G} {cy : Nat → ClassId} (hKW : KW D cy s) {x0 x1 x2 x3 x4 x5 x6 x7 x8 x9 x10 x11 x12 x13 x14 x15 x16 x17 x18 x19 x20 x21 x22 x23 x24 x25 x26 x27 x28 x29 x30 x31 x32 x33 x34 x35 x36 x37 x38 x39 x40 x41 x42 x43 x44 x45 x46 x47 x48 x49 x50 x51 x52 x53 x54 x55 x56 x57 x58 x59 x60 x61 x62 x63 x64 x65 x66 x67 x68 x69 x70 x71 x72 x73 x74 x75 x76 x77 x78 x79 x80 x81 x82 x83 x84 x85 x86 x87 x88 x89 x90 x91 y0 y1 y2 y3 y4 y5 y6 y7 y8 y9 y10 y11 y12 y13 y14 y15 y16 y17 y18 y19 y20 y21 y22 y23 y24 y25 y26 y27 y28 y29 y30 y31 y32 y33 y34 y35 : Nat} {H : Heap} {locs : List Loc} (hP : va_P D vwCl (WL cy x0 x1 x2 x3 x4 x5 x6 x7 x8 x9 x10 x11 x12 x13 x14 x15 x16 x17 x18 x19 x20 x21 x22 x23 x24 x25 x26 x27 x28 x29 x30 x31 x32 x33 x34 x35 x36 x37 x38 x39 x40 x41 x42 x43 x44 x45 x46 x47 x48 x49 x50 x51 x52 x53 x54 x55 x56 x57 x58 x59 x60 x61 x62 x63 x64 x65 x66 x67 x68 x69 x70 x71 x72 x73 x74 x75 x76 x77 x78 x79 x80 x81 x82 x83 x84 x85 x86 x87 x88 x89 x90 x91 y0 y1 y2 y3 y4 y5 y6 y7 y8 y9 y10 y11 y12 y13 y14 y15 y16 y17 y18 y19 y20 y21 y22 y23 y24 y25 y26 y27 y28 y29 y30 y31 y32 y33 y34 y35) H) (hD : va_D A (WL cy x0 x1 x2 x3 x4 x5 x6 x7 x8 x9 x10 x11 x12 x13 x14 x15 x16 x17 x18 x19 x20 x21 x22 x23 x24 x25 x26 x27 x28 x29 x30 x31 x32 x33 x34 x35 x36 x37 x38 x39 x40 x41 x42 x43 x44 x45 x46 x47 x48 x49 x50 x51 x52 x53 x54 x55 x56 x57 x58 x59 x60 x61 x62 x63 x64 x65 x66 x67 x68 x69 x70 x71 x72 x73 x74 x75 x76 x77 x78 x79 x80 x81 x82 x83 x84 x85 x86 x87 x88 x89 x90 x91 y0 y1 y2 y3 y4 y5 y6 y7 y8 y9 y10 y11 y12 y13 y14 y15 y16 y17 y18 y19 y20 y21 y22 y23 y24 y25 y26 y27 y28 y29 y30 y31 y32 y33 y34 y35)) (hS : va_S A s.heap H locs) (ls : Array Slot) (hl : lv_has ls 4 [(3, .int 0), (2, .ref y0), (1, .ref x0), (0, .ref b)]) : W p l e room_1 s m #[Value.ref b] below meth c H locs 128 11575 (lw_Z below #[Value.ref b] s) (F0 m 685 ls []) := by
  obtain ⟨hx, hb, hr, hml, hown, hts0, hX, hbl, hlocks, hgv⟩ := id C0
  have hts : ∀ w ∈ wsL_law, w.before #[Value.ref b] s = true := fun w h => hts0 w (wsL_law_in w h)
  have hown : s.vm.findClass RL = some m.cls := hown
  have hK := hKW.1
  have hA : ∀ q : Nat, s.heap.size ≤ q → A q := fun _ h => by rw [hAe]; exact h
  have hbA : ¬ A b := by rw [hAe]; exact Nat.not_le.mpr hbl
  have hP := hP.sub (ws' := [(x0, .inr (11, [.ref x1, .ref x2, .ref x3, .ref x4, .ref x5, .ref x6, .ref x7])), (x1, .inr (9, [.ref x8, .ref x9, .ref x10, .ref x11, .ref x12, .int 0, .int (-1)])), (x9, .inl (cy 0, 3, .inl (fun _ => 0))), (y0, .inr (12, [.int 0, .ref y1, .ref y2, .ref y3, .ref y4, .ref y5, .ref y6, .ref y7, .ref y8, .int 0, .int 0, .int 0, .int 0, .int 0, .long 0, .int 0, .int 0, .int 0, .ref y9, .ref y10, .int 0, .int 0, .int 0, .int 0, .int 0, .int 0, .int 0, .int 0, .int 0, .int 0, .ref y11, .ref y12, .ref y13, .int 0, .int 0, .int 0, .ref y14, .ref y15, .ref y16, .ref y17, .ref y18, .ref y19, .ref y20, .ref y21, .ref y22, .ref y23, .ref y24, .ref y25, .ref y26, .int 0, .int 0, .int 0, .ref y27, .ref y28, .ref y29, .int 0, .int 0, .int 0, .ref y30, .ref y31, .ref y32, .ref y33, .ref y34, .ref y35])), (y5, .inl (cy 0, 12, .inl (fun _ => 0)))]) [0, 1, 4, 92, 97] rfl
  have hD := hD.sub (ws' := [(x0, .inr (11, [.ref x1, .ref x2, .ref x3, .ref x4, .ref x5, .ref x6, .ref x7])), (x1, .inr (9, [.ref x8, .ref x9, .ref x10, .ref x11, .ref x12, .int 0, .int (-1)])), (x9, .inl (cy 0, 3, .inl (fun _ => 0))), (y0, .inr (12, [.int 0, .ref y1, .ref y2, .ref y3, .ref y4, .ref y5, .ref y6, .ref y7, .ref y8, .int 0, .int 0, .int 0, .int 0, .int 0, .long 0, .int 0, .int 0, .int 0, .ref y9, .ref y10, .int 0, .int 0, .int 0, .int 0, .int 0, .int 0, .int 0, .int 0, .int 0, .int 0, .ref y11, .ref y12, .ref y13, .int 0, .int 0, .int 0, .ref y14, .ref y15, .ref y16, .ref y17, .ref y18, .ref y19, .ref y20, .ref y21, .ref y22, .ref y23, .ref y24, .ref y25, .ref y26, .int 0, .int 0, .int 0, .ref y27, .ref y28, .ref y29, .int 0, .int 0, .int 0, .ref y30, .ref y31, .ref y32, .ref y33, .ref y34, .ref y35])), (y5, .inl (cy 0, 12, .inl (fun _ => 0)))]) [0, 1, 4, 92, 97] (by decide) rfl
  refine lv_aload_n hx hb dL_law_685 rfl (lv_at hl 2 rfl) ?_
  refine lv_aload_n hx hb dL_law_686 rfl (lv_at hl 3 rfl) ?_
  refine lv_iload_n hx hb dL_law_687 rfl (lv_at hl 0 rfl) ?_
  refine lv_iconst (v := 1) hx hb dL_law_688 (by decide +kernel) ?_
  refine lv_iadd hx hb dL_law_689 ?_
  refine tp_i 1 (by decide +kernel) ?_
  refine va_sld hx hb hX hbl hbA hS (vi_c (by decide +kernel)) dL_law_690 ?_
  refine tp_i (xs 1) rfl ?_
  refine lv_aload_n hx hb dL_law_691 rfl (lv_at hl 3 rfl) ?_
  refine lv_iload_n hx hb dL_law_692 rfl (lv_at hl 0 rfl) ?_
  refine lv_iconst (v := 2) hx hb dL_law_693 (by decide +kernel) ?_
  refine lv_iadd hx hb dL_law_694 ?_
  refine tp_i 2 (by decide +kernel) ?_
  refine va_sld hx hb hX hbl hbA hS (vi_c (by decide +kernel)) dL_law_695 ?_
  refine tp_i (xs 2) rfl ?_
  refine lv_aload_n hx hb dL_law_696 rfl (lv_at hl 3 rfl) ?_
  refine lv_iload_n hx hb dL_law_697 rfl (lv_at hl 0 rfl) ?_
  refine lv_iconst (v := 3) hx hb dL_law_698 (by decide +kernel) ?_
  refine lv_iadd hx hb dL_law_699 ?_
  refine tp_i 3 (by decide +kernel) ?_
  refine va_sld hx hb hX hbl hbA hS (vi_c (by decide +kernel)) dL_law_700 ?_
  refine tp_i (xs 3) rfl ?_
  refine lv_aload_n hx hb dL_law_701 rfl (lv_at hl 3 rfl) ?_
  refine lv_iload_n hx hb dL_law_702 rfl (lv_at hl 0 rfl) ?_
  refine lv_iconst (v := 4) hx hb dL_law_703 (by decide +kernel) ?_
  refine lv_iadd hx hb dL_law_704 ?_
  refine tp_i 4 (by decide +kernel) ?_
  refine va_sld hx hb hX hbl hbA hS (vi_c (by decide +kernel)) dL_law_705 ?_
  refine tp_i (xs 4) rfl ?_
  refine lv_aload_n hx hb dL_law_706 rfl (lv_at hl 3 rfl) ?_
  refine lv_iload_n hx hb dL_law_707 rfl (lv_at hl 0 rfl) ?_
  refine lv_iconst (v := 5) hx hb dL_law_708 (by decide +kernel) ?_
  refine lv_iadd hx hb dL_law_709 ?_
  refine tp_i 5 (by decide +kernel) ?_
  refine va_sld hx hb hX hbl hbA hS (vi_c (by decide +kernel)) dL_law_710 ?_
  refine tp_i (xs 5) rfl ?_
  have hPc_1 := hP.sub (ws' := [(x0, .inr (11, [.ref x1, .ref x2, .ref x3, .ref x4, .ref x5, .ref x6, .ref x7])), (x1, .inr (9, [.ref x8, .ref x9, .ref x10, .ref x11, .ref x12, .int 0, .int (-1)])), (x9, .inl (cy 0, 3, .inl (fun _ => 0)))]) [0, 1, 2] rfl
  refine pc_i (va_runV (As := [.int (xs 1), .int (xs 2), .int (xs 3), .int (xs 4), .int (xs 5)]) (rest := []) ⟨hx, hb, hml, hown, hts⟩ (c_X11_has l D cy x0 x2 x3 x4 x5 x6 x7 x1 x8 x9 x10 x11 x12 (xs 1) (xs 2) (xs 3) (xs 4) (xs 5)) (cwV 5 hts gL_law_X11_has rfl rfl rfl (by decide +kernel) ⟨Nat.le_of_ble_eq_true rfl, Nat.le_of_ble_eq_true rfl⟩) ⟨prB, va_recv hK hPc_1 (ci := 11) (q0 := 0) rfl rfl, fun U hU hW => ⟨rfl, PR.of hU hW hKW hPc_1⟩⟩ rfl rfl hl.1 rfl (lv_room (Nat.le_of_ble_eq_true rfl)) dL_law_711 ⟨by decide +kernel, by decide +kernel⟩) (fun r_2 hr_2 => ?_)
  subst hr_2
  refine lv_aload_n hx hb dL_law_714 rfl (lv_at hl 1 rfl) ?_
  refine lv_aload_n hx hb dL_law_715 rfl (lv_at hl 3 rfl) ?_
  refine lv_iload_n hx hb dL_law_716 rfl (lv_at hl 0 rfl) ?_
  refine lv_iconst (v := 1) hx hb dL_law_717 (by decide +kernel) ?_
  refine lv_iadd hx hb dL_law_718 ?_
  refine tp_i 1 (by decide +kernel) ?_
  refine va_sld hx hb hX hbl hbA hS (vi_c (by decide +kernel)) dL_law_719 ?_
  refine tp_i (xs 1) rfl ?_
  refine lv_aload_n hx hb dL_law_720 rfl (lv_at hl 3 rfl) ?_
  refine lv_iload_n hx hb dL_law_721 rfl (lv_at hl 0 rfl) ?_
  refine lv_iconst (v := 2) hx hb dL_law_722 (by decide +kernel) ?_
  refine lv_iadd hx hb dL_law_723 ?_
  refine tp_i 2 (by decide +kernel) ?_
  refine va_sld hx hb hX hbl hbA hS (vi_c (by decide +kernel)) dL_law_724 ?_
  refine tp_i (xs 2) rfl ?_
  refine lv_aload_n hx hb dL_law_725 rfl (lv_at hl 3 rfl) ?_
  refine lv_iload_n hx hb dL_law_726 rfl (lv_at hl 0 rfl) ?_
  refine lv_iconst (v := 3) hx hb dL_law_727 (by decide +kernel) ?_
  refine lv_iadd hx hb dL_law_728 ?_
  refine tp_i 3 (by decide +kernel) ?_
  refine va_sld hx hb hX hbl hbA hS (vi_c (by decide +kernel)) dL_law_729 ?_
  refine tp_i (xs 3) rfl ?_
  refine lv_aload_n hx hb dL_law_730 rfl (lv_at hl 3 rfl) ?_
  refine lv_iload_n hx hb dL_law_731 rfl (lv_at hl 0 rfl) ?_
  refine lv_iconst (v := 4) hx hb dL_law_732 (by decide +kernel) ?_
  refine lv_iadd hx hb dL_law_733 ?_
  refine tp_i 4 (by decide +kernel) ?_
  refine va_sld hx hb hX hbl hbA hS (vi_c (by decide +kernel)) dL_law_734 ?_
  refine tp_i (xs 4) rfl ?_
  refine lv_aload_n hx hb dL_law_735 rfl (lv_at hl 3 rfl) ?_
  refine lv_iload_n hx hb dL_law_736 rfl (lv_at hl 0 rfl) ?_
  refine lv_iconst (v := 5) hx hb dL_law_737 (by decide +kernel) ?_
  refine lv_iadd hx hb dL_law_738 ?_
  refine tp_i 5 (by decide +kernel) ?_
  refine va_sld hx hb hX hbl hbA hS (vi_c (by decide +kernel)) dL_law_739 ?_
  refine tp_i (xs 5) rfl ?_
  have hPc_3 := hP.sub (ws' := [(y0, .inr (12, [.int 0, .ref y1, .ref y2, .ref y3, .ref y4, .ref y5, .ref y6, .ref y7, .ref y8, .int 0, .int 0, .int 0, .int 0, .int 0, .long 0, .int 0, .int 0, .int 0, .ref y9, .ref y10, .int 0, .int 0, .int 0, .int 0, .int 0, .int 0, .int 0, .int 0, .int 0, .int 0, .ref y11, .ref y12, .ref y13, .int 0, .int 0, .int 0, .ref y14, .ref y15, .ref y16, .ref y17, .ref y18, .ref y19, .ref y20, .ref y21, .ref y22, .ref y23, .ref y24, .ref y25, .ref y26, .int 0, .int 0, .int 0, .ref y27, .ref y28, .ref y29, .int 0, .int 0, .int 0, .ref y30, .ref y31, .ref y32, .ref y33, .ref y34, .ref y35])), (y5, .inl (cy 0, 12, .inl (fun _ => 0)))]) [3, 4] rfl
  have hDc_4 := hD.sub (ws' := [(y0, .inr (12, [.int 0, .ref y1, .ref y2, .ref y3, .ref y4, .ref y5, .ref y6, .ref y7, .ref y8, .int 0, .int 0, .int 0, .int 0, .int 0, .long 0, .int 0, .int 0, .int 0, .ref y9, .ref y10, .int 0, .int 0, .int 0, .int 0, .int 0, .int 0, .int 0, .int 0, .int 0, .int 0, .ref y11, .ref y12, .ref y13, .int 0, .int 0, .int 0, .ref y14, .ref y15, .ref y16, .ref y17, .ref y18, .ref y19, .ref y20, .ref y21, .ref y22, .ref y23, .ref y24, .ref y25, .ref y26, .int 0, .int 0, .int 0, .ref y27, .ref y28, .ref y29, .int 0, .int 0, .int 0, .ref y30, .ref y31, .ref y32, .ref y33, .ref y34, .ref y35])), (y5, .inl (cy 0, 12, .inl (fun _ => 0)))]) [3, 4] (by decide) rfl
  have hFc_5 := va_free (wc := [(y0, .inr (12, [.int 0, .ref y1, .ref y2, .ref y3, .ref y4, .ref y5, .ref y6, .ref y7, .ref y8, .int 0, .int 0, .int 0, .int 0, .int 0, .long 0, .int 0, .int 0, .int 0, .ref y9, .ref y10, .int 0, .int 0, .int 0, .int 0, .int 0, .int 0, .int 0, .int 0, .int 0, .int 0, .ref y11, .ref y12, .ref y13, .int 0, .int 0, .int 0, .ref y14, .ref y15, .ref y16, .ref y17, .ref y18, .ref y19, .ref y20, .ref y21, .ref y22, .ref y23, .ref y24, .ref y25, .ref y26, .int 0, .int 0, .int 0, .ref y27, .ref y28, .ref y29, .int 0, .int 0, .int 0, .ref y30, .ref y31, .ref y32, .ref y33, .ref y34, .ref y35])), (y5, .inl (cy 0, 12, .inl (fun _ => 0)))]) hD hS hA [3, 4] rfl
  refine va_calli (va_runV (As := [.int (xs 1), .int (xs 2), .int (xs 3), .int (xs 4), .int (xs 5)]) (rest := [.int (-2)]) ⟨hx, hb, hml, hown, hts⟩ (c_X12_has l D cy y0 y1 y2 y3 y4 y5 y6 y7 y8 y9 y10 y11 y12 y13 y14 y15 y16 y17 y18 y19 y20 y21 y22 y23 y24 y25 y26 y27 y28 y29 y30 y31 y32 y33 y34 y35 (xs 1) (xs 2) (xs 3) (xs 4) (xs 5) H.size) (cwV 5 hts gL_law_X12_has rfl rfl rfl (by decide +kernel) ⟨Nat.le_of_ble_eq_true rfl, Nat.le_of_ble_eq_true rfl⟩) ⟨pwB, va_recv hK hPc_3 (ci := 12) (q0 := 0) rfl rfl, fun U hU hW => ⟨rfl, PW.of hU hW hKW hPc_3 hDc_4⟩⟩ rfl rfl hl.1 rfl (lv_room (Nat.le_of_ble_eq_true rfl)) dL_law_740 ⟨by decide +kernel, by decide +kernel⟩) hS (fun q _ h => hFc_5 q h) hFc_5 (fun r_7 u t H1 locs ht hvm hw_6 hB hz1 hk1 hS => ?_)
  subst hw_6
  obtain ⟨hP1, hD1⟩ := hB
  rw [ht] at hP1
  obtain ⟨hP, hD⟩ := va_join (wr := [(x0, .inr (11, [.ref x1, .ref x2, .ref x3, .ref x4, .ref x5, .ref x6, .ref x7])), (x1, .inr (9, [.ref x8, .ref x9, .ref x10, .ref x11, .ref x12, .int 0, .int (-1)])), (x9, .inl (cy 0, 3, .inl (fun _ => 0)))]) (w1 := []) hP hD [3, 4] [0, 1, 2] rfl rfl (by decide) (by decide) hk1 hFc_5 hP1 hD1
  generalize H1 = H at hP hS ⊢
  have hP : va_P D vwCl [(x0, .inr (11, [.ref x1, .ref x2, .ref x3, .ref x4, .ref x5, .ref x6, .ref x7])), (x1, .inr (9, [.ref x8, .ref x9, .ref x10, .ref x11, .ref x12, .int 0, .int (-1)])), (x9, .inl (cy 0, 3, .inl (fun _ => 0)))] H := hP
  have hD : va_D A [(x0, .inr (11, [.ref x1, .ref x2, .ref x3, .ref x4, .ref x5, .ref x6, .ref x7])), (x1, .inr (9, [.ref x8, .ref x9, .ref x10, .ref x11, .ref x12, .int 0, .int (-1)])), (x9, .inl (cy 0, 3, .inl (fun _ => 0)))] := hD
  refine lv_icmp_eq (tgt := 1550) hx hb dL_law_743 (by decide) (fun _ => ?_) (fun c_8 => absurd (by decide +kernel) c_8)
  exact lw_tail l C0 hAe hS (by decide +kernel) (by decide +kernel) ls (lv_sub hl [0, 3] rfl)
set_option maxHeartbeats 4000000 in
set_option maxRecDepth 100000 in
theorem lw_c14 {p : Program} {e : Env} {s : State} {m : MethodId} {below : List Frame} {meth : Method} {c : Code} (l : Launch) {b : Nat} {xs : Nat → Int32} (C0 : lw_At p s m meth c b 6 xs)  {A : Nat → Prop} (hAe : A = fun q : Nat => s.heap.size ≤ q) {D : va_G} {cy : Nat → ClassId} (hKW : KW D cy s) {x0 x1 x2 x3 x4 x5 x6 x7 x8 x9 x10 x11 x12 x13 x14 x15 x16 x17 x18 x19 x20 x21 x22 x23 x24 x25 x26 x27 x28 x29 x30 x31 x32 x33 x34 x35 x36 x37 x38 x39 x40 x41 x42 x43 x44 x45 x46 x47 x48 x49 x50 x51 x52 x53 x54 x55 x56 x57 x58 x59 x60 x61 x62 x63 x64 x65 x66 x67 x68 x69 x70 x71 x72 x73 x74 x75 x76 x77 x78 x79 x80 x81 x82 x83 x84 x85 x86 x87 x88 x89 x90 x91 y0 y1 y2 y3 y4 y5 y6 y7 y8 y9 y10 y11 y12 y13 y14 y15 y16 y17 y18 y19 y20 y21 y22 y23 y24 y25 y26 y27 y28 y29 y30 y31 y32 y33 y34 y35 : Nat} {H : Heap} {locs : List Loc} (hP : va_P D vwCl (WL cy x0 x1 x2 x3 x4 x5 x6 x7 x8 x9 x10 x11 x12 x13 x14 x15 x16 x17 x18 x19 x20 x21 x22 x23 x24 x25 x26 x27 x28 x29 x30 x31 x32 x33 x34 x35 x36 x37 x38 x39 x40 x41 x42 x43 x44 x45 x46 x47 x48 x49 x50 x51 x52 x53 x54 x55 x56 x57 x58 x59 x60 x61 x62 x63 x64 x65 x66 x67 x68 x69 x70 x71 x72 x73 x74 x75 x76 x77 x78 x79 x80 x81 x82 x83 x84 x85 x86 x87 x88 x89 x90 x91 y0 y1 y2 y3 y4 y5 y6 y7 y8 y9 y10 y11 y12 y13 y14 y15 y16 y17 y18 y19 y20 y21 y22 y23 y24 y25 y26 y27 y28 y29 y30 y31 y32 y33 y34 y35) H) (hD : va_D A (WL cy x0 x1 x2 x3 x4 x5 x6 x7 x8 x9 x10 x11 x12 x13 x14 x15 x16 x17 x18 x19 x20 x21 x22 x23 x24 x25 x26 x27 x28 x29 x30 x31 x32 x33 x34 x35 x36 x37 x38 x39 x40 x41 x42 x43 x44 x45 x46 x47 x48 x49 x50 x51 x52 x53 x54 x55 x56 x57 x58 x59 x60 x61 x62 x63 x64 x65 x66 x67 x68 x69 x70 x71 x72 x73 x74 x75 x76 x77 x78 x79 x80 x81 x82 x83 x84 x85 x86 x87 x88 x89 x90 x91 y0 y1 y2 y3 y4 y5 y6 y7 y8 y9 y10 y11 y12 y13 y14 y15 y16 y17 y18 y19 y20 y21 y22 y23 y24 y25 y26 y27 y28 y29 y30 y31 y32 y33 y34 y35)) (hS : va_S A s.heap H locs) (ls : Array Slot) (hl : lv_has ls 4 [(3, .int 0), (2, .ref y0), (1, .ref x0), (0, .ref b)]) : W p l e room_1 s m #[Value.ref b] below meth c H locs 128 11575 (lw_Z below #[Value.ref b] s) (F0 m 748 ls []) := by
  obtain ⟨hx, hb, hr, hml, hown, hts0, hX, hbl, hlocks, hgv⟩ := id C0
  have hts : ∀ w ∈ wsL_law, w.before #[Value.ref b] s = true := fun w h => hts0 w (wsL_law_in w h)
  have hown : s.vm.findClass RL = some m.cls := hown
  have hK := hKW.1
  have hA : ∀ q : Nat, s.heap.size ≤ q → A q := fun _ h => by rw [hAe]; exact h
  have hbA : ¬ A b := by rw [hAe]; exact Nat.not_le.mpr hbl
  have hP := hP.sub (ws' := [(x0, .inr (11, [.ref x1, .ref x2, .ref x3, .ref x4, .ref x5, .ref x6, .ref x7])), (x1, .inr (9, [.ref x8, .ref x9, .ref x10, .ref x11, .ref x12, .int 0, .int (-1)])), (x9, .inl (cy 0, 3, .inl (fun _ => 0))), (y0, .inr (12, [.int 0, .ref y1, .ref y2, .ref y3, .ref y4, .ref y5, .ref y6, .ref y7, .ref y8, .int 0, .int 0, .int 0, .int 0, .int 0, .long 0, .int 0, .int 0, .int 0, .ref y9, .ref y10, .int 0, .int 0, .int 0, .int 0, .int 0, .int 0, .int 0, .int 0, .int 0, .int 0, .ref y11, .ref y12, .ref y13, .int 0, .int 0, .int 0, .ref y14, .ref y15, .ref y16, .ref y17, .ref y18, .ref y19, .ref y20, .ref y21, .ref y22, .ref y23, .ref y24, .ref y25, .ref y26, .int 0, .int 0, .int 0, .ref y27, .ref y28, .ref y29, .int 0, .int 0, .int 0, .ref y30, .ref y31, .ref y32, .ref y33, .ref y34, .ref y35])), (y5, .inl (cy 0, 12, .inl (fun _ => 0)))]) [0, 1, 4, 92, 97] rfl
  have hD := hD.sub (ws' := [(x0, .inr (11, [.ref x1, .ref x2, .ref x3, .ref x4, .ref x5, .ref x6, .ref x7])), (x1, .inr (9, [.ref x8, .ref x9, .ref x10, .ref x11, .ref x12, .int 0, .int (-1)])), (x9, .inl (cy 0, 3, .inl (fun _ => 0))), (y0, .inr (12, [.int 0, .ref y1, .ref y2, .ref y3, .ref y4, .ref y5, .ref y6, .ref y7, .ref y8, .int 0, .int 0, .int 0, .int 0, .int 0, .long 0, .int 0, .int 0, .int 0, .ref y9, .ref y10, .int 0, .int 0, .int 0, .int 0, .int 0, .int 0, .int 0, .int 0, .int 0, .int 0, .ref y11, .ref y12, .ref y13, .int 0, .int 0, .int 0, .ref y14, .ref y15, .ref y16, .ref y17, .ref y18, .ref y19, .ref y20, .ref y21, .ref y22, .ref y23, .ref y24, .ref y25, .ref y26, .int 0, .int 0, .int 0, .ref y27, .ref y28, .ref y29, .int 0, .int 0, .int 0, .ref y30, .ref y31, .ref y32, .ref y33, .ref y34, .ref y35])), (y5, .inl (cy 0, 12, .inl (fun _ => 0)))]) [0, 1, 4, 92, 97] (by decide) rfl
  refine lv_aload_n hx hb dL_law_748 rfl (lv_at hl 2 rfl) ?_
  refine lv_aload_n hx hb dL_law_749 rfl (lv_at hl 3 rfl) ?_
  refine lv_iload_n hx hb dL_law_750 rfl (lv_at hl 0 rfl) ?_
  refine lv_iconst (v := 1) hx hb dL_law_751 (by decide +kernel) ?_
  refine lv_iadd hx hb dL_law_752 ?_
  refine tp_i 1 (by decide +kernel) ?_
  refine va_sld hx hb hX hbl hbA hS (vi_c (by decide +kernel)) dL_law_753 ?_
  refine tp_i (xs 1) rfl ?_
  refine lv_aload_n hx hb dL_law_754 rfl (lv_at hl 3 rfl) ?_
  refine lv_iload_n hx hb dL_law_755 rfl (lv_at hl 0 rfl) ?_
  refine lv_iconst (v := 2) hx hb dL_law_756 (by decide +kernel) ?_
  refine lv_iadd hx hb dL_law_757 ?_
  refine tp_i 2 (by decide +kernel) ?_
  refine va_sld hx hb hX hbl hbA hS (vi_c (by decide +kernel)) dL_law_758 ?_
  refine tp_i (xs 2) rfl ?_
  refine lv_aload_n hx hb dL_law_759 rfl (lv_at hl 3 rfl) ?_
  refine lv_iload_n hx hb dL_law_760 rfl (lv_at hl 0 rfl) ?_
  refine lv_iconst (v := 3) hx hb dL_law_761 (by decide +kernel) ?_
  refine lv_iadd hx hb dL_law_762 ?_
  refine tp_i 3 (by decide +kernel) ?_
  refine va_sld hx hb hX hbl hbA hS (vi_c (by decide +kernel)) dL_law_763 ?_
  refine tp_i (xs 3) rfl ?_
  refine lv_aload_n hx hb dL_law_764 rfl (lv_at hl 3 rfl) ?_
  refine lv_iload_n hx hb dL_law_765 rfl (lv_at hl 0 rfl) ?_
  refine lv_iconst (v := 4) hx hb dL_law_766 (by decide +kernel) ?_
  refine lv_iadd hx hb dL_law_767 ?_
  refine tp_i 4 (by decide +kernel) ?_
  refine va_sld hx hb hX hbl hbA hS (vi_c (by decide +kernel)) dL_law_768 ?_
  refine tp_i (xs 4) rfl ?_
  refine lv_if_eq (tgt := 776) hx hb dL_law_769 (by decide) (fun c_1 => ?_) (fun c_1 => ?_)
  · refine lv_iconst (v := 0) hx hb dL_law_776 (by decide +kernel) ?_
    have hPc_2 := hP.sub (ws' := [(x0, .inr (11, [.ref x1, .ref x2, .ref x3, .ref x4, .ref x5, .ref x6, .ref x7])), (x1, .inr (9, [.ref x8, .ref x9, .ref x10, .ref x11, .ref x12, .int 0, .int (-1)])), (x9, .inl (cy 0, 3, .inl (fun _ => 0)))]) [0, 1, 2] rfl
    refine pc_i (va_runV (As := [.int (xs 1), .int (xs 2), .int (xs 3), .int 0]) (rest := []) ⟨hx, hb, hml, hown, hts⟩ (c_X11_claimed l D cy x0 x2 x3 x4 x5 x6 x7 x1 x8 x9 x10 x11 x12 (xs 1) (xs 2) (xs 3) 0) (cwV 4 hts gL_law_X11_claimed rfl rfl rfl (by decide +kernel) ⟨Nat.le_of_ble_eq_true rfl, Nat.le_of_ble_eq_true rfl⟩) ⟨prB, va_recv hK hPc_2 (ci := 11) (q0 := 0) rfl rfl, fun U hU hW => ⟨rfl, PR.of hU hW hKW hPc_2⟩⟩ rfl rfl hl.1 rfl (lv_room (Nat.le_of_ble_eq_true rfl)) dL_law_777 ⟨by decide +kernel, by decide +kernel⟩) (fun r_3 hr_3 => ?_)
    subst hr_3
    refine lv_aload_n hx hb dL_law_780 rfl (lv_at hl 1 rfl) ?_
    refine lv_aload_n hx hb dL_law_781 rfl (lv_at hl 3 rfl) ?_
    refine lv_iload_n hx hb dL_law_782 rfl (lv_at hl 0 rfl) ?_
    refine lv_iconst (v := 1) hx hb dL_law_783 (by decide +kernel) ?_
    refine lv_iadd hx hb dL_law_784 ?_
    refine tp_i 1 (by decide +kernel) ?_
    refine va_sld hx hb hX hbl hbA hS (vi_c (by decide +kernel)) dL_law_785 ?_
    refine tp_i (xs 1) rfl ?_
    refine lv_aload_n hx hb dL_law_786 rfl (lv_at hl 3 rfl) ?_
    refine lv_iload_n hx hb dL_law_787 rfl (lv_at hl 0 rfl) ?_
    refine lv_iconst (v := 2) hx hb dL_law_788 (by decide +kernel) ?_
    refine lv_iadd hx hb dL_law_789 ?_
    refine tp_i 2 (by decide +kernel) ?_
    refine va_sld hx hb hX hbl hbA hS (vi_c (by decide +kernel)) dL_law_790 ?_
    refine tp_i (xs 2) rfl ?_
    refine lv_aload_n hx hb dL_law_791 rfl (lv_at hl 3 rfl) ?_
    refine lv_iload_n hx hb dL_law_792 rfl (lv_at hl 0 rfl) ?_
    refine lv_iconst (v := 3) hx hb dL_law_793 (by decide +kernel) ?_
    refine lv_iadd hx hb dL_law_794 ?_
    refine tp_i 3 (by decide +kernel) ?_
    refine va_sld hx hb hX hbl hbA hS (vi_c (by decide +kernel)) dL_law_795 ?_
    refine tp_i (xs 3) rfl ?_
    refine lv_aload_n hx hb dL_law_796 rfl (lv_at hl 3 rfl) ?_
    refine lv_iload_n hx hb dL_law_797 rfl (lv_at hl 0 rfl) ?_
    refine lv_iconst (v := 4) hx hb dL_law_798 (by decide +kernel) ?_
    refine lv_iadd hx hb dL_law_799 ?_
    refine tp_i 4 (by decide +kernel) ?_
    refine va_sld hx hb hX hbl hbA hS (vi_c (by decide +kernel)) dL_law_800 ?_
    refine tp_i (xs 4) rfl ?_
    refine lv_if_eq (tgt := 808) hx hb dL_law_801 (by decide) (fun c_4 => ?_) (fun c_4 => ?_)
    · refine lv_iconst (v := 0) hx hb dL_law_808 (by decide +kernel) ?_
      have hPc_5 := hP.sub (ws' := [(y0, .inr (12, [.int 0, .ref y1, .ref y2, .ref y3, .ref y4, .ref y5, .ref y6, .ref y7, .ref y8, .int 0, .int 0, .int 0, .int 0, .int 0, .long 0, .int 0, .int 0, .int 0, .ref y9, .ref y10, .int 0, .int 0, .int 0, .int 0, .int 0, .int 0, .int 0, .int 0, .int 0, .int 0, .ref y11, .ref y12, .ref y13, .int 0, .int 0, .int 0, .ref y14, .ref y15, .ref y16, .ref y17, .ref y18, .ref y19, .ref y20, .ref y21, .ref y22, .ref y23, .ref y24, .ref y25, .ref y26, .int 0, .int 0, .int 0, .ref y27, .ref y28, .ref y29, .int 0, .int 0, .int 0, .ref y30, .ref y31, .ref y32, .ref y33, .ref y34, .ref y35])), (y5, .inl (cy 0, 12, .inl (fun _ => 0)))]) [3, 4] rfl
      have hDc_6 := hD.sub (ws' := [(y0, .inr (12, [.int 0, .ref y1, .ref y2, .ref y3, .ref y4, .ref y5, .ref y6, .ref y7, .ref y8, .int 0, .int 0, .int 0, .int 0, .int 0, .long 0, .int 0, .int 0, .int 0, .ref y9, .ref y10, .int 0, .int 0, .int 0, .int 0, .int 0, .int 0, .int 0, .int 0, .int 0, .int 0, .ref y11, .ref y12, .ref y13, .int 0, .int 0, .int 0, .ref y14, .ref y15, .ref y16, .ref y17, .ref y18, .ref y19, .ref y20, .ref y21, .ref y22, .ref y23, .ref y24, .ref y25, .ref y26, .int 0, .int 0, .int 0, .ref y27, .ref y28, .ref y29, .int 0, .int 0, .int 0, .ref y30, .ref y31, .ref y32, .ref y33, .ref y34, .ref y35])), (y5, .inl (cy 0, 12, .inl (fun _ => 0)))]) [3, 4] (by decide) rfl
      have hFc_7 := va_free (wc := [(y0, .inr (12, [.int 0, .ref y1, .ref y2, .ref y3, .ref y4, .ref y5, .ref y6, .ref y7, .ref y8, .int 0, .int 0, .int 0, .int 0, .int 0, .long 0, .int 0, .int 0, .int 0, .ref y9, .ref y10, .int 0, .int 0, .int 0, .int 0, .int 0, .int 0, .int 0, .int 0, .int 0, .int 0, .ref y11, .ref y12, .ref y13, .int 0, .int 0, .int 0, .ref y14, .ref y15, .ref y16, .ref y17, .ref y18, .ref y19, .ref y20, .ref y21, .ref y22, .ref y23, .ref y24, .ref y25, .ref y26, .int 0, .int 0, .int 0, .ref y27, .ref y28, .ref y29, .int 0, .int 0, .int 0, .ref y30, .ref y31, .ref y32, .ref y33, .ref y34, .ref y35])), (y5, .inl (cy 0, 12, .inl (fun _ => 0)))]) hD hS hA [3, 4] rfl
      refine va_calli (va_runV (As := [.int (xs 1), .int (xs 2), .int (xs 3), .int 0]) (rest := [.int (-1)]) ⟨hx, hb, hml, hown, hts⟩ (c_X12_claimed l D cy y0 y1 y2 y3 y4 y5 y6 y7 y8 y9 y10 y11 y12 y13 y14 y15 y16 y17 y18 y19 y20 y21 y22 y23 y24 y25 y26 y27 y28 y29 y30 y31 y32 y33 y34 y35 (xs 1) (xs 2) (xs 3) 0 H.size) (cwV 4 hts gL_law_X12_claimed rfl rfl rfl (by decide +kernel) ⟨Nat.le_of_ble_eq_true rfl, Nat.le_of_ble_eq_true rfl⟩) ⟨pwB, va_recv hK hPc_5 (ci := 12) (q0 := 0) rfl rfl, fun U hU hW => ⟨rfl, PW.of hU hW hKW hPc_5 hDc_6⟩⟩ rfl rfl hl.1 rfl (lv_room (Nat.le_of_ble_eq_true rfl)) dL_law_809 ⟨by decide +kernel, by decide +kernel⟩) hS (fun q _ h => hFc_7 q h) hFc_7 (fun r_9 u t H1 locs ht hvm hw_8 hB hz1 hk1 hS => ?_)
      subst hw_8
      obtain ⟨hP1, hD1⟩ := hB
      rw [ht] at hP1
      obtain ⟨hP, hD⟩ := va_join (wr := [(x0, .inr (11, [.ref x1, .ref x2, .ref x3, .ref x4, .ref x5, .ref x6, .ref x7])), (x1, .inr (9, [.ref x8, .ref x9, .ref x10, .ref x11, .ref x12, .int 0, .int (-1)])), (x9, .inl (cy 0, 3, .inl (fun _ => 0)))]) (w1 := []) hP hD [3, 4] [0, 1, 2] rfl rfl (by decide) (by decide) hk1 hFc_7 hP1 hD1
      generalize H1 = H at hP hS ⊢
      have hP : va_P D vwCl [(x0, .inr (11, [.ref x1, .ref x2, .ref x3, .ref x4, .ref x5, .ref x6, .ref x7])), (x1, .inr (9, [.ref x8, .ref x9, .ref x10, .ref x11, .ref x12, .int 0, .int (-1)])), (x9, .inl (cy 0, 3, .inl (fun _ => 0)))] H := hP
      have hD : va_D A [(x0, .inr (11, [.ref x1, .ref x2, .ref x3, .ref x4, .ref x5, .ref x6, .ref x7])), (x1, .inr (9, [.ref x8, .ref x9, .ref x10, .ref x11, .ref x12, .int 0, .int (-1)])), (x9, .inl (cy 0, 3, .inl (fun _ => 0)))] := hD
      refine lv_icmp_eq (tgt := 1550) hx hb dL_law_812 (by decide) (fun _ => ?_) (fun c_10 => absurd (by decide +kernel) c_10)
      exact lw_tail l C0 hAe hS (by decide +kernel) (by decide +kernel) ls (lv_sub hl [0, 3] rfl)
    · refine lv_iconst (v := 1) hx hb dL_law_804 (by decide +kernel) ?_
      refine lv_goto (tgt := 809) hx hb dL_law_805 (by decide) ?_
      have hPc_11 := hP.sub (ws' := [(y0, .inr (12, [.int 0, .ref y1, .ref y2, .ref y3, .ref y4, .ref y5, .ref y6, .ref y7, .ref y8, .int 0, .int 0, .int 0, .int 0, .int 0, .long 0, .int 0, .int 0, .int 0, .ref y9, .ref y10, .int 0, .int 0, .int 0, .int 0, .int 0, .int 0, .int 0, .int 0, .int 0, .int 0, .ref y11, .ref y12, .ref y13, .int 0, .int 0, .int 0, .ref y14, .ref y15, .ref y16, .ref y17, .ref y18, .ref y19, .ref y20, .ref y21, .ref y22, .ref y23, .ref y24, .ref y25, .ref y26, .int 0, .int 0, .int 0, .ref y27, .ref y28, .ref y29, .int 0, .int 0, .int 0, .ref y30, .ref y31, .ref y32, .ref y33, .ref y34, .ref y35])), (y5, .inl (cy 0, 12, .inl (fun _ => 0)))]) [3, 4] rfl
      have hDc_12 := hD.sub (ws' := [(y0, .inr (12, [.int 0, .ref y1, .ref y2, .ref y3, .ref y4, .ref y5, .ref y6, .ref y7, .ref y8, .int 0, .int 0, .int 0, .int 0, .int 0, .long 0, .int 0, .int 0, .int 0, .ref y9, .ref y10, .int 0, .int 0, .int 0, .int 0, .int 0, .int 0, .int 0, .int 0, .int 0, .int 0, .ref y11, .ref y12, .ref y13, .int 0, .int 0, .int 0, .ref y14, .ref y15, .ref y16, .ref y17, .ref y18, .ref y19, .ref y20, .ref y21, .ref y22, .ref y23, .ref y24, .ref y25, .ref y26, .int 0, .int 0, .int 0, .ref y27, .ref y28, .ref y29, .int 0, .int 0, .int 0, .ref y30, .ref y31, .ref y32, .ref y33, .ref y34, .ref y35])), (y5, .inl (cy 0, 12, .inl (fun _ => 0)))]) [3, 4] (by decide) rfl
      have hFc_13 := va_free (wc := [(y0, .inr (12, [.int 0, .ref y1, .ref y2, .ref y3, .ref y4, .ref y5, .ref y6, .ref y7, .ref y8, .int 0, .int 0, .int 0, .int 0, .int 0, .long 0, .int 0, .int 0, .int 0, .ref y9, .ref y10, .int 0, .int 0, .int 0, .int 0, .int 0, .int 0, .int 0, .int 0, .int 0, .int 0, .ref y11, .ref y12, .ref y13, .int 0, .int 0, .int 0, .ref y14, .ref y15, .ref y16, .ref y17, .ref y18, .ref y19, .ref y20, .ref y21, .ref y22, .ref y23, .ref y24, .ref y25, .ref y26, .int 0, .int 0, .int 0, .ref y27, .ref y28, .ref y29, .int 0, .int 0, .int 0, .ref y30, .ref y31, .ref y32, .ref y33, .ref y34, .ref y35])), (y5, .inl (cy 0, 12, .inl (fun _ => 0)))]) hD hS hA [3, 4] rfl
      refine va_calli (va_runV (As := [.int (xs 1), .int (xs 2), .int (xs 3), .int 1]) (rest := [.int (-1)]) ⟨hx, hb, hml, hown, hts⟩ (c_X12_claimed l D cy y0 y1 y2 y3 y4 y5 y6 y7 y8 y9 y10 y11 y12 y13 y14 y15 y16 y17 y18 y19 y20 y21 y22 y23 y24 y25 y26 y27 y28 y29 y30 y31 y32 y33 y34 y35 (xs 1) (xs 2) (xs 3) 1 H.size) (cwV 4 hts gL_law_X12_claimed rfl rfl rfl (by decide +kernel) ⟨Nat.le_of_ble_eq_true rfl, Nat.le_of_ble_eq_true rfl⟩) ⟨pwB, va_recv hK hPc_11 (ci := 12) (q0 := 0) rfl rfl, fun U hU hW => ⟨rfl, PW.of hU hW hKW hPc_11 hDc_12⟩⟩ rfl rfl hl.1 rfl (lv_room (Nat.le_of_ble_eq_true rfl)) dL_law_809 ⟨by decide +kernel, by decide +kernel⟩) hS (fun q _ h => hFc_13 q h) hFc_13 (fun r_15 u t H1 locs ht hvm hw_14 hB hz1 hk1 hS => ?_)
      subst hw_14
      obtain ⟨hP1, hD1⟩ := hB
      rw [ht] at hP1
      obtain ⟨hP, hD⟩ := va_join (wr := [(x0, .inr (11, [.ref x1, .ref x2, .ref x3, .ref x4, .ref x5, .ref x6, .ref x7])), (x1, .inr (9, [.ref x8, .ref x9, .ref x10, .ref x11, .ref x12, .int 0, .int (-1)])), (x9, .inl (cy 0, 3, .inl (fun _ => 0)))]) (w1 := []) hP hD [3, 4] [0, 1, 2] rfl rfl (by decide) (by decide) hk1 hFc_13 hP1 hD1
      generalize H1 = H at hP hS ⊢
      have hP : va_P D vwCl [(x0, .inr (11, [.ref x1, .ref x2, .ref x3, .ref x4, .ref x5, .ref x6, .ref x7])), (x1, .inr (9, [.ref x8, .ref x9, .ref x10, .ref x11, .ref x12, .int 0, .int (-1)])), (x9, .inl (cy 0, 3, .inl (fun _ => 0)))] H := hP
      have hD : va_D A [(x0, .inr (11, [.ref x1, .ref x2, .ref x3, .ref x4, .ref x5, .ref x6, .ref x7])), (x1, .inr (9, [.ref x8, .ref x9, .ref x10, .ref x11, .ref x12, .int 0, .int (-1)])), (x9, .inl (cy 0, 3, .inl (fun _ => 0)))] := hD
      refine lv_icmp_eq (tgt := 1550) hx hb dL_law_812 (by decide) (fun _ => ?_) (fun c_16 => absurd (by decide +kernel) c_16)
      exact lw_tail l C0 hAe hS (by decide +kernel) (by decide +kernel) ls (lv_sub hl [0, 3] rfl)
  · refine lv_iconst (v := 1) hx hb dL_law_772 (by decide +kernel) ?_
    refine lv_goto (tgt := 777) hx hb dL_law_773 (by decide) ?_
    have hPc_17 := hP.sub (ws' := [(x0, .inr (11, [.ref x1, .ref x2, .ref x3, .ref x4, .ref x5, .ref x6, .ref x7])), (x1, .inr (9, [.ref x8, .ref x9, .ref x10, .ref x11, .ref x12, .int 0, .int (-1)])), (x9, .inl (cy 0, 3, .inl (fun _ => 0)))]) [0, 1, 2] rfl
    refine pc_i (va_runV (As := [.int (xs 1), .int (xs 2), .int (xs 3), .int 1]) (rest := []) ⟨hx, hb, hml, hown, hts⟩ (c_X11_claimed l D cy x0 x2 x3 x4 x5 x6 x7 x1 x8 x9 x10 x11 x12 (xs 1) (xs 2) (xs 3) 1) (cwV 4 hts gL_law_X11_claimed rfl rfl rfl (by decide +kernel) ⟨Nat.le_of_ble_eq_true rfl, Nat.le_of_ble_eq_true rfl⟩) ⟨prB, va_recv hK hPc_17 (ci := 11) (q0 := 0) rfl rfl, fun U hU hW => ⟨rfl, PR.of hU hW hKW hPc_17⟩⟩ rfl rfl hl.1 rfl (lv_room (Nat.le_of_ble_eq_true rfl)) dL_law_777 ⟨by decide +kernel, by decide +kernel⟩) (fun r_18 hr_18 => ?_)
    subst hr_18
    refine lv_aload_n hx hb dL_law_780 rfl (lv_at hl 1 rfl) ?_
    refine lv_aload_n hx hb dL_law_781 rfl (lv_at hl 3 rfl) ?_
    refine lv_iload_n hx hb dL_law_782 rfl (lv_at hl 0 rfl) ?_
    refine lv_iconst (v := 1) hx hb dL_law_783 (by decide +kernel) ?_
    refine lv_iadd hx hb dL_law_784 ?_
    refine tp_i 1 (by decide +kernel) ?_
    refine va_sld hx hb hX hbl hbA hS (vi_c (by decide +kernel)) dL_law_785 ?_
    refine tp_i (xs 1) rfl ?_
    refine lv_aload_n hx hb dL_law_786 rfl (lv_at hl 3 rfl) ?_
    refine lv_iload_n hx hb dL_law_787 rfl (lv_at hl 0 rfl) ?_
    refine lv_iconst (v := 2) hx hb dL_law_788 (by decide +kernel) ?_
    refine lv_iadd hx hb dL_law_789 ?_
    refine tp_i 2 (by decide +kernel) ?_
    refine va_sld hx hb hX hbl hbA hS (vi_c (by decide +kernel)) dL_law_790 ?_
    refine tp_i (xs 2) rfl ?_
    refine lv_aload_n hx hb dL_law_791 rfl (lv_at hl 3 rfl) ?_
    refine lv_iload_n hx hb dL_law_792 rfl (lv_at hl 0 rfl) ?_
    refine lv_iconst (v := 3) hx hb dL_law_793 (by decide +kernel) ?_
    refine lv_iadd hx hb dL_law_794 ?_
    refine tp_i 3 (by decide +kernel) ?_
    refine va_sld hx hb hX hbl hbA hS (vi_c (by decide +kernel)) dL_law_795 ?_
    refine tp_i (xs 3) rfl ?_
    refine lv_aload_n hx hb dL_law_796 rfl (lv_at hl 3 rfl) ?_
    refine lv_iload_n hx hb dL_law_797 rfl (lv_at hl 0 rfl) ?_
    refine lv_iconst (v := 4) hx hb dL_law_798 (by decide +kernel) ?_
    refine lv_iadd hx hb dL_law_799 ?_
    refine tp_i 4 (by decide +kernel) ?_
    refine va_sld hx hb hX hbl hbA hS (vi_c (by decide +kernel)) dL_law_800 ?_
    refine tp_i (xs 4) rfl ?_
    refine lv_if_eq (tgt := 808) hx hb dL_law_801 (by decide) (fun c_19 => ?_) (fun c_19 => ?_)
    · refine lv_iconst (v := 0) hx hb dL_law_808 (by decide +kernel) ?_
      have hPc_20 := hP.sub (ws' := [(y0, .inr (12, [.int 0, .ref y1, .ref y2, .ref y3, .ref y4, .ref y5, .ref y6, .ref y7, .ref y8, .int 0, .int 0, .int 0, .int 0, .int 0, .long 0, .int 0, .int 0, .int 0, .ref y9, .ref y10, .int 0, .int 0, .int 0, .int 0, .int 0, .int 0, .int 0, .int 0, .int 0, .int 0, .ref y11, .ref y12, .ref y13, .int 0, .int 0, .int 0, .ref y14, .ref y15, .ref y16, .ref y17, .ref y18, .ref y19, .ref y20, .ref y21, .ref y22, .ref y23, .ref y24, .ref y25, .ref y26, .int 0, .int 0, .int 0, .ref y27, .ref y28, .ref y29, .int 0, .int 0, .int 0, .ref y30, .ref y31, .ref y32, .ref y33, .ref y34, .ref y35])), (y5, .inl (cy 0, 12, .inl (fun _ => 0)))]) [3, 4] rfl
      have hDc_21 := hD.sub (ws' := [(y0, .inr (12, [.int 0, .ref y1, .ref y2, .ref y3, .ref y4, .ref y5, .ref y6, .ref y7, .ref y8, .int 0, .int 0, .int 0, .int 0, .int 0, .long 0, .int 0, .int 0, .int 0, .ref y9, .ref y10, .int 0, .int 0, .int 0, .int 0, .int 0, .int 0, .int 0, .int 0, .int 0, .int 0, .ref y11, .ref y12, .ref y13, .int 0, .int 0, .int 0, .ref y14, .ref y15, .ref y16, .ref y17, .ref y18, .ref y19, .ref y20, .ref y21, .ref y22, .ref y23, .ref y24, .ref y25, .ref y26, .int 0, .int 0, .int 0, .ref y27, .ref y28, .ref y29, .int 0, .int 0, .int 0, .ref y30, .ref y31, .ref y32, .ref y33, .ref y34, .ref y35])), (y5, .inl (cy 0, 12, .inl (fun _ => 0)))]) [3, 4] (by decide) rfl
      have hFc_22 := va_free (wc := [(y0, .inr (12, [.int 0, .ref y1, .ref y2, .ref y3, .ref y4, .ref y5, .ref y6, .ref y7, .ref y8, .int 0, .int 0, .int 0, .int 0, .int 0, .long 0, .int 0, .int 0, .int 0, .ref y9, .ref y10, .int 0, .int 0, .int 0, .int 0, .int 0, .int 0, .int 0, .int 0, .int 0, .int 0, .ref y11, .ref y12, .ref y13, .int 0, .int 0, .int 0, .ref y14, .ref y15, .ref y16, .ref y17, .ref y18, .ref y19, .ref y20, .ref y21, .ref y22, .ref y23, .ref y24, .ref y25, .ref y26, .int 0, .int 0, .int 0, .ref y27, .ref y28, .ref y29, .int 0, .int 0, .int 0, .ref y30, .ref y31, .ref y32, .ref y33, .ref y34, .ref y35])), (y5, .inl (cy 0, 12, .inl (fun _ => 0)))]) hD hS hA [3, 4] rfl
      refine va_calli (va_runV (As := [.int (xs 1), .int (xs 2), .int (xs 3), .int 0]) (rest := [.int (-1)]) ⟨hx, hb, hml, hown, hts⟩ (c_X12_claimed l D cy y0 y1 y2 y3 y4 y5 y6 y7 y8 y9 y10 y11 y12 y13 y14 y15 y16 y17 y18 y19 y20 y21 y22 y23 y24 y25 y26 y27 y28 y29 y30 y31 y32 y33 y34 y35 (xs 1) (xs 2) (xs 3) 0 H.size) (cwV 4 hts gL_law_X12_claimed rfl rfl rfl (by decide +kernel) ⟨Nat.le_of_ble_eq_true rfl, Nat.le_of_ble_eq_true rfl⟩) ⟨pwB, va_recv hK hPc_20 (ci := 12) (q0 := 0) rfl rfl, fun U hU hW => ⟨rfl, PW.of hU hW hKW hPc_20 hDc_21⟩⟩ rfl rfl hl.1 rfl (lv_room (Nat.le_of_ble_eq_true rfl)) dL_law_809 ⟨by decide +kernel, by decide +kernel⟩) hS (fun q _ h => hFc_22 q h) hFc_22 (fun r_24 u t H1 locs ht hvm hw_23 hB hz1 hk1 hS => ?_)
      subst hw_23
      obtain ⟨hP1, hD1⟩ := hB
      rw [ht] at hP1
      obtain ⟨hP, hD⟩ := va_join (wr := [(x0, .inr (11, [.ref x1, .ref x2, .ref x3, .ref x4, .ref x5, .ref x6, .ref x7])), (x1, .inr (9, [.ref x8, .ref x9, .ref x10, .ref x11, .ref x12, .int 0, .int (-1)])), (x9, .inl (cy 0, 3, .inl (fun _ => 0)))]) (w1 := []) hP hD [3, 4] [0, 1, 2] rfl rfl (by decide) (by decide) hk1 hFc_22 hP1 hD1
      generalize H1 = H at hP hS ⊢
      have hP : va_P D vwCl [(x0, .inr (11, [.ref x1, .ref x2, .ref x3, .ref x4, .ref x5, .ref x6, .ref x7])), (x1, .inr (9, [.ref x8, .ref x9, .ref x10, .ref x11, .ref x12, .int 0, .int (-1)])), (x9, .inl (cy 0, 3, .inl (fun _ => 0)))] H := hP
      have hD : va_D A [(x0, .inr (11, [.ref x1, .ref x2, .ref x3, .ref x4, .ref x5, .ref x6, .ref x7])), (x1, .inr (9, [.ref x8, .ref x9, .ref x10, .ref x11, .ref x12, .int 0, .int (-1)])), (x9, .inl (cy 0, 3, .inl (fun _ => 0)))] := hD
      refine lv_icmp_eq (tgt := 1550) hx hb dL_law_812 (by decide) (fun _ => ?_) (fun c_25 => absurd (by decide +kernel) c_25)
      exact lw_tail l C0 hAe hS (by decide +kernel) (by decide +kernel) ls (lv_sub hl [0, 3] rfl)
    · refine lv_iconst (v := 1) hx hb dL_law_804 (by decide +kernel) ?_
      refine lv_goto (tgt := 809) hx hb dL_law_805 (by decide) ?_
      have hPc_26 := hP.sub (ws' := [(y0, .inr (12, [.int 0, .ref y1, .ref y2, .ref y3, .ref y4, .ref y5, .ref y6, .ref y7, .ref y8, .int 0, .int 0, .int 0, .int 0, .int 0, .long 0, .int 0, .int 0, .int 0, .ref y9, .ref y10, .int 0, .int 0, .int 0, .int 0, .int 0, .int 0, .int 0, .int 0, .int 0, .int 0, .ref y11, .ref y12, .ref y13, .int 0, .int 0, .int 0, .ref y14, .ref y15, .ref y16, .ref y17, .ref y18, .ref y19, .ref y20, .ref y21, .ref y22, .ref y23, .ref y24, .ref y25, .ref y26, .int 0, .int 0, .int 0, .ref y27, .ref y28, .ref y29, .int 0, .int 0, .int 0, .ref y30, .ref y31, .ref y32, .ref y33, .ref y34, .ref y35])), (y5, .inl (cy 0, 12, .inl (fun _ => 0)))]) [3, 4] rfl
      have hDc_27 := hD.sub (ws' := [(y0, .inr (12, [.int 0, .ref y1, .ref y2, .ref y3, .ref y4, .ref y5, .ref y6, .ref y7, .ref y8, .int 0, .int 0, .int 0, .int 0, .int 0, .long 0, .int 0, .int 0, .int 0, .ref y9, .ref y10, .int 0, .int 0, .int 0, .int 0, .int 0, .int 0, .int 0, .int 0, .int 0, .int 0, .ref y11, .ref y12, .ref y13, .int 0, .int 0, .int 0, .ref y14, .ref y15, .ref y16, .ref y17, .ref y18, .ref y19, .ref y20, .ref y21, .ref y22, .ref y23, .ref y24, .ref y25, .ref y26, .int 0, .int 0, .int 0, .ref y27, .ref y28, .ref y29, .int 0, .int 0, .int 0, .ref y30, .ref y31, .ref y32, .ref y33, .ref y34, .ref y35])), (y5, .inl (cy 0, 12, .inl (fun _ => 0)))]) [3, 4] (by decide) rfl
      have hFc_28 := va_free (wc := [(y0, .inr (12, [.int 0, .ref y1, .ref y2, .ref y3, .ref y4, .ref y5, .ref y6, .ref y7, .ref y8, .int 0, .int 0, .int 0, .int 0, .int 0, .long 0, .int 0, .int 0, .int 0, .ref y9, .ref y10, .int 0, .int 0, .int 0, .int 0, .int 0, .int 0, .int 0, .int 0, .int 0, .int 0, .ref y11, .ref y12, .ref y13, .int 0, .int 0, .int 0, .ref y14, .ref y15, .ref y16, .ref y17, .ref y18, .ref y19, .ref y20, .ref y21, .ref y22, .ref y23, .ref y24, .ref y25, .ref y26, .int 0, .int 0, .int 0, .ref y27, .ref y28, .ref y29, .int 0, .int 0, .int 0, .ref y30, .ref y31, .ref y32, .ref y33, .ref y34, .ref y35])), (y5, .inl (cy 0, 12, .inl (fun _ => 0)))]) hD hS hA [3, 4] rfl
      refine va_calli (va_runV (As := [.int (xs 1), .int (xs 2), .int (xs 3), .int 1]) (rest := [.int (-1)]) ⟨hx, hb, hml, hown, hts⟩ (c_X12_claimed l D cy y0 y1 y2 y3 y4 y5 y6 y7 y8 y9 y10 y11 y12 y13 y14 y15 y16 y17 y18 y19 y20 y21 y22 y23 y24 y25 y26 y27 y28 y29 y30 y31 y32 y33 y34 y35 (xs 1) (xs 2) (xs 3) 1 H.size) (cwV 4 hts gL_law_X12_claimed rfl rfl rfl (by decide +kernel) ⟨Nat.le_of_ble_eq_true rfl, Nat.le_of_ble_eq_true rfl⟩) ⟨pwB, va_recv hK hPc_26 (ci := 12) (q0 := 0) rfl rfl, fun U hU hW => ⟨rfl, PW.of hU hW hKW hPc_26 hDc_27⟩⟩ rfl rfl hl.1 rfl (lv_room (Nat.le_of_ble_eq_true rfl)) dL_law_809 ⟨by decide +kernel, by decide +kernel⟩) hS (fun q _ h => hFc_28 q h) hFc_28 (fun r_30 u t H1 locs ht hvm hw_29 hB hz1 hk1 hS => ?_)
      subst hw_29
      obtain ⟨hP1, hD1⟩ := hB
      rw [ht] at hP1
      obtain ⟨hP, hD⟩ := va_join (wr := [(x0, .inr (11, [.ref x1, .ref x2, .ref x3, .ref x4, .ref x5, .ref x6, .ref x7])), (x1, .inr (9, [.ref x8, .ref x9, .ref x10, .ref x11, .ref x12, .int 0, .int (-1)])), (x9, .inl (cy 0, 3, .inl (fun _ => 0)))]) (w1 := []) hP hD [3, 4] [0, 1, 2] rfl rfl (by decide) (by decide) hk1 hFc_28 hP1 hD1
      generalize H1 = H at hP hS ⊢
      have hP : va_P D vwCl [(x0, .inr (11, [.ref x1, .ref x2, .ref x3, .ref x4, .ref x5, .ref x6, .ref x7])), (x1, .inr (9, [.ref x8, .ref x9, .ref x10, .ref x11, .ref x12, .int 0, .int (-1)])), (x9, .inl (cy 0, 3, .inl (fun _ => 0)))] H := hP
      have hD : va_D A [(x0, .inr (11, [.ref x1, .ref x2, .ref x3, .ref x4, .ref x5, .ref x6, .ref x7])), (x1, .inr (9, [.ref x8, .ref x9, .ref x10, .ref x11, .ref x12, .int 0, .int (-1)])), (x9, .inl (cy 0, 3, .inl (fun _ => 0)))] := hD
      refine lv_icmp_eq (tgt := 1550) hx hb dL_law_812 (by decide) (fun _ => ?_) (fun c_31 => absurd (by decide +kernel) c_31)
      exact lw_tail l C0 hAe hS (by decide +kernel) (by decide +kernel) ls (lv_sub hl [0, 3] rfl)
set_option maxHeartbeats 4000000 in
set_option maxRecDepth 100000 in
theorem lw_c15 {p : Program} {e : Env} {s : State} {m : MethodId} {below : List Frame} {meth : Method} {c : Code} (l : Launch) {b : Nat} {xs : Nat → Int32} (C0 : lw_At p s m meth c b 6 xs)  {A : Nat → Prop} (hAe : A = fun q : Nat => s.heap.size ≤ q) {D : va_G} {cy : Nat → ClassId} (hKW : KW D cy s) {x0 x1 x2 x3 x4 x5 x6 x7 x8 x9 x10 x11 x12 x13 x14 x15 x16 x17 x18 x19 x20 x21 x22 x23 x24 x25 x26 x27 x28 x29 x30 x31 x32 x33 x34 x35 x36 x37 x38 x39 x40 x41 x42 x43 x44 x45 x46 x47 x48 x49 x50 x51 x52 x53 x54 x55 x56 x57 x58 x59 x60 x61 x62 x63 x64 x65 x66 x67 x68 x69 x70 x71 x72 x73 x74 x75 x76 x77 x78 x79 x80 x81 x82 x83 x84 x85 x86 x87 x88 x89 x90 x91 y0 y1 y2 y3 y4 y5 y6 y7 y8 y9 y10 y11 y12 y13 y14 y15 y16 y17 y18 y19 y20 y21 y22 y23 y24 y25 y26 y27 y28 y29 y30 y31 y32 y33 y34 y35 : Nat} {H : Heap} {locs : List Loc} (hP : va_P D vwCl (WL cy x0 x1 x2 x3 x4 x5 x6 x7 x8 x9 x10 x11 x12 x13 x14 x15 x16 x17 x18 x19 x20 x21 x22 x23 x24 x25 x26 x27 x28 x29 x30 x31 x32 x33 x34 x35 x36 x37 x38 x39 x40 x41 x42 x43 x44 x45 x46 x47 x48 x49 x50 x51 x52 x53 x54 x55 x56 x57 x58 x59 x60 x61 x62 x63 x64 x65 x66 x67 x68 x69 x70 x71 x72 x73 x74 x75 x76 x77 x78 x79 x80 x81 x82 x83 x84 x85 x86 x87 x88 x89 x90 x91 y0 y1 y2 y3 y4 y5 y6 y7 y8 y9 y10 y11 y12 y13 y14 y15 y16 y17 y18 y19 y20 y21 y22 y23 y24 y25 y26 y27 y28 y29 y30 y31 y32 y33 y34 y35) H) (hD : va_D A (WL cy x0 x1 x2 x3 x4 x5 x6 x7 x8 x9 x10 x11 x12 x13 x14 x15 x16 x17 x18 x19 x20 x21 x22 x23 x24 x25 x26 x27 x28 x29 x30 x31 x32 x33 x34 x35 x36 x37 x38 x39 x40 x41 x42 x43 x44 x45 x46 x47 x48 x49 x50 x51 x52 x53 x54 x55 x56 x57 x58 x59 x60 x61 x62 x63 x64 x65 x66 x67 x68 x69 x70 x71 x72 x73 x74 x75 x76 x77 x78 x79 x80 x81 x82 x83 x84 x85 x86 x87 x88 x89 x90 x91 y0 y1 y2 y3 y4 y5 y6 y7 y8 y9 y10 y11 y12 y13 y14 y15 y16 y17 y18 y19 y20 y21 y22 y23 y24 y25 y26 y27 y28 y29 y30 y31 y32 y33 y34 y35)) (hS : va_S A s.heap H locs) (ls : Array Slot) (hl : lv_has ls 4 [(3, .int 0), (2, .ref y0), (1, .ref x0), (0, .ref b)]) : W p l e room_1 s m #[Value.ref b] below meth c H locs 128 11575 (lw_Z below #[Value.ref b] s) (F0 m 817 ls []) := by
  obtain ⟨hx, hb, hr, hml, hown, hts0, hX, hbl, hlocks, hgv⟩ := id C0
  have hts : ∀ w ∈ wsL_law, w.before #[Value.ref b] s = true := fun w h => hts0 w (wsL_law_in w h)
  have hown : s.vm.findClass RL = some m.cls := hown
  have hK := hKW.1
  have hA : ∀ q : Nat, s.heap.size ≤ q → A q := fun _ h => by rw [hAe]; exact h
  have hbA : ¬ A b := by rw [hAe]; exact Nat.not_le.mpr hbl
  have hP := hP.sub (ws' := [(x0, .inr (11, [.ref x1, .ref x2, .ref x3, .ref x4, .ref x5, .ref x6, .ref x7])), (x1, .inr (9, [.ref x8, .ref x9, .ref x10, .ref x11, .ref x12, .int 0, .int (-1)])), (x9, .inl (cy 0, 3, .inl (fun _ => 0))), (y0, .inr (12, [.int 0, .ref y1, .ref y2, .ref y3, .ref y4, .ref y5, .ref y6, .ref y7, .ref y8, .int 0, .int 0, .int 0, .int 0, .int 0, .long 0, .int 0, .int 0, .int 0, .ref y9, .ref y10, .int 0, .int 0, .int 0, .int 0, .int 0, .int 0, .int 0, .int 0, .int 0, .int 0, .ref y11, .ref y12, .ref y13, .int 0, .int 0, .int 0, .ref y14, .ref y15, .ref y16, .ref y17, .ref y18, .ref y19, .ref y20, .ref y21, .ref y22, .ref y23, .ref y24, .ref y25, .ref y26, .int 0, .int 0, .int 0, .ref y27, .ref y28, .ref y29, .int 0, .int 0, .int 0, .ref y30, .ref y31, .ref y32, .ref y33, .ref y34, .ref y35])), (y5, .inl (cy 0, 12, .inl (fun _ => 0)))]) [0, 1, 4, 92, 97] rfl
  have hD := hD.sub (ws' := [(x0, .inr (11, [.ref x1, .ref x2, .ref x3, .ref x4, .ref x5, .ref x6, .ref x7])), (x1, .inr (9, [.ref x8, .ref x9, .ref x10, .ref x11, .ref x12, .int 0, .int (-1)])), (x9, .inl (cy 0, 3, .inl (fun _ => 0))), (y0, .inr (12, [.int 0, .ref y1, .ref y2, .ref y3, .ref y4, .ref y5, .ref y6, .ref y7, .ref y8, .int 0, .int 0, .int 0, .int 0, .int 0, .long 0, .int 0, .int 0, .int 0, .ref y9, .ref y10, .int 0, .int 0, .int 0, .int 0, .int 0, .int 0, .int 0, .int 0, .int 0, .int 0, .ref y11, .ref y12, .ref y13, .int 0, .int 0, .int 0, .ref y14, .ref y15, .ref y16, .ref y17, .ref y18, .ref y19, .ref y20, .ref y21, .ref y22, .ref y23, .ref y24, .ref y25, .ref y26, .int 0, .int 0, .int 0, .ref y27, .ref y28, .ref y29, .int 0, .int 0, .int 0, .ref y30, .ref y31, .ref y32, .ref y33, .ref y34, .ref y35])), (y5, .inl (cy 0, 12, .inl (fun _ => 0)))]) [0, 1, 4, 92, 97] (by decide) rfl
  refine lv_aload_n hx hb dL_law_817 rfl (lv_at hl 2 rfl) ?_
  refine lv_aload_n hx hb dL_law_818 rfl (lv_at hl 3 rfl) ?_
  refine lv_iload_n hx hb dL_law_819 rfl (lv_at hl 0 rfl) ?_
  refine lv_iconst (v := 1) hx hb dL_law_820 (by decide +kernel) ?_
  refine lv_iadd hx hb dL_law_821 ?_
  refine tp_i 1 (by decide +kernel) ?_
  refine va_sld hx hb hX hbl hbA hS (vi_c (by decide +kernel)) dL_law_822 ?_
  refine tp_i (xs 1) rfl ?_
  refine lv_aload_n hx hb dL_law_823 rfl (lv_at hl 3 rfl) ?_
  refine lv_iload_n hx hb dL_law_824 rfl (lv_at hl 0 rfl) ?_
  refine lv_iconst (v := 2) hx hb dL_law_825 (by decide +kernel) ?_
  refine lv_iadd hx hb dL_law_826 ?_
  refine tp_i 2 (by decide +kernel) ?_
  refine va_sld hx hb hX hbl hbA hS (vi_c (by decide +kernel)) dL_law_827 ?_
  refine tp_i (xs 2) rfl ?_
  refine lv_aload_n hx hb dL_law_828 rfl (lv_at hl 3 rfl) ?_
  refine lv_iload_n hx hb dL_law_829 rfl (lv_at hl 0 rfl) ?_
  refine lv_iconst (v := 3) hx hb dL_law_830 (by decide +kernel) ?_
  refine lv_iadd hx hb dL_law_831 ?_
  refine tp_i 3 (by decide +kernel) ?_
  refine va_sld hx hb hX hbl hbA hS (vi_c (by decide +kernel)) dL_law_832 ?_
  refine tp_i (xs 3) rfl ?_
  refine lv_aload_n hx hb dL_law_833 rfl (lv_at hl 3 rfl) ?_
  refine lv_iload_n hx hb dL_law_834 rfl (lv_at hl 0 rfl) ?_
  refine lv_iconst (v := 4) hx hb dL_law_835 (by decide +kernel) ?_
  refine lv_iadd hx hb dL_law_836 ?_
  refine tp_i 4 (by decide +kernel) ?_
  refine va_sld hx hb hX hbl hbA hS (vi_c (by decide +kernel)) dL_law_837 ?_
  refine tp_i (xs 4) rfl ?_
  have hPc_1 := hP.sub (ws' := [(x0, .inr (11, [.ref x1, .ref x2, .ref x3, .ref x4, .ref x5, .ref x6, .ref x7])), (x1, .inr (9, [.ref x8, .ref x9, .ref x10, .ref x11, .ref x12, .int 0, .int (-1)])), (x9, .inl (cy 0, 3, .inl (fun _ => 0)))]) [0, 1, 2] rfl
  refine pc_i (va_runV (As := [.int (xs 1), .int (xs 2), .int (xs 3), .int (xs 4)]) (rest := []) ⟨hx, hb, hml, hown, hts⟩ (c_X11_shares l D cy x0 x2 x3 x4 x5 x6 x7 x1 x8 x9 x10 x11 x12 (xs 1) (xs 2) (xs 3) (xs 4)) (cwV 4 hts gL_law_X11_shares rfl rfl rfl (by decide +kernel) ⟨Nat.le_of_ble_eq_true rfl, Nat.le_of_ble_eq_true rfl⟩) ⟨prB, va_recv hK hPc_1 (ci := 11) (q0 := 0) rfl rfl, fun U hU hW => ⟨rfl, PR.of hU hW hKW hPc_1⟩⟩ rfl rfl hl.1 rfl (lv_room (Nat.le_of_ble_eq_true rfl)) dL_law_838 ⟨by decide +kernel, by decide +kernel⟩) (fun r_2 hr_2 => ?_)
  subst hr_2
  refine lv_aload_n hx hb dL_law_841 rfl (lv_at hl 1 rfl) ?_
  refine lv_aload_n hx hb dL_law_842 rfl (lv_at hl 3 rfl) ?_
  refine lv_iload_n hx hb dL_law_843 rfl (lv_at hl 0 rfl) ?_
  refine lv_iconst (v := 1) hx hb dL_law_844 (by decide +kernel) ?_
  refine lv_iadd hx hb dL_law_845 ?_
  refine tp_i 1 (by decide +kernel) ?_
  refine va_sld hx hb hX hbl hbA hS (vi_c (by decide +kernel)) dL_law_846 ?_
  refine tp_i (xs 1) rfl ?_
  refine lv_aload_n hx hb dL_law_847 rfl (lv_at hl 3 rfl) ?_
  refine lv_iload_n hx hb dL_law_848 rfl (lv_at hl 0 rfl) ?_
  refine lv_iconst (v := 2) hx hb dL_law_849 (by decide +kernel) ?_
  refine lv_iadd hx hb dL_law_850 ?_
  refine tp_i 2 (by decide +kernel) ?_
  refine va_sld hx hb hX hbl hbA hS (vi_c (by decide +kernel)) dL_law_851 ?_
  refine tp_i (xs 2) rfl ?_
  refine lv_aload_n hx hb dL_law_852 rfl (lv_at hl 3 rfl) ?_
  refine lv_iload_n hx hb dL_law_853 rfl (lv_at hl 0 rfl) ?_
  refine lv_iconst (v := 3) hx hb dL_law_854 (by decide +kernel) ?_
  refine lv_iadd hx hb dL_law_855 ?_
  refine tp_i 3 (by decide +kernel) ?_
  refine va_sld hx hb hX hbl hbA hS (vi_c (by decide +kernel)) dL_law_856 ?_
  refine tp_i (xs 3) rfl ?_
  refine lv_aload_n hx hb dL_law_857 rfl (lv_at hl 3 rfl) ?_
  refine lv_iload_n hx hb dL_law_858 rfl (lv_at hl 0 rfl) ?_
  refine lv_iconst (v := 4) hx hb dL_law_859 (by decide +kernel) ?_
  refine lv_iadd hx hb dL_law_860 ?_
  refine tp_i 4 (by decide +kernel) ?_
  refine va_sld hx hb hX hbl hbA hS (vi_c (by decide +kernel)) dL_law_861 ?_
  refine tp_i (xs 4) rfl ?_
  have hPc_3 := hP.sub (ws' := [(y0, .inr (12, [.int 0, .ref y1, .ref y2, .ref y3, .ref y4, .ref y5, .ref y6, .ref y7, .ref y8, .int 0, .int 0, .int 0, .int 0, .int 0, .long 0, .int 0, .int 0, .int 0, .ref y9, .ref y10, .int 0, .int 0, .int 0, .int 0, .int 0, .int 0, .int 0, .int 0, .int 0, .int 0, .ref y11, .ref y12, .ref y13, .int 0, .int 0, .int 0, .ref y14, .ref y15, .ref y16, .ref y17, .ref y18, .ref y19, .ref y20, .ref y21, .ref y22, .ref y23, .ref y24, .ref y25, .ref y26, .int 0, .int 0, .int 0, .ref y27, .ref y28, .ref y29, .int 0, .int 0, .int 0, .ref y30, .ref y31, .ref y32, .ref y33, .ref y34, .ref y35])), (y5, .inl (cy 0, 12, .inl (fun _ => 0)))]) [3, 4] rfl
  have hDc_4 := hD.sub (ws' := [(y0, .inr (12, [.int 0, .ref y1, .ref y2, .ref y3, .ref y4, .ref y5, .ref y6, .ref y7, .ref y8, .int 0, .int 0, .int 0, .int 0, .int 0, .long 0, .int 0, .int 0, .int 0, .ref y9, .ref y10, .int 0, .int 0, .int 0, .int 0, .int 0, .int 0, .int 0, .int 0, .int 0, .int 0, .ref y11, .ref y12, .ref y13, .int 0, .int 0, .int 0, .ref y14, .ref y15, .ref y16, .ref y17, .ref y18, .ref y19, .ref y20, .ref y21, .ref y22, .ref y23, .ref y24, .ref y25, .ref y26, .int 0, .int 0, .int 0, .ref y27, .ref y28, .ref y29, .int 0, .int 0, .int 0, .ref y30, .ref y31, .ref y32, .ref y33, .ref y34, .ref y35])), (y5, .inl (cy 0, 12, .inl (fun _ => 0)))]) [3, 4] (by decide) rfl
  have hFc_5 := va_free (wc := [(y0, .inr (12, [.int 0, .ref y1, .ref y2, .ref y3, .ref y4, .ref y5, .ref y6, .ref y7, .ref y8, .int 0, .int 0, .int 0, .int 0, .int 0, .long 0, .int 0, .int 0, .int 0, .ref y9, .ref y10, .int 0, .int 0, .int 0, .int 0, .int 0, .int 0, .int 0, .int 0, .int 0, .int 0, .ref y11, .ref y12, .ref y13, .int 0, .int 0, .int 0, .ref y14, .ref y15, .ref y16, .ref y17, .ref y18, .ref y19, .ref y20, .ref y21, .ref y22, .ref y23, .ref y24, .ref y25, .ref y26, .int 0, .int 0, .int 0, .ref y27, .ref y28, .ref y29, .int 0, .int 0, .int 0, .ref y30, .ref y31, .ref y32, .ref y33, .ref y34, .ref y35])), (y5, .inl (cy 0, 12, .inl (fun _ => 0)))]) hD hS hA [3, 4] rfl
  refine va_calli (va_runV (As := [.int (xs 1), .int (xs 2), .int (xs 3), .int (xs 4)]) (rest := [.int (-2)]) ⟨hx, hb, hml, hown, hts⟩ (c_X12_shares l D cy y0 y1 y2 y3 y4 y5 y6 y7 y8 y9 y10 y11 y12 y13 y14 y15 y16 y17 y18 y19 y20 y21 y22 y23 y24 y25 y26 y27 y28 y29 y30 y31 y32 y33 y34 y35 (xs 1) (xs 2) (xs 3) (xs 4) H.size) (cwV 4 hts gL_law_X12_shares rfl rfl rfl (by decide +kernel) ⟨Nat.le_of_ble_eq_true rfl, Nat.le_of_ble_eq_true rfl⟩) ⟨pwB, va_recv hK hPc_3 (ci := 12) (q0 := 0) rfl rfl, fun U hU hW => ⟨rfl, PW.of hU hW hKW hPc_3 hDc_4⟩⟩ rfl rfl hl.1 rfl (lv_room (Nat.le_of_ble_eq_true rfl)) dL_law_862 ⟨by decide +kernel, by decide +kernel⟩) hS (fun q _ h => hFc_5 q h) hFc_5 (fun r_7 u t H1 locs ht hvm hw_6 hB hz1 hk1 hS => ?_)
  subst hw_6
  obtain ⟨hP1, hD1⟩ := hB
  rw [ht] at hP1
  obtain ⟨hP, hD⟩ := va_join (wr := [(x0, .inr (11, [.ref x1, .ref x2, .ref x3, .ref x4, .ref x5, .ref x6, .ref x7])), (x1, .inr (9, [.ref x8, .ref x9, .ref x10, .ref x11, .ref x12, .int 0, .int (-1)])), (x9, .inl (cy 0, 3, .inl (fun _ => 0)))]) (w1 := []) hP hD [3, 4] [0, 1, 2] rfl rfl (by decide) (by decide) hk1 hFc_5 hP1 hD1
  generalize H1 = H at hP hS ⊢
  have hP : va_P D vwCl [(x0, .inr (11, [.ref x1, .ref x2, .ref x3, .ref x4, .ref x5, .ref x6, .ref x7])), (x1, .inr (9, [.ref x8, .ref x9, .ref x10, .ref x11, .ref x12, .int 0, .int (-1)])), (x9, .inl (cy 0, 3, .inl (fun _ => 0)))] H := hP
  have hD : va_D A [(x0, .inr (11, [.ref x1, .ref x2, .ref x3, .ref x4, .ref x5, .ref x6, .ref x7])), (x1, .inr (9, [.ref x8, .ref x9, .ref x10, .ref x11, .ref x12, .int 0, .int (-1)])), (x9, .inl (cy 0, 3, .inl (fun _ => 0)))] := hD
  refine lv_icmp_eq (tgt := 1550) hx hb dL_law_865 (by decide) (fun _ => ?_) (fun c_8 => absurd (by decide +kernel) c_8)
  exact lw_tail l C0 hAe hS (by decide +kernel) (by decide +kernel) ls (lv_sub hl [0, 3] rfl)
set_option maxHeartbeats 4000000 in
set_option maxRecDepth 100000 in
theorem lw_c16 {p : Program} {e : Env} {s : State} {m : MethodId} {below : List Frame} {meth : Method} {c : Code} (l : Launch) {b : Nat} {xs : Nat → Int32} (C0 : lw_At p s m meth c b 6 xs)  {A : Nat → Prop} (hAe : A = fun q : Nat => s.heap.size ≤ q) {D : va_G} {cy : Nat → ClassId} (hKW : KW D cy s) {x0 x1 x2 x3 x4 x5 x6 x7 x8 x9 x10 x11 x12 x13 x14 x15 x16 x17 x18 x19 x20 x21 x22 x23 x24 x25 x26 x27 x28 x29 x30 x31 x32 x33 x34 x35 x36 x37 x38 x39 x40 x41 x42 x43 x44 x45 x46 x47 x48 x49 x50 x51 x52 x53 x54 x55 x56 x57 x58 x59 x60 x61 x62 x63 x64 x65 x66 x67 x68 x69 x70 x71 x72 x73 x74 x75 x76 x77 x78 x79 x80 x81 x82 x83 x84 x85 x86 x87 x88 x89 x90 x91 y0 y1 y2 y3 y4 y5 y6 y7 y8 y9 y10 y11 y12 y13 y14 y15 y16 y17 y18 y19 y20 y21 y22 y23 y24 y25 y26 y27 y28 y29 y30 y31 y32 y33 y34 y35 : Nat} {H : Heap} {locs : List Loc} (hP : va_P D vwCl (WL cy x0 x1 x2 x3 x4 x5 x6 x7 x8 x9 x10 x11 x12 x13 x14 x15 x16 x17 x18 x19 x20 x21 x22 x23 x24 x25 x26 x27 x28 x29 x30 x31 x32 x33 x34 x35 x36 x37 x38 x39 x40 x41 x42 x43 x44 x45 x46 x47 x48 x49 x50 x51 x52 x53 x54 x55 x56 x57 x58 x59 x60 x61 x62 x63 x64 x65 x66 x67 x68 x69 x70 x71 x72 x73 x74 x75 x76 x77 x78 x79 x80 x81 x82 x83 x84 x85 x86 x87 x88 x89 x90 x91 y0 y1 y2 y3 y4 y5 y6 y7 y8 y9 y10 y11 y12 y13 y14 y15 y16 y17 y18 y19 y20 y21 y22 y23 y24 y25 y26 y27 y28 y29 y30 y31 y32 y33 y34 y35) H) (hD : va_D A (WL cy x0 x1 x2 x3 x4 x5 x6 x7 x8 x9 x10 x11 x12 x13 x14 x15 x16 x17 x18 x19 x20 x21 x22 x23 x24 x25 x26 x27 x28 x29 x30 x31 x32 x33 x34 x35 x36 x37 x38 x39 x40 x41 x42 x43 x44 x45 x46 x47 x48 x49 x50 x51 x52 x53 x54 x55 x56 x57 x58 x59 x60 x61 x62 x63 x64 x65 x66 x67 x68 x69 x70 x71 x72 x73 x74 x75 x76 x77 x78 x79 x80 x81 x82 x83 x84 x85 x86 x87 x88 x89 x90 x91 y0 y1 y2 y3 y4 y5 y6 y7 y8 y9 y10 y11 y12 y13 y14 y15 y16 y17 y18 y19 y20 y21 y22 y23 y24 y25 y26 y27 y28 y29 y30 y31 y32 y33 y34 y35)) (hS : va_S A s.heap H locs) (ls : Array Slot) (hl : lv_has ls 4 [(3, .int 0), (2, .ref y0), (1, .ref x0), (0, .ref b)]) : W p l e room_1 s m #[Value.ref b] below meth c H locs 128 11575 (lw_Z below #[Value.ref b] s) (F0 m 870 ls []) := by
  obtain ⟨hx, hb, hr, hml, hown, hts0, hX, hbl, hlocks, hgv⟩ := id C0
  have hts : ∀ w ∈ wsL_law, w.before #[Value.ref b] s = true := fun w h => hts0 w (wsL_law_in w h)
  have hown : s.vm.findClass RL = some m.cls := hown
  have hK := hKW.1
  have hA : ∀ q : Nat, s.heap.size ≤ q → A q := fun _ h => by rw [hAe]; exact h
  have hbA : ¬ A b := by rw [hAe]; exact Nat.not_le.mpr hbl
  have hP := hP.sub (ws' := [(x0, .inr (11, [.ref x1, .ref x2, .ref x3, .ref x4, .ref x5, .ref x6, .ref x7])), (x1, .inr (9, [.ref x8, .ref x9, .ref x10, .ref x11, .ref x12, .int 0, .int (-1)])), (x9, .inl (cy 0, 3, .inl (fun _ => 0))), (y0, .inr (12, [.int 0, .ref y1, .ref y2, .ref y3, .ref y4, .ref y5, .ref y6, .ref y7, .ref y8, .int 0, .int 0, .int 0, .int 0, .int 0, .long 0, .int 0, .int 0, .int 0, .ref y9, .ref y10, .int 0, .int 0, .int 0, .int 0, .int 0, .int 0, .int 0, .int 0, .int 0, .int 0, .ref y11, .ref y12, .ref y13, .int 0, .int 0, .int 0, .ref y14, .ref y15, .ref y16, .ref y17, .ref y18, .ref y19, .ref y20, .ref y21, .ref y22, .ref y23, .ref y24, .ref y25, .ref y26, .int 0, .int 0, .int 0, .ref y27, .ref y28, .ref y29, .int 0, .int 0, .int 0, .ref y30, .ref y31, .ref y32, .ref y33, .ref y34, .ref y35])), (y5, .inl (cy 0, 12, .inl (fun _ => 0)))]) [0, 1, 4, 92, 97] rfl
  have hD := hD.sub (ws' := [(x0, .inr (11, [.ref x1, .ref x2, .ref x3, .ref x4, .ref x5, .ref x6, .ref x7])), (x1, .inr (9, [.ref x8, .ref x9, .ref x10, .ref x11, .ref x12, .int 0, .int (-1)])), (x9, .inl (cy 0, 3, .inl (fun _ => 0))), (y0, .inr (12, [.int 0, .ref y1, .ref y2, .ref y3, .ref y4, .ref y5, .ref y6, .ref y7, .ref y8, .int 0, .int 0, .int 0, .int 0, .int 0, .long 0, .int 0, .int 0, .int 0, .ref y9, .ref y10, .int 0, .int 0, .int 0, .int 0, .int 0, .int 0, .int 0, .int 0, .int 0, .int 0, .ref y11, .ref y12, .ref y13, .int 0, .int 0, .int 0, .ref y14, .ref y15, .ref y16, .ref y17, .ref y18, .ref y19, .ref y20, .ref y21, .ref y22, .ref y23, .ref y24, .ref y25, .ref y26, .int 0, .int 0, .int 0, .ref y27, .ref y28, .ref y29, .int 0, .int 0, .int 0, .ref y30, .ref y31, .ref y32, .ref y33, .ref y34, .ref y35])), (y5, .inl (cy 0, 12, .inl (fun _ => 0)))]) [0, 1, 4, 92, 97] (by decide) rfl
  refine lv_aload_n hx hb dL_law_870 rfl (lv_at hl 2 rfl) ?_
  refine lv_aload_n hx hb dL_law_871 rfl (lv_at hl 3 rfl) ?_
  refine lv_iload_n hx hb dL_law_872 rfl (lv_at hl 0 rfl) ?_
  refine lv_iconst (v := 1) hx hb dL_law_873 (by decide +kernel) ?_
  refine lv_iadd hx hb dL_law_874 ?_
  refine tp_i 1 (by decide +kernel) ?_
  refine va_sld hx hb hX hbl hbA hS (vi_c (by decide +kernel)) dL_law_875 ?_
  refine tp_i (xs 1) rfl ?_
  refine lv_aload_n hx hb dL_law_876 rfl (lv_at hl 3 rfl) ?_
  refine lv_iload_n hx hb dL_law_877 rfl (lv_at hl 0 rfl) ?_
  refine lv_iconst (v := 2) hx hb dL_law_878 (by decide +kernel) ?_
  refine lv_iadd hx hb dL_law_879 ?_
  refine tp_i 2 (by decide +kernel) ?_
  refine va_sld hx hb hX hbl hbA hS (vi_c (by decide +kernel)) dL_law_880 ?_
  refine tp_i (xs 2) rfl ?_
  have hPc_1 := hP.sub (ws' := [(x0, .inr (11, [.ref x1, .ref x2, .ref x3, .ref x4, .ref x5, .ref x6, .ref x7])), (x1, .inr (9, [.ref x8, .ref x9, .ref x10, .ref x11, .ref x12, .int 0, .int (-1)])), (x9, .inl (cy 0, 3, .inl (fun _ => 0)))]) [0, 1, 2] rfl
  refine pc_i (va_runV (As := [.int (xs 1), .int (xs 2)]) (rest := []) ⟨hx, hb, hml, hown, hts⟩ (c_X11_twice l D cy x0 x2 x3 x4 x5 x6 x7 x1 x8 x9 x10 x11 x12 (xs 1) (xs 2)) (cwV 2 hts gL_law_X11_twice rfl rfl rfl (by decide +kernel) ⟨Nat.le_of_ble_eq_true rfl, Nat.le_of_ble_eq_true rfl⟩) ⟨prB, va_recv hK hPc_1 (ci := 11) (q0 := 0) rfl rfl, fun U hU hW => ⟨rfl, PR.of hU hW hKW hPc_1⟩⟩ rfl rfl hl.1 rfl (lv_room (Nat.le_of_ble_eq_true rfl)) dL_law_881 ⟨by decide +kernel, by decide +kernel⟩) (fun r_2 hr_2 => ?_)
  subst hr_2
  refine lv_aload_n hx hb dL_law_884 rfl (lv_at hl 1 rfl) ?_
  refine lv_aload_n hx hb dL_law_885 rfl (lv_at hl 3 rfl) ?_
  refine lv_iload_n hx hb dL_law_886 rfl (lv_at hl 0 rfl) ?_
  refine lv_iconst (v := 1) hx hb dL_law_887 (by decide +kernel) ?_
  refine lv_iadd hx hb dL_law_888 ?_
  refine tp_i 1 (by decide +kernel) ?_
  refine va_sld hx hb hX hbl hbA hS (vi_c (by decide +kernel)) dL_law_889 ?_
  refine tp_i (xs 1) rfl ?_
  refine lv_aload_n hx hb dL_law_890 rfl (lv_at hl 3 rfl) ?_
  refine lv_iload_n hx hb dL_law_891 rfl (lv_at hl 0 rfl) ?_
  refine lv_iconst (v := 2) hx hb dL_law_892 (by decide +kernel) ?_
  refine lv_iadd hx hb dL_law_893 ?_
  refine tp_i 2 (by decide +kernel) ?_
  refine va_sld hx hb hX hbl hbA hS (vi_c (by decide +kernel)) dL_law_894 ?_
  refine tp_i (xs 2) rfl ?_
  have hPc_3 := hP.sub (ws' := [(y0, .inr (12, [.int 0, .ref y1, .ref y2, .ref y3, .ref y4, .ref y5, .ref y6, .ref y7, .ref y8, .int 0, .int 0, .int 0, .int 0, .int 0, .long 0, .int 0, .int 0, .int 0, .ref y9, .ref y10, .int 0, .int 0, .int 0, .int 0, .int 0, .int 0, .int 0, .int 0, .int 0, .int 0, .ref y11, .ref y12, .ref y13, .int 0, .int 0, .int 0, .ref y14, .ref y15, .ref y16, .ref y17, .ref y18, .ref y19, .ref y20, .ref y21, .ref y22, .ref y23, .ref y24, .ref y25, .ref y26, .int 0, .int 0, .int 0, .ref y27, .ref y28, .ref y29, .int 0, .int 0, .int 0, .ref y30, .ref y31, .ref y32, .ref y33, .ref y34, .ref y35])), (y5, .inl (cy 0, 12, .inl (fun _ => 0)))]) [3, 4] rfl
  have hDc_4 := hD.sub (ws' := [(y0, .inr (12, [.int 0, .ref y1, .ref y2, .ref y3, .ref y4, .ref y5, .ref y6, .ref y7, .ref y8, .int 0, .int 0, .int 0, .int 0, .int 0, .long 0, .int 0, .int 0, .int 0, .ref y9, .ref y10, .int 0, .int 0, .int 0, .int 0, .int 0, .int 0, .int 0, .int 0, .int 0, .int 0, .ref y11, .ref y12, .ref y13, .int 0, .int 0, .int 0, .ref y14, .ref y15, .ref y16, .ref y17, .ref y18, .ref y19, .ref y20, .ref y21, .ref y22, .ref y23, .ref y24, .ref y25, .ref y26, .int 0, .int 0, .int 0, .ref y27, .ref y28, .ref y29, .int 0, .int 0, .int 0, .ref y30, .ref y31, .ref y32, .ref y33, .ref y34, .ref y35])), (y5, .inl (cy 0, 12, .inl (fun _ => 0)))]) [3, 4] (by decide) rfl
  have hFc_5 := va_free (wc := [(y0, .inr (12, [.int 0, .ref y1, .ref y2, .ref y3, .ref y4, .ref y5, .ref y6, .ref y7, .ref y8, .int 0, .int 0, .int 0, .int 0, .int 0, .long 0, .int 0, .int 0, .int 0, .ref y9, .ref y10, .int 0, .int 0, .int 0, .int 0, .int 0, .int 0, .int 0, .int 0, .int 0, .int 0, .ref y11, .ref y12, .ref y13, .int 0, .int 0, .int 0, .ref y14, .ref y15, .ref y16, .ref y17, .ref y18, .ref y19, .ref y20, .ref y21, .ref y22, .ref y23, .ref y24, .ref y25, .ref y26, .int 0, .int 0, .int 0, .ref y27, .ref y28, .ref y29, .int 0, .int 0, .int 0, .ref y30, .ref y31, .ref y32, .ref y33, .ref y34, .ref y35])), (y5, .inl (cy 0, 12, .inl (fun _ => 0)))]) hD hS hA [3, 4] rfl
  refine va_calli (va_runV (As := [.int (xs 1), .int (xs 2)]) (rest := [.int (-1)]) ⟨hx, hb, hml, hown, hts⟩ (c_X12_twice l D cy y0 y1 y2 y3 y4 y5 y6 y7 y8 y9 y10 y11 y12 y13 y14 y15 y16 y17 y18 y19 y20 y21 y22 y23 y24 y25 y26 y27 y28 y29 y30 y31 y32 y33 y34 y35 (xs 1) (xs 2) H.size) (cwV 2 hts gL_law_X12_twice rfl rfl rfl (by decide +kernel) ⟨Nat.le_of_ble_eq_true rfl, Nat.le_of_ble_eq_true rfl⟩) ⟨pwB, va_recv hK hPc_3 (ci := 12) (q0 := 0) rfl rfl, fun U hU hW => ⟨rfl, PW.of hU hW hKW hPc_3 hDc_4⟩⟩ rfl rfl hl.1 rfl (lv_room (Nat.le_of_ble_eq_true rfl)) dL_law_895 ⟨by decide +kernel, by decide +kernel⟩) hS (fun q _ h => hFc_5 q h) hFc_5 (fun r_7 u t H1 locs ht hvm hw_6 hB hz1 hk1 hS => ?_)
  subst hw_6
  obtain ⟨hP1, hD1⟩ := hB
  rw [ht] at hP1
  obtain ⟨hP, hD⟩ := va_join (wr := [(x0, .inr (11, [.ref x1, .ref x2, .ref x3, .ref x4, .ref x5, .ref x6, .ref x7])), (x1, .inr (9, [.ref x8, .ref x9, .ref x10, .ref x11, .ref x12, .int 0, .int (-1)])), (x9, .inl (cy 0, 3, .inl (fun _ => 0)))]) (w1 := []) hP hD [3, 4] [0, 1, 2] rfl rfl (by decide) (by decide) hk1 hFc_5 hP1 hD1
  generalize H1 = H at hP hS ⊢
  have hP : va_P D vwCl [(x0, .inr (11, [.ref x1, .ref x2, .ref x3, .ref x4, .ref x5, .ref x6, .ref x7])), (x1, .inr (9, [.ref x8, .ref x9, .ref x10, .ref x11, .ref x12, .int 0, .int (-1)])), (x9, .inl (cy 0, 3, .inl (fun _ => 0)))] H := hP
  have hD : va_D A [(x0, .inr (11, [.ref x1, .ref x2, .ref x3, .ref x4, .ref x5, .ref x6, .ref x7])), (x1, .inr (9, [.ref x8, .ref x9, .ref x10, .ref x11, .ref x12, .int 0, .int (-1)])), (x9, .inl (cy 0, 3, .inl (fun _ => 0)))] := hD
  refine lv_icmp_eq (tgt := 1550) hx hb dL_law_898 (by decide) (fun _ => ?_) (fun c_8 => absurd (by decide +kernel) c_8)
  exact lw_tail l C0 hAe hS (by decide +kernel) (by decide +kernel) ls (lv_sub hl [0, 3] rfl)
