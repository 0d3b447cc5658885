theorem dX6_clear_0 : decode cX6_clear 0 = .ok (.aload_n 0, 1) := by decide +kernel
theorem dX6_clear_1 : decode cX6_clear 1 = .ok (.bipush 6, 2) := by decide +kernel
theorem dX6_clear_3 : decode cX6_clear 3 = .ok (.putfield 33, 3) := by decide +kernel
theorem dX6_clear_6 : decode cX6_clear 6 = .ok (.aload_n 0, 1) := by decide +kernel
theorem dX6_clear_7 : decode cX6_clear 7 = .ok (.bipush 6, 2) := by decide +kernel
theorem dX6_clear_9 : decode cX6_clear 9 = .ok (.putfield 37, 3) := by decide +kernel
theorem dX6_clear_12 : decode cX6_clear 12 = .ok (.aload_n 0, 1) := by decide +kernel
theorem dX6_clear_13 : decode cX6_clear 13 = .ok (.iconst 0, 1) := by decide +kernel
theorem dX6_clear_14 : decode cX6_clear 14 = .ok (.putfield 40, 3) := by decide +kernel
theorem dX6_clear_17 : decode cX6_clear 17 = .ok (.aload_n 0, 1) := by decide +kernel
theorem dX6_clear_18 : decode cX6_clear 18 = .ok (.iconst 0, 1) := by decide +kernel
theorem dX6_clear_19 : decode cX6_clear 19 = .ok (.putfield 43, 3) := by decide +kernel
theorem dX6_clear_22 : decode cX6_clear 22 = .ok (.aload_n 0, 1) := by decide +kernel
theorem dX6_clear_23 : decode cX6_clear 23 = .ok (.iconst 4, 1) := by decide +kernel
theorem dX6_clear_24 : decode cX6_clear 24 = .ok (.putfield 46, 3) := by decide +kernel
theorem dX6_clear_27 : decode cX6_clear 27 = .ok (.iconst 0, 1) := by decide +kernel
theorem dX6_clear_28 : decode cX6_clear 28 = .ok (.istore_n 1, 1) := by decide +kernel
theorem dX6_clear_29 : decode cX6_clear 29 = .ok (.iload_n 1, 1) := by decide +kernel
theorem dX6_clear_30 : decode cX6_clear 30 = .ok (.iconst 3, 1) := by decide +kernel
theorem dX6_clear_31 : decode cX6_clear 31 = .ok (.if_icmp .ge 54, 3) := by decide +kernel
theorem dX6_clear_34 : decode cX6_clear 34 = .ok (.aload_n 0, 1) := by decide +kernel
theorem dX6_clear_35 : decode cX6_clear 35 = .ok (.getfield 9, 3) := by decide +kernel
theorem dX6_clear_38 : decode cX6_clear 38 = .ok (.iconst 4, 1) := by decide +kernel
theorem dX6_clear_39 : decode cX6_clear 39 = .ok (.iload_n 1, 1) := by decide +kernel
theorem dX6_clear_40 : decode cX6_clear 40 = .ok (.imul, 1) := by decide +kernel
theorem dX6_clear_41 : decode cX6_clear 41 = .ok (.iconst 0, 1) := by decide +kernel
theorem dX6_clear_42 : decode cX6_clear 42 = .ok (.iadd, 1) := by decide +kernel
theorem dX6_clear_43 : decode cX6_clear 43 = .ok (.iconst 3, 1) := by decide +kernel
theorem dX6_clear_44 : decode cX6_clear 44 = .ok (.iastore, 1) := by decide +kernel
theorem dX6_clear_45 : decode cX6_clear 45 = .ok (.aload_n 0, 1) := by decide +kernel
theorem dX6_clear_46 : decode cX6_clear 46 = .ok (.getfield 9, 3) := by decide +kernel
theorem dX6_clear_49 : decode cX6_clear 49 = .ok (.iconst 4, 1) := by decide +kernel
theorem dX6_clear_50 : decode cX6_clear 50 = .ok (.iload_n 1, 1) := by decide +kernel
theorem dX6_clear_51 : decode cX6_clear 51 = .ok (.imul, 1) := by decide +kernel
theorem dX6_clear_52 : decode cX6_clear 52 = .ok (.iconst 1, 1) := by decide +kernel
theorem dX6_clear_53 : decode cX6_clear 53 = .ok (.iadd, 1) := by decide +kernel
theorem dX6_clear_54 : decode cX6_clear 54 = .ok (.iconst 1, 1) := by decide +kernel
theorem dX6_clear_55 : decode cX6_clear 55 = .ok (.iastore, 1) := by decide +kernel
theorem dX6_clear_56 : decode cX6_clear 56 = .ok (.aload_n 0, 1) := by decide +kernel
theorem dX6_clear_57 : decode cX6_clear 57 = .ok (.getfield 9, 3) := by decide +kernel
theorem dX6_clear_60 : decode cX6_clear 60 = .ok (.iconst 4, 1) := by decide +kernel
theorem dX6_clear_61 : decode cX6_clear 61 = .ok (.iload_n 1, 1) := by decide +kernel
theorem dX6_clear_62 : decode cX6_clear 62 = .ok (.imul, 1) := by decide +kernel
theorem dX6_clear_63 : decode cX6_clear 63 = .ok (.iconst 2, 1) := by decide +kernel
theorem dX6_clear_64 : decode cX6_clear 64 = .ok (.iadd, 1) := by decide +kernel
theorem dX6_clear_65 : decode cX6_clear 65 = .ok (.iconst 4, 1) := by decide +kernel
theorem dX6_clear_66 : decode cX6_clear 66 = .ok (.iastore, 1) := by decide +kernel
theorem dX6_clear_67 : decode cX6_clear 67 = .ok (.aload_n 0, 1) := by decide +kernel
theorem dX6_clear_68 : decode cX6_clear 68 = .ok (.getfield 9, 3) := by decide +kernel
theorem dX6_clear_71 : decode cX6_clear 71 = .ok (.iconst 4, 1) := by decide +kernel
theorem dX6_clear_72 : decode cX6_clear 72 = .ok (.iload_n 1, 1) := by decide +kernel
theorem dX6_clear_73 : decode cX6_clear 73 = .ok (.imul, 1) := by decide +kernel
theorem dX6_clear_74 : decode cX6_clear 74 = .ok (.iconst 3, 1) := by decide +kernel
theorem dX6_clear_75 : decode cX6_clear 75 = .ok (.iadd, 1) := by decide +kernel
theorem dX6_clear_76 : decode cX6_clear 76 = .ok (.bipush 6, 2) := by decide +kernel
theorem dX6_clear_78 : decode cX6_clear 78 = .ok (.iastore, 1) := by decide +kernel
theorem dX6_clear_79 : decode cX6_clear 79 = .ok (.iinc 1 1, 3) := by decide +kernel
theorem dX6_clear_82 : decode cX6_clear 82 = .ok (.goto (-53), 3) := by decide +kernel
theorem dX6_clear_85 : decode cX6_clear 85 = .ok (.aload_n 0, 1) := by decide +kernel
theorem dX6_clear_86 : decode cX6_clear 86 = .ok (.iconst 0, 1) := by decide +kernel
theorem dX6_clear_87 : decode cX6_clear 87 = .ok (.putfield 49, 3) := by decide +kernel
theorem dX6_clear_90 : decode cX6_clear 90 = .ok (.aload_n 0, 1) := by decide +kernel
theorem dX6_clear_91 : decode cX6_clear 91 = .ok (.iconst 0, 1) := by decide +kernel
theorem dX6_clear_92 : decode cX6_clear 92 = .ok (.putfield 52, 3) := by decide +kernel
theorem dX6_clear_95 : decode cX6_clear 95 = .ok (.aload_n 0, 1) := by decide +kernel
theorem dX6_clear_96 : decode cX6_clear 96 = .ok (.iconst 0, 1) := by decide +kernel
theorem dX6_clear_97 : decode cX6_clear 97 = .ok (.putfield 55, 3) := by decide +kernel
theorem dX6_clear_100 : decode cX6_clear 100 = .ok (.return_, 1) := by decide +kernel
theorem dX1_clear_0 : decode cX1_clear 0 = .ok (.aload_n 0, 1) := by decide +kernel
theorem dX1_clear_1 : decode cX1_clear 1 = .ok (.iconst 0, 1) := by decide +kernel
theorem dX1_clear_2 : decode cX1_clear 2 = .ok (.putfield 18, 3) := by decide +kernel
theorem dX1_clear_5 : decode cX1_clear 5 = .ok (.return_, 1) := by decide +kernel
theorem dX2_clear_0 : decode cX2_clear 0 = .ok (.aload_n 0, 1) := by decide +kernel
theorem dX2_clear_1 : decode cX2_clear 1 = .ok (.iconst 0, 1) := by decide +kernel
theorem dX2_clear_2 : decode cX2_clear 2 = .ok (.putfield 24, 3) := by decide +kernel
theorem dX2_clear_5 : decode cX2_clear 5 = .ok (.aload_n 0, 1) := by decide +kernel
theorem dX2_clear_6 : decode cX2_clear 6 = .ok (.iconst 0, 1) := by decide +kernel
theorem dX2_clear_7 : decode cX2_clear 7 = .ok (.putfield 28, 3) := by decide +kernel
theorem dX2_clear_10 : decode cX2_clear 10 = .ok (.return_, 1) := by decide +kernel
theorem dX8_byteAt_0 : decode cX8_byteAt 0 = .ok (.iload_n 1, 1) := by decide +kernel
theorem dX8_byteAt_1 : decode cX8_byteAt 1 = .ok (.ifCond .lt 11, 3) := by decide +kernel
theorem dX8_byteAt_12 : decode cX8_byteAt 12 = .ok (.iconst 0, 1) := by decide +kernel
theorem dX8_byteAt_13 : decode cX8_byteAt 13 = .ok (.goto 13, 3) := by decide +kernel
theorem dX8_byteAt_26 : decode cX8_byteAt 26 = .ok (.ireturn, 1) := by decide +kernel
theorem dX8_byteAt_4 : decode cX8_byteAt 4 = .ok (.iload_n 1, 1) := by decide +kernel
theorem dX8_byteAt_5 : decode cX8_byteAt 5 = .ok (.aload_n 0, 1) := by decide +kernel
theorem dX8_byteAt_6 : decode cX8_byteAt 6 = .ok (.getfield 15, 3) := by decide +kernel
theorem dX8_byteAt_9 : decode cX8_byteAt 9 = .ok (.if_icmp .lt 7, 3) := by decide +kernel
theorem dX4_nextToken_0 : decode cX4_nextToken 0 = .ok (.aload_n 0, 1) := by decide +kernel
theorem dX4_nextToken_1 : decode cX4_nextToken 1 = .ok (.getfield 51, 3) := by decide +kernel
theorem dX4_nextToken_4 : decode cX4_nextToken 4 = .ok (.istore_n 2, 1) := by decide +kernel
theorem dX4_nextToken_5 : decode cX4_nextToken 5 = .ok (.iload_n 2, 1) := by decide +kernel
theorem dX4_nextToken_6 : decode cX4_nextToken 6 = .ok (.aload_n 1, 1) := by decide +kernel
theorem dX4_nextToken_7 : decode cX4_nextToken 7 = .ok (.getfield 63, 3) := by decide +kernel
theorem dX4_nextToken_10 : decode cX4_nextToken 10 = .ok (.if_icmp .ge 20, 3) := by decide +kernel
theorem dX4_nextToken_30 : decode cX4_nextToken 30 = .ok (.aload_n 0, 1) := by decide +kernel
theorem dX4_nextToken_31 : decode cX4_nextToken 31 = .ok (.iload_n 2, 1) := by decide +kernel
theorem dX4_nextToken_32 : decode cX4_nextToken 32 = .ok (.putfield 79, 3) := by decide +kernel
theorem dX4_nextToken_35 : decode cX4_nextToken 35 = .ok (.aload_n 1, 1) := by decide +kernel
theorem dX4_nextToken_36 : decode cX4_nextToken 36 = .ok (.iload_n 2, 1) := by decide +kernel
theorem dX4_nextToken_37 : decode cX4_nextToken 37 = .ok (.invokevirtual 103, 3) := by decide +kernel
set_option maxRecDepth 20000 in
theorem ggX4_nextToken_X8_byteAt : GoodIn wsX4_nextToken wsX8_byteAt := goodIn_r _ [9, 10, 11, 32, 33] (by decide +kernel) (by decide +kernel)
set_option maxRecDepth 20000 in
theorem gX4_nextToken_X8_byteAt : GoodIn wsX4_nextToken (wsV RX4 103 RX8 yX8_byteAt wsX8_byteAt) := goodIn_app (goodIn_of _ (by decide +kernel)) ggX4_nextToken_X8_byteAt
theorem dX4_nextToken_40 : decode cX4_nextToken 40 = .ok (.istore_n 3, 1) := by decide +kernel
theorem dX4_nextToken_41 : decode cX4_nextToken 41 = .ok (.iload_n 2, 1) := by decide +kernel
theorem dX4_nextToken_42 : decode cX4_nextToken 42 = .ok (.aload_n 1, 1) := by decide +kernel
theorem dX4_nextToken_43 : decode cX4_nextToken 43 = .ok (.getfield 63, 3) := by decide +kernel
theorem dX4_nextToken_46 : decode cX4_nextToken 46 = .ok (.if_icmp .lt 11, 3) := by decide +kernel
theorem dX4_nextToken_49 : decode cX4_nextToken 49 = .ok (.aload_n 0, 1) := by decide +kernel
theorem dX4_nextToken_50 : decode cX4_nextToken 50 = .ok (.iconst 0, 1) := by decide +kernel
theorem dX4_nextToken_51 : decode cX4_nextToken 51 = .ok (.putfield 76, 3) := by decide +kernel
theorem dX4_nextToken_54 : decode cX4_nextToken 54 = .ok (.goto 112, 3) := by decide +kernel
theorem dX4_nextToken_166 : decode cX4_nextToken 166 = .ok (.aload_n 0, 1) := by decide +kernel
theorem dX4_nextToken_167 : decode cX4_nextToken 167 = .ok (.iload_n 2, 1) := by decide +kernel
theorem dX4_nextToken_168 : decode cX4_nextToken 168 = .ok (.putfield 51, 3) := by decide +kernel
theorem dX4_nextToken_171 : decode cX4_nextToken 171 = .ok (.return_, 1) := by decide +kernel
theorem dX4_readLine_0 : decode cX4_readLine 0 = .ok (.aload_n 0, 1) := by decide +kernel
theorem dX4_readLine_1 : decode cX4_readLine 1 = .ok (.aload_n 1, 1) := by decide +kernel
theorem dX4_readLine_2 : decode cX4_readLine 2 = .ok (.invokevirtual 72, 3) := by decide +kernel
set_option maxRecDepth 20000 in
theorem ggX4_readLine_X4_nextToken : GoodIn wsX4_readLine wsX4_nextToken := goodIn_r _ [11, 12, 13, 2, 1, 14, 15, 16, 17, 18, 19, 20, 21, 22, 10, 23, 24, 25, 26, 27, 28, 29, 177, 178, 179, 180, 181, 182, 183, 184, 185, 186, 187, 188] (by decide +kernel) (by decide +kernel)
set_option maxRecDepth 20000 in
theorem gX4_readLine_X4_nextToken : GoodIn wsX4_readLine (wsV RX4 72 RX4 yX4_nextToken wsX4_nextToken) := goodIn_app (goodIn_of _ (by decide +kernel)) ggX4_readLine_X4_nextToken
theorem dX4_readLine_5 : decode cX4_readLine 5 = .ok (.aload_n 0, 1) := by decide +kernel
theorem dX4_readLine_6 : decode cX4_readLine 6 = .ok (.getfield 76, 3) := by decide +kernel
theorem dX4_readLine_9 : decode cX4_readLine 9 = .ok (.ifCond .ne 5, 3) := by decide +kernel
theorem dX4_readLine_12 : decode cX4_readLine 12 = .ok (.iconst 0, 1) := by decide +kernel
theorem dX4_readLine_13 : decode cX4_readLine 13 = .ok (.ireturn, 1) := by decide +kernel
theorem dX6_isWhole_0 : decode cX6_isWhole 0 = .ok (.iconst 0, 1) := by decide +kernel
theorem dX6_isWhole_1 : decode cX6_isWhole 1 = .ok (.istore_n 1, 1) := by decide +kernel
theorem dX6_isWhole_2 : decode cX6_isWhole 2 = .ok (.iload_n 1, 1) := by decide +kernel
theorem dX6_isWhole_3 : decode cX6_isWhole 3 = .ok (.aload_n 0, 1) := by decide +kernel
theorem dX6_isWhole_4 : decode cX6_isWhole 4 = .ok (.getfield 49, 3) := by decide +kernel
theorem dX6_isWhole_7 : decode cX6_isWhole 7 = .ok (.if_icmp .ge 24, 3) := by decide +kernel
theorem dX6_isWhole_31 : decode cX6_isWhole 31 = .ok (.iconst 0, 1) := by decide +kernel
theorem dX6_isWhole_32 : decode cX6_isWhole 32 = .ok (.istore_n 1, 1) := by decide +kernel
theorem dX6_isWhole_33 : decode cX6_isWhole 33 = .ok (.iload_n 1, 1) := by decide +kernel
theorem dX6_isWhole_34 : decode cX6_isWhole 34 = .ok (.aload_n 0, 1) := by decide +kernel
theorem dX6_isWhole_35 : decode cX6_isWhole 35 = .ok (.getfield 52, 3) := by decide +kernel
theorem dX6_isWhole_38 : decode cX6_isWhole 38 = .ok (.if_icmp .ge 24, 3) := by decide +kernel
theorem dX6_isWhole_62 : decode cX6_isWhole 62 = .ok (.aload_n 0, 1) := by decide +kernel
theorem dX6_isWhole_63 : decode cX6_isWhole 63 = .ok (.getfield 55, 3) := by decide +kernel
theorem dX6_isWhole_66 : decode cX6_isWhole 66 = .ok (.aload_n 0, 1) := by decide +kernel
theorem dX6_isWhole_67 : decode cX6_isWhole 67 = .ok (.getfield 52, 3) := by decide +kernel
theorem dX6_isWhole_70 : decode cX6_isWhole 70 = .ok (.ishr, 1) := by decide +kernel
theorem dX6_isWhole_71 : decode cX6_isWhole 71 = .ok (.ifCond .ne 7, 3) := by decide +kernel
theorem dX6_isWhole_74 : decode cX6_isWhole 74 = .ok (.iconst 1, 1) := by decide +kernel
theorem dX6_isWhole_75 : decode cX6_isWhole 75 = .ok (.goto 4, 3) := by decide +kernel
theorem dX6_isWhole_79 : decode cX6_isWhole 79 = .ok (.ireturn, 1) := by decide +kernel
theorem dX2_isWhole_0 : decode cX2_isWhole 0 = .ok (.iconst 0, 1) := by decide +kernel
theorem dX2_isWhole_1 : decode cX2_isWhole 1 = .ok (.istore_n 1, 1) := by decide +kernel
theorem dX2_isWhole_2 : decode cX2_isWhole 2 = .ok (.iload_n 1, 1) := by decide +kernel
theorem dX2_isWhole_3 : decode cX2_isWhole 3 = .ok (.aload_n 0, 1) := by decide +kernel
theorem dX2_isWhole_4 : decode cX2_isWhole 4 = .ok (.getfield 28, 3) := by decide +kernel
theorem dX2_isWhole_7 : decode cX2_isWhole 7 = .ok (.if_icmp .ge 37, 3) := by decide +kernel
theorem dX2_isWhole_44 : decode cX2_isWhole 44 = .ok (.aload_n 0, 1) := by decide +kernel
theorem dX2_isWhole_45 : decode cX2_isWhole 45 = .ok (.getfield 24, 3) := by decide +kernel
theorem dX2_isWhole_48 : decode cX2_isWhole 48 = .ok (.ifCond .le 7, 3) := by decide +kernel
theorem dX2_isWhole_55 : decode cX2_isWhole 55 = .ok (.iconst 0, 1) := by decide +kernel
theorem dX2_isWhole_56 : decode cX2_isWhole 56 = .ok (.ireturn, 1) := by decide +kernel
theorem dX4_note_0 : decode cX4_note 0 = .ok (.aload_n 0, 1) := by decide +kernel
theorem dX4_note_1 : decode cX4_note 1 = .ok (.getfield 44, 3) := by decide +kernel
theorem dX4_note_4 : decode cX4_note 4 = .ok (.ifCond .ne 13, 3) := by decide +kernel
theorem dX4_note_7 : decode cX4_note 7 = .ok (.aload_n 0, 1) := by decide +kernel
theorem dX4_note_8 : decode cX4_note 8 = .ok (.iload_n 1, 1) := by decide +kernel
theorem dX4_note_9 : decode cX4_note 9 = .ok (.putfield 44, 3) := by decide +kernel
theorem dX4_note_12 : decode cX4_note 12 = .ok (.aload_n 0, 1) := by decide +kernel
theorem dX4_note_13 : decode cX4_note 13 = .ok (.iload_n 2, 1) := by decide +kernel
theorem dX4_note_14 : decode cX4_note 14 = .ok (.putfield 48, 3) := by decide +kernel
theorem dX4_note_17 : decode cX4_note 17 = .ok (.return_, 1) := by decide +kernel
theorem dX4_read_0 : decode cX4_read 0 = .ok (.aload_n 0, 1) := by decide +kernel
theorem dX4_read_1 : decode cX4_read 1 = .ok (.getfield 12, 3) := by decide +kernel
theorem dX4_read_4 : decode cX4_read 4 = .ok (.invokevirtual 39, 3) := by decide +kernel
set_option maxRecDepth 20000 in
theorem ggX4_read_X6_clear : GoodIn wsX4_read wsX6_clear := goodIn_r _ [12, 13, 14, 15, 16, 17, 18, 19, 20, 21, 228, 229, 230, 231, 232, 233, 234, 235, 236, 237, 238, 239, 240, 241, 242] (by decide +kernel) (by decide +kernel)
set_option maxRecDepth 20000 in
theorem gX4_read_X6_clear : GoodIn wsX4_read (wsV RX4 39 RX6 yX6_clear wsX6_clear) := goodIn_app (goodIn_of _ (by decide +kernel)) ggX4_read_X6_clear
theorem dX4_read_7 : decode cX4_read 7 = .ok (.aload_n 0, 1) := by decide +kernel
theorem dX4_read_8 : decode cX4_read 8 = .ok (.getfield 21, 3) := by decide +kernel
theorem dX4_read_11 : decode cX4_read 11 = .ok (.invokevirtual 42, 3) := by decide +kernel
set_option maxRecDepth 20000 in
theorem ggX4_read_X1_clear : GoodIn wsX4_read wsX1_clear := goodIn_r _ [26, 27, 243, 244, 245] (by decide +kernel) (by decide +kernel)
set_option maxRecDepth 20000 in
theorem gX4_read_X1_clear : GoodIn wsX4_read (wsV RX4 42 RX1 yX1_clear wsX1_clear) := goodIn_app (goodIn_of _ (by decide +kernel)) ggX4_read_X1_clear
theorem dX4_read_14 : decode cX4_read 14 = .ok (.aload_n 0, 1) := by decide +kernel
theorem dX4_read_15 : decode cX4_read 15 = .ok (.getfield 28, 3) := by decide +kernel
theorem dX4_read_18 : decode cX4_read 18 = .ok (.invokevirtual 43, 3) := by decide +kernel
set_option maxRecDepth 20000 in
theorem ggX4_read_X2_clear : GoodIn wsX4_read wsX2_clear := goodIn_r _ [32, 33, 34, 246, 247, 248, 249, 250, 251] (by decide +kernel) (by decide +kernel)
set_option maxRecDepth 20000 in
theorem gX4_read_X2_clear : GoodIn wsX4_read (wsV RX4 43 RX2 yX2_clear wsX2_clear) := goodIn_app (goodIn_of _ (by decide +kernel)) ggX4_read_X2_clear
theorem dX4_read_21 : decode cX4_read 21 = .ok (.aload_n 0, 1) := by decide +kernel
theorem dX4_read_22 : decode cX4_read 22 = .ok (.iconst 0, 1) := by decide +kernel
theorem dX4_read_23 : decode cX4_read 23 = .ok (.putfield 44, 3) := by decide +kernel
theorem dX4_read_26 : decode cX4_read 26 = .ok (.aload_n 0, 1) := by decide +kernel
theorem dX4_read_27 : decode cX4_read 27 = .ok (.iconst (-1), 1) := by decide +kernel
theorem dX4_read_28 : decode cX4_read 28 = .ok (.putfield 48, 3) := by decide +kernel
theorem dX4_read_31 : decode cX4_read 31 = .ok (.aload_n 0, 1) := by decide +kernel
theorem dX4_read_32 : decode cX4_read 32 = .ok (.iconst 0, 1) := by decide +kernel
theorem dX4_read_33 : decode cX4_read 33 = .ok (.putfield 51, 3) := by decide +kernel
theorem dX4_read_36 : decode cX4_read 36 = .ok (.iconst 1, 1) := by decide +kernel
theorem dX4_read_37 : decode cX4_read 37 = .ok (.istore_n 3, 1) := by decide +kernel
theorem dX4_read_38 : decode cX4_read 38 = .ok (.iconst 0, 1) := by decide +kernel
theorem dX4_read_39 : decode cX4_read 39 = .ok (.istore 4, 2) := by decide +kernel
theorem dX4_read_41 : decode cX4_read 41 = .ok (.iload_n 3, 1) := by decide +kernel
theorem dX4_read_42 : decode cX4_read 42 = .ok (.ifCond .eq 24, 3) := by decide +kernel
theorem dX4_read_45 : decode cX4_read 45 = .ok (.iload 4, 2) := by decide +kernel
theorem dX4_read_47 : decode cX4_read 47 = .ok (.sipush 600, 3) := by decide +kernel
theorem dX4_read_50 : decode cX4_read 50 = .ok (.if_icmp .gt 16, 3) := by decide +kernel
theorem dX4_read_53 : decode cX4_read 53 = .ok (.aload_n 0, 1) := by decide +kernel
theorem dX4_read_54 : decode cX4_read 54 = .ok (.aload_n 1, 1) := by decide +kernel
theorem dX4_read_55 : decode cX4_read 55 = .ok (.iload_n 2, 1) := by decide +kernel
theorem dX4_read_56 : decode cX4_read 56 = .ok (.invokevirtual 54, 3) := by decide +kernel
set_option maxRecDepth 20000 in
theorem ggX4_read_X4_readLine : GoodIn wsX4_read wsX4_readLine := goodIn_r _ [39, 40, 41, 42, 43, 44, 4, 45, 46, 47, 38, 48, 6, 7, 49, 50, 51, 52, 53, 54, 55, 56, 57, 58, 59, 60, 61, 62, 63, 64, 65, 66, 67, 68, 69, 70, 71, 72, 73, 74, 75, 76, 77, 78, 79, 80, 81, 82, 83, 84, 85, 86, 87, 88, 89, 90, 91, 92, 93, 94, 95, 96, 97, 98, 99, 100, 101, 102, 103, 104, 105, 106, 107, 108, 109, 110, 111, 112, 113, 114, 115, 116, 117, 118, 119, 120, 121, 122, 123, 124, 125, 126, 127, 128, 129, 5, 130, 131, 132, 133, 134, 135, 136, 137, 138, 139, 140, 141, 142, 143, 1, 144, 145, 3, 146, 147, 2, 148, 149, 150, 151, 152, 153, 154, 155, 156, 157, 158, 159, 160, 161, 162, 163, 164, 165, 166, 167, 168, 169, 170, 11, 171, 19, 172, 173, 174, 175, 176, 177, 178, 20, 179, 180, 181, 182, 183, 184, 31, 185, 33, 186, 187, 188, 189, 190, 191, 34, 192, 193, 194, 195, 196, 25, 197, 27, 198, 199, 216, 217, 218, 219, 220, 221, 222, 223, 224, 225, 226, 227, 228, 229, 230, 231, 232, 233, 234, 235, 236, 237, 238, 239, 240, 241, 242, 246, 247, 248, 249, 250, 251, 243, 244, 245] (by decide +kernel) (by decide +kernel)
set_option maxRecDepth 20000 in
theorem gX4_read_X4_readLine : GoodIn wsX4_read (wsV RX4 54 RX4 yX4_readLine wsX4_readLine) := goodIn_app (goodIn_of _ (by decide +kernel)) ggX4_read_X4_readLine
theorem dX4_read_59 : decode cX4_read 59 = .ok (.istore_n 3, 1) := by decide +kernel
theorem dX4_read_60 : decode cX4_read 60 = .ok (.iinc 4 1, 3) := by decide +kernel
theorem dX4_read_63 : decode cX4_read 63 = .ok (.goto (-22), 3) := by decide +kernel
theorem dX4_read_66 : decode cX4_read 66 = .ok (.iload_n 2, 1) := by decide +kernel
theorem dX4_read_67 : decode cX4_read 67 = .ok (.ifCond .ne 13, 3) := by decide +kernel
theorem dX4_read_70 : decode cX4_read 70 = .ok (.aload_n 0, 1) := by decide +kernel
theorem dX4_read_71 : decode cX4_read 71 = .ok (.getfield 12, 3) := by decide +kernel
theorem dX4_read_74 : decode cX4_read 74 = .ok (.invokevirtual 58, 3) := by decide +kernel
set_option maxRecDepth 20000 in
theorem ggX4_read_X6_isWhole : GoodIn wsX4_read wsX6_isWhole := goodIn_r _ [203, 19, 172, 20, 179, 21, 204, 205, 206, 11, 207, 208, 209, 210, 211, 13, 14, 228, 229, 230, 231, 232, 233, 234, 235, 236, 237, 238, 239, 240, 241, 242] (by decide +kernel) (by decide +kernel)
set_option maxRecDepth 20000 in
theorem gX4_read_X6_isWhole : GoodIn wsX4_read (wsV RX4 58 RX6 yX6_isWhole wsX6_isWhole) := goodIn_app (goodIn_of _ (by decide +kernel)) ggX4_read_X6_isWhole
theorem dX4_read_77 : decode cX4_read 77 = .ok (.goto 23, 3) := by decide +kernel
theorem dX4_read_100 : decode cX4_read 100 = .ok (.istore 4, 2) := by decide +kernel
theorem dX4_read_102 : decode cX4_read 102 = .ok (.iload 4, 2) := by decide +kernel
theorem dX4_read_104 : decode cX4_read 104 = .ok (.ifCond .ne 12, 3) := by decide +kernel
theorem dX4_read_116 : decode cX4_read 116 = .ok (.return_, 1) := by decide +kernel
theorem dX4_read_80 : decode cX4_read 80 = .ok (.iload_n 2, 1) := by decide +kernel
theorem dX4_read_81 : decode cX4_read 81 = .ok (.iconst 1, 1) := by decide +kernel
theorem dX4_read_82 : decode cX4_read 82 = .ok (.if_icmp .eq 13, 3) := by decide +kernel
theorem dX4_read_95 : decode cX4_read 95 = .ok (.iconst 1, 1) := by decide +kernel
theorem dX4_read_96 : decode cX4_read 96 = .ok (.goto 4, 3) := by decide +kernel
theorem dX4_read_85 : decode cX4_read 85 = .ok (.aload_n 0, 1) := by decide +kernel
theorem dX4_read_86 : decode cX4_read 86 = .ok (.getfield 28, 3) := by decide +kernel
theorem dX4_read_89 : decode cX4_read 89 = .ok (.invokevirtual 62, 3) := by decide +kernel
set_option maxRecDepth 20000 in
theorem ggX4_read_X2_isWhole : GoodIn wsX4_read wsX2_isWhole := goodIn_r _ [215, 34, 192, 33, 193, 246, 247, 248, 249, 250, 251] (by decide +kernel) (by decide +kernel)
set_option maxRecDepth 20000 in
theorem gX4_read_X2_isWhole : GoodIn wsX4_read (wsV RX4 62 RX2 yX2_isWhole wsX2_isWhole) := goodIn_app (goodIn_of _ (by decide +kernel)) ggX4_read_X2_isWhole
theorem dX4_read_92 : decode cX4_read 92 = .ok (.ifCond .eq 7, 3) := by decide +kernel
theorem dX4_read_99 : decode cX4_read 99 = .ok (.iconst 0, 1) := by decide +kernel
theorem dX4_read_107 : decode cX4_read 107 = .ok (.aload_n 0, 1) := by decide +kernel
theorem dX4_read_108 : decode cX4_read 108 = .ok (.iconst 4, 1) := by decide +kernel
theorem dX4_read_109 : decode cX4_read 109 = .ok (.aload_n 1, 1) := by decide +kernel
theorem dX4_read_110 : decode cX4_read 110 = .ok (.getfield 63, 3) := by decide +kernel
theorem dX4_read_113 : decode cX4_read 113 = .ok (.invokevirtual 68, 3) := by decide +kernel
set_option maxRecDepth 20000 in
theorem ggX4_read_X4_note : GoodIn wsX4_read wsX4_note := goodIn_r _ [152, 4, 5, 216, 217, 218, 219, 220, 221, 222, 223, 224, 225] (by decide +kernel) (by decide +kernel)
set_option maxRecDepth 20000 in
theorem gX4_read_X4_note : GoodIn wsX4_read (wsV RX4 68 RX4 yX4_note wsX4_note) := goodIn_app (goodIn_of _ (by decide +kernel)) ggX4_read_X4_note
set_option maxHeartbeats 4000000 in
set_option maxRecDepth 100000 in
theorem c_X6_clear (l : Launch) (D : va_G) (cy : Nat → ClassId) (h0 : Nat) (sv0 : Int32) (sv1 : Int32) (sv2 : Int32) (sv3 : Int32) (sv4 : Int32) (sa5 : Nat) (sf5 : Nat → Int32) (sv6 : Int32) (sa7 : Nat) (sa8 : Nat) (sa9 : Nat) (sv10 : Int32) (sa11 : Nat) (sa12 : Nat) (sa13 : Nat) (sv14 : Int32) (sz : Nat)  : Met l yX6_clear wsX6_clear ({ frames := 0, cells := 0, slots := 0, locals := 0 } : Room) (va_Pc [.ref h0] (PW D cy [(h0, .inr (6, [.int sv0, .int sv1, .int sv2, .int sv3, .int sv4, .ref sa5, .int sv6, .ref sa7, .ref sa8, .ref sa9, .int sv10, .ref sa11, .ref sa12, .ref sa13, .int sv14])), (sa5, .inl (cy 0, 12, .inl sf5))] sz)) (va_Qv (fun _ : Unit => True) (fun _ t => ∃ (f_15 : Nat → Int32), va_P D vwCl [(h0, .inr (6, [.int 6, .int 6, .int 0, .int 0, .int 4, .ref sa5, .int 0, .ref sa7, .ref sa8, .ref sa9, .int 0, .ref sa11, .ref sa12, .ref sa13, .int 0])), (sa5, .inl (cy 0, 12, .inl f_15))] t.heap ∧ va_D (va_A [(h0, .inr (6, [.int sv0, .int sv1, .int sv2, .int sv3, .int sv4, .ref sa5, .int sv6, .ref sa7, .ref sa8, .ref sa9, .int sv10, .ref sa11, .ref sa12, .ref sa13, .int sv14])), (sa5, .inl (cy 0, 12, .inl sf5))] sz) [(h0, .inr (6, [.int 6, .int 6, .int 0, .int 0, .int 4, .ref sa5, .int 0, .ref sa7, .ref sa8, .ref sa9, .int 0, .ref sa11, .ref sa12, .ref sa13, .int 0])), (sa5, .inl (cy 0, 12, .inl f_15))]) (va_A [(h0, .inr (6, [.int sv0, .int sv1, .int sv2, .int sv3, .int sv4, .ref sa5, .int sv6, .ref sa7, .ref sa8, .ref sa9, .int sv10, .ref sa11, .ref sa12, .ref sa13, .int sv14])), (sa5, .inl (cy 0, 12, .inl sf5))] sz)) 0 0 (va_A [(h0, .inr (6, [.int sv0, .int sv1, .int sv2, .int sv3, .int sv4, .ref sa5, .int sv6, .ref sa7, .ref sa8, .ref sa9, .int sv10, .ref sa11, .ref sa12, .ref sa13, .int sv14])), (sa5, .inl (cy 0, 12, .inl sf5))] sz) := by
  refine Met.ofW (cc := cX6_clear) (maxL := 2) (ret := none) (by decide) rfl ?_
  intro p e s m args below meth c s₁ B hml hv
  obtain ⟨rfl, hsz, hP, hKW, hD0⟩ := hv
  have hK := hKW.1
  have hx := B.exec
  have hb := B.bytes
  have hr := B.returns
  have hts := atoms_spec (ws := wsX6_clear) B.pre
  have hown : s.vm.findClass RX6 = some m.cls := findClass_of_methodNamed B.named
  have hlocks := B.notSynchronized
  have in_6 : ∀ w ∈ u_ws RX6 TX6 15, w ∈ wsX6_clear := by decide +kernel
  have fl_33 := hts (.fieldLink RX6 33 "ShoalClaims$Sea" "width" "I") (by decide +kernel)
  have fl_37 := hts (.fieldLink RX6 37 "ShoalClaims$Sea" "height" "I") (by decide +kernel)
  have fl_40 := hts (.fieldLink RX6 40 "ShoalClaims$Sea" "windSide" "I") (by decide +kernel)
  have fl_43 := hts (.fieldLink RX6 43 "ShoalClaims$Sea" "windStrength" "I") (by decide +kernel)
  have fl_46 := hts (.fieldLink RX6 46 "ShoalClaims$Sea" "nets" "I") (by decide +kernel)
  have fl_9 := hts (.fieldLink RX6 9 "ShoalClaims$Sea" "laws" "[I") (by decide +kernel)
  have fl_49 := hts (.fieldLink RX6 49 "ShoalClaims$Sea" "shoals" "I") (by decide +kernel)
  have fl_52 := hts (.fieldLink RX6 52 "ShoalClaims$Sea" "boats" "I") (by decide +kernel)
  have fl_55 := hts (.fieldLink RX6 55 "ShoalClaims$Sea" "deaf" "I") (by decide +kernel)
  subst hsz
  have hD := hD0.self (sz := s.heap.size)
  generalize hAe : va_A [(h0, .inr (6, [.int sv0, .int sv1, .int sv2, .int sv3, .int sv4, .ref sa5, .int sv6, .ref sa7, .ref sa8, .ref sa9, .int sv10, .ref sa11, .ref sa12, .ref sa13, .int sv14])), (sa5, .inl (cy 0, 12, .inl sf5))] s.heap.size = A at hD ⊢
  have hA : ∀ q : Nat, s.heap.size ≤ q → A q := fun q h => by rw [← hAe]; exact Or.inr h
  have hS : va_S A s.heap s.heap [] := va_S.rf
  have hP : va_P D vwCl [(h0, .inr (6, [.int sv0, .int sv1, .int sv2, .int sv3, .int sv4, .ref sa5, .int sv6, .ref sa7, .ref sa8, .ref sa9, .int sv10, .ref sa11, .ref sa12, .ref sa13, .int sv14])), (sa5, .inl (cy 0, 12, .inl sf5))] s.heap := hP
  have hl := lv_entry ([.ref h0]) (n := 2) (Nat.le_of_ble_eq_true rfl)
  rw [lg_entry_eq]
  generalize (lg_sl ([.ref h0]) ++ List.replicate (2 - (lg_sl ([.ref h0])).length) Slot.unset).toArray = ls at hl ⊢
  have hl : lv_has ls 2 [(0, .ref h0)] := hl
  refine lv_aload_n hx hb dX6_clear_0 rfl (lv_at hl 0 rfl) ?_
  refine lv_bipush (v := 6) hx hb dX6_clear_1 (by decide +kernel) ?_
  refine va_put (D := D) (ci := 6) (v := .int 6) (ty := .int) (C := RX6) (T := TX6) (N := 15) hx hb hts in_6 tyX6 tyX6_ok nmX6 hown hK hP hD hS 0 rfl rfl 0 (by decide) fl_33 (fun _ h9 => h9) rfl (by decide +kernel) rfl rfl (Nat.le_of_ble_eq_true rfl) dX6_clear_3 (fun H locs hP hD hS => ?_)
  have hP : va_P D vwCl [(h0, .inr (6, [.int 6, .int sv1, .int sv2, .int sv3, .int sv4, .ref sa5, .int sv6, .ref sa7, .ref sa8, .ref sa9, .int sv10, .ref sa11, .ref sa12, .ref sa13, .int sv14])), (sa5, .inl (cy 0, 12, .inl sf5))] H := hP
  have hD : va_D A [(h0, .inr (6, [.int 6, .int sv1, .int sv2, .int sv3, .int sv4, .ref sa5, .int sv6, .ref sa7, .ref sa8, .ref sa9, .int sv10, .ref sa11, .ref sa12, .ref sa13, .int sv14])), (sa5, .inl (cy 0, 12, .inl sf5))] := hD
  refine lv_aload_n hx hb dX6_clear_6 rfl (lv_at hl 0 rfl) ?_
  refine lv_bipush (v := 6) hx hb dX6_clear_7 (by decide +kernel) ?_
  refine va_put (D := D) (ci := 6) (v := .int 6) (ty := .int) (C := RX6) (T := TX6) (N := 15) hx hb hts in_6 tyX6 tyX6_ok nmX6 hown hK hP hD hS 0 rfl rfl 1 (by decide) fl_37 (fun _ h9 => h9) rfl (by decide +kernel) rfl rfl (Nat.le_of_ble_eq_true rfl) dX6_clear_9 (fun H locs hP hD hS => ?_)
  have hP : va_P D vwCl [(h0, .inr (6, [.int 6, .int 6, .int sv2, .int sv3, .int sv4, .ref sa5, .int sv6, .ref sa7, .ref sa8, .ref sa9, .int sv10, .ref sa11, .ref sa12, .ref sa13, .int sv14])), (sa5, .inl (cy 0, 12, .inl sf5))] H := hP
  have hD : va_D A [(h0, .inr (6, [.int 6, .int 6, .int sv2, .int sv3, .int sv4, .ref sa5, .int sv6, .ref sa7, .ref sa8, .ref sa9, .int sv10, .ref sa11, .ref sa12, .ref sa13, .int sv14])), (sa5, .inl (cy 0, 12, .inl sf5))] := hD
  refine lv_aload_n hx hb dX6_clear_12 rfl (lv_at hl 0 rfl) ?_
  refine lv_iconst (v := 0) hx hb dX6_clear_13 (by decide +kernel) ?_
  refine va_put (D := D) (ci := 6) (v := .int 0) (ty := .int) (C := RX6) (T := TX6) (N := 15) hx hb hts in_6 tyX6 tyX6_ok nmX6 hown hK hP hD hS 0 rfl rfl 2 (by decide) fl_40 (fun _ h9 => h9) rfl (by decide +kernel) rfl rfl (Nat.le_of_ble_eq_true rfl) dX6_clear_14 (fun H locs hP hD hS => ?_)
  have hP : va_P D vwCl [(h0, .inr (6, [.int 6, .int 6, .int 0, .int sv3, .int sv4, .ref sa5, .int sv6, .ref sa7, .ref sa8, .ref sa9, .int sv10, .ref sa11, .ref sa12, .ref sa13, .int sv14])), (sa5, .inl (cy 0, 12, .inl sf5))] H := hP
  have hD : va_D A [(h0, .inr (6, [.int 6, .int 6, .int 0, .int sv3, .int sv4, .ref sa5, .int sv6, .ref sa7, .ref sa8, .ref sa9, .int sv10, .ref sa11, .ref sa12, .ref sa13, .int sv14])), (sa5, .inl (cy 0, 12, .inl sf5))] := hD
  refine lv_aload_n hx hb dX6_clear_17 rfl (lv_at hl 0 rfl) ?_
  refine lv_iconst (v := 0) hx hb dX6_clear_18 (by decide +kernel) ?_
  refine va_put (D := D) (ci := 6) (v := .int 0) (ty := .int) (C := RX6) (T := TX6) (N := 15) hx hb hts in_6 tyX6 tyX6_ok nmX6 hown hK hP hD hS 0 rfl rfl 3 (by decide) fl_43 (fun _ h9 => h9) rfl (by decide +kernel) rfl rfl (Nat.le_of_ble_eq_true rfl) dX6_clear_19 (fun H locs hP hD hS => ?_)
  have hP : va_P D vwCl [(h0, .inr (6, [.int 6, .int 6, .int 0, .int 0, .int sv4, .ref sa5, .int sv6, .ref sa7, .ref sa8, .ref sa9, .int sv10, .ref sa11, .ref sa12, .ref sa13, .int sv14])), (sa5, .inl (cy 0, 12, .inl sf5))] H := hP
  have hD : va_D A [(h0, .inr (6, [.int 6, .int 6, .int 0, .int 0, .int sv4, .ref sa5, .int sv6, .ref sa7, .ref sa8, .ref sa9, .int sv10, .ref sa11, .ref sa12, .ref sa13, .int sv14])), (sa5, .inl (cy 0, 12, .inl sf5))] := hD
  refine lv_aload_n hx hb dX6_clear_22 rfl (lv_at hl 0 rfl) ?_
  refine lv_iconst (v := 4) hx hb dX6_clear_23 (by decide +kernel) ?_
  refine va_put (D := D) (ci := 6) (v := .int 4) (ty := .int) (C := RX6) (T := TX6) (N := 15) hx hb hts in_6 tyX6 tyX6_ok nmX6 hown hK hP hD hS 0 rfl rfl 4 (by decide) fl_46 (fun _ h9 => h9) rfl (by decide +kernel) rfl rfl (Nat.le_of_ble_eq_true rfl) dX6_clear_24 (fun H locs hP hD hS => ?_)
  have hP : va_P D vwCl [(h0, .inr (6, [.int 6, .int 6, .int 0, .int 0, .int 4, .ref sa5, .int sv6, .ref sa7, .ref sa8, .ref sa9, .int sv10, .ref sa11, .ref sa12, .ref sa13, .int sv14])), (sa5, .inl (cy 0, 12, .inl sf5))] H := hP
  have hD : va_D A [(h0, .inr (6, [.int 6, .int 6, .int 0, .int 0, .int 4, .ref sa5, .int sv6, .ref sa7, .ref sa8, .ref sa9, .int sv10, .ref sa11, .ref sa12, .ref sa13, .int sv14])), (sa5, .inl (cy 0, 12, .inl sf5))] := hD
  refine lv_iconst (v := 0) hx hb dX6_clear_27 (by decide +kernel) ?_
  refine lv_istore_n (lv' := [(1, .int 0), (0, .ref h0)]) hx hb dX6_clear_28 rfl hl (by decide) rfl (fun ls hl => ?_)
  refine lv_iload_n hx hb dX6_clear_29 rfl (lv_at hl 0 rfl) ?_
  refine lv_iconst (v := 3) hx hb dX6_clear_30 (by decide +kernel) ?_
  refine lv_icmp_ge (tgt := 85) hx hb dX6_clear_31 (by decide) (fun c_1 => absurd c_1 (by decide +kernel)) (fun _ => ?_)
  refine lv_aload_n hx hb dX6_clear_34 rfl (lv_at hl 1 rfl) ?_
  refine va_get (D := D) (ci := 6) (v := .ref sa5) (C := RX6) (T := TX6) (N := 15) hx hb hts in_6 hown hK hP 0 rfl rfl 5 (by decide) fl_9 (fun _ h9 => h9) rfl dX6_clear_35 ?_
  refine lv_iconst (v := 4) hx hb dX6_clear_38 (by decide +kernel) ?_
  refine lv_iload_n hx hb dX6_clear_39 rfl (lv_at hl 0 rfl) ?_
  refine lv_imul hx hb dX6_clear_40 ?_
  refine tp_i 0 (by decide +kernel) ?_
  refine lv_iconst (v := 0) hx hb dX6_clear_41 (by decide +kernel) ?_
  refine lv_iadd hx hb dX6_clear_42 ?_
  refine tp_i 0 (by decide +kernel) ?_
  refine lv_iconst (v := 3) hx hb dX6_clear_43 (by decide +kernel) ?_
  refine va_iast hx hb hK hP hD hS 1 0 rfl rfl (vi_c (by decide +kernel)) dX6_clear_44 (fun H locs hP hD hS => ?_)
  have hP : va_P D vwCl [(h0, .inr (6, [.int 6, .int 6, .int 0, .int 0, .int 4, .ref sa5, .int sv6, .ref sa7, .ref sa8, .ref sa9, .int sv10, .ref sa11, .ref sa12, .ref sa13, .int sv14])), (sa5, .inl (cy 0, 12, .inl (upd sf5 0 3)))] H := hP
  have hD : va_D A [(h0, .inr (6, [.int 6, .int 6, .int 0, .int 0, .int 4, .ref sa5, .int sv6, .ref sa7, .ref sa8, .ref sa9, .int sv10, .ref sa11, .ref sa12, .ref sa13, .int sv14])), (sa5, .inl (cy 0, 12, .inl (upd sf5 0 3)))] := hD
  generalize upd sf5 0 3 = f_2 at hP hD
  have hP : va_P D vwCl [(h0, .inr (6, [.int 6, .int 6, .int 0, .int 0, .int 4, .ref sa5, .int sv6, .ref sa7, .ref sa8, .ref sa9, .int sv10, .ref sa11, .ref sa12, .ref sa13, .int sv14])), (sa5, .inl (cy 0, 12, .inl f_2))] H := hP
  have hD : va_D A [(h0, .inr (6, [.int 6, .int 6, .int 0, .int 0, .int 4, .ref sa5, .int sv6, .ref sa7, .ref sa8, .ref sa9, .int sv10, .ref sa11, .ref sa12, .ref sa13, .int sv14])), (sa5, .inl (cy 0, 12, .inl f_2))] := hD
  refine lv_aload_n hx hb dX6_clear_45 rfl (lv_at hl 1 rfl) ?_
  refine va_get (D := D) (ci := 6) (v := .ref sa5) (C := RX6) (T := TX6) (N := 15) hx hb hts in_6 hown hK hP 0 rfl rfl 5 (by decide) fl_9 (fun _ h9 => h9) rfl dX6_clear_46 ?_
  refine lv_iconst (v := 4) hx hb dX6_clear_49 (by decide +kernel) ?_
  refine lv_iload_n hx hb dX6_clear_50 rfl (lv_at hl 0 rfl) ?_
  refine lv_imul hx hb dX6_clear_51 ?_
  refine tp_i 0 (by decide +kernel) ?_
  refine lv_iconst (v := 1) hx hb dX6_clear_52 (by decide +kernel) ?_
  refine lv_iadd hx hb dX6_clear_53 ?_
  refine tp_i 1 (by decide +kernel) ?_
  refine lv_iconst (v := 1) hx hb dX6_clear_54 (by decide +kernel) ?_
  refine va_iast hx hb hK hP hD hS 1 0 rfl rfl (vi_c (by decide +kernel)) dX6_clear_55 (fun H locs hP hD hS => ?_)
  have hP : va_P D vwCl [(h0, .inr (6, [.int 6, .int 6, .int 0, .int 0, .int 4, .ref sa5, .int sv6, .ref sa7, .ref sa8, .ref sa9, .int sv10, .ref sa11, .ref sa12, .ref sa13, .int sv14])), (sa5, .inl (cy 0, 12, .inl (upd f_2 1 1)))] H := hP
  have hD : va_D A [(h0, .inr (6, [.int 6, .int 6, .int 0, .int 0, .int 4, .ref sa5, .int sv6, .ref sa7, .ref sa8, .ref sa9, .int sv10, .ref sa11, .ref sa12, .ref sa13, .int sv14])), (sa5, .inl (cy 0, 12, .inl (upd f_2 1 1)))] := hD
  generalize upd f_2 1 1 = f_3 at hP hD
  have hP : va_P D vwCl [(h0, .inr (6, [.int 6, .int 6, .int 0, .int 0, .int 4, .ref sa5, .int sv6, .ref sa7, .ref sa8, .ref sa9, .int sv10, .ref sa11, .ref sa12, .ref sa13, .int sv14])), (sa5, .inl (cy 0, 12, .inl f_3))] H := hP
  have hD : va_D A [(h0, .inr (6, [.int 6, .int 6, .int 0, .int 0, .int 4, .ref sa5, .int sv6, .ref sa7, .ref sa8, .ref sa9, .int sv10, .ref sa11, .ref sa12, .ref sa13, .int sv14])), (sa5, .inl (cy 0, 12, .inl f_3))] := hD
  refine lv_aload_n hx hb dX6_clear_56 rfl (lv_at hl 1 rfl) ?_
  refine va_get (D := D) (ci := 6) (v := .ref sa5) (C := RX6) (T := TX6) (N := 15) hx hb hts in_6 hown hK hP 0 rfl rfl 5 (by decide) fl_9 (fun _ h9 => h9) rfl dX6_clear_57 ?_
  refine lv_iconst (v := 4) hx hb dX6_clear_60 (by decide +kernel) ?_
  refine lv_iload_n hx hb dX6_clear_61 rfl (lv_at hl 0 rfl) ?_
  refine lv_imul hx hb dX6_clear_62 ?_
  refine tp_i 0 (by decide +kernel) ?_
  refine lv_iconst (v := 2) hx hb dX6_clear_63 (by decide +kernel) ?_
  refine lv_iadd hx hb dX6_clear_64 ?_
  refine tp_i 2 (by decide +kernel) ?_
  refine lv_iconst (v := 4) hx hb dX6_clear_65 (by decide +kernel) ?_
  refine va_iast hx hb hK hP hD hS 1 0 rfl rfl (vi_c (by decide +kernel)) dX6_clear_66 (fun H locs hP hD hS => ?_)
  have hP : va_P D vwCl [(h0, .inr (6, [.int 6, .int 6, .int 0, .int 0, .int 4, .ref sa5, .int sv6, .ref sa7, .ref sa8, .ref sa9, .int sv10, .ref sa11, .ref sa12, .ref sa13, .int sv14])), (sa5, .inl (cy 0, 12, .inl (upd f_3 2 4)))] H := hP
  have hD : va_D A [(h0, .inr (6, [.int 6, .int 6, .int 0, .int 0, .int 4, .ref sa5, .int sv6, .ref sa7, .ref sa8, .ref sa9, .int sv10, .ref sa11, .ref sa12, .ref sa13, .int sv14])), (sa5, .inl (cy 0, 12, .inl (upd f_3 2 4)))] := hD
  generalize upd f_3 2 4 = f_4 at hP hD
  have hP : va_P D vwCl [(h0, .inr (6, [.int 6, .int 6, .int 0, .int 0, .int 4, .ref sa5, .int sv6, .ref sa7, .ref sa8, .ref sa9, .int sv10, .ref sa11, .ref sa12, .ref sa13, .int sv14])), (sa5, .inl (cy 0, 12, .inl f_4))] H := hP
  have hD : va_D A [(h0, .inr (6, [.int 6, .int 6, .int 0, .int 0, .int 4, .ref sa5, .int sv6, .ref sa7, .ref sa8, .ref sa9, .int sv10, .ref sa11, .ref sa12, .ref sa13, .int sv14])), (sa5, .inl (cy 0, 12, .inl f_4))] := hD
  refine lv_aload_n hx hb dX6_clear_67 rfl (lv_at hl 1 rfl) ?_
  refine va_get (D := D) (ci := 6) (v := .ref sa5) (C := RX6) (T := TX6) (N := 15) hx hb hts in_6 hown hK hP 0 rfl rfl 5 (by decide) fl_9 (fun _ h9 => h9) rfl dX6_clear_68 ?_
  refine lv_iconst (v := 4) hx hb dX6_clear_71 (by decide +kernel) ?_
  refine lv_iload_n hx hb dX6_clear_72 rfl (lv_at hl 0 rfl) ?_
  refine lv_imul hx hb dX6_clear_73 ?_
  refine tp_i 0 (by decide +kernel) ?_
  refine lv_iconst (v := 3) hx hb dX6_clear_74 (by decide +kernel) ?_
  refine lv_iadd hx hb dX6_clear_75 ?_
  refine tp_i 3 (by decide +kernel) ?_
  refine lv_bipush (v := 6) hx hb dX6_clear_76 (by decide +kernel) ?_
  refine va_iast hx hb hK hP hD hS 1 0 rfl rfl (vi_c (by decide +kernel)) dX6_clear_78 (fun H locs hP hD hS => ?_)
  have hP : va_P D vwCl [(h0, .inr (6, [.int 6, .int 6, .int 0, .int 0, .int 4, .ref sa5, .int sv6, .ref sa7, .ref sa8, .ref sa9, .int sv10, .ref sa11, .ref sa12, .ref sa13, .int sv14])), (sa5, .inl (cy 0, 12, .inl (upd f_4 3 6)))] H := hP
  have hD : va_D A [(h0, .inr (6, [.int 6, .int 6, .int 0, .int 0, .int 4, .ref sa5, .int sv6, .ref sa7, .ref sa8, .ref sa9, .int sv10, .ref sa11, .ref sa12, .ref sa13, .int sv14])), (sa5, .inl (cy 0, 12, .inl (upd f_4 3 6)))] := hD
  generalize upd f_4 3 6 = f_5 at hP hD
  have hP : va_P D vwCl [(h0, .inr (6, [.int 6, .int 6, .int 0, .int 0, .int 4, .ref sa5, .int sv6, .ref sa7, .ref sa8, .ref sa9, .int sv10, .ref sa11, .ref sa12, .ref sa13, .int sv14])), (sa5, .inl (cy 0, 12, .inl f_5))] H := hP
  have hD : va_D A [(h0, .inr (6, [.int 6, .int 6, .int 0, .int 0, .int 4, .ref sa5, .int sv6, .ref sa7, .ref sa8, .ref sa9, .int sv10, .ref sa11, .ref sa12, .ref sa13, .int sv14])), (sa5, .inl (cy 0, 12, .inl f_5))] := hD
  refine lv_iinc (v := 1) (lv' := [(1, .int 1), (0, .ref h0)]) hx hb dX6_clear_79 hl (k := 0) rfl (by decide) (by decide) rfl (fun ls hl => ?_)
  refine lv_goto (tgt := 29) hx hb dX6_clear_82 (by decide) ?_
  refine lv_iload_n hx hb dX6_clear_29 rfl (lv_at hl 0 rfl) ?_
  refine lv_iconst (v := 3) hx hb dX6_clear_30 (by decide +kernel) ?_
  refine lv_icmp_ge (tgt := 85) hx hb dX6_clear_31 (by decide) (fun c_6 => absurd c_6 (by decide +kernel)) (fun _ => ?_)
  refine lv_aload_n hx hb dX6_clear_34 rfl (lv_at hl 1 rfl) ?_
  refine va_get (D := D) (ci := 6) (v := .ref sa5) (C := RX6) (T := TX6) (N := 15) hx hb hts in_6 hown hK hP 0 rfl rfl 5 (by decide) fl_9 (fun _ h9 => h9) rfl dX6_clear_35 ?_
  refine lv_iconst (v := 4) hx hb dX6_clear_38 (by decide +kernel) ?_
  refine lv_iload_n hx hb dX6_clear_39 rfl (lv_at hl 0 rfl) ?_
  refine lv_imul hx hb dX6_clear_40 ?_
  refine tp_i 4 (by decide +kernel) ?_
  refine lv_iconst (v := 0) hx hb dX6_clear_41 (by decide +kernel) ?_
  refine lv_iadd hx hb dX6_clear_42 ?_
  refine tp_i 4 (by decide +kernel) ?_
  refine lv_iconst (v := 3) hx hb dX6_clear_43 (by decide +kernel) ?_
  refine va_iast hx hb hK hP hD hS 1 0 rfl rfl (vi_c (by decide +kernel)) dX6_clear_44 (fun H locs hP hD hS => ?_)
  have hP : va_P D vwCl [(h0, .inr (6, [.int 6, .int 6, .int 0, .int 0, .int 4, .ref sa5, .int sv6, .ref sa7, .ref sa8, .ref sa9, .int sv10, .ref sa11, .ref sa12, .ref sa13, .int sv14])), (sa5, .inl (cy 0, 12, .inl (upd f_5 4 3)))] H := hP
  have hD : va_D A [(h0, .inr (6, [.int 6, .int 6, .int 0, .int 0, .int 4, .ref sa5, .int sv6, .ref sa7, .ref sa8, .ref sa9, .int sv10, .ref sa11, .ref sa12, .ref sa13, .int sv14])), (sa5, .inl (cy 0, 12, .inl (upd f_5 4 3)))] := hD
  generalize upd f_5 4 3 = f_7 at hP hD
  have hP : va_P D vwCl [(h0, .inr (6, [.int 6, .int 6, .int 0, .int 0, .int 4, .ref sa5, .int sv6, .ref sa7, .ref sa8, .ref sa9, .int sv10, .ref sa11, .ref sa12, .ref sa13, .int sv14])), (sa5, .inl (cy 0, 12, .inl f_7))] H := hP
  have hD : va_D A [(h0, .inr (6, [.int 6, .int 6, .int 0, .int 0, .int 4, .ref sa5, .int sv6, .ref sa7, .ref sa8, .ref sa9, .int sv10, .ref sa11, .ref sa12, .ref sa13, .int sv14])), (sa5, .inl (cy 0, 12, .inl f_7))] := hD
  refine lv_aload_n hx hb dX6_clear_45 rfl (lv_at hl 1 rfl) ?_
  refine va_get (D := D) (ci := 6) (v := .ref sa5) (C := RX6) (T := TX6) (N := 15) hx hb hts in_6 hown hK hP 0 rfl rfl 5 (by decide) fl_9 (fun _ h9 => h9) rfl dX6_clear_46 ?_
  refine lv_iconst (v := 4) hx hb dX6_clear_49 (by decide +kernel) ?_
  refine lv_iload_n hx hb dX6_clear_50 rfl (lv_at hl 0 rfl) ?_
  refine lv_imul hx hb dX6_clear_51 ?_
  refine tp_i 4 (by decide +kernel) ?_
  refine lv_iconst (v := 1) hx hb dX6_clear_52 (by decide +kernel) ?_
  refine lv_iadd hx hb dX6_clear_53 ?_
  refine tp_i 5 (by decide +kernel) ?_
  refine lv_iconst (v := 1) hx hb dX6_clear_54 (by decide +kernel) ?_
  refine va_iast hx hb hK hP hD hS 1 0 rfl rfl (vi_c (by decide +kernel)) dX6_clear_55 (fun H locs hP hD hS => ?_)
  have hP : va_P D vwCl [(h0, .inr (6, [.int 6, .int 6, .int 0, .int 0, .int 4, .ref sa5, .int sv6, .ref sa7, .ref sa8, .ref sa9, .int sv10, .ref sa11, .ref sa12, .ref sa13, .int sv14])), (sa5, .inl (cy 0, 12, .inl (upd f_7 5 1)))] H := hP
  have hD : va_D A [(h0, .inr (6, [.int 6, .int 6, .int 0, .int 0, .int 4, .ref sa5, .int sv6, .ref sa7, .ref sa8, .ref sa9, .int sv10, .ref sa11, .ref sa12, .ref sa13, .int sv14])), (sa5, .inl (cy 0, 12, .inl (upd f_7 5 1)))] := hD
  generalize upd f_7 5 1 = f_8 at hP hD
  have hP : va_P D vwCl [(h0, .inr (6, [.int 6, .int 6, .int 0, .int 0, .int 4, .ref sa5, .int sv6, .ref sa7, .ref sa8, .ref sa9, .int sv10, .ref sa11, .ref sa12, .ref sa13, .int sv14])), (sa5, .inl (cy 0, 12, .inl f_8))] H := hP
  have hD : va_D A [(h0, .inr (6, [.int 6, .int 6, .int 0, .int 0, .int 4, .ref sa5, .int sv6, .ref sa7, .ref sa8, .ref sa9, .int sv10, .ref sa11, .ref sa12, .ref sa13, .int sv14])), (sa5, .inl (cy 0, 12, .inl f_8))] := hD
  refine lv_aload_n hx hb dX6_clear_56 rfl (lv_at hl 1 rfl) ?_
  refine va_get (D := D) (ci := 6) (v := .ref sa5) (C := RX6) (T := TX6) (N := 15) hx hb hts in_6 hown hK hP 0 rfl rfl 5 (by decide) fl_9 (fun _ h9 => h9) rfl dX6_clear_57 ?_
  refine lv_iconst (v := 4) hx hb dX6_clear_60 (by decide +kernel) ?_
  refine lv_iload_n hx hb dX6_clear_61 rfl (lv_at hl 0 rfl) ?_
  refine lv_imul hx hb dX6_clear_62 ?_
  refine tp_i 4 (by decide +kernel) ?_
  refine lv_iconst (v := 2) hx hb dX6_clear_63 (by decide +kernel) ?_
  refine lv_iadd hx hb dX6_clear_64 ?_
  refine tp_i 6 (by decide +kernel) ?_
  refine lv_iconst (v := 4) hx hb dX6_clear_65 (by decide +kernel) ?_
  refine va_iast hx hb hK hP hD hS 1 0 rfl rfl (vi_c (by decide +kernel)) dX6_clear_66 (fun H locs hP hD hS => ?_)
  have hP : va_P D vwCl [(h0, .inr (6, [.int 6, .int 6, .int 0, .int 0, .int 4, .ref sa5, .int sv6, .ref sa7, .ref sa8, .ref sa9, .int sv10, .ref sa11, .ref sa12, .ref sa13, .int sv14])), (sa5, .inl (cy 0, 12, .inl (upd f_8 6 4)))] H := hP
  have hD : va_D A [(h0, .inr (6, [.int 6, .int 6, .int 0, .int 0, .int 4, .ref sa5, .int sv6, .ref sa7, .ref sa8, .ref sa9, .int sv10, .ref sa11, .ref sa12, .ref sa13, .int sv14])), (sa5, .inl (cy 0, 12, .inl (upd f_8 6 4)))] := hD
  generalize upd f_8 6 4 = f_9 at hP hD
  have hP : va_P D vwCl [(h0, .inr (6, [.int 6, .int 6, .int 0, .int 0, .int 4, .ref sa5, .int sv6, .ref sa7, .ref sa8, .ref sa9, .int sv10, .ref sa11, .ref sa12, .ref sa13, .int sv14])), (sa5, .inl (cy 0, 12, .inl f_9))] H := hP
  have hD : va_D A [(h0, .inr (6, [.int 6, .int 6, .int 0, .int 0, .int 4, .ref sa5, .int sv6, .ref sa7, .ref sa8, .ref sa9, .int sv10, .ref sa11, .ref sa12, .ref sa13, .int sv14])), (sa5, .inl (cy 0, 12, .inl f_9))] := hD
  refine lv_aload_n hx hb dX6_clear_67 rfl (lv_at hl 1 rfl) ?_
  refine va_get (D := D) (ci := 6) (v := .ref sa5) (C := RX6) (T := TX6) (N := 15) hx hb hts in_6 hown hK hP 0 rfl rfl 5 (by decide) fl_9 (fun _ h9 => h9) rfl dX6_clear_68 ?_
  refine lv_iconst (v := 4) hx hb dX6_clear_71 (by decide +kernel) ?_
  refine lv_iload_n hx hb dX6_clear_72 rfl (lv_at hl 0 rfl) ?_
  refine lv_imul hx hb dX6_clear_73 ?_
  refine tp_i 4 (by decide +kernel) ?_
  refine lv_iconst (v := 3) hx hb dX6_clear_74 (by decide +kernel) ?_
  refine lv_iadd hx hb dX6_clear_75 ?_
  refine tp_i 7 (by decide +kernel) ?_
  refine lv_bipush (v := 6) hx hb dX6_clear_76 (by decide +kernel) ?_
  refine va_iast hx hb hK hP hD hS 1 0 rfl rfl (vi_c (by decide +kernel)) dX6_clear_78 (fun H locs hP hD hS => ?_)
  have hP : va_P D vwCl [(h0, .inr (6, [.int 6, .int 6, .int 0, .int 0, .int 4, .ref sa5, .int sv6, .ref sa7, .ref sa8, .ref sa9, .int sv10, .ref sa11, .ref sa12, .ref sa13, .int sv14])), (sa5, .inl (cy 0, 12, .inl (upd f_9 7 6)))] H := hP
  have hD : va_D A [(h0, .inr (6, [.int 6, .int 6, .int 0, .int 0, .int 4, .ref sa5, .int sv6, .ref sa7, .ref sa8, .ref sa9, .int sv10, .ref sa11, .ref sa12, .ref sa13, .int sv14])), (sa5, .inl (cy 0, 12, .inl (upd f_9 7 6)))] := hD
  generalize upd f_9 7 6 = f_10 at hP hD
  have hP : va_P D vwCl [(h0, .inr (6, [.int 6, .int 6, .int 0, .int 0, .int 4, .ref sa5, .int sv6, .ref sa7, .ref sa8, .ref sa9, .int sv10, .ref sa11, .ref sa12, .ref sa13, .int sv14])), (sa5, .inl (cy 0, 12, .inl f_10))] H := hP
  have hD : va_D A [(h0, .inr (6, [.int 6, .int 6, .int 0, .int 0, .int 4, .ref sa5, .int sv6, .ref sa7, .ref sa8, .ref sa9, .int sv10, .ref sa11, .ref sa12, .ref sa13, .int sv14])), (sa5, .inl (cy 0, 12, .inl f_10))] := hD
  refine lv_iinc (v := 2) (lv' := [(1, .int 2), (0, .ref h0)]) hx hb dX6_clear_79 hl (k := 0) rfl (by decide) (by decide) rfl (fun ls hl => ?_)
  refine lv_goto (tgt := 29) hx hb dX6_clear_82 (by decide) ?_
  refine lv_iload_n hx hb dX6_clear_29 rfl (lv_at hl 0 rfl) ?_
  refine lv_iconst (v := 3) hx hb dX6_clear_30 (by decide +kernel) ?_
  refine lv_icmp_ge (tgt := 85) hx hb dX6_clear_31 (by decide) (fun c_11 => absurd c_11 (by decide +kernel)) (fun _ => ?_)
  refine lv_aload_n hx hb dX6_clear_34 rfl (lv_at hl 1 rfl) ?_
  refine va_get (D := D) (ci := 6) (v := .ref sa5) (C := RX6) (T := TX6) (N := 15) hx hb hts in_6 hown hK hP 0 rfl rfl 5 (by decide) fl_9 (fun _ h9 => h9) rfl dX6_clear_35 ?_
  refine lv_iconst (v := 4) hx hb dX6_clear_38 (by decide +kernel) ?_
  refine lv_iload_n hx hb dX6_clear_39 rfl (lv_at hl 0 rfl) ?_
  refine lv_imul hx hb dX6_clear_40 ?_
  refine tp_i 8 (by decide +kernel) ?_
  refine lv_iconst (v := 0) hx hb dX6_clear_41 (by decide +kernel) ?_
  refine lv_iadd hx hb dX6_clear_42 ?_
  refine tp_i 8 (by decide +kernel) ?_
  refine lv_iconst (v := 3) hx hb dX6_clear_43 (by decide +kernel) ?_
  refine va_iast hx hb hK hP hD hS 1 0 rfl rfl (vi_c (by decide +kernel)) dX6_clear_44 (fun H locs hP hD hS => ?_)
  have hP : va_P D vwCl [(h0, .inr (6, [.int 6, .int 6, .int 0, .int 0, .int 4, .ref sa5, .int sv6, .ref sa7, .ref sa8, .ref sa9, .int sv10, .ref sa11, .ref sa12, .ref sa13, .int sv14])), (sa5, .inl (cy 0, 12, .inl (upd f_10 8 3)))] H := hP
  have hD : va_D A [(h0, .inr (6, [.int 6, .int 6, .int 0, .int 0, .int 4, .ref sa5, .int sv6, .ref sa7, .ref sa8, .ref sa9, .int sv10, .ref sa11, .ref sa12, .ref sa13, .int sv14])), (sa5, .inl (cy 0, 12, .inl (upd f_10 8 3)))] := hD
  generalize upd f_10 8 3 = f_12 at hP hD
  have hP : va_P D vwCl [(h0, .inr (6, [.int 6, .int 6, .int 0, .int 0, .int 4, .ref sa5, .int sv6, .ref sa7, .ref sa8, .ref sa9, .int sv10, .ref sa11, .ref sa12, .ref sa13, .int sv14])), (sa5, .inl (cy 0, 12, .inl f_12))] H := hP
  have hD : va_D A [(h0, .inr (6, [.int 6, .int 6, .int 0, .int 0, .int 4, .ref sa5, .int sv6, .ref sa7, .ref sa8, .ref sa9, .int sv10, .ref sa11, .ref sa12, .ref sa13, .int sv14])), (sa5, .inl (cy 0, 12, .inl f_12))] := hD
  refine lv_aload_n hx hb dX6_clear_45 rfl (lv_at hl 1 rfl) ?_
  refine va_get (D := D) (ci := 6) (v := .ref sa5) (C := RX6) (T := TX6) (N := 15) hx hb hts in_6 hown hK hP 0 rfl rfl 5 (by decide) fl_9 (fun _ h9 => h9) rfl dX6_clear_46 ?_
  refine lv_iconst (v := 4) hx hb dX6_clear_49 (by decide +kernel) ?_
  refine lv_iload_n hx hb dX6_clear_50 rfl (lv_at hl 0 rfl) ?_
  refine lv_imul hx hb dX6_clear_51 ?_
  refine tp_i 8 (by decide +kernel) ?_
  refine lv_iconst (v := 1) hx hb dX6_clear_52 (by decide +kernel) ?_
  refine lv_iadd hx hb dX6_clear_53 ?_
  refine tp_i 9 (by decide +kernel) ?_
  refine lv_iconst (v := 1) hx hb dX6_clear_54 (by decide +kernel) ?_
  refine va_iast hx hb hK hP hD hS 1 0 rfl rfl (vi_c (by decide +kernel)) dX6_clear_55 (fun H locs hP hD hS => ?_)
  have hP : va_P D vwCl [(h0, .inr (6, [.int 6, .int 6, .int 0, .int 0, .int 4, .ref sa5, .int sv6, .ref sa7, .ref sa8, .ref sa9, .int sv10, .ref sa11, .ref sa12, .ref sa13, .int sv14])), (sa5, .inl (cy 0, 12, .inl (upd f_12 9 1)))] H := hP
  have hD : va_D A [(h0, .inr (6, [.int 6, .int 6, .int 0, .int 0, .int 4, .ref sa5, .int sv6, .ref sa7, .ref sa8, .ref sa9, .int sv10, .ref sa11, .ref sa12, .ref sa13, .int sv14])), (sa5, .inl (cy 0, 12, .inl (upd f_12 9 1)))] := hD
  generalize upd f_12 9 1 = f_13 at hP hD
  have hP : va_P D vwCl [(h0, .inr (6, [.int 6, .int 6, .int 0, .int 0, .int 4, .ref sa5, .int sv6, .ref sa7, .ref sa8, .ref sa9, .int sv10, .ref sa11, .ref sa12, .ref sa13, .int sv14])), (sa5, .inl (cy 0, 12, .inl f_13))] H := hP
  have hD : va_D A [(h0, .inr (6, [.int 6, .int 6, .int 0, .int 0, .int 4, .ref sa5, .int sv6, .ref sa7, .ref sa8, .ref sa9, .int sv10, .ref sa11, .ref sa12, .ref sa13, .int sv14])), (sa5, .inl (cy 0, 12, .inl f_13))] := hD
  refine lv_aload_n hx hb dX6_clear_56 rfl (lv_at hl 1 rfl) ?_
  refine va_get (D := D) (ci := 6) (v := .ref sa5) (C := RX6) (T := TX6) (N := 15) hx hb hts in_6 hown hK hP 0 rfl rfl 5 (by decide) fl_9 (fun _ h9 => h9) rfl dX6_clear_57 ?_
  refine lv_iconst (v := 4) hx hb dX6_clear_60 (by decide +kernel) ?_
  refine lv_iload_n hx hb dX6_clear_61 rfl (lv_at hl 0 rfl) ?_
  refine lv_imul hx hb dX6_clear_62 ?_
  refine tp_i 8 (by decide +kernel) ?_
  refine lv_iconst (v := 2) hx hb dX6_clear_63 (by decide +kernel) ?_
  refine lv_iadd hx hb dX6_clear_64 ?_
  refine tp_i 10 (by decide +kernel) ?_
  refine lv_iconst (v := 4) hx hb dX6_clear_65 (by decide +kernel) ?_
  refine va_iast hx hb hK hP hD hS 1 0 rfl rfl (vi_c (by decide +kernel)) dX6_clear_66 (fun H locs hP hD hS => ?_)
  have hP : va_P D vwCl [(h0, .inr (6, [.int 6, .int 6, .int 0, .int 0, .int 4, .ref sa5, .int sv6, .ref sa7, .ref sa8, .ref sa9, .int sv10, .ref sa11, .ref sa12, .ref sa13, .int sv14])), (sa5, .inl (cy 0, 12, .inl (upd f_13 10 4)))] H := hP
  have hD : va_D A [(h0, .inr (6, [.int 6, .int 6, .int 0, .int 0, .int 4, .ref sa5, .int sv6, .ref sa7, .ref sa8, .ref sa9, .int sv10, .ref sa11, .ref sa12, .ref sa13, .int sv14])), (sa5, .inl (cy 0, 12, .inl (upd f_13 10 4)))] := hD
  generalize upd f_13 10 4 = f_14 at hP hD
  have hP : va_P D vwCl [(h0, .inr (6, [.int 6, .int 6, .int 0, .int 0, .int 4, .ref sa5, .int sv6, .ref sa7, .ref sa8, .ref sa9, .int sv10, .ref sa11, .ref sa12, .ref sa13, .int sv14])), (sa5, .inl (cy 0, 12, .inl f_14))] H := hP
  have hD : va_D A [(h0, .inr (6, [.int 6, .int 6, .int 0, .int 0, .int 4, .ref sa5, .int sv6, .ref sa7, .ref sa8, .ref sa9, .int sv10, .ref sa11, .ref sa12, .ref sa13, .int sv14])), (sa5, .inl (cy 0, 12, .inl f_14))] := hD
  refine lv_aload_n hx hb dX6_clear_67 rfl (lv_at hl 1 rfl) ?_
  refine va_get (D := D) (ci := 6) (v := .ref sa5) (C := RX6) (T := TX6) (N := 15) hx hb hts in_6 hown hK hP 0 rfl rfl 5 (by decide) fl_9 (fun _ h9 => h9) rfl dX6_clear_68 ?_
  refine lv_iconst (v := 4) hx hb dX6_clear_71 (by decide +kernel) ?_
  refine lv_iload_n hx hb dX6_clear_72 rfl (lv_at hl 0 rfl) ?_
  refine lv_imul hx hb dX6_clear_73 ?_
  refine tp_i 8 (by decide +kernel) ?_
  refine lv_iconst (v := 3) hx hb dX6_clear_74 (by decide +kernel) ?_
  refine lv_iadd hx hb dX6_clear_75 ?_
  refine tp_i 11 (by decide +kernel) ?_
  refine lv_bipush (v := 6) hx hb dX6_clear_76 (by decide +kernel) ?_
  refine va_iast hx hb hK hP hD hS 1 0 rfl rfl (vi_c (by decide +kernel)) dX6_clear_78 (fun H locs hP hD hS => ?_)
  have hP : va_P D vwCl [(h0, .inr (6, [.int 6, .int 6, .int 0, .int 0, .int 4, .ref sa5, .int sv6, .ref sa7, .ref sa8, .ref sa9, .int sv10, .ref sa11, .ref sa12, .ref sa13, .int sv14])), (sa5, .inl (cy 0, 12, .inl (upd f_14 11 6)))] H := hP
  have hD : va_D A [(h0, .inr (6, [.int 6, .int 6, .int 0, .int 0, .int 4, .ref sa5, .int sv6, .ref sa7, .ref sa8, .ref sa9, .int sv10, .ref sa11, .ref sa12, .ref sa13, .int sv14])), (sa5, .inl (cy 0, 12, .inl (upd f_14 11 6)))] := hD
  generalize upd f_14 11 6 = f_15 at hP hD
  have hP : va_P D vwCl [(h0, .inr (6, [.int 6, .int 6, .int 0, .int 0, .int 4, .ref sa5, .int sv6, .ref sa7, .ref sa8, .ref sa9, .int sv10, .ref sa11, .ref sa12, .ref sa13, .int sv14])), (sa5, .inl (cy 0, 12, .inl f_15))] H := hP
  have hD : va_D A [(h0, .inr (6, [.int 6, .int 6, .int 0, .int 0, .int 4, .ref sa5, .int sv6, .ref sa7, .ref sa8, .ref sa9, .int sv10, .ref sa11, .ref sa12, .ref sa13, .int sv14])), (sa5, .inl (cy 0, 12, .inl f_15))] := hD
  refine lv_iinc (v := 3) (lv' := [(1, .int 3), (0, .ref h0)]) hx hb dX6_clear_79 hl (k := 0) rfl (by decide) (by decide) rfl (fun ls hl => ?_)
  refine lv_goto (tgt := 29) hx hb dX6_clear_82 (by decide) ?_
  refine lv_iload_n hx hb dX6_clear_29 rfl (lv_at hl 0 rfl) ?_
  refine lv_iconst (v := 3) hx hb dX6_clear_30 (by decide +kernel) ?_
  refine lv_icmp_ge (tgt := 85) hx hb dX6_clear_31 (by decide) (fun _ => ?_) (fun c_16 => absurd (by decide +kernel) c_16)
  refine lv_aload_n hx hb dX6_clear_85 rfl (lv_at hl 1 rfl) ?_
  refine lv_iconst (v := 0) hx hb dX6_clear_86 (by decide +kernel) ?_
  refine va_put (D := D) (ci := 6) (v := .int 0) (ty := .int) (C := RX6) (T := TX6) (N := 15) hx hb hts in_6 tyX6 tyX6_ok nmX6 hown hK hP hD hS 0 rfl rfl 6 (by decide) fl_49 (fun _ h9 => h9) rfl (by decide +kernel) rfl rfl (Nat.le_of_ble_eq_true rfl) dX6_clear_87 (fun H locs hP hD hS => ?_)
  have hP : va_P D vwCl [(h0, .inr (6, [.int 6, .int 6, .int 0, .int 0, .int 4, .ref sa5, .int 0, .ref sa7, .ref sa8, .ref sa9, .int sv10, .ref sa11, .ref sa12, .ref sa13, .int sv14])), (sa5, .inl (cy 0, 12, .inl f_15))] H := hP
  have hD : va_D A [(h0, .inr (6, [.int 6, .int 6, .int 0, .int 0, .int 4, .ref sa5, .int 0, .ref sa7, .ref sa8, .ref sa9, .int sv10, .ref sa11, .ref sa12, .ref sa13, .int sv14])), (sa5, .inl (cy 0, 12, .inl f_15))] := hD
  refine lv_aload_n hx hb dX6_clear_90 rfl (lv_at hl 1 rfl) ?_
  refine lv_iconst (v := 0) hx hb dX6_clear_91 (by decide +kernel) ?_
  refine va_put (D := D) (ci := 6) (v := .int 0) (ty := .int) (C := RX6) (T := TX6) (N := 15) hx hb hts in_6 tyX6 tyX6_ok nmX6 hown hK hP hD hS 0 rfl rfl 10 (by decide) fl_52 (fun _ h9 => h9) rfl (by decide +kernel) rfl rfl (Nat.le_of_ble_eq_true rfl) dX6_clear_92 (fun H locs hP hD hS => ?_)
  have hP : va_P D vwCl [(h0, .inr (6, [.int 6, .int 6, .int 0, .int 0, .int 4, .ref sa5, .int 0, .ref sa7, .ref sa8, .ref sa9, .int 0, .ref sa11, .ref sa12, .ref sa13, .int sv14])), (sa5, .inl (cy 0, 12, .inl f_15))] H := hP
  have hD : va_D A [(h0, .inr (6, [.int 6, .int 6, .int 0, .int 0, .int 4, .ref sa5, .int 0, .ref sa7, .ref sa8, .ref sa9, .int 0, .ref sa11, .ref sa12, .ref sa13, .int sv14])), (sa5, .inl (cy 0, 12, .inl f_15))] := hD
  refine lv_aload_n hx hb dX6_clear_95 rfl (lv_at hl 1 rfl) ?_
  refine lv_iconst (v := 0) hx hb dX6_clear_96 (by decide +kernel) ?_
  refine va_put (D := D) (ci := 6) (v := .int 0) (ty := .int) (C := RX6) (T := TX6) (N := 15) hx hb hts in_6 tyX6 tyX6_ok nmX6 hown hK hP hD hS 0 rfl rfl 14 (by decide) fl_55 (fun _ h9 => h9) rfl (by decide +kernel) rfl rfl (Nat.le_of_ble_eq_true rfl) dX6_clear_97 (fun H locs hP hD hS => ?_)
  have hP : va_P D vwCl [(h0, .inr (6, [.int 6, .int 6, .int 0, .int 0, .int 4, .ref sa5, .int 0, .ref sa7, .ref sa8, .ref sa9, .int 0, .ref sa11, .ref sa12, .ref sa13, .int 0])), (sa5, .inl (cy 0, 12, .inl f_15))] H := hP
  have hD : va_D A [(h0, .inr (6, [.int 6, .int 6, .int 0, .int 0, .int 4, .ref sa5, .int 0, .ref sa7, .ref sa8, .ref sa9, .int 0, .ref sa11, .ref sa12, .ref sa13, .int 0])), (sa5, .inl (cy 0, 12, .inl f_15))] := hD
  have hP9 := hP.sub (ws' := [(h0, .inr (6, [.int 6, .int 6, .int 0, .int 0, .int 4, .ref sa5, .int 0, .ref sa7, .ref sa8, .ref sa9, .int 0, .ref sa11, .ref sa12, .ref sa13, .int 0])), (sa5, .inl (cy 0, 12, .inl f_15))]) [0, 1] rfl
  have hD9 := hD.sub (ws' := [(h0, .inr (6, [.int 6, .int 6, .int 0, .int 0, .int 4, .ref sa5, .int 0, .ref sa7, .ref sa8, .ref sa9, .int 0, .ref sa11, .ref sa12, .ref sa13, .int 0])), (sa5, .inl (cy 0, 12, .inl f_15))]) [0, 1] (by decide) rfl
  exact W.vret hx hb hr (fun t ht hW => ⟨⟨(), rfl, trivial, f_15, by rw [ht]; exact hP9, hD9⟩, hS.F ht⟩) hS.2.2 dX6_clear_100
set_option maxHeartbeats 4000000 in
set_option maxRecDepth 100000 in
theorem c_X1_clear (l : Launch) (D : va_G) (cy : Nat → ClassId) (h0 : Nat) (sv0 : Int32) (sa1 : Nat) (sa2 : Nat) (sz : Nat)  : Met l yX1_clear wsX1_clear ({ frames := 0, cells := 0, slots := 0, locals := 0 } : Room) (va_Pc [.ref h0] (PW D cy [(h0, .inr (1, [.int sv0, .ref sa1, .ref sa2]))] sz)) (va_Qv (fun _ : Unit => True) (fun _ t => va_P D vwCl [(h0, .inr (1, [.int 0, .ref sa1, .ref sa2]))] t.heap ∧ va_D (va_A [(h0, .inr (1, [.int sv0, .ref sa1, .ref sa2]))] sz) [(h0, .inr (1, [.int 0, .ref sa1, .ref sa2]))]) (va_A [(h0, .inr (1, [.int sv0, .ref sa1, .ref sa2]))] sz)) 0 0 (va_A [(h0, .inr (1, [.int sv0, .ref sa1, .ref sa2]))] sz) := by
  refine Met.ofW (cc := cX1_clear) (maxL := 1) (ret := none) (by decide) rfl ?_
  intro p e s m args below meth c s₁ B hml hv
  obtain ⟨rfl, hsz, hP, hKW, hD0⟩ := hv
  have hK := hKW.1
  have hx := B.exec
  have hb := B.bytes
  have hr := B.returns
  have hts := atoms_spec (ws := wsX1_clear) B.pre
  have hown : s.vm.findClass RX1 = some m.cls := findClass_of_methodNamed B.named
  have hlocks := B.notSynchronized
  have in_1 : ∀ w ∈ u_ws RX1 TX1 3, w ∈ wsX1_clear := by decide +kernel
  have fl_18 := hts (.fieldLink RX1 18 "ShoalClaims$Day" "deeds" "I") (by decide +kernel)
  subst hsz
  have hD := hD0.self (sz := s.heap.size)
  generalize hAe : va_A [(h0, .inr (1, [.int sv0, .ref sa1, .ref sa2]))] s.heap.size = A at hD ⊢
  have hA : ∀ q : Nat, s.heap.size ≤ q → A q := fun q h => by rw [← hAe]; exact Or.inr h
  have hS : va_S A s.heap s.heap [] := va_S.rf
  have hP : va_P D vwCl [(h0, .inr (1, [.int sv0, .ref sa1, .ref sa2]))] s.heap := hP
  have hl := lv_entry ([.ref h0]) (n := 1) (Nat.le_of_ble_eq_true rfl)
  rw [lg_entry_eq]
  generalize (lg_sl ([.ref h0]) ++ List.replicate (1 - (lg_sl ([.ref h0])).length) Slot.unset).toArray = ls at hl ⊢
  have hl : lv_has ls 1 [(0, .ref h0)] := hl
  refine lv_aload_n hx hb dX1_clear_0 rfl (lv_at hl 0 rfl) ?_
  refine lv_iconst (v := 0) hx hb dX1_clear_1 (by decide +kernel) ?_
  refine va_put (D := D) (ci := 1) (v := .int 0) (ty := .int) (C := RX1) (T := TX1) (N := 3) hx hb hts in_1 tyX1 tyX1_ok nmX1 hown hK hP hD hS 0 rfl rfl 0 (by decide) fl_18 (fun _ h9 => h9) rfl (by decide +kernel) rfl rfl (Nat.le_of_ble_eq_true rfl) dX1_clear_2 (fun H locs hP hD hS => ?_)
  have hP : va_P D vwCl [(h0, .inr (1, [.int 0, .ref sa1, .ref sa2]))] H := hP
  have hD : va_D A [(h0, .inr (1, [.int 0, .ref sa1, .ref sa2]))] := hD
  have hP9 := hP.sub (ws' := [(h0, .inr (1, [.int 0, .ref sa1, .ref sa2]))]) [0] rfl
  have hD9 := hD.sub (ws' := [(h0, .inr (1, [.int 0, .ref sa1, .ref sa2]))]) [0] (by decide) rfl
  exact W.vret hx hb hr (fun t ht hW => ⟨⟨(), rfl, trivial, by rw [ht]; exact hP9, hD9⟩, hS.F ht⟩) hS.2.2 dX1_clear_5
set_option maxHeartbeats 4000000 in
set_option maxRecDepth 100000 in
theorem c_X2_clear (l : Launch) (D : va_G) (cy : Nat → ClassId) (h0 : Nat) (sv0 : Int32) (sa1 : Nat) (sa2 : Nat) (sv3 : Int32) (sa4 : Nat) (sa5 : Nat) (sz : Nat)  : Met l yX2_clear wsX2_clear ({ frames := 0, cells := 0, slots := 0, locals := 0 } : Room) (va_Pc [.ref h0] (PW D cy [(h0, .inr (2, [.int sv0, .ref sa1, .ref sa2, .int sv3, .ref sa4, .ref sa5]))] sz)) (va_Qv (fun _ : Unit => True) (fun _ t => va_P D vwCl [(h0, .inr (2, [.int 0, .ref sa1, .ref sa2, .int 0, .ref sa4, .ref sa5]))] t.heap ∧ va_D (va_A [(h0, .inr (2, [.int sv0, .ref sa1, .ref sa2, .int sv3, .ref sa4, .ref sa5]))] sz) [(h0, .inr (2, [.int 0, .ref sa1, .ref sa2, .int 0, .ref sa4, .ref sa5]))]) (va_A [(h0, .inr (2, [.int sv0, .ref sa1, .ref sa2, .int sv3, .ref sa4, .ref sa5]))] sz)) 0 0 (va_A [(h0, .inr (2, [.int sv0, .ref sa1, .ref sa2, .int sv3, .ref sa4, .ref sa5]))] sz) := by
  refine Met.ofW (cc := cX2_clear) (maxL := 1) (ret := none) (by decide) rfl ?_
  intro p e s m args below meth c s₁ B hml hv
  obtain ⟨rfl, hsz, hP, hKW, hD0⟩ := hv
  have hK := hKW.1
  have hx := B.exec
  have hb := B.bytes
  have hr := B.returns
  have hts := atoms_spec (ws := wsX2_clear) B.pre
  have hown : s.vm.findClass RX2 = some m.cls := findClass_of_methodNamed B.named
  have hlocks := B.notSynchronized
  have in_2 : ∀ w ∈ u_ws RX2 TX2 6, w ∈ wsX2_clear := by decide +kernel
  have fl_24 := hts (.fieldLink RX2 24 "ShoalClaims$Dispute" "sayings" "I") (by decide +kernel)
  have fl_28 := hts (.fieldLink RX2 28 "ShoalClaims$Dispute" "aheads" "I") (by decide +kernel)
  subst hsz
  have hD := hD0.self (sz := s.heap.size)
  generalize hAe : va_A [(h0, .inr (2, [.int sv0, .ref sa1, .ref sa2, .int sv3, .ref sa4, .ref sa5]))] s.heap.size = A at hD ⊢
  have hA : ∀ q : Nat, s.heap.size ≤ q → A q := fun q h => by rw [← hAe]; exact Or.inr h
  have hS : va_S A s.heap s.heap [] := va_S.rf
  have hP : va_P D vwCl [(h0, .inr (2, [.int sv0, .ref sa1, .ref sa2, .int sv3, .ref sa4, .ref sa5]))] s.heap := hP
  have hl := lv_entry ([.ref h0]) (n := 1) (Nat.le_of_ble_eq_true rfl)
  rw [lg_entry_eq]
  generalize (lg_sl ([.ref h0]) ++ List.replicate (1 - (lg_sl ([.ref h0])).length) Slot.unset).toArray = ls at hl ⊢
  have hl : lv_has ls 1 [(0, .ref h0)] := hl
  refine lv_aload_n hx hb dX2_clear_0 rfl (lv_at hl 0 rfl) ?_
  refine lv_iconst (v := 0) hx hb dX2_clear_1 (by decide +kernel) ?_
  refine va_put (D := D) (ci := 2) (v := .int 0) (ty := .int) (C := RX2) (T := TX2) (N := 6) hx hb hts in_2 tyX2 tyX2_ok nmX2 hown hK hP hD hS 0 rfl rfl 0 (by decide) fl_24 (fun _ h9 => h9) rfl (by decide +kernel) rfl rfl (Nat.le_of_ble_eq_true rfl) dX2_clear_2 (fun H locs hP hD hS => ?_)
  have hP : va_P D vwCl [(h0, .inr (2, [.int 0, .ref sa1, .ref sa2, .int sv3, .ref sa4, .ref sa5]))] H := hP
  have hD : va_D A [(h0, .inr (2, [.int 0, .ref sa1, .ref sa2, .int sv3, .ref sa4, .ref sa5]))] := hD
  refine lv_aload_n hx hb dX2_clear_5 rfl (lv_at hl 0 rfl) ?_
  refine lv_iconst (v := 0) hx hb dX2_clear_6 (by decide +kernel) ?_
  refine va_put (D := D) (ci := 2) (v := .int 0) (ty := .int) (C := RX2) (T := TX2) (N := 6) hx hb hts in_2 tyX2 tyX2_ok nmX2 hown hK hP hD hS 0 rfl rfl 3 (by decide) fl_28 (fun _ h9 => h9) rfl (by decide +kernel) rfl rfl (Nat.le_of_ble_eq_true rfl) dX2_clear_7 (fun H locs hP hD hS => ?_)
  have hP : va_P D vwCl [(h0, .inr (2, [.int 0, .ref sa1, .ref sa2, .int 0, .ref sa4, .ref sa5]))] H := hP
  have hD : va_D A [(h0, .inr (2, [.int 0, .ref sa1, .ref sa2, .int 0, .ref sa4, .ref sa5]))] := hD
  have hP9 := hP.sub (ws' := [(h0, .inr (2, [.int 0, .ref sa1, .ref sa2, .int 0, .ref sa4, .ref sa5]))]) [0] rfl
  have hD9 := hD.sub (ws' := [(h0, .inr (2, [.int 0, .ref sa1, .ref sa2, .int 0, .ref sa4, .ref sa5]))]) [0] (by decide) rfl
  exact W.vret hx hb hr (fun t ht hW => ⟨⟨(), rfl, trivial, by rw [ht]; exact hP9, hD9⟩, hS.F ht⟩) hS.2.2 dX2_clear_10
set_option maxHeartbeats 4000000 in
set_option maxRecDepth 100000 in
theorem c_X8_byteAt (l : Launch) (D : va_G) (cy : Nat → ClassId) (tp : Nat) (bt : Nat) (p0 : Int32)  : Met l yX8_byteAt wsX8_byteAt ({ frames := 0, cells := 0, slots := 0, locals := 0 } : Room) (va_Pc [.ref tp, .int p0] (PR D cy [(tp, .inr (8, [.ref bt, .int 0]))])) (vp_Si (fun r : Int32 => r = 0)) 0 0 (fun _ => False) := by
  refine Met.ofW (cc := cX8_byteAt) (maxL := 2) (ret := (some .int)) (by decide) rfl ?_
  intro p e s m args below meth c s₁ B hml hv
  obtain ⟨rfl, hP, hKW⟩ := hv
  have hK := hKW.1
  have hx := B.exec
  have hb := B.bytes
  have hr := B.returns
  have hts := atoms_spec (ws := wsX8_byteAt) B.pre
  have hown : s.vm.findClass RX8 = some m.cls := findClass_of_methodNamed B.named
  have hlocks := B.notSynchronized
  have in_8 : ∀ w ∈ u_ws RX8 TX8 2, w ∈ wsX8_byteAt := by decide +kernel
  have fl_15 := hts (.fieldLink RX8 15 "ShoalClaims$Tape" "length" "I") (by decide +kernel)
  have hP : va_P D vwCl [(tp, .inr (8, [.ref bt, .int 0]))] s.heap := hP
  have hl := lv_entry ([.ref tp, .int p0]) (n := 2) (Nat.le_of_ble_eq_true rfl)
  rw [lg_entry_eq]
  generalize (lg_sl ([.ref tp, .int p0]) ++ List.replicate (2 - (lg_sl ([.ref tp, .int p0])).length) Slot.unset).toArray = ls at hl ⊢
  have hl : lv_has ls 2 [(0, .ref tp), (1, .int p0)] := hl
  refine lv_iload_n hx hb dX8_byteAt_0 rfl (lv_at hl 1 rfl) ?_
  refine lv_if_lt (tgt := 12) hx hb dX8_byteAt_1 (by decide) (fun c_1 => ?_) (fun c_1 => ?_)
  · refine lv_iconst (v := 0) hx hb dX8_byteAt_12 (by decide +kernel) ?_
    refine lv_goto (tgt := 26) hx hb dX8_byteAt_13 (by decide) ?_
    exact W.iret (v := 0) hx hb hr (fun t ht hW => ⟨0, rfl, rfl, ht⟩) (fun _ h => absurd h List.not_mem_nil) dX8_byteAt_26
  · refine lv_iload_n hx hb dX8_byteAt_4 rfl (lv_at hl 1 rfl) ?_
    refine lv_aload_n hx hb dX8_byteAt_5 rfl (lv_at hl 0 rfl) ?_
    refine va_get (D := D) (ci := 8) (v := .int 0) (C := RX8) (T := TX8) (N := 2) hx hb hts in_8 hown hK hP 0 rfl rfl 1 (by decide) fl_15 (fun _ h9 => h9) rfl dX8_byteAt_6 ?_
    refine lv_icmp_lt (tgt := 16) hx hb dX8_byteAt_9 (by decide) (fun c_2 => absurd c_2 c_1) (fun c_2 => ?_)
    refine lv_iconst (v := 0) hx hb dX8_byteAt_12 (by decide +kernel) ?_
    refine lv_goto (tgt := 26) hx hb dX8_byteAt_13 (by decide) ?_
    exact W.iret (v := 0) hx hb hr (fun t ht hW => ⟨0, rfl, rfl, ht⟩) (fun _ h => absurd h List.not_mem_nil) dX8_byteAt_26
set_option maxHeartbeats 4000000 in
set_option maxRecDepth 100000 in
theorem c_X4_nextToken (l : Launch) (D : va_G) (cy : Nat → ClassId) (r0 : Nat) (rs : Nat) (rd : Nat) (ru : Nat) (rn : Nat) (rp : Nat) (tp : Nat) (bt : Nat) (sz : Nat)  : Met l yX4_nextToken wsX4_nextToken ({ frames := 1, cells := 0, slots := 0, locals := 21 } : Room) (va_Pc [.ref r0, .ref tp] (PW D cy [(r0, .inr (4, [.ref rs, .ref rd, .ref ru, .int 0, .int (-1), .ref rn, .ref rp, .int 0, .int 0, .int 0])), (tp, .inr (8, [.ref bt, .int 0]))] sz)) (va_Qv (fun _ : Unit => True) (fun _ t => va_P D vwCl [(r0, .inr (4, [.ref rs, .ref rd, .ref ru, .int 0, .int (-1), .ref rn, .ref rp, .int 0, .int 0, .int 0])), (tp, .inr (8, [.ref bt, .int 0]))] t.heap ∧ va_D (va_A [(r0, .inr (4, [.ref rs, .ref rd, .ref ru, .int 0, .int (-1), .ref rn, .ref rp, .int 0, .int 0, .int 0])), (tp, .inr (8, [.ref bt, .int 0]))] sz) [(r0, .inr (4, [.ref rs, .ref rd, .ref ru, .int 0, .int (-1), .ref rn, .ref rp, .int 0, .int 0, .int 0])), (tp, .inr (8, [.ref bt, .int 0]))]) (va_A [(r0, .inr (4, [.ref rs, .ref rd, .ref ru, .int 0, .int (-1), .ref rn, .ref rp, .int 0, .int 0, .int 0])), (tp, .inr (8, [.ref bt, .int 0]))] sz)) 0 0 (va_A [(r0, .inr (4, [.ref rs, .ref rd, .ref ru, .int 0, .int (-1), .ref rn, .ref rp, .int 0, .int 0, .int 0])), (tp, .inr (8, [.ref bt, .int 0]))] sz) := by
  refine Met.ofW (cc := cX4_nextToken) (maxL := 4) (ret := none) (by decide) rfl ?_
  intro p e s m args below meth c s₁ B hml hv
  obtain ⟨rfl, hsz, hP, hKW, hD0⟩ := hv
  have hK := hKW.1
  have hx := B.exec
  have hb := B.bytes
  have hr := B.returns
  have hts := atoms_spec (ws := wsX4_nextToken) B.pre
  have hown : s.vm.findClass RX4 = some m.cls := findClass_of_methodNamed B.named
  have hlocks := B.notSynchronized
  have in_4 : ∀ w ∈ u_ws RX4 TX4 10, w ∈ wsX4_nextToken := by decide +kernel
  have in_8 : ∀ w ∈ u_ws RX8 TX8 2, w ∈ wsX4_nextToken := by decide +kernel
  have fl_51 := hts (.fieldLink RX4 51 "ShoalClaims$Reader" "tokenEnd" "I") (by decide +kernel)
  have fl_63 := hts (.fieldLink RX4 63 "ShoalClaims$Tape" "length" "I") (by decide +kernel)
  have fl_79 := hts (.fieldLink RX4 79 "ShoalClaims$Reader" "tokenStart" "I") (by decide +kernel)
  have fl_76 := hts (.fieldLink RX4 76 "ShoalClaims$Reader" "token" "I") (by decide +kernel)
  subst hsz
  have hD := hD0.self (sz := s.heap.size)
  generalize hAe : va_A [(r0, .inr (4, [.ref rs, .ref rd, .ref ru, .int 0, .int (-1), .ref rn, .ref rp, .int 0, .int 0, .int 0])), (tp, .inr (8, [.ref bt, .int 0]))] s.heap.size = A at hD ⊢
  have hA : ∀ q : Nat, s.heap.size ≤ q → A q := fun q h => by rw [← hAe]; exact Or.inr h
  have hS : va_S A s.heap s.heap [] := va_S.rf
  have hP : va_P D vwCl [(r0, .inr (4, [.ref rs, .ref rd, .ref ru, .int 0, .int (-1), .ref rn, .ref rp, .int 0, .int 0, .int 0])), (tp, .inr (8, [.ref bt, .int 0]))] s.heap := hP
  have hl := lv_entry ([.ref r0, .ref tp]) (n := 4) (Nat.le_of_ble_eq_true rfl)
  rw [lg_entry_eq]
  generalize (lg_sl ([.ref r0, .ref tp]) ++ List.replicate (4 - (lg_sl ([.ref r0, .ref tp])).length) Slot.unset).toArray = ls at hl ⊢
  have hl : lv_has ls 4 [(0, .ref r0), (1, .ref tp)] := hl
  refine lv_aload_n hx hb dX4_nextToken_0 rfl (lv_at hl 0 rfl) ?_
  refine va_get (D := D) (ci := 4) (v := .int 0) (C := RX4) (T := TX4) (N := 10) hx hb hts in_4 hown hK hP 0 rfl rfl 9 (by decide) fl_51 (fun _ h9 => h9) rfl dX4_nextToken_1 ?_
  refine lv_istore_n (lv' := [(2, .int 0), (0, .ref r0), (1, .ref tp)]) hx hb dX4_nextToken_4 rfl hl (by decide) rfl (fun ls hl => ?_)
  refine lv_iload_n hx hb dX4_nextToken_5 rfl (lv_at hl 0 rfl) ?_
  refine lv_aload_n hx hb dX4_nextToken_6 rfl (lv_at hl 2 rfl) ?_
  refine va_get (D := D) (ci := 8) (v := .int 0) (C := RX8) (T := TX8) (N := 2) hx hb hts in_8 hown hK hP 1 rfl rfl 1 (by decide) fl_63 (fun _ h9 => h9) rfl dX4_nextToken_7 ?_
  refine lv_icmp_ge (tgt := 30) hx hb dX4_nextToken_10 (by decide) (fun _ => ?_) (fun c_1 => absurd (by decide +kernel) c_1)
  refine lv_aload_n hx hb dX4_nextToken_30 rfl (lv_at hl 1 rfl) ?_
  refine lv_iload_n hx hb dX4_nextToken_31 rfl (lv_at hl 0 rfl) ?_
  refine va_put (D := D) (ci := 4) (v := .int 0) (ty := .int) (C := RX4) (T := TX4) (N := 10) hx hb hts in_4 tyX4 tyX4_ok nmX4 hown hK hP hD hS 0 rfl rfl 8 (by decide) fl_79 (fun _ h9 => h9) rfl (by decide +kernel) rfl rfl (Nat.le_of_ble_eq_true rfl) dX4_nextToken_32 (fun H locs hP hD hS => ?_)
  have hP : va_P D vwCl [(r0, .inr (4, [.ref rs, .ref rd, .ref ru, .int 0, .int (-1), .ref rn, .ref rp, .int 0, .int 0, .int 0])), (tp, .inr (8, [.ref bt, .int 0]))] H := hP
  have hD : va_D A [(r0, .inr (4, [.ref rs, .ref rd, .ref ru, .int 0, .int (-1), .ref rn, .ref rp, .int 0, .int 0, .int 0])), (tp, .inr (8, [.ref bt, .int 0]))] := hD
  refine lv_aload_n hx hb dX4_nextToken_35 rfl (lv_at hl 2 rfl) ?_
  refine lv_iload_n hx hb dX4_nextToken_36 rfl (lv_at hl 0 rfl) ?_
  have hPc_2 := hP.sub (ws' := [(tp, .inr (8, [.ref bt, .int 0]))]) [1] rfl
  refine pc_i (va_runV (As := [.int 0]) (rest := []) ⟨hx, hb, hml, hown, hts⟩ (c_X8_byteAt l D cy tp bt 0) (cwV 1 hts gX4_nextToken_X8_byteAt rfl rfl rfl (by decide +kernel) ⟨Nat.le_of_ble_eq_true rfl, Nat.le_of_ble_eq_true rfl⟩) ⟨prB, va_recv hK hPc_2 (ci := 8) (q0 := 0) rfl rfl, fun U hU hW => ⟨rfl, PR.of hU hW hKW hPc_2⟩⟩ rfl rfl hl.1 rfl (lv_room (Nat.le_of_ble_eq_true rfl)) dX4_nextToken_37 ⟨by decide +kernel, by decide +kernel⟩) (fun r_3 hr_3 => ?_)
  subst hr_3
  refine lv_istore_n (lv' := [(3, .int 0), (2, .int 0), (0, .ref r0), (1, .ref tp)]) hx hb dX4_nextToken_40 rfl hl (by decide) rfl (fun ls hl => ?_)
  refine lv_iload_n hx hb dX4_nextToken_41 rfl (lv_at hl 1 rfl) ?_
  refine lv_aload_n hx hb dX4_nextToken_42 rfl (lv_at hl 3 rfl) ?_
  refine va_get (D := D) (ci := 8) (v := .int 0) (C := RX8) (T := TX8) (N := 2) hx hb hts in_8 hown hK hP 1 rfl rfl 1 (by decide) fl_63 (fun _ h9 => h9) rfl dX4_nextToken_43 ?_
  refine lv_icmp_lt (tgt := 57) hx hb dX4_nextToken_46 (by decide) (fun c_4 => absurd c_4 (by decide +kernel)) (fun _ => ?_)
  refine lv_aload_n hx hb dX4_nextToken_49 rfl (lv_at hl 2 rfl) ?_
  refine lv_iconst (v := 0) hx hb dX4_nextToken_50 (by decide +kernel) ?_
  refine va_put (D := D) (ci := 4) (v := .int 0) (ty := .int) (C := RX4) (T := TX4) (N := 10) hx hb hts in_4 tyX4 tyX4_ok nmX4 hown hK hP hD hS 0 rfl rfl 7 (by decide) fl_76 (fun _ h9 => h9) rfl (by decide +kernel) rfl rfl (Nat.le_of_ble_eq_true rfl) dX4_nextToken_51 (fun H locs hP hD hS => ?_)
  have hP : va_P D vwCl [(r0, .inr (4, [.ref rs, .ref rd, .ref ru, .int 0, .int (-1), .ref rn, .ref rp, .int 0, .int 0, .int 0])), (tp, .inr (8, [.ref bt, .int 0]))] H := hP
  have hD : va_D A [(r0, .inr (4, [.ref rs, .ref rd, .ref ru, .int 0, .int (-1), .ref rn, .ref rp, .int 0, .int 0, .int 0])), (tp, .inr (8, [.ref bt, .int 0]))] := hD
  refine lv_goto (tgt := 166) hx hb dX4_nextToken_54 (by decide) ?_
  refine lv_aload_n hx hb dX4_nextToken_166 rfl (lv_at hl 2 rfl) ?_
  refine lv_iload_n hx hb dX4_nextToken_167 rfl (lv_at hl 1 rfl) ?_
  refine va_put (D := D) (ci := 4) (v := .int 0) (ty := .int) (C := RX4) (T := TX4) (N := 10) hx hb hts in_4 tyX4 tyX4_ok nmX4 hown hK hP hD hS 0 rfl rfl 9 (by decide) fl_51 (fun _ h9 => h9) rfl (by decide +kernel) rfl rfl (Nat.le_of_ble_eq_true rfl) dX4_nextToken_168 (fun H locs hP hD hS => ?_)
  have hP : va_P D vwCl [(r0, .inr (4, [.ref rs, .ref rd, .ref ru, .int 0, .int (-1), .ref rn, .ref rp, .int 0, .int 0, .int 0])), (tp, .inr (8, [.ref bt, .int 0]))] H := hP
  have hD : va_D A [(r0, .inr (4, [.ref rs, .ref rd, .ref ru, .int 0, .int (-1), .ref rn, .ref rp, .int 0, .int 0, .int 0])), (tp, .inr (8, [.ref bt, .int 0]))] := hD
  have hP9 := hP.sub (ws' := [(r0, .inr (4, [.ref rs, .ref rd, .ref ru, .int 0, .int (-1), .ref rn, .ref rp, .int 0, .int 0, .int 0])), (tp, .inr (8, [.ref bt, .int 0]))]) [0, 1] rfl
  have hD9 := hD.sub (ws' := [(r0, .inr (4, [.ref rs, .ref rd, .ref ru, .int 0, .int (-1), .ref rn, .ref rp, .int 0, .int 0, .int 0])), (tp, .inr (8, [.ref bt, .int 0]))]) [0, 1] (by decide) rfl
  exact W.vret hx hb hr (fun t ht hW => ⟨⟨(), rfl, trivial, by rw [ht]; exact hP9, hD9⟩, hS.F ht⟩) hS.2.2 dX4_nextToken_171
set_option maxHeartbeats 4000000 in
set_option maxRecDepth 100000 in
theorem c_X4_readLine (l : Launch) (D : va_G) (cy : Nat → ClassId) (r0 : Nat) (rs : Nat) (rd : Nat) (ru : Nat) (rn : Nat) (rp : Nat) (tp : Nat) (bt : Nat) (p0 : Int32) (sz : Nat)  : Met l yX4_readLine wsX4_readLine ({ frames := 2, cells := 0, slots := 0, locals := 44 } : Room) (va_Pc [.ref r0, .ref tp, .int p0] (PW D cy [(r0, .inr (4, [.ref rs, .ref rd, .ref ru, .int 0, .int (-1), .ref rn, .ref rp, .int 0, .int 0, .int 0])), (tp, .inr (8, [.ref bt, .int 0]))] sz)) (va_Qi (fun (r : Int32) (_ : Unit) => r = 0) (fun _ t => va_P D vwCl [(r0, .inr (4, [.ref rs, .ref rd, .ref ru, .int 0, .int (-1), .ref rn, .ref rp, .int 0, .int 0, .int 0])), (tp, .inr (8, [.ref bt, .int 0]))] t.heap ∧ va_D (va_A [(r0, .inr (4, [.ref rs, .ref rd, .ref ru, .int 0, .int (-1), .ref rn, .ref rp, .int 0, .int 0, .int 0])), (tp, .inr (8, [.ref bt, .int 0]))] sz) [(r0, .inr (4, [.ref rs, .ref rd, .ref ru, .int 0, .int (-1), .ref rn, .ref rp, .int 0, .int 0, .int 0])), (tp, .inr (8, [.ref bt, .int 0]))]) (va_A [(r0, .inr (4, [.ref rs, .ref rd, .ref ru, .int 0, .int (-1), .ref rn, .ref rp, .int 0, .int 0, .int 0])), (tp, .inr (8, [.ref bt, .int 0]))] sz)) 0 0 (va_A [(r0, .inr (4, [.ref rs, .ref rd, .ref ru, .int 0, .int (-1), .ref rn, .ref rp, .int 0, .int 0, .int 0])), (tp, .inr (8, [.ref bt, .int 0]))] sz) := by
  refine Met.ofW (cc := cX4_readLine) (maxL := 6) (ret := (some .boolean)) (by decide) rfl ?_
  intro p e s m args below meth c s₁ B hml hv
  obtain ⟨rfl, hsz, hP, hKW, hD0⟩ := hv
  have hK := hKW.1
  have hx := B.exec
  have hb := B.bytes
  have hr := B.returns
  have hts := atoms_spec (ws := wsX4_readLine) B.pre
  have hown : s.vm.findClass RX4 = some m.cls := findClass_of_methodNamed B.named
  have hlocks := B.notSynchronized
  have in_4 : ∀ w ∈ u_ws RX4 TX4 10, w ∈ wsX4_readLine := by decide +kernel
  have fl_76 := hts (.fieldLink RX4 76 "ShoalClaims$Reader" "token" "I") (by decide +kernel)
  subst hsz
  have hD := hD0.self (sz := s.heap.size)
  generalize hAe : va_A [(r0, .inr (4, [.ref rs, .ref rd, .ref ru, .int 0, .int (-1), .ref rn, .ref rp, .int 0, .int 0, .int 0])), (tp, .inr (8, [.ref bt, .int 0]))] s.heap.size = A at hD ⊢
  have hA : ∀ q : Nat, s.heap.size ≤ q → A q := fun q h => by rw [← hAe]; exact Or.inr h
  have hS : va_S A s.heap s.heap [] := va_S.rf
  have hP : va_P D vwCl [(r0, .inr (4, [.ref rs, .ref rd, .ref ru, .int 0, .int (-1), .ref rn, .ref rp, .int 0, .int 0, .int 0])), (tp, .inr (8, [.ref bt, .int 0]))] s.heap := hP
  have hl := lv_entry ([.ref r0, .ref tp, .int p0]) (n := 6) (Nat.le_of_ble_eq_true rfl)
  rw [lg_entry_eq]
  generalize (lg_sl ([.ref r0, .ref tp, .int p0]) ++ List.replicate (6 - (lg_sl ([.ref r0, .ref tp, .int p0])).length) Slot.unset).toArray = ls at hl ⊢
  have hl : lv_has ls 6 [(0, .ref r0), (1, .ref tp), (2, .int p0)] := hl
  refine lv_aload_n hx hb dX4_readLine_0 rfl (lv_at hl 0 rfl) ?_
  refine lv_aload_n hx hb dX4_readLine_1 rfl (lv_at hl 1 rfl) ?_
  have hPc_1 := hP.sub (ws' := [(r0, .inr (4, [.ref rs, .ref rd, .ref ru, .int 0, .int (-1), .ref rn, .ref rp, .int 0, .int 0, .int 0])), (tp, .inr (8, [.ref bt, .int 0]))]) [0, 1] rfl
  have hDc_2 := hD.sub (ws' := [(r0, .inr (4, [.ref rs, .ref rd, .ref ru, .int 0, .int (-1), .ref rn, .ref rp, .int 0, .int 0, .int 0])), (tp, .inr (8, [.ref bt, .int 0]))]) [0, 1] (by decide) rfl
  have hFc_3 := va_free (wc := [(r0, .inr (4, [.ref rs, .ref rd, .ref ru, .int 0, .int (-1), .ref rn, .ref rp, .int 0, .int 0, .int 0])), (tp, .inr (8, [.ref bt, .int 0]))]) hD hS hA [0, 1] rfl
  refine va_callv (va_runV (As := [.ref tp]) (rest := []) ⟨hx, hb, hml, hown, hts⟩ (c_X4_nextToken l D cy r0 rs rd ru rn rp tp bt s.heap.size) (cwV 1 hts gX4_readLine_X4_nextToken rfl rfl rfl (by decide +kernel) ⟨Nat.le_of_ble_eq_true rfl, Nat.le_of_ble_eq_true rfl⟩) ⟨pwB, va_recv hK hPc_1 (ci := 4) (q0 := 0) rfl rfl, fun U hU hW => ⟨rfl, PW.of hU hW hKW hPc_1 hDc_2⟩⟩ rfl rfl hl.1 rfl (lv_room (Nat.le_of_ble_eq_true rfl)) dX4_readLine_2 ⟨by decide +kernel, by decide +kernel⟩) hS (fun q _ h => hFc_3 q h) hFc_3 (fun u t H1 locs ht hvm hw_4 hB hz1 hk1 hS => ?_)
  obtain ⟨hP1, hD1⟩ := hB
  rw [ht] at hP1
  obtain ⟨hP, hD⟩ := va_join (wr := []) (w1 := [(r0, .inr (4, [.ref rs, .ref rd, .ref ru, .int 0, .int (-1), .ref rn, .ref rp, .int 0, .int 0, .int 0])), (tp, .inr (8, [.ref bt, .int 0]))]) hP hD [0, 1] [] rfl rfl (by decide) (by decide) hk1 hFc_3 hP1 hD1
  generalize H1 = H at hP hS ⊢
  have hP : va_P D vwCl [(r0, .inr (4, [.ref rs, .ref rd, .ref ru, .int 0, .int (-1), .ref rn, .ref rp, .int 0, .int 0, .int 0])), (tp, .inr (8, [.ref bt, .int 0]))] H := hP
  have hD : va_D A [(r0, .inr (4, [.ref rs, .ref rd, .ref ru, .int 0, .int (-1), .ref rn, .ref rp, .int 0, .int 0, .int 0])), (tp, .inr (8, [.ref bt, .int 0]))] := hD
  refine lv_aload_n hx hb dX4_readLine_5 rfl (lv_at hl 0 rfl) ?_
  refine va_get (D := D) (ci := 4) (v := .int 0) (C := RX4) (T := TX4) (N := 10) hx hb hts in_4 hown hK hP 0 rfl rfl 7 (by decide) fl_76 (fun _ h9 => h9) rfl dX4_readLine_6 ?_
  refine lv_if_ne (tgt := 14) hx hb dX4_readLine_9 (by decide) (fun c_5 => absurd (by decide +kernel) c_5) (fun _ => ?_)
  refine lv_iconst (v := 0) hx hb dX4_readLine_12 (by decide +kernel) ?_
  have hP9 := hP.sub (ws' := [(r0, .inr (4, [.ref rs, .ref rd, .ref ru, .int 0, .int (-1), .ref rn, .ref rp, .int 0, .int 0, .int 0])), (tp, .inr (8, [.ref bt, .int 0]))]) [0, 1] rfl
  have hD9 := hD.sub (ws' := [(r0, .inr (4, [.ref rs, .ref rd, .ref ru, .int 0, .int (-1), .ref rn, .ref rp, .int 0, .int 0, .int 0])), (tp, .inr (8, [.ref bt, .int 0]))]) [0, 1] (by decide) rfl
  exact W.zret (v := 0) hx hb hr (rfl) (fun t ht hW => ⟨⟨0, (), rfl, rfl, by rw [ht]; exact hP9, hD9⟩, hS.F ht⟩) hS.2.2 dX4_readLine_13
set_option maxHeartbeats 4000000 in
set_option maxRecDepth 100000 in
theorem c_X6_isWhole (l : Launch) (D : va_G) (cy : Nat → ClassId) (h0 : Nat) (sv0 : Int32) (sv1 : Int32) (sv2 : Int32) (sv3 : Int32) (sv4 : Int32) (sa5 : Nat) (sa7 : Nat) (sa8 : Nat) (sa9 : Nat) (sa11 : Nat) (sa12 : Nat) (sa13 : Nat)  : Met l yX6_isWhole wsX6_isWhole ({ frames := 0, cells := 0, slots := 0, locals := 0 } : Room) (va_Pc [.ref h0] (PR D cy [(h0, .inr (6, [.int sv0, .int sv1, .int sv2, .int sv3, .int sv4, .ref sa5, .int 0, .ref sa7, .ref sa8, .ref sa9, .int 0, .ref sa11, .ref sa12, .ref sa13, .int 0]))])) (vp_Si (fun r : Int32 => r = 1)) 0 0 (fun _ => False) := by
  refine Met.ofW (cc := cX6_isWhole) (maxL := 2) (ret := (some .boolean)) (by decide) rfl ?_
  intro p e s m args below meth c s₁ B hml hv
  obtain ⟨rfl, hP, hKW⟩ := hv
  have hK := hKW.1
  have hx := B.exec
  have hb := B.bytes
  have hr := B.returns
  have hts := atoms_spec (ws := wsX6_isWhole) B.pre
  have hown : s.vm.findClass RX6 = some m.cls := findClass_of_methodNamed B.named
  have hlocks := B.notSynchronized
  have in_6 : ∀ w ∈ u_ws RX6 TX6 15, w ∈ wsX6_isWhole := by decide +kernel
  have fl_49 := hts (.fieldLink RX6 49 "ShoalClaims$Sea" "shoals" "I") (by decide +kernel)
  have fl_52 := hts (.fieldLink RX6 52 "ShoalClaims$Sea" "boats" "I") (by decide +kernel)
  have fl_55 := hts (.fieldLink RX6 55 "ShoalClaims$Sea" "deaf" "I") (by decide +kernel)
  have hP : va_P D vwCl [(h0, .inr (6, [.int sv0, .int sv1, .int sv2, .int sv3, .int sv4, .ref sa5, .int 0, .ref sa7, .ref sa8, .ref sa9, .int 0, .ref sa11, .ref sa12, .ref sa13, .int 0]))] s.heap := hP
  have hl := lv_entry ([.ref h0]) (n := 2) (Nat.le_of_ble_eq_true rfl)
  rw [lg_entry_eq]
  generalize (lg_sl ([.ref h0]) ++ List.replicate (2 - (lg_sl ([.ref h0])).length) Slot.unset).toArray = ls at hl ⊢
  have hl : lv_has ls 2 [(0, .ref h0)] := hl
  refine lv_iconst (v := 0) hx hb dX6_isWhole_0 (by decide +kernel) ?_
  refine lv_istore_n (lv' := [(1, .int 0), (0, .ref h0)]) hx hb dX6_isWhole_1 rfl hl (by decide) rfl (fun ls hl => ?_)
  refine lv_iload_n hx hb dX6_isWhole_2 rfl (lv_at hl 0 rfl) ?_
  refine lv_aload_n hx hb dX6_isWhole_3 rfl (lv_at hl 1 rfl) ?_
  refine va_get (D := D) (ci := 6) (v := .int 0) (C := RX6) (T := TX6) (N := 15) hx hb hts in_6 hown hK hP 0 rfl rfl 6 (by decide) fl_49 (fun _ h9 => h9) rfl dX6_isWhole_4 ?_
  refine lv_icmp_ge (tgt := 31) hx hb dX6_isWhole_7 (by decide) (fun _ => ?_) (fun c_1 => absurd (by decide +kernel) c_1)
  refine lv_iconst (v := 0) hx hb dX6_isWhole_31 (by decide +kernel) ?_
  refine lv_istore_n (lv' := [(1, .int 0), (0, .ref h0)]) hx hb dX6_isWhole_32 rfl hl (by decide) rfl (fun ls hl => ?_)
  refine lv_iload_n hx hb dX6_isWhole_33 rfl (lv_at hl 0 rfl) ?_
  refine lv_aload_n hx hb dX6_isWhole_34 rfl (lv_at hl 1 rfl) ?_
  refine va_get (D := D) (ci := 6) (v := .int 0) (C := RX6) (T := TX6) (N := 15) hx hb hts in_6 hown hK hP 0 rfl rfl 10 (by decide) fl_52 (fun _ h9 => h9) rfl dX6_isWhole_35 ?_
  refine lv_icmp_ge (tgt := 62) hx hb dX6_isWhole_38 (by decide) (fun _ => ?_) (fun c_2 => absurd (by decide +kernel) c_2)
  refine lv_aload_n hx hb dX6_isWhole_62 rfl (lv_at hl 1 rfl) ?_
  refine va_get (D := D) (ci := 6) (v := .int 0) (C := RX6) (T := TX6) (N := 15) hx hb hts in_6 hown hK hP 0 rfl rfl 14 (by decide) fl_55 (fun _ h9 => h9) rfl dX6_isWhole_63 ?_
  refine lv_aload_n hx hb dX6_isWhole_66 rfl (lv_at hl 1 rfl) ?_
  refine va_get (D := D) (ci := 6) (v := .int 0) (C := RX6) (T := TX6) (N := 15) hx hb hts in_6 hown hK hP 0 rfl rfl 10 (by decide) fl_52 (fun _ h9 => h9) rfl dX6_isWhole_67 ?_
  refine lv_ishr hx hb dX6_isWhole_70 ?_
  refine tp_i 0 (by decide +kernel) ?_
  refine lv_if_ne (tgt := 78) hx hb dX6_isWhole_71 (by decide) (fun c_3 => absurd (by decide +kernel) c_3) (fun _ => ?_)
  refine lv_iconst (v := 1) hx hb dX6_isWhole_74 (by decide +kernel) ?_
  refine lv_goto (tgt := 79) hx hb dX6_isWhole_75 (by decide) ?_
  exact W.zret (v := 1) hx hb hr (rfl) (fun t ht hW => ⟨1, rfl, rfl, ht⟩) (fun _ h => absurd h List.not_mem_nil) dX6_isWhole_79
set_option maxHeartbeats 4000000 in
set_option maxRecDepth 100000 in
theorem c_X2_isWhole (l : Launch) (D : va_G) (cy : Nat → ClassId) (h0 : Nat) (sa1 : Nat) (sa2 : Nat) (sa4 : Nat) (sa5 : Nat)  : Met l yX2_isWhole wsX2_isWhole ({ frames := 0, cells := 0, slots := 0, locals := 0 } : Room) (va_Pc [.ref h0] (PR D cy [(h0, .inr (2, [.int 0, .ref sa1, .ref sa2, .int 0, .ref sa4, .ref sa5]))])) (vp_Si (fun r : Int32 => r = 0)) 0 0 (fun _ => False) := by
  refine Met.ofW (cc := cX2_isWhole) (maxL := 2) (ret := (some .boolean)) (by decide) rfl ?_
  intro p e s m args below meth c s₁ B hml hv
  obtain ⟨rfl, hP, hKW⟩ := hv
  have hK := hKW.1
  have hx := B.exec
  have hb := B.bytes
  have hr := B.returns
  have hts := atoms_spec (ws := wsX2_isWhole) B.pre
  have hown : s.vm.findClass RX2 = some m.cls := findClass_of_methodNamed B.named
  have hlocks := B.notSynchronized
  have in_2 : ∀ w ∈ u_ws RX2 TX2 6, w ∈ wsX2_isWhole := by decide +kernel
  have fl_28 := hts (.fieldLink RX2 28 "ShoalClaims$Dispute" "aheads" "I") (by decide +kernel)
  have fl_24 := hts (.fieldLink RX2 24 "ShoalClaims$Dispute" "sayings" "I") (by decide +kernel)
  have hP : va_P D vwCl [(h0, .inr (2, [.int 0, .ref sa1, .ref sa2, .int 0, .ref sa4, .ref sa5]))] s.heap := hP
  have hl := lv_entry ([.ref h0]) (n := 2) (Nat.le_of_ble_eq_true rfl)
  rw [lg_entry_eq]
  generalize (lg_sl ([.ref h0]) ++ List.replicate (2 - (lg_sl ([.ref h0])).length) Slot.unset).toArray = ls at hl ⊢
  have hl : lv_has ls 2 [(0, .ref h0)] := hl
  refine lv_iconst (v := 0) hx hb dX2_isWhole_0 (by decide +kernel) ?_
  refine lv_istore_n (lv' := [(1, .int 0), (0, .ref h0)]) hx hb dX2_isWhole_1 rfl hl (by decide) rfl (fun ls hl => ?_)
  refine lv_iload_n hx hb dX2_isWhole_2 rfl (lv_at hl 0 rfl) ?_
  refine lv_aload_n hx hb dX2_isWhole_3 rfl (lv_at hl 1 rfl) ?_
  refine va_get (D := D) (ci := 2) (v := .int 0) (C := RX2) (T := TX2) (N := 6) hx hb hts in_2 hown hK hP 0 rfl rfl 3 (by decide) fl_28 (fun _ h9 => h9) rfl dX2_isWhole_4 ?_
  refine lv_icmp_ge (tgt := 44) hx hb dX2_isWhole_7 (by decide) (fun _ => ?_) (fun c_1 => absurd (by decide +kernel) c_1)
  refine lv_aload_n hx hb dX2_isWhole_44 rfl (lv_at hl 1 rfl) ?_
  refine va_get (D := D) (ci := 2) (v := .int 0) (C := RX2) (T := TX2) (N := 6) hx hb hts in_2 hown hK hP 0 rfl rfl 0 (by decide) fl_24 (fun _ h9 => h9) rfl dX2_isWhole_45 ?_
  refine lv_if_le (tgt := 55) hx hb dX2_isWhole_48 (by decide) (fun _ => ?_) (fun c_2 => absurd (by decide +kernel) c_2)
  refine lv_iconst (v := 0) hx hb dX2_isWhole_55 (by decide +kernel) ?_
  exact W.zret (v := 0) hx hb hr (rfl) (fun t ht hW => ⟨0, rfl, rfl, ht⟩) (fun _ h => absurd h List.not_mem_nil) dX2_isWhole_56
set_option maxHeartbeats 4000000 in
set_option maxRecDepth 100000 in
theorem c_X4_note (l : Launch) (D : va_G) (cy : Nat → ClassId) (r0 : Nat) (rs : Nat) (rd : Nat) (ru : Nat) (rn : Nat) (rp : Nat) (p0 : Int32) (p1 : Int32) (sz : Nat)  : Met l yX4_note wsX4_note ({ frames := 0, cells := 0, slots := 0, locals := 0 } : Room) (va_Pc [.ref r0, .int p0, .int p1] (PW D cy [(r0, .inr (4, [.ref rs, .ref rd, .ref ru, .int 0, .int (-1), .ref rn, .ref rp, .int 0, .int 0, .int 0]))] sz)) (va_Qv (fun _ : Unit => True) (fun _ t => va_P D vwCl [(r0, .inr (4, [.ref rs, .ref rd, .ref ru, .int p0, .int p1, .ref rn, .ref rp, .int 0, .int 0, .int 0]))] t.heap ∧ va_D (va_A [(r0, .inr (4, [.ref rs, .ref rd, .ref ru, .int 0, .int (-1), .ref rn, .ref rp, .int 0, .int 0, .int 0]))] sz) [(r0, .inr (4, [.ref rs, .ref rd, .ref ru, .int p0, .int p1, .ref rn, .ref rp, .int 0, .int 0, .int 0]))]) (va_A [(r0, .inr (4, [.ref rs, .ref rd, .ref ru, .int 0, .int (-1), .ref rn, .ref rp, .int 0, .int 0, .int 0]))] sz)) 0 0 (va_A [(r0, .inr (4, [.ref rs, .ref rd, .ref ru, .int 0, .int (-1), .ref rn, .ref rp, .int 0, .int 0, .int 0]))] sz) := by
  refine Met.ofW (cc := cX4_note) (maxL := 3) (ret := none) (by decide) rfl ?_
  intro p e s m args below meth c s₁ B hml hv
  obtain ⟨rfl, hsz, hP, hKW, hD0⟩ := hv
  have hK := hKW.1
  have hx := B.exec
  have hb := B.bytes
  have hr := B.returns
  have hts := atoms_spec (ws := wsX4_note) B.pre
  have hown : s.vm.findClass RX4 = some m.cls := findClass_of_methodNamed B.named
  have hlocks := B.notSynchronized
  have in_4 : ∀ w ∈ u_ws RX4 TX4 10, w ∈ wsX4_note := by decide +kernel
  have fl_44 := hts (.fieldLink RX4 44 "ShoalClaims$Reader" "fault" "I") (by decide +kernel)
  have fl_48 := hts (.fieldLink RX4 48 "ShoalClaims$Reader" "place" "I") (by decide +kernel)
  subst hsz
  have hD := hD0.self (sz := s.heap.size)
  generalize hAe : va_A [(r0, .inr (4, [.ref rs, .ref rd, .ref ru, .int 0, .int (-1), .ref rn, .ref rp, .int 0, .int 0, .int 0]))] s.heap.size = A at hD ⊢
  have hA : ∀ q : Nat, s.heap.size ≤ q → A q := fun q h => by rw [← hAe]; exact Or.inr h
  have hS : va_S A s.heap s.heap [] := va_S.rf
  have hP : va_P D vwCl [(r0, .inr (4, [.ref rs, .ref rd, .ref ru, .int 0, .int (-1), .ref rn, .ref rp, .int 0, .int 0, .int 0]))] s.heap := hP
  have hl := lv_entry ([.ref r0, .int p0, .int p1]) (n := 3) (Nat.le_of_ble_eq_true rfl)
  rw [lg_entry_eq]
  generalize (lg_sl ([.ref r0, .int p0, .int p1]) ++ List.replicate (3 - (lg_sl ([.ref r0, .int p0, .int p1])).length) Slot.unset).toArray = ls at hl ⊢
  have hl : lv_has ls 3 [(0, .ref r0), (1, .int p0), (2, .int p1)] := hl
  refine lv_aload_n hx hb dX4_note_0 rfl (lv_at hl 0 rfl) ?_
  refine va_get (D := D) (ci := 4) (v := .int 0) (C := RX4) (T := TX4) (N := 10) hx hb hts in_4 hown hK hP 0 rfl rfl 3 (by decide) fl_44 (fun _ h9 => h9) rfl dX4_note_1 ?_
  refine lv_if_ne (tgt := 17) hx hb dX4_note_4 (by decide) (fun c_1 => absurd (by decide +kernel) c_1) (fun _ => ?_)
  refine lv_aload_n hx hb dX4_note_7 rfl (lv_at hl 0 rfl) ?_
  refine lv_iload_n hx hb dX4_note_8 rfl (lv_at hl 1 rfl) ?_
  refine va_put (D := D) (ci := 4) (v := .int p0) (ty := .int) (C := RX4) (T := TX4) (N := 10) hx hb hts in_4 tyX4 tyX4_ok nmX4 hown hK hP hD hS 0 rfl rfl 3 (by decide) fl_44 (fun _ h9 => h9) rfl (by decide +kernel) rfl rfl (Nat.le_of_ble_eq_true rfl) dX4_note_9 (fun H locs hP hD hS => ?_)
  have hP : va_P D vwCl [(r0, .inr (4, [.ref rs, .ref rd, .ref ru, .int p0, .int (-1), .ref rn, .ref rp, .int 0, .int 0, .int 0]))] H := hP
  have hD : va_D A [(r0, .inr (4, [.ref rs, .ref rd, .ref ru, .int p0, .int (-1), .ref rn, .ref rp, .int 0, .int 0, .int 0]))] := hD
  refine lv_aload_n hx hb dX4_note_12 rfl (lv_at hl 0 rfl) ?_
  refine lv_iload_n hx hb dX4_note_13 rfl (lv_at hl 2 rfl) ?_
  refine va_put (D := D) (ci := 4) (v := .int p1) (ty := .int) (C := RX4) (T := TX4) (N := 10) hx hb hts in_4 tyX4 tyX4_ok nmX4 hown hK hP hD hS 0 rfl rfl 4 (by decide) fl_48 (fun _ h9 => h9) rfl (by decide +kernel) rfl rfl (Nat.le_of_ble_eq_true rfl) dX4_note_14 (fun H locs hP hD hS => ?_)
  have hP : va_P D vwCl [(r0, .inr (4, [.ref rs, .ref rd, .ref ru, .int p0, .int p1, .ref rn, .ref rp, .int 0, .int 0, .int 0]))] H := hP
  have hD : va_D A [(r0, .inr (4, [.ref rs, .ref rd, .ref ru, .int p0, .int p1, .ref rn, .ref rp, .int 0, .int 0, .int 0]))] := hD
  have hP9 := hP.sub (ws' := [(r0, .inr (4, [.ref rs, .ref rd, .ref ru, .int p0, .int p1, .ref rn, .ref rp, .int 0, .int 0, .int 0]))]) [0] rfl
  have hD9 := hD.sub (ws' := [(r0, .inr (4, [.ref rs, .ref rd, .ref ru, .int p0, .int p1, .ref rn, .ref rp, .int 0, .int 0, .int 0]))]) [0] (by decide) rfl
  exact W.vret hx hb hr (fun t ht hW => ⟨⟨(), rfl, trivial, by rw [ht]; exact hP9, hD9⟩, hS.F ht⟩) hS.2.2 dX4_note_17
set_option maxHeartbeats 4000000 in
set_option maxRecDepth 100000 in
theorem c_X4_read_0 (l : Launch) (D : va_G) (cy : Nat → ClassId) (r0 : Nat) (rn : Nat) (rp : Nat) (rs : Nat) (rs_v0 : Int32) (rs_v1 : Int32) (rs_v2 : Int32) (rs_v3 : Int32) (rs_v4 : Int32) (rs_a5 : Nat) (rs_f5 : Nat → Int32) (rs_v6 : Int32) (rs_a7 : Nat) (rs_a8 : Nat) (rs_a9 : Nat) (rs_v10 : Int32) (rs_a11 : Nat) (rs_a12 : Nat) (rs_a13 : Nat) (rs_v14 : Int32) (rd : Nat) (rd_v0 : Int32) (rd_a1 : Nat) (rd_a2 : Nat) (ru : Nat) (ru_v0 : Int32) (ru_a1 : Nat) (ru_a2 : Nat) (ru_v3 : Int32) (ru_a4 : Nat) (ru_a5 : Nat) (tp : Nat) (bt : Nat) (sz : Nat)  : Met l yX4_read wsX4_read ({ frames := 3, cells := 0, slots := 0, locals := 69 } : Room) (va_Pc [.ref r0, .ref tp, .int 0] (PW D cy [(r0, .inr (4, [.ref rs, .ref rd, .ref ru, .int 0, .int 0, .ref rn, .ref rp, .int 0, .int 0, .int 0])), (rs, .inr (6, [.int rs_v0, .int rs_v1, .int rs_v2, .int rs_v3, .int rs_v4, .ref rs_a5, .int rs_v6, .ref rs_a7, .ref rs_a8, .ref rs_a9, .int rs_v10, .ref rs_a11, .ref rs_a12, .ref rs_a13, .int rs_v14])), (rs_a5, .inl (cy 0, 12, .inl rs_f5)), (rd, .inr (1, [.int rd_v0, .ref rd_a1, .ref rd_a2])), (ru, .inr (2, [.int ru_v0, .ref ru_a1, .ref ru_a2, .int ru_v3, .ref ru_a4, .ref ru_a5])), (tp, .inr (8, [.ref bt, .int 0]))] sz)) (va_Qv (fun _ : Unit => True) (fun _ t => ∃ (f_5 : Nat → Int32), va_P D vwCl [(rs, .inr (6, [.int 6, .int 6, .int 0, .int 0, .int 4, .ref rs_a5, .int 0, .ref rs_a7, .ref rs_a8, .ref rs_a9, .int 0, .ref rs_a11, .ref rs_a12, .ref rs_a13, .int 0])), (rs_a5, .inl (cy 0, 12, .inl f_5)), (rd, .inr (1, [.int 0, .ref rd_a1, .ref rd_a2])), (ru, .inr (2, [.int 0, .ref ru_a1, .ref ru_a2, .int 0, .ref ru_a4, .ref ru_a5])), (r0, .inr (4, [.ref rs, .ref rd, .ref ru, .int 0, .int (-1), .ref rn, .ref rp, .int 0, .int 0, .int 0])), (tp, .inr (8, [.ref bt, .int 0]))] t.heap ∧ va_D (va_A [(r0, .inr (4, [.ref rs, .ref rd, .ref ru, .int 0, .int 0, .ref rn, .ref rp, .int 0, .int 0, .int 0])), (rs, .inr (6, [.int rs_v0, .int rs_v1, .int rs_v2, .int rs_v3, .int rs_v4, .ref rs_a5, .int rs_v6, .ref rs_a7, .ref rs_a8, .ref rs_a9, .int rs_v10, .ref rs_a11, .ref rs_a12, .ref rs_a13, .int rs_v14])), (rs_a5, .inl (cy 0, 12, .inl rs_f5)), (rd, .inr (1, [.int rd_v0, .ref rd_a1, .ref rd_a2])), (ru, .inr (2, [.int ru_v0, .ref ru_a1, .ref ru_a2, .int ru_v3, .ref ru_a4, .ref ru_a5])), (tp, .inr (8, [.ref bt, .int 0]))] sz) [(rs, .inr (6, [.int 6, .int 6, .int 0, .int 0, .int 4, .ref rs_a5, .int 0, .ref rs_a7, .ref rs_a8, .ref rs_a9, .int 0, .ref rs_a11, .ref rs_a12, .ref rs_a13, .int 0])), (rs_a5, .inl (cy 0, 12, .inl f_5)), (rd, .inr (1, [.int 0, .ref rd_a1, .ref rd_a2])), (ru, .inr (2, [.int 0, .ref ru_a1, .ref ru_a2, .int 0, .ref ru_a4, .ref ru_a5])), (r0, .inr (4, [.ref rs, .ref rd, .ref ru, .int 0, .int (-1), .ref rn, .ref rp, .int 0, .int 0, .int 0])), (tp, .inr (8, [.ref bt, .int 0]))]) (va_A [(r0, .inr (4, [.ref rs, .ref rd, .ref ru, .int 0, .int 0, .ref rn, .ref rp, .int 0, .int 0, .int 0])), (rs, .inr (6, [.int rs_v0, .int rs_v1, .int rs_v2, .int rs_v3, .int rs_v4, .ref rs_a5, .int rs_v6, .ref rs_a7, .ref rs_a8, .ref rs_a9, .int rs_v10, .ref rs_a11, .ref rs_a12, .ref rs_a13, .int rs_v14])), (rs_a5, .inl (cy 0, 12, .inl rs_f5)), (rd, .inr (1, [.int rd_v0, .ref rd_a1, .ref rd_a2])), (ru, .inr (2, [.int ru_v0, .ref ru_a1, .ref ru_a2, .int ru_v3, .ref ru_a4, .ref ru_a5])), (tp, .inr (8, [.ref bt, .int 0]))] sz)) 0 0 (va_A [(r0, .inr (4, [.ref rs, .ref rd, .ref ru, .int 0, .int 0, .ref rn, .ref rp, .int 0, .int 0, .int 0])), (rs, .inr (6, [.int rs_v0, .int rs_v1, .int rs_v2, .int rs_v3, .int rs_v4, .ref rs_a5, .int rs_v6, .ref rs_a7, .ref rs_a8, .ref rs_a9, .int rs_v10, .ref rs_a11, .ref rs_a12, .ref rs_a13, .int rs_v14])), (rs_a5, .inl (cy 0, 12, .inl rs_f5)), (rd, .inr (1, [.int rd_v0, .ref rd_a1, .ref rd_a2])), (ru, .inr (2, [.int ru_v0, .ref ru_a1, .ref ru_a2, .int ru_v3, .ref ru_a4, .ref ru_a5])), (tp, .inr (8, [.ref bt, .int 0]))] sz) := by
  refine Met.ofW (cc := cX4_read) (maxL := 5) (ret := none) (by decide) rfl ?_
  intro p e s m args below meth c s₁ B hml hv
  obtain ⟨rfl, hsz, hP, hKW, hD0⟩ := hv
  have hK := hKW.1
  have hx := B.exec
  have hb := B.bytes
  have hr := B.returns
  have hts := atoms_spec (ws := wsX4_read) B.pre
  have hown : s.vm.findClass RX4 = some m.cls := findClass_of_methodNamed B.named
  have hlocks := B.notSynchronized
  have in_4 : ∀ w ∈ u_ws RX4 TX4 10, w ∈ wsX4_read := by decide +kernel
  have fl_12 := hts (.fieldLink RX4 12 "ShoalClaims$Reader" "sea" "LShoalClaims$Sea;") (by decide +kernel)
  have fl_21 := hts (.fieldLink RX4 21 "ShoalClaims$Reader" "day" "LShoalClaims$Day;") (by decide +kernel)
  have fl_28 := hts (.fieldLink RX4 28 "ShoalClaims$Reader" "dispute" "LShoalClaims$Dispute;") (by decide +kernel)
  have fl_44 := hts (.fieldLink RX4 44 "ShoalClaims$Reader" "fault" "I") (by decide +kernel)
  have fl_48 := hts (.fieldLink RX4 48 "ShoalClaims$Reader" "place" "I") (by decide +kernel)
  have fl_51 := hts (.fieldLink RX4 51 "ShoalClaims$Reader" "tokenEnd" "I") (by decide +kernel)
  subst hsz
  have hD := hD0.self (sz := s.heap.size)
  generalize hAe : va_A [(r0, .inr (4, [.ref rs, .ref rd, .ref ru, .int 0, .int 0, .ref rn, .ref rp, .int 0, .int 0, .int 0])), (rs, .inr (6, [.int rs_v0, .int rs_v1, .int rs_v2, .int rs_v3, .int rs_v4, .ref rs_a5, .int rs_v6, .ref rs_a7, .ref rs_a8, .ref rs_a9, .int rs_v10, .ref rs_a11, .ref rs_a12, .ref rs_a13, .int rs_v14])), (rs_a5, .inl (cy 0, 12, .inl rs_f5)), (rd, .inr (1, [.int rd_v0, .ref rd_a1, .ref rd_a2])), (ru, .inr (2, [.int ru_v0, .ref ru_a1, .ref ru_a2, .int ru_v3, .ref ru_a4, .ref ru_a5])), (tp, .inr (8, [.ref bt, .int 0]))] s.heap.size = A at hD ⊢
  have hA : ∀ q : Nat, s.heap.size ≤ q → A q := fun q h => by rw [← hAe]; exact Or.inr h
  have hS : va_S A s.heap s.heap [] := va_S.rf
  have hP : va_P D vwCl [(r0, .inr (4, [.ref rs, .ref rd, .ref ru, .int 0, .int 0, .ref rn, .ref rp, .int 0, .int 0, .int 0])), (rs, .inr (6, [.int rs_v0, .int rs_v1, .int rs_v2, .int rs_v3, .int rs_v4, .ref rs_a5, .int rs_v6, .ref rs_a7, .ref rs_a8, .ref rs_a9, .int rs_v10, .ref rs_a11, .ref rs_a12, .ref rs_a13, .int rs_v14])), (rs_a5, .inl (cy 0, 12, .inl rs_f5)), (rd, .inr (1, [.int rd_v0, .ref rd_a1, .ref rd_a2])), (ru, .inr (2, [.int ru_v0, .ref ru_a1, .ref ru_a2, .int ru_v3, .ref ru_a4, .ref ru_a5])), (tp, .inr (8, [.ref bt, .int 0]))] s.heap := hP
  have hl := lv_entry ([.ref r0, .ref tp, .int 0]) (n := 5) (Nat.le_of_ble_eq_true rfl)
  rw [lg_entry_eq]
  generalize (lg_sl ([.ref r0, .ref tp, .int 0]) ++ List.replicate (5 - (lg_sl ([.ref r0, .ref tp, .int 0])).length) Slot.unset).toArray = ls at hl ⊢
  have hl : lv_has ls 5 [(0, .ref r0), (1, .ref tp), (2, .int 0)] := hl
  refine lv_aload_n hx hb dX4_read_0 rfl (lv_at hl 0 rfl) ?_
  refine va_get (D := D) (ci := 4) (v := .ref rs) (C := RX4) (T := TX4) (N := 10) hx hb hts in_4 hown hK hP 0 rfl rfl 0 (by decide) fl_12 (fun _ h9 => h9) rfl dX4_read_1 ?_
  have hPc_1 := hP.sub (ws' := [(rs, .inr (6, [.int rs_v0, .int rs_v1, .int rs_v2, .int rs_v3, .int rs_v4, .ref rs_a5, .int rs_v6, .ref rs_a7, .ref rs_a8, .ref rs_a9, .int rs_v10, .ref rs_a11, .ref rs_a12, .ref rs_a13, .int rs_v14])), (rs_a5, .inl (cy 0, 12, .inl rs_f5))]) [1, 2] rfl
  have hDc_2 := hD.sub (ws' := [(rs, .inr (6, [.int rs_v0, .int rs_v1, .int rs_v2, .int rs_v3, .int rs_v4, .ref rs_a5, .int rs_v6, .ref rs_a7, .ref rs_a8, .ref rs_a9, .int rs_v10, .ref rs_a11, .ref rs_a12, .ref rs_a13, .int rs_v14])), (rs_a5, .inl (cy 0, 12, .inl rs_f5))]) [1, 2] (by decide) rfl
  have hFc_3 := va_free (wc := [(rs, .inr (6, [.int rs_v0, .int rs_v1, .int rs_v2, .int rs_v3, .int rs_v4, .ref rs_a5, .int rs_v6, .ref rs_a7, .ref rs_a8, .ref rs_a9, .int rs_v10, .ref rs_a11, .ref rs_a12, .ref rs_a13, .int rs_v14])), (rs_a5, .inl (cy 0, 12, .inl rs_f5))]) hD hS hA [1, 2] rfl
  refine va_callv (va_runV (As := []) (rest := []) ⟨hx, hb, hml, hown, hts⟩ (c_X6_clear l D cy rs rs_v0 rs_v1 rs_v2 rs_v3 rs_v4 rs_a5 rs_f5 rs_v6 rs_a7 rs_a8 rs_a9 rs_v10 rs_a11 rs_a12 rs_a13 rs_v14 s.heap.size) (cwV 0 hts gX4_read_X6_clear rfl rfl rfl (by decide +kernel) ⟨Nat.le_of_ble_eq_true rfl, Nat.le_of_ble_eq_true rfl⟩) ⟨pwB, va_recv hK hPc_1 (ci := 6) (q0 := 0) rfl rfl, fun U hU hW => ⟨rfl, PW.of hU hW hKW hPc_1 hDc_2⟩⟩ rfl rfl hl.1 rfl (lv_room (Nat.le_of_ble_eq_true rfl)) dX4_read_4 ⟨by decide +kernel, by decide +kernel⟩) hS (fun q _ h => hFc_3 q h) hFc_3 (fun u t H1 locs ht hvm hw_4 hB hz1 hk1 hS => ?_)
  obtain ⟨f_5, hP1, hD1⟩ := hB
  rw [ht] at hP1
  obtain ⟨hP, hD⟩ := va_join (wr := [(r0, .inr (4, [.ref rs, .ref rd, .ref ru, .int 0, .int 0, .ref rn, .ref rp, .int 0, .int 0, .int 0])), (rd, .inr (1, [.int rd_v0, .ref rd_a1, .ref rd_a2])), (ru, .inr (2, [.int ru_v0, .ref ru_a1, .ref ru_a2, .int ru_v3, .ref ru_a4, .ref ru_a5])), (tp, .inr (8, [.ref bt, .int 0]))]) (w1 := [(rs, .inr (6, [.int 6, .int 6, .int 0, .int 0, .int 4, .ref rs_a5, .int 0, .ref rs_a7, .ref rs_a8, .ref rs_a9, .int 0, .ref rs_a11, .ref rs_a12, .ref rs_a13, .int 0])), (rs_a5, .inl (cy 0, 12, .inl f_5))]) hP hD [1, 2] [0, 3, 4, 5] rfl rfl (by decide) (by decide) hk1 hFc_3 hP1 hD1
  generalize H1 = H at hP hS ⊢
  have hP : va_P D vwCl [(r0, .inr (4, [.ref rs, .ref rd, .ref ru, .int 0, .int 0, .ref rn, .ref rp, .int 0, .int 0, .int 0])), (rd, .inr (1, [.int rd_v0, .ref rd_a1, .ref rd_a2])), (ru, .inr (2, [.int ru_v0, .ref ru_a1, .ref ru_a2, .int ru_v3, .ref ru_a4, .ref ru_a5])), (tp, .inr (8, [.ref bt, .int 0])), (rs, .inr (6, [.int 6, .int 6, .int 0, .int 0, .int 4, .ref rs_a5, .int 0, .ref rs_a7, .ref rs_a8, .ref rs_a9, .int 0, .ref rs_a11, .ref rs_a12, .ref rs_a13, .int 0])), (rs_a5, .inl (cy 0, 12, .inl f_5))] H := hP
  have hD : va_D A [(r0, .inr (4, [.ref rs, .ref rd, .ref ru, .int 0, .int 0, .ref rn, .ref rp, .int 0, .int 0, .int 0])), (rd, .inr (1, [.int rd_v0, .ref rd_a1, .ref rd_a2])), (ru, .inr (2, [.int ru_v0, .ref ru_a1, .ref ru_a2, .int ru_v3, .ref ru_a4, .ref ru_a5])), (tp, .inr (8, [.ref bt, .int 0])), (rs, .inr (6, [.int 6, .int 6, .int 0, .int 0, .int 4, .ref rs_a5, .int 0, .ref rs_a7, .ref rs_a8, .ref rs_a9, .int 0, .ref rs_a11, .ref rs_a12, .ref rs_a13, .int 0])), (rs_a5, .inl (cy 0, 12, .inl f_5))] := hD
  refine lv_aload_n hx hb dX4_read_7 rfl (lv_at hl 0 rfl) ?_
  refine va_get (D := D) (ci := 4) (v := .ref rd) (C := RX4) (T := TX4) (N := 10) hx hb hts in_4 hown hK hP 0 rfl rfl 1 (by decide) fl_21 (fun _ h9 => h9) rfl dX4_read_8 ?_
  have hPc_6 := hP.sub (ws' := [(rd, .inr (1, [.int rd_v0, .ref rd_a1, .ref rd_a2]))]) [1] rfl
  have hDc_7 := hD.sub (ws' := [(rd, .inr (1, [.int rd_v0, .ref rd_a1, .ref rd_a2]))]) [1] (by decide) rfl
  have hFc_8 := va_free (wc := [(rd, .inr (1, [.int rd_v0, .ref rd_a1, .ref rd_a2]))]) hD hS hA [1] rfl
  refine va_callv (va_runV (As := []) (rest := []) ⟨hx, hb, hml, hown, hts⟩ (c_X1_clear l D cy rd rd_v0 rd_a1 rd_a2 H.size) (cwV 0 hts gX4_read_X1_clear rfl rfl rfl (by decide +kernel) ⟨Nat.le_of_ble_eq_true rfl, Nat.le_of_ble_eq_true rfl⟩) ⟨pwB, va_recv hK hPc_6 (ci := 1) (q0 := 0) rfl rfl, fun U hU hW => ⟨rfl, PW.of hU hW hKW hPc_6 hDc_7⟩⟩ rfl rfl hl.1 rfl (lv_room (Nat.le_of_ble_eq_true rfl)) dX4_read_11 ⟨by decide +kernel, by decide +kernel⟩) hS (fun q _ h => hFc_8 q h) hFc_8 (fun u t H1 locs ht hvm hw_9 hB hz1 hk1 hS => ?_)
  obtain ⟨hP1, hD1⟩ := hB
  rw [ht] at hP1
  obtain ⟨hP, hD⟩ := va_join (wr := [(r0, .inr (4, [.ref rs, .ref rd, .ref ru, .int 0, .int 0, .ref rn, .ref rp, .int 0, .int 0, .int 0])), (ru, .inr (2, [.int ru_v0, .ref ru_a1, .ref ru_a2, .int ru_v3, .ref ru_a4, .ref ru_a5])), (tp, .inr (8, [.ref bt, .int 0])), (rs, .inr (6, [.int 6, .int 6, .int 0, .int 0, .int 4, .ref rs_a5, .int 0, .ref rs_a7, .ref rs_a8, .ref rs_a9, .int 0, .ref rs_a11, .ref rs_a12, .ref rs_a13, .int 0])), (rs_a5, .inl (cy 0, 12, .inl f_5))]) (w1 := [(rd, .inr (1, [.int 0, .ref rd_a1, .ref rd_a2]))]) hP hD [1] [0, 2, 3, 4, 5] rfl rfl (by decide) (by decide) hk1 hFc_8 hP1 hD1
  generalize H1 = H at hP hS ⊢
  have hP : va_P D vwCl [(r0, .inr (4, [.ref rs, .ref rd, .ref ru, .int 0, .int 0, .ref rn, .ref rp, .int 0, .int 0, .int 0])), (ru, .inr (2, [.int ru_v0, .ref ru_a1, .ref ru_a2, .int ru_v3, .ref ru_a4, .ref ru_a5])), (tp, .inr (8, [.ref bt, .int 0])), (rs, .inr (6, [.int 6, .int 6, .int 0, .int 0, .int 4, .ref rs_a5, .int 0, .ref rs_a7, .ref rs_a8, .ref rs_a9, .int 0, .ref rs_a11, .ref rs_a12, .ref rs_a13, .int 0])), (rs_a5, .inl (cy 0, 12, .inl f_5)), (rd, .inr (1, [.int 0, .ref rd_a1, .ref rd_a2]))] H := hP
  have hD : va_D A [(r0, .inr (4, [.ref rs, .ref rd, .ref ru, .int 0, .int 0, .ref rn, .ref rp, .int 0, .int 0, .int 0])), (ru, .inr (2, [.int ru_v0, .ref ru_a1, .ref ru_a2, .int ru_v3, .ref ru_a4, .ref ru_a5])), (tp, .inr (8, [.ref bt, .int 0])), (rs, .inr (6, [.int 6, .int 6, .int 0, .int 0, .int 4, .ref rs_a5, .int 0, .ref rs_a7, .ref rs_a8, .ref rs_a9, .int 0, .ref rs_a11, .ref rs_a12, .ref rs_a13, .int 0])), (rs_a5, .inl (cy 0, 12, .inl f_5)), (rd, .inr (1, [.int 0, .ref rd_a1, .ref rd_a2]))] := hD
  refine lv_aload_n hx hb dX4_read_14 rfl (lv_at hl 0 rfl) ?_
  refine va_get (D := D) (ci := 4) (v := .ref ru) (C := RX4) (T := TX4) (N := 10) hx hb hts in_4 hown hK hP 0 rfl rfl 2 (by decide) fl_28 (fun _ h9 => h9) rfl dX4_read_15 ?_
  have hPc_10 := hP.sub (ws' := [(ru, .inr (2, [.int ru_v0, .ref ru_a1, .ref ru_a2, .int ru_v3, .ref ru_a4, .ref ru_a5]))]) [1] rfl
  have hDc_11 := hD.sub (ws' := [(ru, .inr (2, [.int ru_v0, .ref ru_a1, .ref ru_a2, .int ru_v3, .ref ru_a4, .ref ru_a5]))]) [1] (by decide) rfl
  have hFc_12 := va_free (wc := [(ru, .inr (2, [.int ru_v0, .ref ru_a1, .ref ru_a2, .int ru_v3, .ref ru_a4, .ref ru_a5]))]) hD hS hA [1] rfl
  refine va_callv (va_runV (As := []) (rest := []) ⟨hx, hb, hml, hown, hts⟩ (c_X2_clear l D cy ru ru_v0 ru_a1 ru_a2 ru_v3 ru_a4 ru_a5 H.size) (cwV 0 hts gX4_read_X2_clear rfl rfl rfl (by decide +kernel) ⟨Nat.le_of_ble_eq_true rfl, Nat.le_of_ble_eq_true rfl⟩) ⟨pwB, va_recv hK hPc_10 (ci := 2) (q0 := 0) rfl rfl, fun U hU hW => ⟨rfl, PW.of hU hW hKW hPc_10 hDc_11⟩⟩ rfl rfl hl.1 rfl (lv_room (Nat.le_of_ble_eq_true rfl)) dX4_read_18 ⟨by decide +kernel, by decide +kernel⟩) hS (fun q _ h => hFc_12 q h) hFc_12 (fun u t H1 locs ht hvm hw_13 hB hz1 hk1 hS => ?_)
  obtain ⟨hP1, hD1⟩ := hB
  rw [ht] at hP1
  obtain ⟨hP, hD⟩ := va_join (wr := [(r0, .inr (4, [.ref rs, .ref rd, .ref ru, .int 0, .int 0, .ref rn, .ref rp, .int 0, .int 0, .int 0])), (tp, .inr (8, [.ref bt, .int 0])), (rs, .inr (6, [.int 6, .int 6, .int 0, .int 0, .int 4, .ref rs_a5, .int 0, .ref rs_a7, .ref rs_a8, .ref rs_a9, .int 0, .ref rs_a11, .ref rs_a12, .ref rs_a13, .int 0])), (rs_a5, .inl (cy 0, 12, .inl f_5)), (rd, .inr (1, [.int 0, .ref rd_a1, .ref rd_a2]))]) (w1 := [(ru, .inr (2, [.int 0, .ref ru_a1, .ref ru_a2, .int 0, .ref ru_a4, .ref ru_a5]))]) hP hD [1] [0, 2, 3, 4, 5] rfl rfl (by decide) (by decide) hk1 hFc_12 hP1 hD1
  generalize H1 = H at hP hS ⊢
  have hP : va_P D vwCl [(r0, .inr (4, [.ref rs, .ref rd, .ref ru, .int 0, .int 0, .ref rn, .ref rp, .int 0, .int 0, .int 0])), (tp, .inr (8, [.ref bt, .int 0])), (rs, .inr (6, [.int 6, .int 6, .int 0, .int 0, .int 4, .ref rs_a5, .int 0, .ref rs_a7, .ref rs_a8, .ref rs_a9, .int 0, .ref rs_a11, .ref rs_a12, .ref rs_a13, .int 0])), (rs_a5, .inl (cy 0, 12, .inl f_5)), (rd, .inr (1, [.int 0, .ref rd_a1, .ref rd_a2])), (ru, .inr (2, [.int 0, .ref ru_a1, .ref ru_a2, .int 0, .ref ru_a4, .ref ru_a5]))] H := hP
  have hD : va_D A [(r0, .inr (4, [.ref rs, .ref rd, .ref ru, .int 0, .int 0, .ref rn, .ref rp, .int 0, .int 0, .int 0])), (tp, .inr (8, [.ref bt, .int 0])), (rs, .inr (6, [.int 6, .int 6, .int 0, .int 0, .int 4, .ref rs_a5, .int 0, .ref rs_a7, .ref rs_a8, .ref rs_a9, .int 0, .ref rs_a11, .ref rs_a12, .ref rs_a13, .int 0])), (rs_a5, .inl (cy 0, 12, .inl f_5)), (rd, .inr (1, [.int 0, .ref rd_a1, .ref rd_a2])), (ru, .inr (2, [.int 0, .ref ru_a1, .ref ru_a2, .int 0, .ref ru_a4, .ref ru_a5]))] := hD
  refine lv_aload_n hx hb dX4_read_21 rfl (lv_at hl 0 rfl) ?_
  refine lv_iconst (v := 0) hx hb dX4_read_22 (by decide +kernel) ?_
  refine va_put (D := D) (ci := 4) (v := .int 0) (ty := .int) (C := RX4) (T := TX4) (N := 10) hx hb hts in_4 tyX4 tyX4_ok nmX4 hown hK hP hD hS 0 rfl rfl 3 (by decide) fl_44 (fun _ h9 => h9) rfl (by decide +kernel) rfl rfl (Nat.le_of_ble_eq_true rfl) dX4_read_23 (fun H locs hP hD hS => ?_)
  have hP : va_P D vwCl [(r0, .inr (4, [.ref rs, .ref rd, .ref ru, .int 0, .int 0, .ref rn, .ref rp, .int 0, .int 0, .int 0])), (tp, .inr (8, [.ref bt, .int 0])), (rs, .inr (6, [.int 6, .int 6, .int 0, .int 0, .int 4, .ref rs_a5, .int 0, .ref rs_a7, .ref rs_a8, .ref rs_a9, .int 0, .ref rs_a11, .ref rs_a12, .ref rs_a13, .int 0])), (rs_a5, .inl (cy 0, 12, .inl f_5)), (rd, .inr (1, [.int 0, .ref rd_a1, .ref rd_a2])), (ru, .inr (2, [.int 0, .ref ru_a1, .ref ru_a2, .int 0, .ref ru_a4, .ref ru_a5]))] H := hP
  have hD : va_D A [(r0, .inr (4, [.ref rs, .ref rd, .ref ru, .int 0, .int 0, .ref rn, .ref rp, .int 0, .int 0, .int 0])), (tp, .inr (8, [.ref bt, .int 0])), (rs, .inr (6, [.int 6, .int 6, .int 0, .int 0, .int 4, .ref rs_a5, .int 0, .ref rs_a7, .ref rs_a8, .ref rs_a9, .int 0, .ref rs_a11, .ref rs_a12, .ref rs_a13, .int 0])), (rs_a5, .inl (cy 0, 12, .inl f_5)), (rd, .inr (1, [.int 0, .ref rd_a1, .ref rd_a2])), (ru, .inr (2, [.int 0, .ref ru_a1, .ref ru_a2, .int 0, .ref ru_a4, .ref ru_a5]))] := hD
  refine lv_aload_n hx hb dX4_read_26 rfl (lv_at hl 0 rfl) ?_
  refine lv_iconst (v := (-1)) hx hb dX4_read_27 (by decide +kernel) ?_
  refine va_put (D := D) (ci := 4) (v := .int (-1)) (ty := .int) (C := RX4) (T := TX4) (N := 10) hx hb hts in_4 tyX4 tyX4_ok nmX4 hown hK hP hD hS 0 rfl rfl 4 (by decide) fl_48 (fun _ h9 => h9) rfl (by decide +kernel) rfl rfl (Nat.le_of_ble_eq_true rfl) dX4_read_28 (fun H locs hP hD hS => ?_)
  have hP : va_P D vwCl [(r0, .inr (4, [.ref rs, .ref rd, .ref ru, .int 0, .int (-1), .ref rn, .ref rp, .int 0, .int 0, .int 0])), (tp, .inr (8, [.ref bt, .int 0])), (rs, .inr (6, [.int 6, .int 6, .int 0, .int 0, .int 4, .ref rs_a5, .int 0, .ref rs_a7, .ref rs_a8, .ref rs_a9, .int 0, .ref rs_a11, .ref rs_a12, .ref rs_a13, .int 0])), (rs_a5, .inl (cy 0, 12, .inl f_5)), (rd, .inr (1, [.int 0, .ref rd_a1, .ref rd_a2])), (ru, .inr (2, [.int 0, .ref ru_a1, .ref ru_a2, .int 0, .ref ru_a4, .ref ru_a5]))] H := hP
  have hD : va_D A [(r0, .inr (4, [.ref rs, .ref rd, .ref ru, .int 0, .int (-1), .ref rn, .ref rp, .int 0, .int 0, .int 0])), (tp, .inr (8, [.ref bt, .int 0])), (rs, .inr (6, [.int 6, .int 6, .int 0, .int 0, .int 4, .ref rs_a5, .int 0, .ref rs_a7, .ref rs_a8, .ref rs_a9, .int 0, .ref rs_a11, .ref rs_a12, .ref rs_a13, .int 0])), (rs_a5, .inl (cy 0, 12, .inl f_5)), (rd, .inr (1, [.int 0, .ref rd_a1, .ref rd_a2])), (ru, .inr (2, [.int 0, .ref ru_a1, .ref ru_a2, .int 0, .ref ru_a4, .ref ru_a5]))] := hD
  refine lv_aload_n hx hb dX4_read_31 rfl (lv_at hl 0 rfl) ?_
  refine lv_iconst (v := 0) hx hb dX4_read_32 (by decide +kernel) ?_
  refine va_put (D := D) (ci := 4) (v := .int 0) (ty := .int) (C := RX4) (T := TX4) (N := 10) hx hb hts in_4 tyX4 tyX4_ok nmX4 hown hK hP hD hS 0 rfl rfl 9 (by decide) fl_51 (fun _ h9 => h9) rfl (by decide +kernel) rfl rfl (Nat.le_of_ble_eq_true rfl) dX4_read_33 (fun H locs hP hD hS => ?_)
  have hP : va_P D vwCl [(r0, .inr (4, [.ref rs, .ref rd, .ref ru, .int 0, .int (-1), .ref rn, .ref rp, .int 0, .int 0, .int 0])), (tp, .inr (8, [.ref bt, .int 0])), (rs, .inr (6, [.int 6, .int 6, .int 0, .int 0, .int 4, .ref rs_a5, .int 0, .ref rs_a7, .ref rs_a8, .ref rs_a9, .int 0, .ref rs_a11, .ref rs_a12, .ref rs_a13, .int 0])), (rs_a5, .inl (cy 0, 12, .inl f_5)), (rd, .inr (1, [.int 0, .ref rd_a1, .ref rd_a2])), (ru, .inr (2, [.int 0, .ref ru_a1, .ref ru_a2, .int 0, .ref ru_a4, .ref ru_a5]))] H := hP
  have hD : va_D A [(r0, .inr (4, [.ref rs, .ref rd, .ref ru, .int 0, .int (-1), .ref rn, .ref rp, .int 0, .int 0, .int 0])), (tp, .inr (8, [.ref bt, .int 0])), (rs, .inr (6, [.int 6, .int 6, .int 0, .int 0, .int 4, .ref rs_a5, .int 0, .ref rs_a7, .ref rs_a8, .ref rs_a9, .int 0, .ref rs_a11, .ref rs_a12, .ref rs_a13, .int 0])), (rs_a5, .inl (cy 0, 12, .inl f_5)), (rd, .inr (1, [.int 0, .ref rd_a1, .ref rd_a2])), (ru, .inr (2, [.int 0, .ref ru_a1, .ref ru_a2, .int 0, .ref ru_a4, .ref ru_a5]))] := hD
  refine lv_iconst (v := 1) hx hb dX4_read_36 (by decide +kernel) ?_
  refine lv_istore_n (lv' := [(3, .int 1), (0, .ref r0), (1, .ref tp), (2, .int 0)]) hx hb dX4_read_37 rfl hl (by decide) rfl (fun ls hl => ?_)
  refine lv_iconst (v := 0) hx hb dX4_read_38 (by decide +kernel) ?_
  refine lv_istore (lv' := [(4, .int 0), (3, .int 1), (0, .ref r0), (1, .ref tp), (2, .int 0)]) hx hb dX4_read_39 hl (by decide) rfl (fun ls hl => ?_)
  refine lv_iload_n hx hb dX4_read_41 rfl (lv_at hl 1 rfl) ?_
  refine lv_if_eq (tgt := 66) hx hb dX4_read_42 (by decide) (fun c_14 => absurd c_14 (by decide +kernel)) (fun _ => ?_)
  refine lv_iload hx hb dX4_read_45 (lv_at hl 0 rfl) ?_
  refine lv_sipush (v := 600) hx hb dX4_read_47 (by decide +kernel) ?_
  refine lv_icmp_gt (tgt := 66) hx hb dX4_read_50 (by decide) (fun c_15 => absurd c_15 (by decide +kernel)) (fun _ => ?_)
  refine lv_aload_n hx hb dX4_read_53 rfl (lv_at hl 2 rfl) ?_
  refine lv_aload_n hx hb dX4_read_54 rfl (lv_at hl 3 rfl) ?_
  refine lv_iload_n hx hb dX4_read_55 rfl (lv_at hl 4 rfl) ?_
  have hPc_16 := hP.sub (ws' := [(r0, .inr (4, [.ref rs, .ref rd, .ref ru, .int 0, .int (-1), .ref rn, .ref rp, .int 0, .int 0, .int 0])), (tp, .inr (8, [.ref bt, .int 0]))]) [0, 1] rfl
  have hDc_17 := hD.sub (ws' := [(r0, .inr (4, [.ref rs, .ref rd, .ref ru, .int 0, .int (-1), .ref rn, .ref rp, .int 0, .int 0, .int 0])), (tp, .inr (8, [.ref bt, .int 0]))]) [0, 1] (by decide) rfl
  have hFc_18 := va_free (wc := [(r0, .inr (4, [.ref rs, .ref rd, .ref ru, .int 0, .int (-1), .ref rn, .ref rp, .int 0, .int 0, .int 0])), (tp, .inr (8, [.ref bt, .int 0]))]) hD hS hA [0, 1] rfl
  refine va_calli (va_runV (As := [.ref tp, .int 0]) (rest := []) ⟨hx, hb, hml, hown, hts⟩ (c_X4_readLine l D cy r0 rs rd ru rn rp tp bt 0 H.size) (cwV 2 hts gX4_read_X4_readLine rfl rfl rfl (by decide +kernel) ⟨Nat.le_of_ble_eq_true rfl, Nat.le_of_ble_eq_true rfl⟩) ⟨pwB, va_recv hK hPc_16 (ci := 4) (q0 := 0) rfl rfl, fun U hU hW => ⟨rfl, PW.of hU hW hKW hPc_16 hDc_17⟩⟩ rfl rfl hl.1 rfl (lv_room (Nat.le_of_ble_eq_true rfl)) dX4_read_56 ⟨by decide +kernel, by decide +kernel⟩) hS (fun q _ h => hFc_18 q h) hFc_18 (fun r_20 u t H1 locs ht hvm hw_19 hB hz1 hk1 hS => ?_)
  subst hw_19
  obtain ⟨hP1, hD1⟩ := hB
  rw [ht] at hP1
  obtain ⟨hP, hD⟩ := va_join (wr := [(rs, .inr (6, [.int 6, .int 6, .int 0, .int 0, .int 4, .ref rs_a5, .int 0, .ref rs_a7, .ref rs_a8, .ref rs_a9, .int 0, .ref rs_a11, .ref rs_a12, .ref rs_a13, .int 0])), (rs_a5, .inl (cy 0, 12, .inl f_5)), (rd, .inr (1, [.int 0, .ref rd_a1, .ref rd_a2])), (ru, .inr (2, [.int 0, .ref ru_a1, .ref ru_a2, .int 0, .ref ru_a4, .ref ru_a5]))]) (w1 := [(r0, .inr (4, [.ref rs, .ref rd, .ref ru, .int 0, .int (-1), .ref rn, .ref rp, .int 0, .int 0, .int 0])), (tp, .inr (8, [.ref bt, .int 0]))]) hP hD [0, 1] [2, 3, 4, 5] rfl rfl (by decide) (by decide) hk1 hFc_18 hP1 hD1
  generalize H1 = H at hP hS ⊢
  have hP : va_P D vwCl [(rs, .inr (6, [.int 6, .int 6, .int 0, .int 0, .int 4, .ref rs_a5, .int 0, .ref rs_a7, .ref rs_a8, .ref rs_a9, .int 0, .ref rs_a11, .ref rs_a12, .ref rs_a13, .int 0])), (rs_a5, .inl (cy 0, 12, .inl f_5)), (rd, .inr (1, [.int 0, .ref rd_a1, .ref rd_a2])), (ru, .inr (2, [.int 0, .ref ru_a1, .ref ru_a2, .int 0, .ref ru_a4, .ref ru_a5])), (r0, .inr (4, [.ref rs, .ref rd, .ref ru, .int 0, .int (-1), .ref rn, .ref rp, .int 0, .int 0, .int 0])), (tp, .inr (8, [.ref bt, .int 0]))] H := hP
  have hD : va_D A [(rs, .inr (6, [.int 6, .int 6, .int 0, .int 0, .int 4, .ref rs_a5, .int 0, .ref rs_a7, .ref rs_a8, .ref rs_a9, .int 0, .ref rs_a11, .ref rs_a12, .ref rs_a13, .int 0])), (rs_a5, .inl (cy 0, 12, .inl f_5)), (rd, .inr (1, [.int 0, .ref rd_a1, .ref rd_a2])), (ru, .inr (2, [.int 0, .ref ru_a1, .ref ru_a2, .int 0, .ref ru_a4, .ref ru_a5])), (r0, .inr (4, [.ref rs, .ref rd, .ref ru, .int 0, .int (-1), .ref rn, .ref rp, .int 0, .int 0, .int 0])), (tp, .inr (8, [.ref bt, .int 0]))] := hD
  refine lv_istore_n (lv' := [(3, .int 0), (4, .int 0), (0, .ref r0), (1, .ref tp), (2, .int 0)]) hx hb dX4_read_59 rfl hl (by decide) rfl (fun ls hl => ?_)
  refine lv_iinc (v := 1) (lv' := [(4, .int 1), (3, .int 0), (0, .ref r0), (1, .ref tp), (2, .int 0)]) hx hb dX4_read_60 hl (k := 1) rfl (by decide) (by decide) rfl (fun ls hl => ?_)
  refine lv_goto (tgt := 41) hx hb dX4_read_63 (by decide) ?_
  refine lv_iload_n hx hb dX4_read_41 rfl (lv_at hl 1 rfl) ?_
  refine lv_if_eq (tgt := 66) hx hb dX4_read_42 (by decide) (fun _ => ?_) (fun c_21 => absurd (by decide +kernel) c_21)
  refine lv_iload_n hx hb dX4_read_66 rfl (lv_at hl 4 rfl) ?_
  refine lv_if_ne (tgt := 80) hx hb dX4_read_67 (by decide) (fun c_22 => absurd (by decide +kernel) c_22) (fun _ => ?_)
  refine lv_aload_n hx hb dX4_read_70 rfl (lv_at hl 2 rfl) ?_
  refine va_get (D := D) (ci := 4) (v := .ref rs) (C := RX4) (T := TX4) (N := 10) hx hb hts in_4 hown hK hP 4 rfl rfl 0 (by decide) fl_12 (fun _ h9 => h9) rfl dX4_read_71 ?_
  have hPc_23 := hP.sub (ws' := [(rs, .inr (6, [.int 6, .int 6, .int 0, .int 0, .int 4, .ref rs_a5, .int 0, .ref rs_a7, .ref rs_a8, .ref rs_a9, .int 0, .ref rs_a11, .ref rs_a12, .ref rs_a13, .int 0]))]) [0] rfl
  refine pc_i (va_runV (As := []) (rest := []) ⟨hx, hb, hml, hown, hts⟩ (c_X6_isWhole l D cy rs 6 6 0 0 4 rs_a5 rs_a7 rs_a8 rs_a9 rs_a11 rs_a12 rs_a13) (cwV 0 hts gX4_read_X6_isWhole rfl rfl rfl (by decide +kernel) ⟨Nat.le_of_ble_eq_true rfl, Nat.le_of_ble_eq_true rfl⟩) ⟨prB, va_recv hK hPc_23 (ci := 6) (q0 := 0) rfl rfl, fun U hU hW => ⟨rfl, PR.of hU hW hKW hPc_23⟩⟩ rfl rfl hl.1 rfl (lv_room (Nat.le_of_ble_eq_true rfl)) dX4_read_74 ⟨by decide +kernel, by decide +kernel⟩) (fun r_24 hr_24 => ?_)
  subst hr_24
  refine lv_goto (tgt := 100) hx hb dX4_read_77 (by decide) ?_
  refine lv_istore (lv' := [(4, .int 1), (3, .int 0), (0, .ref r0), (1, .ref tp), (2, .int 0)]) hx hb dX4_read_100 hl (by decide) rfl (fun ls hl => ?_)
  refine lv_iload hx hb dX4_read_102 (lv_at hl 0 rfl) ?_
  refine lv_if_ne (tgt := 116) hx hb dX4_read_104 (by decide) (fun _ => ?_) (fun c_25 => absurd c_25 (by decide +kernel))
  have hP9 := hP.sub (ws' := [(rs, .inr (6, [.int 6, .int 6, .int 0, .int 0, .int 4, .ref rs_a5, .int 0, .ref rs_a7, .ref rs_a8, .ref rs_a9, .int 0, .ref rs_a11, .ref rs_a12, .ref rs_a13, .int 0])), (rs_a5, .inl (cy 0, 12, .inl f_5)), (rd, .inr (1, [.int 0, .ref rd_a1, .ref rd_a2])), (ru, .inr (2, [.int 0, .ref ru_a1, .ref ru_a2, .int 0, .ref ru_a4, .ref ru_a5])), (r0, .inr (4, [.ref rs, .ref rd, .ref ru, .int 0, .int (-1), .ref rn, .ref rp, .int 0, .int 0, .int 0])), (tp, .inr (8, [.ref bt, .int 0]))]) [0, 1, 2, 3, 4, 5] rfl
  have hD9 := hD.sub (ws' := [(rs, .inr (6, [.int 6, .int 6, .int 0, .int 0, .int 4, .ref rs_a5, .int 0, .ref rs_a7, .ref rs_a8, .ref rs_a9, .int 0, .ref rs_a11, .ref rs_a12, .ref rs_a13, .int 0])), (rs_a5, .inl (cy 0, 12, .inl f_5)), (rd, .inr (1, [.int 0, .ref rd_a1, .ref rd_a2])), (ru, .inr (2, [.int 0, .ref ru_a1, .ref ru_a2, .int 0, .ref ru_a4, .ref ru_a5])), (r0, .inr (4, [.ref rs, .ref rd, .ref ru, .int 0, .int (-1), .ref rn, .ref rp, .int 0, .int 0, .int 0])), (tp, .inr (8, [.ref bt, .int 0]))]) [0, 1, 2, 3, 4, 5] (by decide) rfl
  exact W.vret hx hb hr (fun t ht hW => ⟨⟨(), rfl, trivial, f_5, by rw [ht]; exact hP9, hD9⟩, hS.F ht⟩) hS.2.2 dX4_read_116
set_option maxHeartbeats 4000000 in
set_option maxRecDepth 100000 in
theorem c_X4_read_1 (l : Launch) (D : va_G) (cy : Nat → ClassId) (r0 : Nat) (rn : Nat) (rp : Nat) (rs : Nat) (rs_v0 : Int32) (rs_v1 : Int32) (rs_v2 : Int32) (rs_v3 : Int32) (rs_v4 : Int32) (rs_a5 : Nat) (rs_f5 : Nat → Int32) (rs_v6 : Int32) (rs_a7 : Nat) (rs_a8 : Nat) (rs_a9 : Nat) (rs_v10 : Int32) (rs_a11 : Nat) (rs_a12 : Nat) (rs_a13 : Nat) (rs_v14 : Int32) (rd : Nat) (rd_v0 : Int32) (rd_a1 : Nat) (rd_a2 : Nat) (ru : Nat) (ru_v0 : Int32) (ru_a1 : Nat) (ru_a2 : Nat) (ru_v3 : Int32) (ru_a4 : Nat) (ru_a5 : Nat) (tp : Nat) (bt : Nat) (sz : Nat)  : Met l yX4_read wsX4_read ({ frames := 3, cells := 0, slots := 0, locals := 69 } : Room) (va_Pc [.ref r0, .ref tp, .int 1] (PW D cy [(r0, .inr (4, [.ref rs, .ref rd, .ref ru, .int 0, .int 0, .ref rn, .ref rp, .int 0, .int 0, .int 0])), (rs, .inr (6, [.int rs_v0, .int rs_v1, .int rs_v2, .int rs_v3, .int rs_v4, .ref rs_a5, .int rs_v6, .ref rs_a7, .ref rs_a8, .ref rs_a9, .int rs_v10, .ref rs_a11, .ref rs_a12, .ref rs_a13, .int rs_v14])), (rs_a5, .inl (cy 0, 12, .inl rs_f5)), (rd, .inr (1, [.int rd_v0, .ref rd_a1, .ref rd_a2])), (ru, .inr (2, [.int ru_v0, .ref ru_a1, .ref ru_a2, .int ru_v3, .ref ru_a4, .ref ru_a5])), (tp, .inr (8, [.ref bt, .int 0]))] sz)) (va_Qv (fun _ : Unit => True) (fun _ t => ∃ (f_5 : Nat → Int32), va_P D vwCl [(rs, .inr (6, [.int 6, .int 6, .int 0, .int 0, .int 4, .ref rs_a5, .int 0, .ref rs_a7, .ref rs_a8, .ref rs_a9, .int 0, .ref rs_a11, .ref rs_a12, .ref rs_a13, .int 0])), (rs_a5, .inl (cy 0, 12, .inl f_5)), (rd, .inr (1, [.int 0, .ref rd_a1, .ref rd_a2])), (ru, .inr (2, [.int 0, .ref ru_a1, .ref ru_a2, .int 0, .ref ru_a4, .ref ru_a5])), (r0, .inr (4, [.ref rs, .ref rd, .ref ru, .int 0, .int (-1), .ref rn, .ref rp, .int 0, .int 0, .int 0])), (tp, .inr (8, [.ref bt, .int 0]))] t.heap ∧ va_D (va_A [(r0, .inr (4, [.ref rs, .ref rd, .ref ru, .int 0, .int 0, .ref rn, .ref rp, .int 0, .int 0, .int 0])), (rs, .inr (6, [.int rs_v0, .int rs_v1, .int rs_v2, .int rs_v3, .int rs_v4, .ref rs_a5, .int rs_v6, .ref rs_a7, .ref rs_a8, .ref rs_a9, .int rs_v10, .ref rs_a11, .ref rs_a12, .ref rs_a13, .int rs_v14])), (rs_a5, .inl (cy 0, 12, .inl rs_f5)), (rd, .inr (1, [.int rd_v0, .ref rd_a1, .ref rd_a2])), (ru, .inr (2, [.int ru_v0, .ref ru_a1, .ref ru_a2, .int ru_v3, .ref ru_a4, .ref ru_a5])), (tp, .inr (8, [.ref bt, .int 0]))] sz) [(rs, .inr (6, [.int 6, .int 6, .int 0, .int 0, .int 4, .ref rs_a5, .int 0, .ref rs_a7, .ref rs_a8, .ref rs_a9, .int 0, .ref rs_a11, .ref rs_a12, .ref rs_a13, .int 0])), (rs_a5, .inl (cy 0, 12, .inl f_5)), (rd, .inr (1, [.int 0, .ref rd_a1, .ref rd_a2])), (ru, .inr (2, [.int 0, .ref ru_a1, .ref ru_a2, .int 0, .ref ru_a4, .ref ru_a5])), (r0, .inr (4, [.ref rs, .ref rd, .ref ru, .int 0, .int (-1), .ref rn, .ref rp, .int 0, .int 0, .int 0])), (tp, .inr (8, [.ref bt, .int 0]))]) (va_A [(r0, .inr (4, [.ref rs, .ref rd, .ref ru, .int 0, .int 0, .ref rn, .ref rp, .int 0, .int 0, .int 0])), (rs, .inr (6, [.int rs_v0, .int rs_v1, .int rs_v2, .int rs_v3, .int rs_v4, .ref rs_a5, .int rs_v6, .ref rs_a7, .ref rs_a8, .ref rs_a9, .int rs_v10, .ref rs_a11, .ref rs_a12, .ref rs_a13, .int rs_v14])), (rs_a5, .inl (cy 0, 12, .inl rs_f5)), (rd, .inr (1, [.int rd_v0, .ref rd_a1, .ref rd_a2])), (ru, .inr (2, [.int ru_v0, .ref ru_a1, .ref ru_a2, .int ru_v3, .ref ru_a4, .ref ru_a5])), (tp, .inr (8, [.ref bt, .int 0]))] sz)) 0 0 (va_A [(r0, .inr (4, [.ref rs, .ref rd, .ref ru, .int 0, .int 0, .ref rn, .ref rp, .int 0, .int 0, .int 0])), (rs, .inr (6, [.int rs_v0, .int rs_v1, .int rs_v2, .int rs_v3, .int rs_v4, .ref rs_a5, .int rs_v6, .ref rs_a7, .ref rs_a8, .ref rs_a9, .int rs_v10, .ref rs_a11, .ref rs_a12, .ref rs_a13, .int rs_v14])), (rs_a5, .inl (cy 0, 12, .inl rs_f5)), (rd, .inr (1, [.int rd_v0, .ref rd_a1, .ref rd_a2])), (ru, .inr (2, [.int ru_v0, .ref ru_a1, .ref ru_a2, .int ru_v3, .ref ru_a4, .ref ru_a5])), (tp, .inr (8, [.ref bt, .int 0]))] sz) := by
  refine Met.ofW (cc := cX4_read) (maxL := 5) (ret := none) (by decide) rfl ?_
  intro p e s m args below meth c s₁ B hml hv
  obtain ⟨rfl, hsz, hP, hKW, hD0⟩ := hv
  have hK := hKW.1
  have hx := B.exec
  have hb := B.bytes
  have hr := B.returns
  have hts := atoms_spec (ws := wsX4_read) B.pre
  have hown : s.vm.findClass RX4 = some m.cls := findClass_of_methodNamed B.named
  have hlocks := B.notSynchronized
  have in_4 : ∀ w ∈ u_ws RX4 TX4 10, w ∈ wsX4_read := by decide +kernel
  have fl_12 := hts (.fieldLink RX4 12 "ShoalClaims$Reader" "sea" "LShoalClaims$Sea;") (by decide +kernel)
  have fl_21 := hts (.fieldLink RX4 21 "ShoalClaims$Reader" "day" "LShoalClaims$Day;") (by decide +kernel)
  have fl_28 := hts (.fieldLink RX4 28 "ShoalClaims$Reader" "dispute" "LShoalClaims$Dispute;") (by decide +kernel)
  have fl_44 := hts (.fieldLink RX4 44 "ShoalClaims$Reader" "fault" "I") (by decide +kernel)
  have fl_48 := hts (.fieldLink RX4 48 "ShoalClaims$Reader" "place" "I") (by decide +kernel)
  have fl_51 := hts (.fieldLink RX4 51 "ShoalClaims$Reader" "tokenEnd" "I") (by decide +kernel)
  subst hsz
  have hD := hD0.self (sz := s.heap.size)
  generalize hAe : va_A [(r0, .inr (4, [.ref rs, .ref rd, .ref ru, .int 0, .int 0, .ref rn, .ref rp, .int 0, .int 0, .int 0])), (rs, .inr (6, [.int rs_v0, .int rs_v1, .int rs_v2, .int rs_v3, .int rs_v4, .ref rs_a5, .int rs_v6, .ref rs_a7, .ref rs_a8, .ref rs_a9, .int rs_v10, .ref rs_a11, .ref rs_a12, .ref rs_a13, .int rs_v14])), (rs_a5, .inl (cy 0, 12, .inl rs_f5)), (rd, .inr (1, [.int rd_v0, .ref rd_a1, .ref rd_a2])), (ru, .inr (2, [.int ru_v0, .ref ru_a1, .ref ru_a2, .int ru_v3, .ref ru_a4, .ref ru_a5])), (tp, .inr (8, [.ref bt, .int 0]))] s.heap.size = A at hD ⊢
  have hA : ∀ q : Nat, s.heap.size ≤ q → A q := fun q h => by rw [← hAe]; exact Or.inr h
  have hS : va_S A s.heap s.heap [] := va_S.rf
  have hP : va_P D vwCl [(r0, .inr (4, [.ref rs, .ref rd, .ref ru, .int 0, .int 0, .ref rn, .ref rp, .int 0, .int 0, .int 0])), (rs, .inr (6, [.int rs_v0, .int rs_v1, .int rs_v2, .int rs_v3, .int rs_v4, .ref rs_a5, .int rs_v6, .ref rs_a7, .ref rs_a8, .ref rs_a9, .int rs_v10, .ref rs_a11, .ref rs_a12, .ref rs_a13, .int rs_v14])), (rs_a5, .inl (cy 0, 12, .inl rs_f5)), (rd, .inr (1, [.int rd_v0, .ref rd_a1, .ref rd_a2])), (ru, .inr (2, [.int ru_v0, .ref ru_a1, .ref ru_a2, .int ru_v3, .ref ru_a4, .ref ru_a5])), (tp, .inr (8, [.ref bt, .int 0]))] s.heap := hP
  have hl := lv_entry ([.ref r0, .ref tp, .int 1]) (n := 5) (Nat.le_of_ble_eq_true rfl)
  rw [lg_entry_eq]
  generalize (lg_sl ([.ref r0, .ref tp, .int 1]) ++ List.replicate (5 - (lg_sl ([.ref r0, .ref tp, .int 1])).length) Slot.unset).toArray = ls at hl ⊢
  have hl : lv_has ls 5 [(0, .ref r0), (1, .ref tp), (2, .int 1)] := hl
  refine lv_aload_n hx hb dX4_read_0 rfl (lv_at hl 0 rfl) ?_
  refine va_get (D := D) (ci := 4) (v := .ref rs) (C := RX4) (T := TX4) (N := 10) hx hb hts in_4 hown hK hP 0 rfl rfl 0 (by decide) fl_12 (fun _ h9 => h9) rfl dX4_read_1 ?_
  have hPc_1 := hP.sub (ws' := [(rs, .inr (6, [.int rs_v0, .int rs_v1, .int rs_v2, .int rs_v3, .int rs_v4, .ref rs_a5, .int rs_v6, .ref rs_a7, .ref rs_a8, .ref rs_a9, .int rs_v10, .ref rs_a11, .ref rs_a12, .ref rs_a13, .int rs_v14])), (rs_a5, .inl (cy 0, 12, .inl rs_f5))]) [1, 2] rfl
  have hDc_2 := hD.sub (ws' := [(rs, .inr (6, [.int rs_v0, .int rs_v1, .int rs_v2, .int rs_v3, .int rs_v4, .ref rs_a5, .int rs_v6, .ref rs_a7, .ref rs_a8, .ref rs_a9, .int rs_v10, .ref rs_a11, .ref rs_a12, .ref rs_a13, .int rs_v14])), (rs_a5, .inl (cy 0, 12, .inl rs_f5))]) [1, 2] (by decide) rfl
  have hFc_3 := va_free (wc := [(rs, .inr (6, [.int rs_v0, .int rs_v1, .int rs_v2, .int rs_v3, .int rs_v4, .ref rs_a5, .int rs_v6, .ref rs_a7, .ref rs_a8, .ref rs_a9, .int rs_v10, .ref rs_a11, .ref rs_a12, .ref rs_a13, .int rs_v14])), (rs_a5, .inl (cy 0, 12, .inl rs_f5))]) hD hS hA [1, 2] rfl
  refine va_callv (va_runV (As := []) (rest := []) ⟨hx, hb, hml, hown, hts⟩ (c_X6_clear l D cy rs rs_v0 rs_v1 rs_v2 rs_v3 rs_v4 rs_a5 rs_f5 rs_v6 rs_a7 rs_a8 rs_a9 rs_v10 rs_a11 rs_a12 rs_a13 rs_v14 s.heap.size) (cwV 0 hts gX4_read_X6_clear rfl rfl rfl (by decide +kernel) ⟨Nat.le_of_ble_eq_true rfl, Nat.le_of_ble_eq_true rfl⟩) ⟨pwB, va_recv hK hPc_1 (ci := 6) (q0 := 0) rfl rfl, fun U hU hW => ⟨rfl, PW.of hU hW hKW hPc_1 hDc_2⟩⟩ rfl rfl hl.1 rfl (lv_room (Nat.le_of_ble_eq_true rfl)) dX4_read_4 ⟨by decide +kernel, by decide +kernel⟩) hS (fun q _ h => hFc_3 q h) hFc_3 (fun u t H1 locs ht hvm hw_4 hB hz1 hk1 hS => ?_)
  obtain ⟨f_5, hP1, hD1⟩ := hB
  rw [ht] at hP1
  obtain ⟨hP, hD⟩ := va_join (wr := [(r0, .inr (4, [.ref rs, .ref rd, .ref ru, .int 0, .int 0, .ref rn, .ref rp, .int 0, .int 0, .int 0])), (rd, .inr (1, [.int rd_v0, .ref rd_a1, .ref rd_a2])), (ru, .inr (2, [.int ru_v0, .ref ru_a1, .ref ru_a2, .int ru_v3, .ref ru_a4, .ref ru_a5])), (tp, .inr (8, [.ref bt, .int 0]))]) (w1 := [(rs, .inr (6, [.int 6, .int 6, .int 0, .int 0, .int 4, .ref rs_a5, .int 0, .ref rs_a7, .ref rs_a8, .ref rs_a9, .int 0, .ref rs_a11, .ref rs_a12, .ref rs_a13, .int 0])), (rs_a5, .inl (cy 0, 12, .inl f_5))]) hP hD [1, 2] [0, 3, 4, 5] rfl rfl (by decide) (by decide) hk1 hFc_3 hP1 hD1
  generalize H1 = H at hP hS ⊢
  have hP : va_P D vwCl [(r0, .inr (4, [.ref rs, .ref rd, .ref ru, .int 0, .int 0, .ref rn, .ref rp, .int 0, .int 0, .int 0])), (rd, .inr (1, [.int rd_v0, .ref rd_a1, .ref rd_a2])), (ru, .inr (2, [.int ru_v0, .ref ru_a1, .ref ru_a2, .int ru_v3, .ref ru_a4, .ref ru_a5])), (tp, .inr (8, [.ref bt, .int 0])), (rs, .inr (6, [.int 6, .int 6, .int 0, .int 0, .int 4, .ref rs_a5, .int 0, .ref rs_a7, .ref rs_a8, .ref rs_a9, .int 0, .ref rs_a11, .ref rs_a12, .ref rs_a13, .int 0])), (rs_a5, .inl (cy 0, 12, .inl f_5))] H := hP
  have hD : va_D A [(r0, .inr (4, [.ref rs, .ref rd, .ref ru, .int 0, .int 0, .ref rn, .ref rp, .int 0, .int 0, .int 0])), (rd, .inr (1, [.int rd_v0, .ref rd_a1, .ref rd_a2])), (ru, .inr (2, [.int ru_v0, .ref ru_a1, .ref ru_a2, .int ru_v3, .ref ru_a4, .ref ru_a5])), (tp, .inr (8, [.ref bt, .int 0])), (rs, .inr (6, [.int 6, .int 6, .int 0, .int 0, .int 4, .ref rs_a5, .int 0, .ref rs_a7, .ref rs_a8, .ref rs_a9, .int 0, .ref rs_a11, .ref rs_a12, .ref rs_a13, .int 0])), (rs_a5, .inl (cy 0, 12, .inl f_5))] := hD
  refine lv_aload_n hx hb dX4_read_7 rfl (lv_at hl 0 rfl) ?_
  refine va_get (D := D) (ci := 4) (v := .ref rd) (C := RX4) (T := TX4) (N := 10) hx hb hts in_4 hown hK hP 0 rfl rfl 1 (by decide) fl_21 (fun _ h9 => h9) rfl dX4_read_8 ?_
  have hPc_6 := hP.sub (ws' := [(rd, .inr (1, [.int rd_v0, .ref rd_a1, .ref rd_a2]))]) [1] rfl
  have hDc_7 := hD.sub (ws' := [(rd, .inr (1, [.int rd_v0, .ref rd_a1, .ref rd_a2]))]) [1] (by decide) rfl
  have hFc_8 := va_free (wc := [(rd, .inr (1, [.int rd_v0, .ref rd_a1, .ref rd_a2]))]) hD hS hA [1] rfl
  refine va_callv (va_runV (As := []) (rest := []) ⟨hx, hb, hml, hown, hts⟩ (c_X1_clear l D cy rd rd_v0 rd_a1 rd_a2 H.size) (cwV 0 hts gX4_read_X1_clear rfl rfl rfl (by decide +kernel) ⟨Nat.le_of_ble_eq_true rfl, Nat.le_of_ble_eq_true rfl⟩) ⟨pwB, va_recv hK hPc_6 (ci := 1) (q0 := 0) rfl rfl, fun U hU hW => ⟨rfl, PW.of hU hW hKW hPc_6 hDc_7⟩⟩ rfl rfl hl.1 rfl (lv_room (Nat.le_of_ble_eq_true rfl)) dX4_read_11 ⟨by decide +kernel, by decide +kernel⟩) hS (fun q _ h => hFc_8 q h) hFc_8 (fun u t H1 locs ht hvm hw_9 hB hz1 hk1 hS => ?_)
  obtain ⟨hP1, hD1⟩ := hB
  rw [ht] at hP1
  obtain ⟨hP, hD⟩ := va_join (wr := [(r0, .inr (4, [.ref rs, .ref rd, .ref ru, .int 0, .int 0, .ref rn, .ref rp, .int 0, .int 0, .int 0])), (ru, .inr (2, [.int ru_v0, .ref ru_a1, .ref ru_a2, .int ru_v3, .ref ru_a4, .ref ru_a5])), (tp, .inr (8, [.ref bt, .int 0])), (rs, .inr (6, [.int 6, .int 6, .int 0, .int 0, .int 4, .ref rs_a5, .int 0, .ref rs_a7, .ref rs_a8, .ref rs_a9, .int 0, .ref rs_a11, .ref rs_a12, .ref rs_a13, .int 0])), (rs_a5, .inl (cy 0, 12, .inl f_5))]) (w1 := [(rd, .inr (1, [.int 0, .ref rd_a1, .ref rd_a2]))]) hP hD [1] [0, 2, 3, 4, 5] rfl rfl (by decide) (by decide) hk1 hFc_8 hP1 hD1
  generalize H1 = H at hP hS ⊢
  have hP : va_P D vwCl [(r0, .inr (4, [.ref rs, .ref rd, .ref ru, .int 0, .int 0, .ref rn, .ref rp, .int 0, .int 0, .int 0])), (ru, .inr (2, [.int ru_v0, .ref ru_a1, .ref ru_a2, .int ru_v3, .ref ru_a4, .ref ru_a5])), (tp, .inr (8, [.ref bt, .int 0])), (rs, .inr (6, [.int 6, .int 6, .int 0, .int 0, .int 4, .ref rs_a5, .int 0, .ref rs_a7, .ref rs_a8, .ref rs_a9, .int 0, .ref rs_a11, .ref rs_a12, .ref rs_a13, .int 0])), (rs_a5, .inl (cy 0, 12, .inl f_5)), (rd, .inr (1, [.int 0, .ref rd_a1, .ref rd_a2]))] H := hP
  have hD : va_D A [(r0, .inr (4, [.ref rs, .ref rd, .ref ru, .int 0, .int 0, .ref rn, .ref rp, .int 0, .int 0, .int 0])), (ru, .inr (2, [.int ru_v0, .ref ru_a1, .ref ru_a2, .int ru_v3, .ref ru_a4, .ref ru_a5])), (tp, .inr (8, [.ref bt, .int 0])), (rs, .inr (6, [.int 6, .int 6, .int 0, .int 0, .int 4, .ref rs_a5, .int 0, .ref rs_a7, .ref rs_a8, .ref rs_a9, .int 0, .ref rs_a11, .ref rs_a12, .ref rs_a13, .int 0])), (rs_a5, .inl (cy 0, 12, .inl f_5)), (rd, .inr (1, [.int 0, .ref rd_a1, .ref rd_a2]))] := hD
  refine lv_aload_n hx hb dX4_read_14 rfl (lv_at hl 0 rfl) ?_
  refine va_get (D := D) (ci := 4) (v := .ref ru) (C := RX4) (T := TX4) (N := 10) hx hb hts in_4 hown hK hP 0 rfl rfl 2 (by decide) fl_28 (fun _ h9 => h9) rfl dX4_read_15 ?_
  have hPc_10 := hP.sub (ws' := [(ru, .inr (2, [.int ru_v0, .ref ru_a1, .ref ru_a2, .int ru_v3, .ref ru_a4, .ref ru_a5]))]) [1] rfl
  have hDc_11 := hD.sub (ws' := [(ru, .inr (2, [.int ru_v0, .ref ru_a1, .ref ru_a2, .int ru_v3, .ref ru_a4, .ref ru_a5]))]) [1] (by decide) rfl
  have hFc_12 := va_free (wc := [(ru, .inr (2, [.int ru_v0, .ref ru_a1, .ref ru_a2, .int ru_v3, .ref ru_a4, .ref ru_a5]))]) hD hS hA [1] rfl
  refine va_callv (va_runV (As := []) (rest := []) ⟨hx, hb, hml, hown, hts⟩ (c_X2_clear l D cy ru ru_v0 ru_a1 ru_a2 ru_v3 ru_a4 ru_a5 H.size) (cwV 0 hts gX4_read_X2_clear rfl rfl rfl (by decide +kernel) ⟨Nat.le_of_ble_eq_true rfl, Nat.le_of_ble_eq_true rfl⟩) ⟨pwB, va_recv hK hPc_10 (ci := 2) (q0 := 0) rfl rfl, fun U hU hW => ⟨rfl, PW.of hU hW hKW hPc_10 hDc_11⟩⟩ rfl rfl hl.1 rfl (lv_room (Nat.le_of_ble_eq_true rfl)) dX4_read_18 ⟨by decide +kernel, by decide +kernel⟩) hS (fun q _ h => hFc_12 q h) hFc_12 (fun u t H1 locs ht hvm hw_13 hB hz1 hk1 hS => ?_)
  obtain ⟨hP1, hD1⟩ := hB
  rw [ht] at hP1
  obtain ⟨hP, hD⟩ := va_join (wr := [(r0, .inr (4, [.ref rs, .ref rd, .ref ru, .int 0, .int 0, .ref rn, .ref rp, .int 0, .int 0, .int 0])), (tp, .inr (8, [.ref bt, .int 0])), (rs, .inr (6, [.int 6, .int 6, .int 0, .int 0, .int 4, .ref rs_a5, .int 0, .ref rs_a7, .ref rs_a8, .ref rs_a9, .int 0, .ref rs_a11, .ref rs_a12, .ref rs_a13, .int 0])), (rs_a5, .inl (cy 0, 12, .inl f_5)), (rd, .inr (1, [.int 0, .ref rd_a1, .ref rd_a2]))]) (w1 := [(ru, .inr (2, [.int 0, .ref ru_a1, .ref ru_a2, .int 0, .ref ru_a4, .ref ru_a5]))]) hP hD [1] [0, 2, 3, 4, 5] rfl rfl (by decide) (by decide) hk1 hFc_12 hP1 hD1
  generalize H1 = H at hP hS ⊢
  have hP : va_P D vwCl [(r0, .inr (4, [.ref rs, .ref rd, .ref ru, .int 0, .int 0, .ref rn, .ref rp, .int 0, .int 0, .int 0])), (tp, .inr (8, [.ref bt, .int 0])), (rs, .inr (6, [.int 6, .int 6, .int 0, .int 0, .int 4, .ref rs_a5, .int 0, .ref rs_a7, .ref rs_a8, .ref rs_a9, .int 0, .ref rs_a11, .ref rs_a12, .ref rs_a13, .int 0])), (rs_a5, .inl (cy 0, 12, .inl f_5)), (rd, .inr (1, [.int 0, .ref rd_a1, .ref rd_a2])), (ru, .inr (2, [.int 0, .ref ru_a1, .ref ru_a2, .int 0, .ref ru_a4, .ref ru_a5]))] H := hP
  have hD : va_D A [(r0, .inr (4, [.ref rs, .ref rd, .ref ru, .int 0, .int 0, .ref rn, .ref rp, .int 0, .int 0, .int 0])), (tp, .inr (8, [.ref bt, .int 0])), (rs, .inr (6, [.int 6, .int 6, .int 0, .int 0, .int 4, .ref rs_a5, .int 0, .ref rs_a7, .ref rs_a8, .ref rs_a9, .int 0, .ref rs_a11, .ref rs_a12, .ref rs_a13, .int 0])), (rs_a5, .inl (cy 0, 12, .inl f_5)), (rd, .inr (1, [.int 0, .ref rd_a1, .ref rd_a2])), (ru, .inr (2, [.int 0, .ref ru_a1, .ref ru_a2, .int 0, .ref ru_a4, .ref ru_a5]))] := hD
  refine lv_aload_n hx hb dX4_read_21 rfl (lv_at hl 0 rfl) ?_
  refine lv_iconst (v := 0) hx hb dX4_read_22 (by decide +kernel) ?_
  refine va_put (D := D) (ci := 4) (v := .int 0) (ty := .int) (C := RX4) (T := TX4) (N := 10) hx hb hts in_4 tyX4 tyX4_ok nmX4 hown hK hP hD hS 0 rfl rfl 3 (by decide) fl_44 (fun _ h9 => h9) rfl (by decide +kernel) rfl rfl (Nat.le_of_ble_eq_true rfl) dX4_read_23 (fun H locs hP hD hS => ?_)
  have hP : va_P D vwCl [(r0, .inr (4, [.ref rs, .ref rd, .ref ru, .int 0, .int 0, .ref rn, .ref rp, .int 0, .int 0, .int 0])), (tp, .inr (8, [.ref bt, .int 0])), (rs, .inr (6, [.int 6, .int 6, .int 0, .int 0, .int 4, .ref rs_a5, .int 0, .ref rs_a7, .ref rs_a8, .ref rs_a9, .int 0, .ref rs_a11, .ref rs_a12, .ref rs_a13, .int 0])), (rs_a5, .inl (cy 0, 12, .inl f_5)), (rd, .inr (1, [.int 0, .ref rd_a1, .ref rd_a2])), (ru, .inr (2, [.int 0, .ref ru_a1, .ref ru_a2, .int 0, .ref ru_a4, .ref ru_a5]))] H := hP
  have hD : va_D A [(r0, .inr (4, [.ref rs, .ref rd, .ref ru, .int 0, .int 0, .ref rn, .ref rp, .int 0, .int 0, .int 0])), (tp, .inr (8, [.ref bt, .int 0])), (rs, .inr (6, [.int 6, .int 6, .int 0, .int 0, .int 4, .ref rs_a5, .int 0, .ref rs_a7, .ref rs_a8, .ref rs_a9, .int 0, .ref rs_a11, .ref rs_a12, .ref rs_a13, .int 0])), (rs_a5, .inl (cy 0, 12, .inl f_5)), (rd, .inr (1, [.int 0, .ref rd_a1, .ref rd_a2])), (ru, .inr (2, [.int 0, .ref ru_a1, .ref ru_a2, .int 0, .ref ru_a4, .ref ru_a5]))] := hD
  refine lv_aload_n hx hb dX4_read_26 rfl (lv_at hl 0 rfl) ?_
  refine lv_iconst (v := (-1)) hx hb dX4_read_27 (by decide +kernel) ?_
  refine va_put (D := D) (ci := 4) (v := .int (-1)) (ty := .int) (C := RX4) (T := TX4) (N := 10) hx hb hts in_4 tyX4 tyX4_ok nmX4 hown hK hP hD hS 0 rfl rfl 4 (by decide) fl_48 (fun _ h9 => h9) rfl (by decide +kernel) rfl rfl (Nat.le_of_ble_eq_true rfl) dX4_read_28 (fun H locs hP hD hS => ?_)
  have hP : va_P D vwCl [(r0, .inr (4, [.ref rs, .ref rd, .ref ru, .int 0, .int (-1), .ref rn, .ref rp, .int 0, .int 0, .int 0])), (tp, .inr (8, [.ref bt, .int 0])), (rs, .inr (6, [.int 6, .int 6, .int 0, .int 0, .int 4, .ref rs_a5, .int 0, .ref rs_a7, .ref rs_a8, .ref rs_a9, .int 0, .ref rs_a11, .ref rs_a12, .ref rs_a13, .int 0])), (rs_a5, .inl (cy 0, 12, .inl f_5)), (rd, .inr (1, [.int 0, .ref rd_a1, .ref rd_a2])), (ru, .inr (2, [.int 0, .ref ru_a1, .ref ru_a2, .int 0, .ref ru_a4, .ref ru_a5]))] H := hP
  have hD : va_D A [(r0, .inr (4, [.ref rs, .ref rd, .ref ru, .int 0, .int (-1), .ref rn, .ref rp, .int 0, .int 0, .int 0])), (tp, .inr (8, [.ref bt, .int 0])), (rs, .inr (6, [.int 6, .int 6, .int 0, .int 0, .int 4, .ref rs_a5, .int 0, .ref rs_a7, .ref rs_a8, .ref rs_a9, .int 0, .ref rs_a11, .ref rs_a12, .ref rs_a13, .int 0])), (rs_a5, .inl (cy 0, 12, .inl f_5)), (rd, .inr (1, [.int 0, .ref rd_a1, .ref rd_a2])), (ru, .inr (2, [.int 0, .ref ru_a1, .ref ru_a2, .int 0, .ref ru_a4, .ref ru_a5]))] := hD
  refine lv_aload_n hx hb dX4_read_31 rfl (lv_at hl 0 rfl) ?_
  refine lv_iconst (v := 0) hx hb dX4_read_32 (by decide +kernel) ?_
  refine va_put (D := D) (ci := 4) (v := .int 0) (ty := .int) (C := RX4) (T := TX4) (N := 10) hx hb hts in_4 tyX4 tyX4_ok nmX4 hown hK hP hD hS 0 rfl rfl 9 (by decide) fl_51 (fun _ h9 => h9) rfl (by decide +kernel) rfl rfl (Nat.le_of_ble_eq_true rfl) dX4_read_33 (fun H locs hP hD hS => ?_)
  have hP : va_P D vwCl [(r0, .inr (4, [.ref rs, .ref rd, .ref ru, .int 0, .int (-1), .ref rn, .ref rp, .int 0, .int 0, .int 0])), (tp, .inr (8, [.ref bt, .int 0])), (rs, .inr (6, [.int 6, .int 6, .int 0, .int 0, .int 4, .ref rs_a5, .int 0, .ref rs_a7, .ref rs_a8, .ref rs_a9, .int 0, .ref rs_a11, .ref rs_a12, .ref rs_a13, .int 0])), (rs_a5, .inl (cy 0, 12, .inl f_5)), (rd, .inr (1, [.int 0, .ref rd_a1, .ref rd_a2])), (ru, .inr (2, [.int 0, .ref ru_a1, .ref ru_a2, .int 0, .ref ru_a4, .ref ru_a5]))] H := hP
  have hD : va_D A [(r0, .inr (4, [.ref rs, .ref rd, .ref ru, .int 0, .int (-1), .ref rn, .ref rp, .int 0, .int 0, .int 0])), (tp, .inr (8, [.ref bt, .int 0])), (rs, .inr (6, [.int 6, .int 6, .int 0, .int 0, .int 4, .ref rs_a5, .int 0, .ref rs_a7, .ref rs_a8, .ref rs_a9, .int 0, .ref rs_a11, .ref rs_a12, .ref rs_a13, .int 0])), (rs_a5, .inl (cy 0, 12, .inl f_5)), (rd, .inr (1, [.int 0, .ref rd_a1, .ref rd_a2])), (ru, .inr (2, [.int 0, .ref ru_a1, .ref ru_a2, .int 0, .ref ru_a4, .ref ru_a5]))] := hD
  refine lv_iconst (v := 1) hx hb dX4_read_36 (by decide +kernel) ?_
  refine lv_istore_n (lv' := [(3, .int 1), (0, .ref r0), (1, .ref tp), (2, .int 1)]) hx hb dX4_read_37 rfl hl (by decide) rfl (fun ls hl => ?_)
  refine lv_iconst (v := 0) hx hb dX4_read_38 (by decide +kernel) ?_
  refine lv_istore (lv' := [(4, .int 0), (3, .int 1), (0, .ref r0), (1, .ref tp), (2, .int 1)]) hx hb dX4_read_39 hl (by decide) rfl (fun ls hl => ?_)
  refine lv_iload_n hx hb dX4_read_41 rfl (lv_at hl 1 rfl) ?_
  refine lv_if_eq (tgt := 66) hx hb dX4_read_42 (by decide) (fun c_14 => absurd c_14 (by decide +kernel)) (fun _ => ?_)
  refine lv_iload hx hb dX4_read_45 (lv_at hl 0 rfl) ?_
  refine lv_sipush (v := 600) hx hb dX4_read_47 (by decide +kernel) ?_
  refine lv_icmp_gt (tgt := 66) hx hb dX4_read_50 (by decide) (fun c_15 => absurd c_15 (by decide +kernel)) (fun _ => ?_)
  refine lv_aload_n hx hb dX4_read_53 rfl (lv_at hl 2 rfl) ?_
  refine lv_aload_n hx hb dX4_read_54 rfl (lv_at hl 3 rfl) ?_
  refine lv_iload_n hx hb dX4_read_55 rfl (lv_at hl 4 rfl) ?_
  have hPc_16 := hP.sub (ws' := [(r0, .inr (4, [.ref rs, .ref rd, .ref ru, .int 0, .int (-1), .ref rn, .ref rp, .int 0, .int 0, .int 0])), (tp, .inr (8, [.ref bt, .int 0]))]) [0, 1] rfl
  have hDc_17 := hD.sub (ws' := [(r0, .inr (4, [.ref rs, .ref rd, .ref ru, .int 0, .int (-1), .ref rn, .ref rp, .int 0, .int 0, .int 0])), (tp, .inr (8, [.ref bt, .int 0]))]) [0, 1] (by decide) rfl
  have hFc_18 := va_free (wc := [(r0, .inr (4, [.ref rs, .ref rd, .ref ru, .int 0, .int (-1), .ref rn, .ref rp, .int 0, .int 0, .int 0])), (tp, .inr (8, [.ref bt, .int 0]))]) hD hS hA [0, 1] rfl
  refine va_calli (va_runV (As := [.ref tp, .int 1]) (rest := []) ⟨hx, hb, hml, hown, hts⟩ (c_X4_readLine l D cy r0 rs rd ru rn rp tp bt 1 H.size) (cwV 2 hts gX4_read_X4_readLine rfl rfl rfl (by decide +kernel) ⟨Nat.le_of_ble_eq_true rfl, Nat.le_of_ble_eq_true rfl⟩) ⟨pwB, va_recv hK hPc_16 (ci := 4) (q0 := 0) rfl rfl, fun U hU hW => ⟨rfl, PW.of hU hW hKW hPc_16 hDc_17⟩⟩ rfl rfl hl.1 rfl (lv_room (Nat.le_of_ble_eq_true rfl)) dX4_read_56 ⟨by decide +kernel, by decide +kernel⟩) hS (fun q _ h => hFc_18 q h) hFc_18 (fun r_20 u t H1 locs ht hvm hw_19 hB hz1 hk1 hS => ?_)
  subst hw_19
  obtain ⟨hP1, hD1⟩ := hB
  rw [ht] at hP1
  obtain ⟨hP, hD⟩ := va_join (wr := [(rs, .inr (6, [.int 6, .int 6, .int 0, .int 0, .int 4, .ref rs_a5, .int 0, .ref rs_a7, .ref rs_a8, .ref rs_a9, .int 0, .ref rs_a11, .ref rs_a12, .ref rs_a13, .int 0])), (rs_a5, .inl (cy 0, 12, .inl f_5)), (rd, .inr (1, [.int 0, .ref rd_a1, .ref rd_a2])), (ru, .inr (2, [.int 0, .ref ru_a1, .ref ru_a2, .int 0, .ref ru_a4, .ref ru_a5]))]) (w1 := [(r0, .inr (4, [.ref rs, .ref rd, .ref ru, .int 0, .int (-1), .ref rn, .ref rp, .int 0, .int 0, .int 0])), (tp, .inr (8, [.ref bt, .int 0]))]) hP hD [0, 1] [2, 3, 4, 5] rfl rfl (by decide) (by decide) hk1 hFc_18 hP1 hD1
  generalize H1 = H at hP hS ⊢
  have hP : va_P D vwCl [(rs, .inr (6, [.int 6, .int 6, .int 0, .int 0, .int 4, .ref rs_a5, .int 0, .ref rs_a7, .ref rs_a8, .ref rs_a9, .int 0, .ref rs_a11, .ref rs_a12, .ref rs_a13, .int 0])), (rs_a5, .inl (cy 0, 12, .inl f_5)), (rd, .inr (1, [.int 0, .ref rd_a1, .ref rd_a2])), (ru, .inr (2, [.int 0, .ref ru_a1, .ref ru_a2, .int 0, .ref ru_a4, .ref ru_a5])), (r0, .inr (4, [.ref rs, .ref rd, .ref ru, .int 0, .int (-1), .ref rn, .ref rp, .int 0, .int 0, .int 0])), (tp, .inr (8, [.ref bt, .int 0]))] H := hP
  have hD : va_D A [(rs, .inr (6, [.int 6, .int 6, .int 0, .int 0, .int 4, .ref rs_a5, .int 0, .ref rs_a7, .ref rs_a8, .ref rs_a9, .int 0, .ref rs_a11, .ref rs_a12, .ref rs_a13, .int 0])), (rs_a5, .inl (cy 0, 12, .inl f_5)), (rd, .inr (1, [.int 0, .ref rd_a1, .ref rd_a2])), (ru, .inr (2, [.int 0, .ref ru_a1, .ref ru_a2, .int 0, .ref ru_a4, .ref ru_a5])), (r0, .inr (4, [.ref rs, .ref rd, .ref ru, .int 0, .int (-1), .ref rn, .ref rp, .int 0, .int 0, .int 0])), (tp, .inr (8, [.ref bt, .int 0]))] := hD
  refine lv_istore_n (lv' := [(3, .int 0), (4, .int 0), (0, .ref r0), (1, .ref tp), (2, .int 1)]) hx hb dX4_read_59 rfl hl (by decide) rfl (fun ls hl => ?_)
  refine lv_iinc (v := 1) (lv' := [(4, .int 1), (3, .int 0), (0, .ref r0), (1, .ref tp), (2, .int 1)]) hx hb dX4_read_60 hl (k := 1) rfl (by decide) (by decide) rfl (fun ls hl => ?_)
  refine lv_goto (tgt := 41) hx hb dX4_read_63 (by decide) ?_
  refine lv_iload_n hx hb dX4_read_41 rfl (lv_at hl 1 rfl) ?_
  refine lv_if_eq (tgt := 66) hx hb dX4_read_42 (by decide) (fun _ => ?_) (fun c_21 => absurd (by decide +kernel) c_21)
  refine lv_iload_n hx hb dX4_read_66 rfl (lv_at hl 4 rfl) ?_
  refine lv_if_ne (tgt := 80) hx hb dX4_read_67 (by decide) (fun _ => ?_) (fun c_22 => absurd c_22 (by decide +kernel))
  refine lv_iload_n hx hb dX4_read_80 rfl (lv_at hl 4 rfl) ?_
  refine lv_iconst (v := 1) hx hb dX4_read_81 (by decide +kernel) ?_
  refine lv_icmp_eq (tgt := 95) hx hb dX4_read_82 (by decide) (fun _ => ?_) (fun c_23 => absurd (by decide +kernel) c_23)
  refine lv_iconst (v := 1) hx hb dX4_read_95 (by decide +kernel) ?_
  refine lv_goto (tgt := 100) hx hb dX4_read_96 (by decide) ?_
  refine lv_istore (lv' := [(4, .int 1), (3, .int 0), (0, .ref r0), (1, .ref tp), (2, .int 1)]) hx hb dX4_read_100 hl (by decide) rfl (fun ls hl => ?_)
  refine lv_iload hx hb dX4_read_102 (lv_at hl 0 rfl) ?_
  refine lv_if_ne (tgt := 116) hx hb dX4_read_104 (by decide) (fun _ => ?_) (fun c_24 => absurd c_24 (by decide +kernel))
  have hP9 := hP.sub (ws' := [(rs, .inr (6, [.int 6, .int 6, .int 0, .int 0, .int 4, .ref rs_a5, .int 0, .ref rs_a7, .ref rs_a8, .ref rs_a9, .int 0, .ref rs_a11, .ref rs_a12, .ref rs_a13, .int 0])), (rs_a5, .inl (cy 0, 12, .inl f_5)), (rd, .inr (1, [.int 0, .ref rd_a1, .ref rd_a2])), (ru, .inr (2, [.int 0, .ref ru_a1, .ref ru_a2, .int 0, .ref ru_a4, .ref ru_a5])), (r0, .inr (4, [.ref rs, .ref rd, .ref ru, .int 0, .int (-1), .ref rn, .ref rp, .int 0, .int 0, .int 0])), (tp, .inr (8, [.ref bt, .int 0]))]) [0, 1, 2, 3, 4, 5] rfl
  have hD9 := hD.sub (ws' := [(rs, .inr (6, [.int 6, .int 6, .int 0, .int 0, .int 4, .ref rs_a5, .int 0, .ref rs_a7, .ref rs_a8, .ref rs_a9, .int 0, .ref rs_a11, .ref rs_a12, .ref rs_a13, .int 0])), (rs_a5, .inl (cy 0, 12, .inl f_5)), (rd, .inr (1, [.int 0, .ref rd_a1, .ref rd_a2])), (ru, .inr (2, [.int 0, .ref ru_a1, .ref ru_a2, .int 0, .ref ru_a4, .ref ru_a5])), (r0, .inr (4, [.ref rs, .ref rd, .ref ru, .int 0, .int (-1), .ref rn, .ref rp, .int 0, .int 0, .int 0])), (tp, .inr (8, [.ref bt, .int 0]))]) [0, 1, 2, 3, 4, 5] (by decide) rfl
  exact W.vret hx hb hr (fun t ht hW => ⟨⟨(), rfl, trivial, f_5, by rw [ht]; exact hP9, hD9⟩, hS.F ht⟩) hS.2.2 dX4_read_116
set_option maxHeartbeats 4000000 in
set_option maxRecDepth 100000 in
theorem c_X4_read_2 (l : Launch) (D : va_G) (cy : Nat → ClassId) (r0 : Nat) (rn : Nat) (rp : Nat) (rs : Nat) (rs_v0 : Int32) (rs_v1 : Int32) (rs_v2 : Int32) (rs_v3 : Int32) (rs_v4 : Int32) (rs_a5 : Nat) (rs_f5 : Nat → Int32) (rs_v6 : Int32) (rs_a7 : Nat) (rs_a8 : Nat) (rs_a9 : Nat) (rs_v10 : Int32) (rs_a11 : Nat) (rs_a12 : Nat) (rs_a13 : Nat) (rs_v14 : Int32) (rd : Nat) (rd_v0 : Int32) (rd_a1 : Nat) (rd_a2 : Nat) (ru : Nat) (ru_v0 : Int32) (ru_a1 : Nat) (ru_a2 : Nat) (ru_v3 : Int32) (ru_a4 : Nat) (ru_a5 : Nat) (tp : Nat) (bt : Nat) (sz : Nat)  : Met l yX4_read wsX4_read ({ frames := 3, cells := 0, slots := 0, locals := 69 } : Room) (va_Pc [.ref r0, .ref tp, .int 2] (PW D cy [(r0, .inr (4, [.ref rs, .ref rd, .ref ru, .int 0, .int 0, .ref rn, .ref rp, .int 0, .int 0, .int 0])), (rs, .inr (6, [.int rs_v0, .int rs_v1, .int rs_v2, .int rs_v3, .int rs_v4, .ref rs_a5, .int rs_v6, .ref rs_a7, .ref rs_a8, .ref rs_a9, .int rs_v10, .ref rs_a11, .ref rs_a12, .ref rs_a13, .int rs_v14])), (rs_a5, .inl (cy 0, 12, .inl rs_f5)), (rd, .inr (1, [.int rd_v0, .ref rd_a1, .ref rd_a2])), (ru, .inr (2, [.int ru_v0, .ref ru_a1, .ref ru_a2, .int ru_v3, .ref ru_a4, .ref ru_a5])), (tp, .inr (8, [.ref bt, .int 0]))] sz)) (va_Qv (fun _ : Unit => True) (fun _ t => ∃ (f_5 : Nat → Int32), va_P D vwCl [(rs, .inr (6, [.int 6, .int 6, .int 0, .int 0, .int 4, .ref rs_a5, .int 0, .ref rs_a7, .ref rs_a8, .ref rs_a9, .int 0, .ref rs_a11, .ref rs_a12, .ref rs_a13, .int 0])), (rs_a5, .inl (cy 0, 12, .inl f_5)), (rd, .inr (1, [.int 0, .ref rd_a1, .ref rd_a2])), (ru, .inr (2, [.int 0, .ref ru_a1, .ref ru_a2, .int 0, .ref ru_a4, .ref ru_a5])), (tp, .inr (8, [.ref bt, .int 0])), (r0, .inr (4, [.ref rs, .ref rd, .ref ru, .int 4, .int 0, .ref rn, .ref rp, .int 0, .int 0, .int 0]))] t.heap ∧ va_D (va_A [(r0, .inr (4, [.ref rs, .ref rd, .ref ru, .int 0, .int 0, .ref rn, .ref rp, .int 0, .int 0, .int 0])), (rs, .inr (6, [.int rs_v0, .int rs_v1, .int rs_v2, .int rs_v3, .int rs_v4, .ref rs_a5, .int rs_v6, .ref rs_a7, .ref rs_a8, .ref rs_a9, .int rs_v10, .ref rs_a11, .ref rs_a12, .ref rs_a13, .int rs_v14])), (rs_a5, .inl (cy 0, 12, .inl rs_f5)), (rd, .inr (1, [.int rd_v0, .ref rd_a1, .ref rd_a2])), (ru, .inr (2, [.int ru_v0, .ref ru_a1, .ref ru_a2, .int ru_v3, .ref ru_a4, .ref ru_a5])), (tp, .inr (8, [.ref bt, .int 0]))] sz) [(rs, .inr (6, [.int 6, .int 6, .int 0, .int 0, .int 4, .ref rs_a5, .int 0, .ref rs_a7, .ref rs_a8, .ref rs_a9, .int 0, .ref rs_a11, .ref rs_a12, .ref rs_a13, .int 0])), (rs_a5, .inl (cy 0, 12, .inl f_5)), (rd, .inr (1, [.int 0, .ref rd_a1, .ref rd_a2])), (ru, .inr (2, [.int 0, .ref ru_a1, .ref ru_a2, .int 0, .ref ru_a4, .ref ru_a5])), (tp, .inr (8, [.ref bt, .int 0])), (r0, .inr (4, [.ref rs, .ref rd, .ref ru, .int 4, .int 0, .ref rn, .ref rp, .int 0, .int 0, .int 0]))]) (va_A [(r0, .inr (4, [.ref rs, .ref rd, .ref ru, .int 0, .int 0, .ref rn, .ref rp, .int 0, .int 0, .int 0])), (rs, .inr (6, [.int rs_v0, .int rs_v1, .int rs_v2, .int rs_v3, .int rs_v4, .ref rs_a5, .int rs_v6, .ref rs_a7, .ref rs_a8, .ref rs_a9, .int rs_v10, .ref rs_a11, .ref rs_a12, .ref rs_a13, .int rs_v14])), (rs_a5, .inl (cy 0, 12, .inl rs_f5)), (rd, .inr (1, [.int rd_v0, .ref rd_a1, .ref rd_a2])), (ru, .inr (2, [.int ru_v0, .ref ru_a1, .ref ru_a2, .int ru_v3, .ref ru_a4, .ref ru_a5])), (tp, .inr (8, [.ref bt, .int 0]))] sz)) 0 0 (va_A [(r0, .inr (4, [.ref rs, .ref rd, .ref ru, .int 0, .int 0, .ref rn, .ref rp, .int 0, .int 0, .int 0])), (rs, .inr (6, [.int rs_v0, .int rs_v1, .int rs_v2, .int rs_v3, .int rs_v4, .ref rs_a5, .int rs_v6, .ref rs_a7, .ref rs_a8, .ref rs_a9, .int rs_v10, .ref rs_a11, .ref rs_a12, .ref rs_a13, .int rs_v14])), (rs_a5, .inl (cy 0, 12, .inl rs_f5)), (rd, .inr (1, [.int rd_v0, .ref rd_a1, .ref rd_a2])), (ru, .inr (2, [.int ru_v0, .ref ru_a1, .ref ru_a2, .int ru_v3, .ref ru_a4, .ref ru_a5])), (tp, .inr (8, [.ref bt, .int 0]))] sz) := by
  refine Met.ofW (cc := cX4_read) (maxL := 5) (ret := none) (by decide) rfl ?_
  intro p e s m args below meth c s₁ B hml hv
  obtain ⟨rfl, hsz, hP, hKW, hD0⟩ := hv
  have hK := hKW.1
  have hx := B.exec
  have hb := B.bytes
  have hr := B.returns
  have hts := atoms_spec (ws := wsX4_read) B.pre
  have hown : s.vm.findClass RX4 = some m.cls := findClass_of_methodNamed B.named
  have hlocks := B.notSynchronized
  have in_4 : ∀ w ∈ u_ws RX4 TX4 10, w ∈ wsX4_read := by decide +kernel
  have in_8 : ∀ w ∈ u_ws RX8 TX8 2, w ∈ wsX4_read := by decide +kernel
  have fl_12 := hts (.fieldLink RX4 12 "ShoalClaims$Reader" "sea" "LShoalClaims$Sea;") (by decide +kernel)
  have fl_21 := hts (.fieldLink RX4 21 "ShoalClaims$Reader" "day" "LShoalClaims$Day;") (by decide +kernel)
  have fl_28 := hts (.fieldLink RX4 28 "ShoalClaims$Reader" "dispute" "LShoalClaims$Dispute;") (by decide +kernel)
  have fl_44 := hts (.fieldLink RX4 44 "ShoalClaims$Reader" "fault" "I") (by decide +kernel)
  have fl_48 := hts (.fieldLink RX4 48 "ShoalClaims$Reader" "place" "I") (by decide +kernel)
  have fl_51 := hts (.fieldLink RX4 51 "ShoalClaims$Reader" "tokenEnd" "I") (by decide +kernel)
  have fl_63 := hts (.fieldLink RX4 63 "ShoalClaims$Tape" "length" "I") (by decide +kernel)
  subst hsz
  have hD := hD0.self (sz := s.heap.size)
  generalize hAe : va_A [(r0, .inr (4, [.ref rs, .ref rd, .ref ru, .int 0, .int 0, .ref rn, .ref rp, .int 0, .int 0, .int 0])), (rs, .inr (6, [.int rs_v0, .int rs_v1, .int rs_v2, .int rs_v3, .int rs_v4, .ref rs_a5, .int rs_v6, .ref rs_a7, .ref rs_a8, .ref rs_a9, .int rs_v10, .ref rs_a11, .ref rs_a12, .ref rs_a13, .int rs_v14])), (rs_a5, .inl (cy 0, 12, .inl rs_f5)), (rd, .inr (1, [.int rd_v0, .ref rd_a1, .ref rd_a2])), (ru, .inr (2, [.int ru_v0, .ref ru_a1, .ref ru_a2, .int ru_v3, .ref ru_a4, .ref ru_a5])), (tp, .inr (8, [.ref bt, .int 0]))] s.heap.size = A at hD ⊢
  have hA : ∀ q : Nat, s.heap.size ≤ q → A q := fun q h => by rw [← hAe]; exact Or.inr h
  have hS : va_S A s.heap s.heap [] := va_S.rf
  have hP : va_P D vwCl [(r0, .inr (4, [.ref rs, .ref rd, .ref ru, .int 0, .int 0, .ref rn, .ref rp, .int 0, .int 0, .int 0])), (rs, .inr (6, [.int rs_v0, .int rs_v1, .int rs_v2, .int rs_v3, .int rs_v4, .ref rs_a5, .int rs_v6, .ref rs_a7, .ref rs_a8, .ref rs_a9, .int rs_v10, .ref rs_a11, .ref rs_a12, .ref rs_a13, .int rs_v14])), (rs_a5, .inl (cy 0, 12, .inl rs_f5)), (rd, .inr (1, [.int rd_v0, .ref rd_a1, .ref rd_a2])), (ru, .inr (2, [.int ru_v0, .ref ru_a1, .ref ru_a2, .int ru_v3, .ref ru_a4, .ref ru_a5])), (tp, .inr (8, [.ref bt, .int 0]))] s.heap := hP
  have hl := lv_entry ([.ref r0, .ref tp, .int 2]) (n := 5) (Nat.le_of_ble_eq_true rfl)
  rw [lg_entry_eq]
  generalize (lg_sl ([.ref r0, .ref tp, .int 2]) ++ List.replicate (5 - (lg_sl ([.ref r0, .ref tp, .int 2])).length) Slot.unset).toArray = ls at hl ⊢
  have hl : lv_has ls 5 [(0, .ref r0), (1, .ref tp), (2, .int 2)] := hl
  refine lv_aload_n hx hb dX4_read_0 rfl (lv_at hl 0 rfl) ?_
  refine va_get (D := D) (ci := 4) (v := .ref rs) (C := RX4) (T := TX4) (N := 10) hx hb hts in_4 hown hK hP 0 rfl rfl 0 (by decide) fl_12 (fun _ h9 => h9) rfl dX4_read_1 ?_
  have hPc_1 := hP.sub (ws' := [(rs, .inr (6, [.int rs_v0, .int rs_v1, .int rs_v2, .int rs_v3, .int rs_v4, .ref rs_a5, .int rs_v6, .ref rs_a7, .ref rs_a8, .ref rs_a9, .int rs_v10, .ref rs_a11, .ref rs_a12, .ref rs_a13, .int rs_v14])), (rs_a5, .inl (cy 0, 12, .inl rs_f5))]) [1, 2] rfl
  have hDc_2 := hD.sub (ws' := [(rs, .inr (6, [.int rs_v0, .int rs_v1, .int rs_v2, .int rs_v3, .int rs_v4, .ref rs_a5, .int rs_v6, .ref rs_a7, .ref rs_a8, .ref rs_a9, .int rs_v10, .ref rs_a11, .ref rs_a12, .ref rs_a13, .int rs_v14])), (rs_a5, .inl (cy 0, 12, .inl rs_f5))]) [1, 2] (by decide) rfl
  have hFc_3 := va_free (wc := [(rs, .inr (6, [.int rs_v0, .int rs_v1, .int rs_v2, .int rs_v3, .int rs_v4, .ref rs_a5, .int rs_v6, .ref rs_a7, .ref rs_a8, .ref rs_a9, .int rs_v10, .ref rs_a11, .ref rs_a12, .ref rs_a13, .int rs_v14])), (rs_a5, .inl (cy 0, 12, .inl rs_f5))]) hD hS hA [1, 2] rfl
  refine va_callv (va_runV (As := []) (rest := []) ⟨hx, hb, hml, hown, hts⟩ (c_X6_clear l D cy rs rs_v0 rs_v1 rs_v2 rs_v3 rs_v4 rs_a5 rs_f5 rs_v6 rs_a7 rs_a8 rs_a9 rs_v10 rs_a11 rs_a12 rs_a13 rs_v14 s.heap.size) (cwV 0 hts gX4_read_X6_clear rfl rfl rfl (by decide +kernel) ⟨Nat.le_of_ble_eq_true rfl, Nat.le_of_ble_eq_true rfl⟩) ⟨pwB, va_recv hK hPc_1 (ci := 6) (q0 := 0) rfl rfl, fun U hU hW => ⟨rfl, PW.of hU hW hKW hPc_1 hDc_2⟩⟩ rfl rfl hl.1 rfl (lv_room (Nat.le_of_ble_eq_true rfl)) dX4_read_4 ⟨by decide +kernel, by decide +kernel⟩) hS (fun q _ h => hFc_3 q h) hFc_3 (fun u t H1 locs ht hvm hw_4 hB hz1 hk1 hS => ?_)
  obtain ⟨f_5, hP1, hD1⟩ := hB
  rw [ht] at hP1
  obtain ⟨hP, hD⟩ := va_join (wr := [(r0, .inr (4, [.ref rs, .ref rd, .ref ru, .int 0, .int 0, .ref rn, .ref rp, .int 0, .int 0, .int 0])), (rd, .inr (1, [.int rd_v0, .ref rd_a1, .ref rd_a2])), (ru, .inr (2, [.int ru_v0, .ref ru_a1, .ref ru_a2, .int ru_v3, .ref ru_a4, .ref ru_a5])), (tp, .inr (8, [.ref bt, .int 0]))]) (w1 := [(rs, .inr (6, [.int 6, .int 6, .int 0, .int 0, .int 4, .ref rs_a5, .int 0, .ref rs_a7, .ref rs_a8, .ref rs_a9, .int 0, .ref rs_a11, .ref rs_a12, .ref rs_a13, .int 0])), (rs_a5, .inl (cy 0, 12, .inl f_5))]) hP hD [1, 2] [0, 3, 4, 5] rfl rfl (by decide) (by decide) hk1 hFc_3 hP1 hD1
  generalize H1 = H at hP hS ⊢
  have hP : va_P D vwCl [(r0, .inr (4, [.ref rs, .ref rd, .ref ru, .int 0, .int 0, .ref rn, .ref rp, .int 0, .int 0, .int 0])), (rd, .inr (1, [.int rd_v0, .ref rd_a1, .ref rd_a2])), (ru, .inr (2, [.int ru_v0, .ref ru_a1, .ref ru_a2, .int ru_v3, .ref ru_a4, .ref ru_a5])), (tp, .inr (8, [.ref bt, .int 0])), (rs, .inr (6, [.int 6, .int 6, .int 0, .int 0, .int 4, .ref rs_a5, .int 0, .ref rs_a7, .ref rs_a8, .ref rs_a9, .int 0, .ref rs_a11, .ref rs_a12, .ref rs_a13, .int 0])), (rs_a5, .inl (cy 0, 12, .inl f_5))] H := hP
  have hD : va_D A [(r0, .inr (4, [.ref rs, .ref rd, .ref ru, .int 0, .int 0, .ref rn, .ref rp, .int 0, .int 0, .int 0])), (rd, .inr (1, [.int rd_v0, .ref rd_a1, .ref rd_a2])), (ru, .inr (2, [.int ru_v0, .ref ru_a1, .ref ru_a2, .int ru_v3, .ref ru_a4, .ref ru_a5])), (tp, .inr (8, [.ref bt, .int 0])), (rs, .inr (6, [.int 6, .int 6, .int 0, .int 0, .int 4, .ref rs_a5, .int 0, .ref rs_a7, .ref rs_a8, .ref rs_a9, .int 0, .ref rs_a11, .ref rs_a12, .ref rs_a13, .int 0])), (rs_a5, .inl (cy 0, 12, .inl f_5))] := hD
  refine lv_aload_n hx hb dX4_read_7 rfl (lv_at hl 0 rfl) ?_
  refine va_get (D := D) (ci := 4) (v := .ref rd) (C := RX4) (T := TX4) (N := 10) hx hb hts in_4 hown hK hP 0 rfl rfl 1 (by decide) fl_21 (fun _ h9 => h9) rfl dX4_read_8 ?_
  have hPc_6 := hP.sub (ws' := [(rd, .inr (1, [.int rd_v0, .ref rd_a1, .ref rd_a2]))]) [1] rfl
  have hDc_7 := hD.sub (ws' := [(rd, .inr (1, [.int rd_v0, .ref rd_a1, .ref rd_a2]))]) [1] (by decide) rfl
  have hFc_8 := va_free (wc := [(rd, .inr (1, [.int rd_v0, .ref rd_a1, .ref rd_a2]))]) hD hS hA [1] rfl
  refine va_callv (va_runV (As := []) (rest := []) ⟨hx, hb, hml, hown, hts⟩ (c_X1_clear l D cy rd rd_v0 rd_a1 rd_a2 H.size) (cwV 0 hts gX4_read_X1_clear rfl rfl rfl (by decide +kernel) ⟨Nat.le_of_ble_eq_true rfl, Nat.le_of_ble_eq_true rfl⟩) ⟨pwB, va_recv hK hPc_6 (ci := 1) (q0 := 0) rfl rfl, fun U hU hW => ⟨rfl, PW.of hU hW hKW hPc_6 hDc_7⟩⟩ rfl rfl hl.1 rfl (lv_room (Nat.le_of_ble_eq_true rfl)) dX4_read_11 ⟨by decide +kernel, by decide +kernel⟩) hS (fun q _ h => hFc_8 q h) hFc_8 (fun u t H1 locs ht hvm hw_9 hB hz1 hk1 hS => ?_)
  obtain ⟨hP1, hD1⟩ := hB
  rw [ht] at hP1
  obtain ⟨hP, hD⟩ := va_join (wr := [(r0, .inr (4, [.ref rs, .ref rd, .ref ru, .int 0, .int 0, .ref rn, .ref rp, .int 0, .int 0, .int 0])), (ru, .inr (2, [.int ru_v0, .ref ru_a1, .ref ru_a2, .int ru_v3, .ref ru_a4, .ref ru_a5])), (tp, .inr (8, [.ref bt, .int 0])), (rs, .inr (6, [.int 6, .int 6, .int 0, .int 0, .int 4, .ref rs_a5, .int 0, .ref rs_a7, .ref rs_a8, .ref rs_a9, .int 0, .ref rs_a11, .ref rs_a12, .ref rs_a13, .int 0])), (rs_a5, .inl (cy 0, 12, .inl f_5))]) (w1 := [(rd, .inr (1, [.int 0, .ref rd_a1, .ref rd_a2]))]) hP hD [1] [0, 2, 3, 4, 5] rfl rfl (by decide) (by decide) hk1 hFc_8 hP1 hD1
  generalize H1 = H at hP hS ⊢
  have hP : va_P D vwCl [(r0, .inr (4, [.ref rs, .ref rd, .ref ru, .int 0, .int 0, .ref rn, .ref rp, .int 0, .int 0, .int 0])), (ru, .inr (2, [.int ru_v0, .ref ru_a1, .ref ru_a2, .int ru_v3, .ref ru_a4, .ref ru_a5])), (tp, .inr (8, [.ref bt, .int 0])), (rs, .inr (6, [.int 6, .int 6, .int 0, .int 0, .int 4, .ref rs_a5, .int 0, .ref rs_a7, .ref rs_a8, .ref rs_a9, .int 0, .ref rs_a11, .ref rs_a12, .ref rs_a13, .int 0])), (rs_a5, .inl (cy 0, 12, .inl f_5)), (rd, .inr (1, [.int 0, .ref rd_a1, .ref rd_a2]))] H := hP
  have hD : va_D A [(r0, .inr (4, [.ref rs, .ref rd, .ref ru, .int 0, .int 0, .ref rn, .ref rp, .int 0, .int 0, .int 0])), (ru, .inr (2, [.int ru_v0, .ref ru_a1, .ref ru_a2, .int ru_v3, .ref ru_a4, .ref ru_a5])), (tp, .inr (8, [.ref bt, .int 0])), (rs, .inr (6, [.int 6, .int 6, .int 0, .int 0, .int 4, .ref rs_a5, .int 0, .ref rs_a7, .ref rs_a8, .ref rs_a9, .int 0, .ref rs_a11, .ref rs_a12, .ref rs_a13, .int 0])), (rs_a5, .inl (cy 0, 12, .inl f_5)), (rd, .inr (1, [.int 0, .ref rd_a1, .ref rd_a2]))] := hD
  refine lv_aload_n hx hb dX4_read_14 rfl (lv_at hl 0 rfl) ?_
  refine va_get (D := D) (ci := 4) (v := .ref ru) (C := RX4) (T := TX4) (N := 10) hx hb hts in_4 hown hK hP 0 rfl rfl 2 (by decide) fl_28 (fun _ h9 => h9) rfl dX4_read_15 ?_
  have hPc_10 := hP.sub (ws' := [(ru, .inr (2, [.int ru_v0, .ref ru_a1, .ref ru_a2, .int ru_v3, .ref ru_a4, .ref ru_a5]))]) [1] rfl
  have hDc_11 := hD.sub (ws' := [(ru, .inr (2, [.int ru_v0, .ref ru_a1, .ref ru_a2, .int ru_v3, .ref ru_a4, .ref ru_a5]))]) [1] (by decide) rfl
  have hFc_12 := va_free (wc := [(ru, .inr (2, [.int ru_v0, .ref ru_a1, .ref ru_a2, .int ru_v3, .ref ru_a4, .ref ru_a5]))]) hD hS hA [1] rfl
  refine va_callv (va_runV (As := []) (rest := []) ⟨hx, hb, hml, hown, hts⟩ (c_X2_clear l D cy ru ru_v0 ru_a1 ru_a2 ru_v3 ru_a4 ru_a5 H.size) (cwV 0 hts gX4_read_X2_clear rfl rfl rfl (by decide +kernel) ⟨Nat.le_of_ble_eq_true rfl, Nat.le_of_ble_eq_true rfl⟩) ⟨pwB, va_recv hK hPc_10 (ci := 2) (q0 := 0) rfl rfl, fun U hU hW => ⟨rfl, PW.of hU hW hKW hPc_10 hDc_11⟩⟩ rfl rfl hl.1 rfl (lv_room (Nat.le_of_ble_eq_true rfl)) dX4_read_18 ⟨by decide +kernel, by decide +kernel⟩) hS (fun q _ h => hFc_12 q h) hFc_12 (fun u t H1 locs ht hvm hw_13 hB hz1 hk1 hS => ?_)
  obtain ⟨hP1, hD1⟩ := hB
  rw [ht] at hP1
  obtain ⟨hP, hD⟩ := va_join (wr := [(r0, .inr (4, [.ref rs, .ref rd, .ref ru, .int 0, .int 0, .ref rn, .ref rp, .int 0, .int 0, .int 0])), (tp, .inr (8, [.ref bt, .int 0])), (rs, .inr (6, [.int 6, .int 6, .int 0, .int 0, .int 4, .ref rs_a5, .int 0, .ref rs_a7, .ref rs_a8, .ref rs_a9, .int 0, .ref rs_a11, .ref rs_a12, .ref rs_a13, .int 0])), (rs_a5, .inl (cy 0, 12, .inl f_5)), (rd, .inr (1, [.int 0, .ref rd_a1, .ref rd_a2]))]) (w1 := [(ru, .inr (2, [.int 0, .ref ru_a1, .ref ru_a2, .int 0, .ref ru_a4, .ref ru_a5]))]) hP hD [1] [0, 2, 3, 4, 5] rfl rfl (by decide) (by decide) hk1 hFc_12 hP1 hD1
  generalize H1 = H at hP hS ⊢
  have hP : va_P D vwCl [(r0, .inr (4, [.ref rs, .ref rd, .ref ru, .int 0, .int 0, .ref rn, .ref rp, .int 0, .int 0, .int 0])), (tp, .inr (8, [.ref bt, .int 0])), (rs, .inr (6, [.int 6, .int 6, .int 0, .int 0, .int 4, .ref rs_a5, .int 0, .ref rs_a7, .ref rs_a8, .ref rs_a9, .int 0, .ref rs_a11, .ref rs_a12, .ref rs_a13, .int 0])), (rs_a5, .inl (cy 0, 12, .inl f_5)), (rd, .inr (1, [.int 0, .ref rd_a1, .ref rd_a2])), (ru, .inr (2, [.int 0, .ref ru_a1, .ref ru_a2, .int 0, .ref ru_a4, .ref ru_a5]))] H := hP
  have hD : va_D A [(r0, .inr (4, [.ref rs, .ref rd, .ref ru, .int 0, .int 0, .ref rn, .ref rp, .int 0, .int 0, .int 0])), (tp, .inr (8, [.ref bt, .int 0])), (rs, .inr (6, [.int 6, .int 6, .int 0, .int 0, .int 4, .ref rs_a5, .int 0, .ref rs_a7, .ref rs_a8, .ref rs_a9, .int 0, .ref rs_a11, .ref rs_a12, .ref rs_a13, .int 0])), (rs_a5, .inl (cy 0, 12, .inl f_5)), (rd, .inr (1, [.int 0, .ref rd_a1, .ref rd_a2])), (ru, .inr (2, [.int 0, .ref ru_a1, .ref ru_a2, .int 0, .ref ru_a4, .ref ru_a5]))] := hD
  refine lv_aload_n hx hb dX4_read_21 rfl (lv_at hl 0 rfl) ?_
  refine lv_iconst (v := 0) hx hb dX4_read_22 (by decide +kernel) ?_
  refine va_put (D := D) (ci := 4) (v := .int 0) (ty := .int) (C := RX4) (T := TX4) (N := 10) hx hb hts in_4 tyX4 tyX4_ok nmX4 hown hK hP hD hS 0 rfl rfl 3 (by decide) fl_44 (fun _ h9 => h9) rfl (by decide +kernel) rfl rfl (Nat.le_of_ble_eq_true rfl) dX4_read_23 (fun H locs hP hD hS => ?_)
  have hP : va_P D vwCl [(r0, .inr (4, [.ref rs, .ref rd, .ref ru, .int 0, .int 0, .ref rn, .ref rp, .int 0, .int 0, .int 0])), (tp, .inr (8, [.ref bt, .int 0])), (rs, .inr (6, [.int 6, .int 6, .int 0, .int 0, .int 4, .ref rs_a5, .int 0, .ref rs_a7, .ref rs_a8, .ref rs_a9, .int 0, .ref rs_a11, .ref rs_a12, .ref rs_a13, .int 0])), (rs_a5, .inl (cy 0, 12, .inl f_5)), (rd, .inr (1, [.int 0, .ref rd_a1, .ref rd_a2])), (ru, .inr (2, [.int 0, .ref ru_a1, .ref ru_a2, .int 0, .ref ru_a4, .ref ru_a5]))] H := hP
  have hD : va_D A [(r0, .inr (4, [.ref rs, .ref rd, .ref ru, .int 0, .int 0, .ref rn, .ref rp, .int 0, .int 0, .int 0])), (tp, .inr (8, [.ref bt, .int 0])), (rs, .inr (6, [.int 6, .int 6, .int 0, .int 0, .int 4, .ref rs_a5, .int 0, .ref rs_a7, .ref rs_a8, .ref rs_a9, .int 0, .ref rs_a11, .ref rs_a12, .ref rs_a13, .int 0])), (rs_a5, .inl (cy 0, 12, .inl f_5)), (rd, .inr (1, [.int 0, .ref rd_a1, .ref rd_a2])), (ru, .inr (2, [.int 0, .ref ru_a1, .ref ru_a2, .int 0, .ref ru_a4, .ref ru_a5]))] := hD
  refine lv_aload_n hx hb dX4_read_26 rfl (lv_at hl 0 rfl) ?_
  refine lv_iconst (v := (-1)) hx hb dX4_read_27 (by decide +kernel) ?_
  refine va_put (D := D) (ci := 4) (v := .int (-1)) (ty := .int) (C := RX4) (T := TX4) (N := 10) hx hb hts in_4 tyX4 tyX4_ok nmX4 hown hK hP hD hS 0 rfl rfl 4 (by decide) fl_48 (fun _ h9 => h9) rfl (by decide +kernel) rfl rfl (Nat.le_of_ble_eq_true rfl) dX4_read_28 (fun H locs hP hD hS => ?_)
  have hP : va_P D vwCl [(r0, .inr (4, [.ref rs, .ref rd, .ref ru, .int 0, .int (-1), .ref rn, .ref rp, .int 0, .int 0, .int 0])), (tp, .inr (8, [.ref bt, .int 0])), (rs, .inr (6, [.int 6, .int 6, .int 0, .int 0, .int 4, .ref rs_a5, .int 0, .ref rs_a7, .ref rs_a8, .ref rs_a9, .int 0, .ref rs_a11, .ref rs_a12, .ref rs_a13, .int 0])), (rs_a5, .inl (cy 0, 12, .inl f_5)), (rd, .inr (1, [.int 0, .ref rd_a1, .ref rd_a2])), (ru, .inr (2, [.int 0, .ref ru_a1, .ref ru_a2, .int 0, .ref ru_a4, .ref ru_a5]))] H := hP
  have hD : va_D A [(r0, .inr (4, [.ref rs, .ref rd, .ref ru, .int 0, .int (-1), .ref rn, .ref rp, .int 0, .int 0, .int 0])), (tp, .inr (8, [.ref bt, .int 0])), (rs, .inr (6, [.int 6, .int 6, .int 0, .int 0, .int 4, .ref rs_a5, .int 0, .ref rs_a7, .ref rs_a8, .ref rs_a9, .int 0, .ref rs_a11, .ref rs_a12, .ref rs_a13, .int 0])), (rs_a5, .inl (cy 0, 12, .inl f_5)), (rd, .inr (1, [.int 0, .ref rd_a1, .ref rd_a2])), (ru, .inr (2, [.int 0, .ref ru_a1, .ref ru_a2, .int 0, .ref ru_a4, .ref ru_a5]))] := hD
  refine lv_aload_n hx hb dX4_read_31 rfl (lv_at hl 0 rfl) ?_
  refine lv_iconst (v := 0) hx hb dX4_read_32 (by decide +kernel) ?_
  refine va_put (D := D) (ci := 4) (v := .int 0) (ty := .int) (C := RX4) (T := TX4) (N := 10) hx hb hts in_4 tyX4 tyX4_ok nmX4 hown hK hP hD hS 0 rfl rfl 9 (by decide) fl_51 (fun _ h9 => h9) rfl (by decide +kernel) rfl rfl (Nat.le_of_ble_eq_true rfl) dX4_read_33 (fun H locs hP hD hS => ?_)
  have hP : va_P D vwCl [(r0, .inr (4, [.ref rs, .ref rd, .ref ru, .int 0, .int (-1), .ref rn, .ref rp, .int 0, .int 0, .int 0])), (tp, .inr (8, [.ref bt, .int 0])), (rs, .inr (6, [.int 6, .int 6, .int 0, .int 0, .int 4, .ref rs_a5, .int 0, .ref rs_a7, .ref rs_a8, .ref rs_a9, .int 0, .ref rs_a11, .ref rs_a12, .ref rs_a13, .int 0])), (rs_a5, .inl (cy 0, 12, .inl f_5)), (rd, .inr (1, [.int 0, .ref rd_a1, .ref rd_a2])), (ru, .inr (2, [.int 0, .ref ru_a1, .ref ru_a2, .int 0, .ref ru_a4, .ref ru_a5]))] H := hP
  have hD : va_D A [(r0, .inr (4, [.ref rs, .ref rd, .ref ru, .int 0, .int (-1), .ref rn, .ref rp, .int 0, .int 0, .int 0])), (tp, .inr (8, [.ref bt, .int 0])), (rs, .inr (6, [.int 6, .int 6, .int 0, .int 0, .int 4, .ref rs_a5, .int 0, .ref rs_a7, .ref rs_a8, .ref rs_a9, .int 0, .ref rs_a11, .ref rs_a12, .ref rs_a13, .int 0])), (rs_a5, .inl (cy 0, 12, .inl f_5)), (rd, .inr (1, [.int 0, .ref rd_a1, .ref rd_a2])), (ru, .inr (2, [.int 0, .ref ru_a1, .ref ru_a2, .int 0, .ref ru_a4, .ref ru_a5]))] := hD
  refine lv_iconst (v := 1) hx hb dX4_read_36 (by decide +kernel) ?_
  refine lv_istore_n (lv' := [(3, .int 1), (0, .ref r0), (1, .ref tp), (2, .int 2)]) hx hb dX4_read_37 rfl hl (by decide) rfl (fun ls hl => ?_)
  refine lv_iconst (v := 0) hx hb dX4_read_38 (by decide +kernel) ?_
  refine lv_istore (lv' := [(4, .int 0), (3, .int 1), (0, .ref r0), (1, .ref tp), (2, .int 2)]) hx hb dX4_read_39 hl (by decide) rfl (fun ls hl => ?_)
  refine lv_iload_n hx hb dX4_read_41 rfl (lv_at hl 1 rfl) ?_
  refine lv_if_eq (tgt := 66) hx hb dX4_read_42 (by decide) (fun c_14 => absurd c_14 (by decide +kernel)) (fun _ => ?_)
  refine lv_iload hx hb dX4_read_45 (lv_at hl 0 rfl) ?_
  refine lv_sipush (v := 600) hx hb dX4_read_47 (by decide +kernel) ?_
  refine lv_icmp_gt (tgt := 66) hx hb dX4_read_50 (by decide) (fun c_15 => absurd c_15 (by decide +kernel)) (fun _ => ?_)
  refine lv_aload_n hx hb dX4_read_53 rfl (lv_at hl 2 rfl) ?_
  refine lv_aload_n hx hb dX4_read_54 rfl (lv_at hl 3 rfl) ?_
  refine lv_iload_n hx hb dX4_read_55 rfl (lv_at hl 4 rfl) ?_
  have hPc_16 := hP.sub (ws' := [(r0, .inr (4, [.ref rs, .ref rd, .ref ru, .int 0, .int (-1), .ref rn, .ref rp, .int 0, .int 0, .int 0])), (tp, .inr (8, [.ref bt, .int 0]))]) [0, 1] rfl
  have hDc_17 := hD.sub (ws' := [(r0, .inr (4, [.ref rs, .ref rd, .ref ru, .int 0, .int (-1), .ref rn, .ref rp, .int 0, .int 0, .int 0])), (tp, .inr (8, [.ref bt, .int 0]))]) [0, 1] (by decide) rfl
  have hFc_18 := va_free (wc := [(r0, .inr (4, [.ref rs, .ref rd, .ref ru, .int 0, .int (-1), .ref rn, .ref rp, .int 0, .int 0, .int 0])), (tp, .inr (8, [.ref bt, .int 0]))]) hD hS hA [0, 1] rfl
  refine va_calli (va_runV (As := [.ref tp, .int 2]) (rest := []) ⟨hx, hb, hml, hown, hts⟩ (c_X4_readLine l D cy r0 rs rd ru rn rp tp bt 2 H.size) (cwV 2 hts gX4_read_X4_readLine rfl rfl rfl (by decide +kernel) ⟨Nat.le_of_ble_eq_true rfl, Nat.le_of_ble_eq_true rfl⟩) ⟨pwB, va_recv hK hPc_16 (ci := 4) (q0 := 0) rfl rfl, fun U hU hW => ⟨rfl, PW.of hU hW hKW hPc_16 hDc_17⟩⟩ rfl rfl hl.1 rfl (lv_room (Nat.le_of_ble_eq_true rfl)) dX4_read_56 ⟨by decide +kernel, by decide +kernel⟩) hS (fun q _ h => hFc_18 q h) hFc_18 (fun r_20 u t H1 locs ht hvm hw_19 hB hz1 hk1 hS => ?_)
  subst hw_19
  obtain ⟨hP1, hD1⟩ := hB
  rw [ht] at hP1
  obtain ⟨hP, hD⟩ := va_join (wr := [(rs, .inr (6, [.int 6, .int 6, .int 0, .int 0, .int 4, .ref rs_a5, .int 0, .ref rs_a7, .ref rs_a8, .ref rs_a9, .int 0, .ref rs_a11, .ref rs_a12, .ref rs_a13, .int 0])), (rs_a5, .inl (cy 0, 12, .inl f_5)), (rd, .inr (1, [.int 0, .ref rd_a1, .ref rd_a2])), (ru, .inr (2, [.int 0, .ref ru_a1, .ref ru_a2, .int 0, .ref ru_a4, .ref ru_a5]))]) (w1 := [(r0, .inr (4, [.ref rs, .ref rd, .ref ru, .int 0, .int (-1), .ref rn, .ref rp, .int 0, .int 0, .int 0])), (tp, .inr (8, [.ref bt, .int 0]))]) hP hD [0, 1] [2, 3, 4, 5] rfl rfl (by decide) (by decide) hk1 hFc_18 hP1 hD1
  generalize H1 = H at hP hS ⊢
  have hP : va_P D vwCl [(rs, .inr (6, [.int 6, .int 6, .int 0, .int 0, .int 4, .ref rs_a5, .int 0, .ref rs_a7, .ref rs_a8, .ref rs_a9, .int 0, .ref rs_a11, .ref rs_a12, .ref rs_a13, .int 0])), (rs_a5, .inl (cy 0, 12, .inl f_5)), (rd, .inr (1, [.int 0, .ref rd_a1, .ref rd_a2])), (ru, .inr (2, [.int 0, .ref ru_a1, .ref ru_a2, .int 0, .ref ru_a4, .ref ru_a5])), (r0, .inr (4, [.ref rs, .ref rd, .ref ru, .int 0, .int (-1), .ref rn, .ref rp, .int 0, .int 0, .int 0])), (tp, .inr (8, [.ref bt, .int 0]))] H := hP
  have hD : va_D A [(rs, .inr (6, [.int 6, .int 6, .int 0, .int 0, .int 4, .ref rs_a5, .int 0, .ref rs_a7, .ref rs_a8, .ref rs_a9, .int 0, .ref rs_a11, .ref rs_a12, .ref rs_a13, .int 0])), (rs_a5, .inl (cy 0, 12, .inl f_5)), (rd, .inr (1, [.int 0, .ref rd_a1, .ref rd_a2])), (ru, .inr (2, [.int 0, .ref ru_a1, .ref ru_a2, .int 0, .ref ru_a4, .ref ru_a5])), (r0, .inr (4, [.ref rs, .ref rd, .ref ru, .int 0, .int (-1), .ref rn, .ref rp, .int 0, .int 0, .int 0])), (tp, .inr (8, [.ref bt, .int 0]))] := hD
  refine lv_istore_n (lv' := [(3, .int 0), (4, .int 0), (0, .ref r0), (1, .ref tp), (2, .int 2)]) hx hb dX4_read_59 rfl hl (by decide) rfl (fun ls hl => ?_)
  refine lv_iinc (v := 1) (lv' := [(4, .int 1), (3, .int 0), (0, .ref r0), (1, .ref tp), (2, .int 2)]) hx hb dX4_read_60 hl (k := 1) rfl (by decide) (by decide) rfl (fun ls hl => ?_)
  refine lv_goto (tgt := 41) hx hb dX4_read_63 (by decide) ?_
  refine lv_iload_n hx hb dX4_read_41 rfl (lv_at hl 1 rfl) ?_
  refine lv_if_eq (tgt := 66) hx hb dX4_read_42 (by decide) (fun _ => ?_) (fun c_21 => absurd (by decide +kernel) c_21)
  refine lv_iload_n hx hb dX4_read_66 rfl (lv_at hl 4 rfl) ?_
  refine lv_if_ne (tgt := 80) hx hb dX4_read_67 (by decide) (fun _ => ?_) (fun c_22 => absurd c_22 (by decide +kernel))
  refine lv_iload_n hx hb dX4_read_80 rfl (lv_at hl 4 rfl) ?_
  refine lv_iconst (v := 1) hx hb dX4_read_81 (by decide +kernel) ?_
  refine lv_icmp_eq (tgt := 95) hx hb dX4_read_82 (by decide) (fun c_23 => absurd c_23 (by decide +kernel)) (fun _ => ?_)
  refine lv_aload_n hx hb dX4_read_85 rfl (lv_at hl 2 rfl) ?_
  refine va_get (D := D) (ci := 4) (v := .ref ru) (C := RX4) (T := TX4) (N := 10) hx hb hts in_4 hown hK hP 4 rfl rfl 2 (by decide) fl_28 (fun _ h9 => h9) rfl dX4_read_86 ?_
  have hPc_24 := hP.sub (ws' := [(ru, .inr (2, [.int 0, .ref ru_a1, .ref ru_a2, .int 0, .ref ru_a4, .ref ru_a5]))]) [3] rfl
  refine pc_i (va_runV (As := []) (rest := []) ⟨hx, hb, hml, hown, hts⟩ (c_X2_isWhole l D cy ru ru_a1 ru_a2 ru_a4 ru_a5) (cwV 0 hts gX4_read_X2_isWhole rfl rfl rfl (by decide +kernel) ⟨Nat.le_of_ble_eq_true rfl, Nat.le_of_ble_eq_true rfl⟩) ⟨prB, va_recv hK hPc_24 (ci := 2) (q0 := 0) rfl rfl, fun U hU hW => ⟨rfl, PR.of hU hW hKW hPc_24⟩⟩ rfl rfl hl.1 rfl (lv_room (Nat.le_of_ble_eq_true rfl)) dX4_read_89 ⟨by decide +kernel, by decide +kernel⟩) (fun r_25 hr_25 => ?_)
  subst hr_25
  refine lv_if_eq (tgt := 99) hx hb dX4_read_92 (by decide) (fun _ => ?_) (fun c_26 => absurd (by decide +kernel) c_26)
  refine lv_iconst (v := 0) hx hb dX4_read_99 (by decide +kernel) ?_
  refine lv_istore (lv' := [(4, .int 0), (3, .int 0), (0, .ref r0), (1, .ref tp), (2, .int 2)]) hx hb dX4_read_100 hl (by decide) rfl (fun ls hl => ?_)
  refine lv_iload hx hb dX4_read_102 (lv_at hl 0 rfl) ?_
  refine lv_if_ne (tgt := 116) hx hb dX4_read_104 (by decide) (fun c_27 => absurd (by decide +kernel) c_27) (fun _ => ?_)
  refine lv_aload_n hx hb dX4_read_107 rfl (lv_at hl 2 rfl) ?_
  refine lv_iconst (v := 4) hx hb dX4_read_108 (by decide +kernel) ?_
  refine lv_aload_n hx hb dX4_read_109 rfl (lv_at hl 3 rfl) ?_
  refine va_get (D := D) (ci := 8) (v := .int 0) (C := RX8) (T := TX8) (N := 2) hx hb hts in_8 hown hK hP 5 rfl rfl 1 (by decide) fl_63 (fun _ h9 => h9) rfl dX4_read_110 ?_
  have hPc_28 := hP.sub (ws' := [(r0, .inr (4, [.ref rs, .ref rd, .ref ru, .int 0, .int (-1), .ref rn, .ref rp, .int 0, .int 0, .int 0]))]) [4] rfl
  have hDc_29 := hD.sub (ws' := [(r0, .inr (4, [.ref rs, .ref rd, .ref ru, .int 0, .int (-1), .ref rn, .ref rp, .int 0, .int 0, .int 0]))]) [4] (by decide) rfl
  have hFc_30 := va_free (wc := [(r0, .inr (4, [.ref rs, .ref rd, .ref ru, .int 0, .int (-1), .ref rn, .ref rp, .int 0, .int 0, .int 0]))]) hD hS hA [4] rfl
  refine va_callv (va_runV (As := [.int 4, .int 0]) (rest := []) ⟨hx, hb, hml, hown, hts⟩ (c_X4_note l D cy r0 rs rd ru rn rp 4 0 H.size) (cwV 2 hts gX4_read_X4_note rfl rfl rfl (by decide +kernel) ⟨Nat.le_of_ble_eq_true rfl, Nat.le_of_ble_eq_true rfl⟩) ⟨pwB, va_recv hK hPc_28 (ci := 4) (q0 := 0) rfl rfl, fun U hU hW => ⟨rfl, PW.of hU hW hKW hPc_28 hDc_29⟩⟩ rfl rfl hl.1 rfl (lv_room (Nat.le_of_ble_eq_true rfl)) dX4_read_113 ⟨by decide +kernel, by decide +kernel⟩) hS (fun q _ h => hFc_30 q h) hFc_30 (fun u t H1 locs ht hvm hw_31 hB hz1 hk1 hS => ?_)
  obtain ⟨hP1, hD1⟩ := hB
  rw [ht] at hP1
  obtain ⟨hP, hD⟩ := va_join (wr := [(rs, .inr (6, [.int 6, .int 6, .int 0, .int 0, .int 4, .ref rs_a5, .int 0, .ref rs_a7, .ref rs_a8, .ref rs_a9, .int 0, .ref rs_a11, .ref rs_a12, .ref rs_a13, .int 0])), (rs_a5, .inl (cy 0, 12, .inl f_5)), (rd, .inr (1, [.int 0, .ref rd_a1, .ref rd_a2])), (ru, .inr (2, [.int 0, .ref ru_a1, .ref ru_a2, .int 0, .ref ru_a4, .ref ru_a5])), (tp, .inr (8, [.ref bt, .int 0]))]) (w1 := [(r0, .inr (4, [.ref rs, .ref rd, .ref ru, .int 4, .int 0, .ref rn, .ref rp, .int 0, .int 0, .int 0]))]) hP hD [4] [0, 1, 2, 3, 5] rfl rfl (by decide) (by decide) hk1 hFc_30 hP1 hD1
  generalize H1 = H at hP hS ⊢
  have hP : va_P D vwCl [(rs, .inr (6, [.int 6, .int 6, .int 0, .int 0, .int 4, .ref rs_a5, .int 0, .ref rs_a7, .ref rs_a8, .ref rs_a9, .int 0, .ref rs_a11, .ref rs_a12, .ref rs_a13, .int 0])), (rs_a5, .inl (cy 0, 12, .inl f_5)), (rd, .inr (1, [.int 0, .ref rd_a1, .ref rd_a2])), (ru, .inr (2, [.int 0, .ref ru_a1, .ref ru_a2, .int 0, .ref ru_a4, .ref ru_a5])), (tp, .inr (8, [.ref bt, .int 0])), (r0, .inr (4, [.ref rs, .ref rd, .ref ru, .int 4, .int 0, .ref rn, .ref rp, .int 0, .int 0, .int 0]))] H := hP
  have hD : va_D A [(rs, .inr (6, [.int 6, .int 6, .int 0, .int 0, .int 4, .ref rs_a5, .int 0, .ref rs_a7, .ref rs_a8, .ref rs_a9, .int 0, .ref rs_a11, .ref rs_a12, .ref rs_a13, .int 0])), (rs_a5, .inl (cy 0, 12, .inl f_5)), (rd, .inr (1, [.int 0, .ref rd_a1, .ref rd_a2])), (ru, .inr (2, [.int 0, .ref ru_a1, .ref ru_a2, .int 0, .ref ru_a4, .ref ru_a5])), (tp, .inr (8, [.ref bt, .int 0])), (r0, .inr (4, [.ref rs, .ref rd, .ref ru, .int 4, .int 0, .ref rn, .ref rp, .int 0, .int 0, .int 0]))] := hD
  have hP9 := hP.sub (ws' := [(rs, .inr (6, [.int 6, .int 6, .int 0, .int 0, .int 4, .ref rs_a5, .int 0, .ref rs_a7, .ref rs_a8, .ref rs_a9, .int 0, .ref rs_a11, .ref rs_a12, .ref rs_a13, .int 0])), (rs_a5, .inl (cy 0, 12, .inl f_5)), (rd, .inr (1, [.int 0, .ref rd_a1, .ref rd_a2])), (ru, .inr (2, [.int 0, .ref ru_a1, .ref ru_a2, .int 0, .ref ru_a4, .ref ru_a5])), (tp, .inr (8, [.ref bt, .int 0])), (r0, .inr (4, [.ref rs, .ref rd, .ref ru, .int 4, .int 0, .ref rn, .ref rp, .int 0, .int 0, .int 0]))]) [0, 1, 2, 3, 4, 5] rfl
  have hD9 := hD.sub (ws' := [(rs, .inr (6, [.int 6, .int 6, .int 0, .int 0, .int 4, .ref rs_a5, .int 0, .ref rs_a7, .ref rs_a8, .ref rs_a9, .int 0, .ref rs_a11, .ref rs_a12, .ref rs_a13, .int 0])), (rs_a5, .inl (cy 0, 12, .inl f_5)), (rd, .inr (1, [.int 0, .ref rd_a1, .ref rd_a2])), (ru, .inr (2, [.int 0, .ref ru_a1, .ref ru_a2, .int 0, .ref ru_a4, .ref ru_a5])), (tp, .inr (8, [.ref bt, .int 0])), (r0, .inr (4, [.ref rs, .ref rd, .ref ru, .int 4, .int 0, .ref rn, .ref rp, .int 0, .int 0, .int 0]))]) [0, 1, 2, 3, 4, 5] (by decide) rfl
  exact W.vret hx hb hr (fun t ht hW => ⟨⟨(), rfl, trivial, f_5, by rw [ht]; exact hP9, hD9⟩, hS.F ht⟩) hS.2.2 dX4_read_116
