theorem dX9_findSea_0 : decode cX9_findSea 0 = .ok (.iload_n 1, 1) := by decide +kernel
theorem dX9_findSea_1 : decode cX9_findSea 1 = .ok (.ifCond .lt 13, 3) := by decide +kernel
theorem dX9_findSea_14 : decode cX9_findSea 14 = .ok (.aconst_null, 1) := by decide +kernel
theorem dX9_findSea_15 : decode cX9_findSea 15 = .ok (.goto 9, 3) := by decide +kernel
theorem dX9_findSea_24 : decode cX9_findSea 24 = .ok (.areturn, 1) := by decide +kernel
theorem dX9_findSea_4 : decode cX9_findSea 4 = .ok (.iload_n 1, 1) := by decide +kernel
theorem dX9_findSea_5 : decode cX9_findSea 5 = .ok (.aload_n 0, 1) := by decide +kernel
theorem dX9_findSea_6 : decode cX9_findSea 6 = .ok (.getfield 18, 3) := by decide +kernel
theorem dX9_findSea_9 : decode cX9_findSea 9 = .ok (.iconst 0, 1) := by decide +kernel
theorem dX9_findSea_10 : decode cX9_findSea 10 = .ok (.iaload, 1) := by decide +kernel
theorem dX9_findSea_11 : decode cX9_findSea 11 = .ok (.if_icmp .lt 7, 3) := by decide +kernel
theorem dX9_findDay_0 : decode cX9_findDay 0 = .ok (.iload_n 1, 1) := by decide +kernel
theorem dX9_findDay_1 : decode cX9_findDay 1 = .ok (.ifCond .lt 13, 3) := by decide +kernel
theorem dX9_findDay_14 : decode cX9_findDay 14 = .ok (.aconst_null, 1) := by decide +kernel
theorem dX9_findDay_15 : decode cX9_findDay 15 = .ok (.goto 9, 3) := by decide +kernel
theorem dX9_findDay_24 : decode cX9_findDay 24 = .ok (.areturn, 1) := by decide +kernel
theorem dX9_findDay_4 : decode cX9_findDay 4 = .ok (.iload_n 1, 1) := by decide +kernel
theorem dX9_findDay_5 : decode cX9_findDay 5 = .ok (.aload_n 0, 1) := by decide +kernel
theorem dX9_findDay_6 : decode cX9_findDay 6 = .ok (.getfield 18, 3) := by decide +kernel
theorem dX9_findDay_9 : decode cX9_findDay 9 = .ok (.iconst 1, 1) := by decide +kernel
theorem dX9_findDay_10 : decode cX9_findDay 10 = .ok (.iaload, 1) := by decide +kernel
theorem dX9_findDay_11 : decode cX9_findDay 11 = .ok (.if_icmp .lt 7, 3) := by decide +kernel
theorem dX9_findDispute_0 : decode cX9_findDispute 0 = .ok (.iload_n 1, 1) := by decide +kernel
theorem dX9_findDispute_1 : decode cX9_findDispute 1 = .ok (.ifCond .lt 13, 3) := by decide +kernel
theorem dX9_findDispute_14 : decode cX9_findDispute 14 = .ok (.aconst_null, 1) := by decide +kernel
theorem dX9_findDispute_15 : decode cX9_findDispute 15 = .ok (.goto 9, 3) := by decide +kernel
theorem dX9_findDispute_24 : decode cX9_findDispute 24 = .ok (.areturn, 1) := by decide +kernel
theorem dX9_findDispute_4 : decode cX9_findDispute 4 = .ok (.iload_n 1, 1) := by decide +kernel
theorem dX9_findDispute_5 : decode cX9_findDispute 5 = .ok (.aload_n 0, 1) := by decide +kernel
theorem dX9_findDispute_6 : decode cX9_findDispute 6 = .ok (.getfield 18, 3) := by decide +kernel
theorem dX9_findDispute_9 : decode cX9_findDispute 9 = .ok (.iconst 2, 1) := by decide +kernel
theorem dX9_findDispute_10 : decode cX9_findDispute 10 = .ok (.iaload, 1) := by decide +kernel
theorem dX9_findDispute_11 : decode cX9_findDispute 11 = .ok (.if_icmp .lt 7, 3) := by decide +kernel
theorem dX11_runToStop_0 : decode cX11_runToStop 0 = .ok (.aload_n 0, 1) := by decide +kernel
theorem dX11_runToStop_1 : decode cX11_runToStop 1 = .ok (.getfield 10, 3) := by decide +kernel
theorem dX11_runToStop_4 : decode cX11_runToStop 4 = .ok (.iload_n 1, 1) := by decide +kernel
theorem dX11_runToStop_5 : decode cX11_runToStop 5 = .ok (.invokevirtual 93, 3) := by decide +kernel
set_option maxRecDepth 20000 in
theorem ggX11_runToStop_X9_findSea : GoodIn wsX11_runToStop wsX9_findSea := goodIn_r _ [7, 8, 9, 205, 206, 207, 208, 209, 210, 211] (by decide +kernel) (by decide +kernel)
set_option maxRecDepth 20000 in
theorem gX11_runToStop_X9_findSea : GoodIn wsX11_runToStop (wsV RX11 93 RX9 yX9_findSea wsX9_findSea) := goodIn_app (goodIn_of _ (by decide +kernel)) ggX11_runToStop_X9_findSea
theorem dX11_runToStop_8 : decode cX11_runToStop 8 = .ok (.astore_n 3, 1) := by decide +kernel
theorem dX11_runToStop_9 : decode cX11_runToStop 9 = .ok (.aload_n 0, 1) := by decide +kernel
theorem dX11_runToStop_10 : decode cX11_runToStop 10 = .ok (.getfield 10, 3) := by decide +kernel
theorem dX11_runToStop_13 : decode cX11_runToStop 13 = .ok (.iload_n 2, 1) := by decide +kernel
theorem dX11_runToStop_14 : decode cX11_runToStop 14 = .ok (.invokevirtual 170, 3) := by decide +kernel
set_option maxRecDepth 20000 in
theorem ggX11_runToStop_X9_findDay : GoodIn wsX11_runToStop wsX9_findDay := goodIn_r _ [13, 8, 14, 205, 206, 207, 208, 209, 210, 211] (by decide +kernel) (by decide +kernel)
set_option maxRecDepth 20000 in
theorem gX11_runToStop_X9_findDay : GoodIn wsX11_runToStop (wsV RX11 170 RX9 yX9_findDay wsX9_findDay) := goodIn_app (goodIn_of _ (by decide +kernel)) ggX11_runToStop_X9_findDay
theorem dX11_runToStop_17 : decode cX11_runToStop 17 = .ok (.astore 4, 2) := by decide +kernel
theorem dX11_runToStop_19 : decode cX11_runToStop 19 = .ok (.aload_n 3, 1) := by decide +kernel
theorem dX11_runToStop_20 : decode cX11_runToStop 20 = .ok (.ifnull 8, 3) := by decide +kernel
theorem dX11_runToStop_28 : decode cX11_runToStop 28 = .ok (.iconst 0, 1) := by decide +kernel
theorem dX11_runToStop_29 : decode cX11_runToStop 29 = .ok (.ireturn, 1) := by decide +kernel
theorem dX11_runToState_0 : decode cX11_runToState 0 = .ok (.aload_n 0, 1) := by decide +kernel
theorem dX11_runToState_1 : decode cX11_runToState 1 = .ok (.getfield 10, 3) := by decide +kernel
theorem dX11_runToState_4 : decode cX11_runToState 4 = .ok (.iload_n 1, 1) := by decide +kernel
theorem dX11_runToState_5 : decode cX11_runToState 5 = .ok (.invokevirtual 93, 3) := by decide +kernel
set_option maxRecDepth 20000 in
theorem ggX11_runToState_X9_findSea : GoodIn wsX11_runToState wsX9_findSea := goodIn_r _ [9, 10, 11, 226, 227, 228, 229, 230, 231, 232] (by decide +kernel) (by decide +kernel)
set_option maxRecDepth 20000 in
theorem gX11_runToState_X9_findSea : GoodIn wsX11_runToState (wsV RX11 93 RX9 yX9_findSea wsX9_findSea) := goodIn_app (goodIn_of _ (by decide +kernel)) ggX11_runToState_X9_findSea
theorem dX11_runToState_8 : decode cX11_runToState 8 = .ok (.astore 4, 2) := by decide +kernel
theorem dX11_runToState_10 : decode cX11_runToState 10 = .ok (.aload_n 0, 1) := by decide +kernel
theorem dX11_runToState_11 : decode cX11_runToState 11 = .ok (.getfield 10, 3) := by decide +kernel
theorem dX11_runToState_14 : decode cX11_runToState 14 = .ok (.iload_n 2, 1) := by decide +kernel
theorem dX11_runToState_15 : decode cX11_runToState 15 = .ok (.invokevirtual 170, 3) := by decide +kernel
set_option maxRecDepth 20000 in
theorem ggX11_runToState_X9_findDay : GoodIn wsX11_runToState wsX9_findDay := goodIn_r _ [15, 10, 16, 226, 227, 228, 229, 230, 231, 232] (by decide +kernel) (by decide +kernel)
set_option maxRecDepth 20000 in
theorem gX11_runToState_X9_findDay : GoodIn wsX11_runToState (wsV RX11 170 RX9 yX9_findDay wsX9_findDay) := goodIn_app (goodIn_of _ (by decide +kernel)) ggX11_runToState_X9_findDay
theorem dX11_runToState_18 : decode cX11_runToState 18 = .ok (.astore 5, 2) := by decide +kernel
theorem dX11_runToState_20 : decode cX11_runToState 20 = .ok (.aload 4, 2) := by decide +kernel
theorem dX11_runToState_22 : decode cX11_runToState 22 = .ok (.ifnull 21, 3) := by decide +kernel
theorem dX11_runToState_43 : decode cX11_runToState 43 = .ok (.iconst 0, 1) := by decide +kernel
theorem dX11_runToState_44 : decode cX11_runToState 44 = .ok (.ireturn, 1) := by decide +kernel
theorem dX11_sea_0 : decode cX11_sea 0 = .ok (.aload_n 0, 1) := by decide +kernel
theorem dX11_sea_1 : decode cX11_sea 1 = .ok (.getfield 10, 3) := by decide +kernel
theorem dX11_sea_4 : decode cX11_sea 4 = .ok (.iload_n 1, 1) := by decide +kernel
theorem dX11_sea_5 : decode cX11_sea 5 = .ok (.invokevirtual 93, 3) := by decide +kernel
set_option maxRecDepth 20000 in
theorem ggX11_sea_X9_findSea : GoodIn wsX11_sea wsX9_findSea := goodIn_r _ [14, 15, 16, 39, 40, 41, 42, 43, 44, 45] (by decide +kernel) (by decide +kernel)
set_option maxRecDepth 20000 in
theorem gX11_sea_X9_findSea : GoodIn wsX11_sea (wsV RX11 93 RX9 yX9_findSea wsX9_findSea) := goodIn_app (goodIn_of _ (by decide +kernel)) ggX11_sea_X9_findSea
theorem dX11_sea_8 : decode cX11_sea 8 = .ok (.astore_n 3, 1) := by decide +kernel
theorem dX11_sea_9 : decode cX11_sea 9 = .ok (.aload_n 3, 1) := by decide +kernel
theorem dX11_sea_10 : decode cX11_sea 10 = .ok (.ifnonnull 5, 3) := by decide +kernel
theorem dX11_sea_13 : decode cX11_sea 13 = .ok (.iconst (-1), 1) := by decide +kernel
theorem dX11_sea_14 : decode cX11_sea 14 = .ok (.ireturn, 1) := by decide +kernel
theorem dX11_shoal_0 : decode cX11_shoal 0 = .ok (.aload_n 0, 1) := by decide +kernel
theorem dX11_shoal_1 : decode cX11_shoal 1 = .ok (.getfield 10, 3) := by decide +kernel
theorem dX11_shoal_4 : decode cX11_shoal 4 = .ok (.iload_n 1, 1) := by decide +kernel
theorem dX11_shoal_5 : decode cX11_shoal 5 = .ok (.invokevirtual 93, 3) := by decide +kernel
set_option maxRecDepth 20000 in
theorem ggX11_shoal_X9_findSea : GoodIn wsX11_shoal wsX9_findSea := goodIn_r _ [9, 10, 11, 40, 41, 42, 43, 44, 45, 46] (by decide +kernel) (by decide +kernel)
set_option maxRecDepth 20000 in
theorem gX11_shoal_X9_findSea : GoodIn wsX11_shoal (wsV RX11 93 RX9 yX9_findSea wsX9_findSea) := goodIn_app (goodIn_of _ (by decide +kernel)) ggX11_shoal_X9_findSea
theorem dX11_shoal_8 : decode cX11_shoal 8 = .ok (.astore 4, 2) := by decide +kernel
theorem dX11_shoal_10 : decode cX11_shoal 10 = .ok (.aload 4, 2) := by decide +kernel
theorem dX11_shoal_12 : decode cX11_shoal 12 = .ok (.ifnull 12, 3) := by decide +kernel
theorem dX11_shoal_24 : decode cX11_shoal 24 = .ok (.iconst (-1), 1) := by decide +kernel
theorem dX11_shoal_25 : decode cX11_shoal 25 = .ok (.ireturn, 1) := by decide +kernel
theorem dX11_boat_0 : decode cX11_boat 0 = .ok (.aload_n 0, 1) := by decide +kernel
theorem dX11_boat_1 : decode cX11_boat 1 = .ok (.getfield 10, 3) := by decide +kernel
theorem dX11_boat_4 : decode cX11_boat 4 = .ok (.iload_n 1, 1) := by decide +kernel
theorem dX11_boat_5 : decode cX11_boat 5 = .ok (.invokevirtual 93, 3) := by decide +kernel
set_option maxRecDepth 20000 in
theorem ggX11_boat_X9_findSea : GoodIn wsX11_boat wsX9_findSea := goodIn_r _ [10, 11, 12, 41, 42, 43, 44, 45, 46, 47] (by decide +kernel) (by decide +kernel)
set_option maxRecDepth 20000 in
theorem gX11_boat_X9_findSea : GoodIn wsX11_boat (wsV RX11 93 RX9 yX9_findSea wsX9_findSea) := goodIn_app (goodIn_of _ (by decide +kernel)) ggX11_boat_X9_findSea
theorem dX11_boat_8 : decode cX11_boat 8 = .ok (.astore 4, 2) := by decide +kernel
theorem dX11_boat_10 : decode cX11_boat 10 = .ok (.aload 4, 2) := by decide +kernel
theorem dX11_boat_12 : decode cX11_boat 12 = .ok (.ifnull 12, 3) := by decide +kernel
theorem dX11_boat_24 : decode cX11_boat 24 = .ok (.iconst (-1), 1) := by decide +kernel
theorem dX11_boat_25 : decode cX11_boat 25 = .ok (.ireturn, 1) := by decide +kernel
theorem dX11_far_0 : decode cX11_far 0 = .ok (.aload_n 0, 1) := by decide +kernel
theorem dX11_far_1 : decode cX11_far 1 = .ok (.getfield 10, 3) := by decide +kernel
theorem dX11_far_4 : decode cX11_far 4 = .ok (.iload_n 1, 1) := by decide +kernel
theorem dX11_far_5 : decode cX11_far 5 = .ok (.invokevirtual 93, 3) := by decide +kernel
set_option maxRecDepth 20000 in
theorem ggX11_far_X9_findSea : GoodIn wsX11_far wsX9_findSea := goodIn_r _ [6, 7, 8, 37, 38, 39, 40, 41, 42, 43] (by decide +kernel) (by decide +kernel)
set_option maxRecDepth 20000 in
theorem gX11_far_X9_findSea : GoodIn wsX11_far (wsV RX11 93 RX9 yX9_findSea wsX9_findSea) := goodIn_app (goodIn_of _ (by decide +kernel)) ggX11_far_X9_findSea
theorem dX11_far_8 : decode cX11_far 8 = .ok (.astore 4, 2) := by decide +kernel
theorem dX11_far_10 : decode cX11_far 10 = .ok (.aload 4, 2) := by decide +kernel
theorem dX11_far_12 : decode cX11_far 12 = .ok (.ifnull 21, 3) := by decide +kernel
theorem dX11_far_33 : decode cX11_far 33 = .ok (.iconst (-1), 1) := by decide +kernel
theorem dX11_far_34 : decode cX11_far 34 = .ok (.ireturn, 1) := by decide +kernel
theorem dX11_hears_0 : decode cX11_hears 0 = .ok (.aload_n 0, 1) := by decide +kernel
theorem dX11_hears_1 : decode cX11_hears 1 = .ok (.getfield 10, 3) := by decide +kernel
theorem dX11_hears_4 : decode cX11_hears 4 = .ok (.iload_n 1, 1) := by decide +kernel
theorem dX11_hears_5 : decode cX11_hears 5 = .ok (.invokevirtual 93, 3) := by decide +kernel
set_option maxRecDepth 20000 in
theorem ggX11_hears_X9_findSea : GoodIn wsX11_hears wsX9_findSea := goodIn_r _ [7, 8, 9, 55, 56, 57, 58, 59, 60, 61] (by decide +kernel) (by decide +kernel)
set_option maxRecDepth 20000 in
theorem gX11_hears_X9_findSea : GoodIn wsX11_hears (wsV RX11 93 RX9 yX9_findSea wsX9_findSea) := goodIn_app (goodIn_of _ (by decide +kernel)) ggX11_hears_X9_findSea
theorem dX11_hears_8 : decode cX11_hears 8 = .ok (.astore 4, 2) := by decide +kernel
theorem dX11_hears_10 : decode cX11_hears 10 = .ok (.aload 4, 2) := by decide +kernel
theorem dX11_hears_12 : decode cX11_hears 12 = .ok (.ifnull 12, 3) := by decide +kernel
theorem dX11_hears_24 : decode cX11_hears 24 = .ok (.iconst (-1), 1) := by decide +kernel
theorem dX11_hears_25 : decode cX11_hears 25 = .ok (.ireturn, 1) := by decide +kernel
theorem dX11_loud_0 : decode cX11_loud 0 = .ok (.aload_n 0, 1) := by decide +kernel
theorem dX11_loud_1 : decode cX11_loud 1 = .ok (.getfield 10, 3) := by decide +kernel
theorem dX11_loud_4 : decode cX11_loud 4 = .ok (.iload_n 1, 1) := by decide +kernel
theorem dX11_loud_5 : decode cX11_loud 5 = .ok (.invokevirtual 93, 3) := by decide +kernel
set_option maxRecDepth 20000 in
theorem ggX11_loud_X9_findSea : GoodIn wsX11_loud wsX9_findSea := goodIn_r _ [7, 8, 9, 54, 55, 56, 57, 58, 59, 60] (by decide +kernel) (by decide +kernel)
set_option maxRecDepth 20000 in
theorem gX11_loud_X9_findSea : GoodIn wsX11_loud (wsV RX11 93 RX9 yX9_findSea wsX9_findSea) := goodIn_app (goodIn_of _ (by decide +kernel)) ggX11_loud_X9_findSea
theorem dX11_loud_8 : decode cX11_loud 8 = .ok (.astore_n 2, 1) := by decide +kernel
theorem dX11_loud_9 : decode cX11_loud 9 = .ok (.aload_n 2, 1) := by decide +kernel
theorem dX11_loud_10 : decode cX11_loud 10 = .ok (.ifnonnull 7, 3) := by decide +kernel
theorem dX11_loud_13 : decode cX11_loud 13 = .ok (.iconst (-1), 1) := by decide +kernel
theorem dX11_loud_14 : decode cX11_loud 14 = .ok (.goto 11, 3) := by decide +kernel
theorem dX11_loud_25 : decode cX11_loud 25 = .ok (.ireturn, 1) := by decide +kernel
theorem dX11_deed_0 : decode cX11_deed 0 = .ok (.aload_n 0, 1) := by decide +kernel
theorem dX11_deed_1 : decode cX11_deed 1 = .ok (.getfield 10, 3) := by decide +kernel
theorem dX11_deed_4 : decode cX11_deed 4 = .ok (.iload_n 1, 1) := by decide +kernel
theorem dX11_deed_5 : decode cX11_deed 5 = .ok (.invokevirtual 170, 3) := by decide +kernel
set_option maxRecDepth 20000 in
theorem ggX11_deed_X9_findDay : GoodIn wsX11_deed wsX9_findDay := goodIn_r _ [8, 9, 10, 27, 28, 29, 30, 31, 32, 33] (by decide +kernel) (by decide +kernel)
set_option maxRecDepth 20000 in
theorem gX11_deed_X9_findDay : GoodIn wsX11_deed (wsV RX11 170 RX9 yX9_findDay wsX9_findDay) := goodIn_app (goodIn_of _ (by decide +kernel)) ggX11_deed_X9_findDay
theorem dX11_deed_8 : decode cX11_deed 8 = .ok (.astore 4, 2) := by decide +kernel
theorem dX11_deed_10 : decode cX11_deed 10 = .ok (.aload 4, 2) := by decide +kernel
theorem dX11_deed_12 : decode cX11_deed 12 = .ok (.ifnonnull 6, 3) := by decide +kernel
theorem dX11_deed_15 : decode cX11_deed 15 = .ok (.bipush (-2), 2) := by decide +kernel
theorem dX11_deed_17 : decode cX11_deed 17 = .ok (.ireturn, 1) := by decide +kernel
theorem dX11_stop_0 : decode cX11_stop 0 = .ok (.aload_n 0, 1) := by decide +kernel
theorem dX11_stop_1 : decode cX11_stop 1 = .ok (.iload_n 1, 1) := by decide +kernel
theorem dX11_stop_2 : decode cX11_stop 2 = .ok (.iload_n 2, 1) := by decide +kernel
theorem dX11_stop_3 : decode cX11_stop 3 = .ok (.invokevirtual 185, 3) := by decide +kernel
set_option maxRecDepth 20000 in
theorem ggX11_stop_X11_runToStop : GoodIn wsX11_stop wsX11_runToStop := goodIn_r _ [7, 8, 1, 9, 10, 11, 12, 13, 14, 15, 16, 17, 18, 19, 20, 21, 22, 23, 24, 25, 26, 27, 28, 29, 30, 31, 32, 33, 34, 35, 36, 37, 38, 39, 40, 41, 42, 43, 44, 45, 46, 47, 48, 49, 50, 51, 52, 53, 54, 55, 56, 57, 58, 59, 60, 61, 62, 63, 64, 65, 66, 67, 68, 69, 70, 71, 72, 73, 74, 75, 76, 77, 78, 79, 80, 81, 82, 83, 84, 85, 86, 87, 88, 89, 90, 91, 92, 93, 94, 95, 96, 97, 98, 99, 100, 101, 102, 103, 104, 105, 106, 107, 108, 109, 110, 111, 112, 113, 114, 115, 116, 117, 118, 119, 120, 121, 122, 123, 124, 125, 126, 127, 128, 129, 130, 131, 132, 133, 134, 135, 136, 137, 138, 139, 140, 141, 142, 143, 144, 145, 146, 147, 148, 149, 150, 151, 152, 153, 154, 155, 156, 157, 158, 159, 160, 161, 162, 163, 164, 165, 166, 167, 168, 169, 170, 171, 172, 173, 174, 175, 176, 177, 178, 179, 180, 181, 182, 183, 184, 185, 186, 187, 188, 189, 190, 191, 192, 193, 194, 195, 196, 197, 198, 199, 200, 201, 202, 203, 204, 205, 206, 207, 208, 209, 210, 227, 228, 229, 230, 231, 232, 233, 211, 212, 213, 214, 215, 216, 217, 218, 219, 220, 221, 222, 223, 224, 225, 226, 234, 235, 236, 237, 238, 239, 240, 241, 242, 243, 244, 245, 246, 247, 248, 249, 250, 251, 252, 253, 254, 255, 256, 257, 258, 259] (by decide +kernel) (by decide +kernel)
set_option maxRecDepth 20000 in
theorem gX11_stop_X11_runToStop : GoodIn wsX11_stop (wsV RX11 185 RX11 yX11_runToStop wsX11_runToStop) := goodIn_app (goodIn_of _ (by decide +kernel)) ggX11_stop_X11_runToStop
theorem dX11_stop_6 : decode cX11_stop 6 = .ok (.ifCond .eq 13, 3) := by decide +kernel
theorem dX11_stop_19 : decode cX11_stop 19 = .ok (.iconst (-1), 1) := by decide +kernel
theorem dX11_stop_20 : decode cX11_stop 20 = .ok (.ireturn, 1) := by decide +kernel
theorem dX11_state_0 : decode cX11_state 0 = .ok (.aload_n 0, 1) := by decide +kernel
theorem dX11_state_1 : decode cX11_state 1 = .ok (.iload_n 1, 1) := by decide +kernel
theorem dX11_state_2 : decode cX11_state 2 = .ok (.iload_n 2, 1) := by decide +kernel
theorem dX11_state_3 : decode cX11_state 3 = .ok (.iload_n 3, 1) := by decide +kernel
theorem dX11_state_4 : decode cX11_state 4 = .ok (.invokevirtual 192, 3) := by decide +kernel
set_option maxRecDepth 20000 in
theorem ggX11_state_X11_runToState : GoodIn wsX11_state wsX11_runToState := goodIn_r _ [12, 13, 14, 1, 15, 16, 17, 18, 19, 20, 21, 22, 23, 24, 25, 26, 27, 28, 29, 30, 31, 32, 33, 34, 35, 36, 37, 38, 39, 40, 41, 42, 43, 44, 45, 46, 47, 48, 49, 50, 51, 52, 53, 54, 55, 56, 57, 58, 59, 60, 61, 62, 63, 64, 65, 66, 67, 68, 69, 70, 71, 72, 73, 74, 75, 76, 77, 78, 79, 80, 81, 82, 83, 84, 85, 86, 87, 88, 89, 90, 91, 92, 93, 94, 95, 96, 97, 98, 99, 100, 101, 102, 103, 104, 105, 106, 107, 108, 109, 110, 111, 112, 113, 114, 115, 116, 117, 118, 119, 120, 121, 122, 123, 124, 125, 126, 127, 128, 129, 130, 131, 132, 133, 134, 135, 136, 137, 138, 139, 140, 141, 142, 143, 144, 145, 146, 147, 148, 149, 150, 151, 152, 153, 154, 155, 156, 157, 158, 159, 160, 161, 162, 163, 164, 165, 166, 167, 168, 169, 170, 171, 172, 173, 174, 175, 176, 177, 178, 179, 180, 181, 182, 183, 184, 185, 186, 187, 188, 189, 190, 191, 192, 193, 194, 195, 196, 197, 198, 199, 200, 201, 202, 203, 204, 205, 206, 207, 208, 209, 210, 213, 214, 215, 216, 217, 218, 219, 244, 245, 246, 220, 221, 222, 223, 224, 225, 226, 227, 228, 229, 230, 231, 232, 233, 234, 235, 247, 248, 249, 250, 251, 252, 253, 254, 255, 256, 257, 258, 259, 260, 261, 262, 263, 264, 265, 266, 267, 268, 236, 237, 238, 239, 240, 241, 242, 243] (by decide +kernel) (by decide +kernel)
set_option maxRecDepth 20000 in
theorem gX11_state_X11_runToState : GoodIn wsX11_state (wsV RX11 192 RX11 yX11_runToState wsX11_runToState) := goodIn_app (goodIn_of _ (by decide +kernel)) ggX11_state_X11_runToState
theorem dX11_state_7 : decode cX11_state 7 = .ok (.ifCond .eq 18, 3) := by decide +kernel
theorem dX11_state_25 : decode cX11_state 25 = .ok (.bipush (-2), 2) := by decide +kernel
theorem dX11_state_27 : decode cX11_state 27 = .ok (.ireturn, 1) := by decide +kernel
theorem dX11_has_0 : decode cX11_has 0 = .ok (.aload_n 0, 1) := by decide +kernel
theorem dX11_has_1 : decode cX11_has 1 = .ok (.iload_n 1, 1) := by decide +kernel
theorem dX11_has_2 : decode cX11_has 2 = .ok (.iload_n 2, 1) := by decide +kernel
theorem dX11_has_3 : decode cX11_has 3 = .ok (.iload_n 3, 1) := by decide +kernel
theorem dX11_has_4 : decode cX11_has 4 = .ok (.invokevirtual 192, 3) := by decide +kernel
set_option maxRecDepth 20000 in
theorem ggX11_has_X11_runToState : GoodIn wsX11_has wsX11_runToState := goodIn_r _ [11, 12, 13, 1, 14, 15, 16, 17, 18, 19, 20, 21, 22, 23, 24, 25, 26, 27, 28, 29, 30, 31, 32, 33, 34, 35, 36, 37, 38, 39, 40, 41, 42, 43, 44, 45, 46, 47, 48, 49, 50, 51, 52, 53, 54, 55, 56, 57, 58, 59, 60, 61, 62, 63, 64, 65, 66, 67, 68, 69, 70, 71, 72, 73, 74, 75, 76, 77, 78, 79, 80, 81, 82, 83, 84, 85, 86, 87, 88, 89, 90, 91, 92, 93, 94, 95, 96, 97, 98, 99, 100, 101, 102, 103, 104, 105, 106, 107, 108, 109, 110, 111, 112, 113, 114, 115, 116, 117, 118, 119, 120, 121, 122, 123, 124, 125, 126, 127, 128, 129, 130, 131, 132, 133, 134, 135, 136, 137, 138, 139, 140, 141, 142, 143, 144, 145, 146, 147, 148, 149, 150, 151, 152, 153, 154, 155, 156, 157, 158, 159, 160, 161, 162, 163, 164, 165, 166, 167, 168, 169, 170, 171, 172, 173, 174, 175, 176, 177, 178, 179, 180, 181, 182, 183, 184, 185, 186, 187, 188, 189, 190, 191, 192, 193, 194, 195, 196, 197, 198, 199, 200, 201, 202, 203, 204, 205, 206, 207, 208, 209, 224, 225, 226, 227, 228, 229, 230, 247, 248, 249, 231, 232, 233, 234, 235, 236, 237, 238, 239, 240, 241, 242, 243, 244, 245, 246, 250, 251, 252, 253, 254, 255, 256, 257, 258, 259, 260, 261, 262, 263, 264, 265, 266, 267, 268, 269, 270, 271, 272, 273, 274, 275, 276, 277, 278, 279] (by decide +kernel) (by decide +kernel)
set_option maxRecDepth 20000 in
theorem gX11_has_X11_runToState : GoodIn wsX11_has (wsV RX11 192 RX11 yX11_runToState wsX11_runToState) := goodIn_app (goodIn_of _ (by decide +kernel)) ggX11_has_X11_runToState
theorem dX11_has_7 : decode cX11_has 7 = .ok (.ifCond .eq 18, 3) := by decide +kernel
theorem dX11_has_25 : decode cX11_has 25 = .ok (.bipush (-2), 2) := by decide +kernel
theorem dX11_has_27 : decode cX11_has 27 = .ok (.ireturn, 1) := by decide +kernel
theorem dX11_claimed_0 : decode cX11_claimed 0 = .ok (.iload_n 3, 1) := by decide +kernel
theorem dX11_claimed_1 : decode cX11_claimed 1 = .ok (.ifCond .lt 15, 3) := by decide +kernel
theorem dX11_claimed_16 : decode cX11_claimed 16 = .ok (.iconst (-1), 1) := by decide +kernel
theorem dX11_claimed_17 : decode cX11_claimed 17 = .ok (.ireturn, 1) := by decide +kernel
theorem dX11_claimed_4 : decode cX11_claimed 4 = .ok (.aload_n 0, 1) := by decide +kernel
theorem dX11_claimed_5 : decode cX11_claimed 5 = .ok (.iload_n 1, 1) := by decide +kernel
theorem dX11_claimed_6 : decode cX11_claimed 6 = .ok (.iload_n 2, 1) := by decide +kernel
theorem dX11_claimed_7 : decode cX11_claimed 7 = .ok (.iload_n 3, 1) := by decide +kernel
theorem dX11_claimed_8 : decode cX11_claimed 8 = .ok (.iconst 1, 1) := by decide +kernel
theorem dX11_claimed_9 : decode cX11_claimed 9 = .ok (.iadd, 1) := by decide +kernel
theorem dX11_claimed_10 : decode cX11_claimed 10 = .ok (.invokevirtual 192, 3) := by decide +kernel
set_option maxRecDepth 20000 in
theorem ggX11_claimed_X11_runToState : GoodIn wsX11_claimed wsX11_runToState := goodIn_r _ [10, 11, 12, 1, 13, 14, 15, 16, 17, 18, 19, 20, 21, 22, 23, 24, 25, 26, 27, 28, 29, 30, 31, 32, 33, 34, 35, 36, 37, 38, 39, 40, 41, 42, 43, 44, 45, 46, 47, 48, 49, 50, 51, 52, 53, 54, 55, 56, 57, 58, 59, 60, 61, 62, 63, 64, 65, 66, 67, 68, 69, 70, 71, 72, 73, 74, 75, 76, 77, 78, 79, 80, 81, 82, 83, 84, 85, 86, 87, 88, 89, 90, 91, 92, 93, 94, 95, 96, 97, 98, 99, 100, 101, 102, 103, 104, 105, 106, 107, 108, 109, 110, 111, 112, 113, 114, 115, 116, 117, 118, 119, 120, 121, 122, 123, 124, 125, 126, 127, 128, 129, 130, 131, 132, 133, 134, 135, 136, 137, 138, 139, 140, 141, 142, 143, 144, 145, 146, 147, 148, 149, 150, 151, 152, 153, 154, 155, 156, 157, 158, 159, 160, 161, 162, 163, 164, 165, 166, 167, 168, 169, 170, 171, 172, 173, 174, 175, 176, 177, 178, 179, 180, 181, 182, 183, 184, 185, 186, 187, 188, 189, 190, 191, 192, 193, 194, 195, 196, 197, 198, 199, 200, 201, 202, 203, 204, 205, 206, 207, 208, 209, 210, 211, 212, 213, 214, 215, 232, 233, 234, 216, 217, 218, 219, 220, 221, 222, 223, 224, 225, 226, 227, 228, 229, 230, 231, 235, 236, 237, 238, 239, 240, 241, 242, 243, 244, 245, 246, 247, 248, 249, 250, 251, 252, 253, 254, 255, 256, 257, 258, 259, 260, 261, 262, 263, 264] (by decide +kernel) (by decide +kernel)
set_option maxRecDepth 20000 in
theorem gX11_claimed_X11_runToState : GoodIn wsX11_claimed (wsV RX11 192 RX11 yX11_runToState wsX11_runToState) := goodIn_app (goodIn_of _ (by decide +kernel)) ggX11_claimed_X11_runToState
theorem dX11_claimed_13 : decode cX11_claimed 13 = .ok (.ifCond .ne 5, 3) := by decide +kernel
theorem dX11_shares_0 : decode cX11_shares 0 = .ok (.iload_n 3, 1) := by decide +kernel
theorem dX11_shares_1 : decode cX11_shares 1 = .ok (.ifCond .lt 31, 3) := by decide +kernel
theorem dX11_shares_32 : decode cX11_shares 32 = .ok (.bipush (-2), 2) := by decide +kernel
theorem dX11_shares_34 : decode cX11_shares 34 = .ok (.ireturn, 1) := by decide +kernel
theorem dX11_shares_4 : decode cX11_shares 4 = .ok (.aload_n 0, 1) := by decide +kernel
theorem dX11_shares_5 : decode cX11_shares 5 = .ok (.iload_n 1, 1) := by decide +kernel
theorem dX11_shares_6 : decode cX11_shares 6 = .ok (.iload_n 2, 1) := by decide +kernel
theorem dX11_shares_7 : decode cX11_shares 7 = .ok (.iload_n 3, 1) := by decide +kernel
theorem dX11_shares_8 : decode cX11_shares 8 = .ok (.iconst 1, 1) := by decide +kernel
theorem dX11_shares_9 : decode cX11_shares 9 = .ok (.iadd, 1) := by decide +kernel
theorem dX11_shares_10 : decode cX11_shares 10 = .ok (.invokevirtual 192, 3) := by decide +kernel
set_option maxRecDepth 20000 in
theorem ggX11_shares_X11_runToState : GoodIn wsX11_shares wsX11_runToState := goodIn_r _ [11, 12, 13, 1, 14, 15, 16, 17, 18, 19, 20, 21, 22, 23, 24, 25, 26, 27, 28, 29, 30, 31, 32, 33, 34, 35, 36, 37, 38, 39, 40, 41, 42, 43, 44, 45, 46, 47, 48, 49, 50, 51, 52, 53, 54, 55, 56, 57, 58, 59, 60, 61, 62, 63, 64, 65, 66, 67, 68, 69, 70, 71, 72, 73, 74, 75, 76, 77, 78, 79, 80, 81, 82, 83, 84, 85, 86, 87, 88, 89, 90, 91, 92, 93, 94, 95, 96, 97, 98, 99, 100, 101, 102, 103, 104, 105, 106, 107, 108, 109, 110, 111, 112, 113, 114, 115, 116, 117, 118, 119, 120, 121, 122, 123, 124, 125, 126, 127, 128, 129, 130, 131, 132, 133, 134, 135, 136, 137, 138, 139, 140, 141, 142, 143, 144, 145, 146, 147, 148, 149, 150, 151, 152, 153, 154, 155, 156, 157, 158, 159, 160, 161, 162, 163, 164, 165, 166, 167, 168, 169, 170, 171, 172, 173, 174, 175, 176, 177, 178, 179, 180, 181, 182, 183, 184, 185, 186, 187, 188, 189, 190, 191, 192, 193, 194, 195, 196, 197, 198, 199, 200, 201, 202, 203, 204, 205, 206, 207, 208, 209, 210, 211, 212, 213, 214, 215, 216, 233, 234, 235, 217, 218, 219, 220, 221, 222, 223, 224, 225, 226, 227, 228, 229, 230, 231, 232, 236, 237, 238, 239, 240, 241, 242, 243, 244, 245, 246, 247, 248, 249, 250, 251, 252, 253, 254, 255, 256, 257, 258, 259, 260, 261, 262, 263, 264, 265] (by decide +kernel) (by decide +kernel)
set_option maxRecDepth 20000 in
theorem gX11_shares_X11_runToState : GoodIn wsX11_shares (wsV RX11 192 RX11 yX11_runToState wsX11_runToState) := goodIn_app (goodIn_of _ (by decide +kernel)) ggX11_shares_X11_runToState
theorem dX11_shares_13 : decode cX11_shares 13 = .ok (.ifCond .eq 19, 3) := by decide +kernel
theorem dX11_twice_0 : decode cX11_twice 0 = .ok (.aload_n 0, 1) := by decide +kernel
theorem dX11_twice_1 : decode cX11_twice 1 = .ok (.iload_n 1, 1) := by decide +kernel
theorem dX11_twice_2 : decode cX11_twice 2 = .ok (.iload_n 2, 1) := by decide +kernel
theorem dX11_twice_3 : decode cX11_twice 3 = .ok (.invokevirtual 185, 3) := by decide +kernel
set_option maxRecDepth 20000 in
theorem ggX11_twice_X11_runToStop : GoodIn wsX11_twice wsX11_runToStop := goodIn_r _ [7, 8, 1, 9, 10, 11, 12, 13, 14, 15, 16, 17, 18, 19, 20, 21, 22, 23, 24, 25, 26, 27, 28, 29, 30, 31, 32, 33, 34, 35, 36, 37, 38, 39, 40, 41, 42, 43, 44, 45, 46, 47, 48, 49, 50, 51, 52, 53, 54, 55, 56, 57, 58, 59, 60, 61, 62, 63, 64, 65, 66, 67, 68, 69, 70, 71, 72, 73, 74, 75, 76, 77, 78, 79, 80, 81, 82, 83, 84, 85, 86, 87, 88, 89, 90, 91, 92, 93, 94, 95, 96, 97, 98, 99, 100, 101, 102, 103, 104, 105, 106, 107, 108, 109, 110, 111, 112, 113, 114, 115, 116, 117, 118, 119, 120, 121, 122, 123, 124, 125, 126, 127, 128, 129, 130, 131, 132, 133, 134, 135, 136, 137, 138, 139, 140, 141, 142, 143, 144, 145, 146, 147, 148, 149, 150, 151, 152, 153, 154, 155, 156, 157, 158, 159, 160, 161, 162, 163, 164, 165, 166, 167, 168, 169, 170, 171, 172, 173, 174, 175, 176, 177, 178, 179, 180, 181, 182, 183, 184, 185, 186, 187, 188, 189, 190, 191, 192, 193, 194, 195, 196, 197, 198, 199, 200, 201, 202, 203, 204, 205, 206, 207, 208, 209, 210, 227, 228, 229, 230, 231, 232, 233, 211, 212, 213, 214, 215, 216, 217, 218, 219, 220, 221, 222, 223, 224, 225, 226, 234, 235, 236, 237, 238, 239, 240, 241, 242, 243, 244, 245, 246, 247, 248, 249, 250, 251, 252, 253, 254, 255, 256, 257, 258, 259] (by decide +kernel) (by decide +kernel)
set_option maxRecDepth 20000 in
theorem gX11_twice_X11_runToStop : GoodIn wsX11_twice (wsV RX11 185 RX11 yX11_runToStop wsX11_runToStop) := goodIn_app (goodIn_of _ (by decide +kernel)) ggX11_twice_X11_runToStop
theorem dX11_twice_6 : decode cX11_twice 6 = .ok (.ifCond .eq 13, 3) := by decide +kernel
theorem dX11_twice_19 : decode cX11_twice 19 = .ok (.iconst (-1), 1) := by decide +kernel
theorem dX11_twice_20 : decode cX11_twice 20 = .ok (.ireturn, 1) := by decide +kernel
theorem dX11_soon_0 : decode cX11_soon 0 = .ok (.aload_n 0, 1) := by decide +kernel
theorem dX11_soon_1 : decode cX11_soon 1 = .ok (.getfield 10, 3) := by decide +kernel
theorem dX11_soon_4 : decode cX11_soon 4 = .ok (.iload_n 1, 1) := by decide +kernel
theorem dX11_soon_5 : decode cX11_soon 5 = .ok (.invokevirtual 93, 3) := by decide +kernel
set_option maxRecDepth 20000 in
theorem ggX11_soon_X9_findSea : GoodIn wsX11_soon wsX9_findSea := goodIn_r _ [7, 8, 9, 122, 123, 124, 125, 126, 127, 128] (by decide +kernel) (by decide +kernel)
set_option maxRecDepth 20000 in
theorem gX11_soon_X9_findSea : GoodIn wsX11_soon (wsV RX11 93 RX9 yX9_findSea wsX9_findSea) := goodIn_app (goodIn_of _ (by decide +kernel)) ggX11_soon_X9_findSea
theorem dX11_soon_8 : decode cX11_soon 8 = .ok (.astore 5, 2) := by decide +kernel
theorem dX11_soon_10 : decode cX11_soon 10 = .ok (.aload 5, 2) := by decide +kernel
theorem dX11_soon_12 : decode cX11_soon 12 = .ok (.ifnull 21, 3) := by decide +kernel
theorem dX11_soon_33 : decode cX11_soon 33 = .ok (.iconst (-1), 1) := by decide +kernel
theorem dX11_soon_34 : decode cX11_soon 34 = .ok (.ireturn, 1) := by decide +kernel
theorem dX11_berth_0 : decode cX11_berth 0 = .ok (.aload_n 0, 1) := by decide +kernel
theorem dX11_berth_1 : decode cX11_berth 1 = .ok (.getfield 10, 3) := by decide +kernel
theorem dX11_berth_4 : decode cX11_berth 4 = .ok (.iload_n 1, 1) := by decide +kernel
theorem dX11_berth_5 : decode cX11_berth 5 = .ok (.invokevirtual 93, 3) := by decide +kernel
set_option maxRecDepth 20000 in
theorem ggX11_berth_X9_findSea : GoodIn wsX11_berth wsX9_findSea := goodIn_r _ [9, 10, 11, 95, 96, 97, 98, 99, 100, 101] (by decide +kernel) (by decide +kernel)
set_option maxRecDepth 20000 in
theorem gX11_berth_X9_findSea : GoodIn wsX11_berth (wsV RX11 93 RX9 yX9_findSea wsX9_findSea) := goodIn_app (goodIn_of _ (by decide +kernel)) ggX11_berth_X9_findSea
theorem dX11_berth_8 : decode cX11_berth 8 = .ok (.astore 4, 2) := by decide +kernel
theorem dX11_berth_10 : decode cX11_berth 10 = .ok (.aload 4, 2) := by decide +kernel
theorem dX11_berth_12 : decode cX11_berth 12 = .ok (.ifnull 12, 3) := by decide +kernel
theorem dX11_berth_24 : decode cX11_berth 24 = .ok (.iconst (-1), 1) := by decide +kernel
theorem dX11_berth_25 : decode cX11_berth 25 = .ok (.ireturn, 1) := by decide +kernel
theorem dX11_pair_0 : decode cX11_pair 0 = .ok (.aload_n 0, 1) := by decide +kernel
theorem dX11_pair_1 : decode cX11_pair 1 = .ok (.getfield 10, 3) := by decide +kernel
theorem dX11_pair_4 : decode cX11_pair 4 = .ok (.iload_n 1, 1) := by decide +kernel
theorem dX11_pair_5 : decode cX11_pair 5 = .ok (.invokevirtual 93, 3) := by decide +kernel
set_option maxRecDepth 20000 in
theorem ggX11_pair_X9_findSea : GoodIn wsX11_pair wsX9_findSea := goodIn_r _ [10, 11, 12, 103, 104, 105, 106, 107, 108, 109] (by decide +kernel) (by decide +kernel)
set_option maxRecDepth 20000 in
theorem gX11_pair_X9_findSea : GoodIn wsX11_pair (wsV RX11 93 RX9 yX9_findSea wsX9_findSea) := goodIn_app (goodIn_of _ (by decide +kernel)) ggX11_pair_X9_findSea
theorem dX11_pair_8 : decode cX11_pair 8 = .ok (.astore 5, 2) := by decide +kernel
theorem dX11_pair_10 : decode cX11_pair 10 = .ok (.aload 5, 2) := by decide +kernel
theorem dX11_pair_12 : decode cX11_pair 12 = .ok (.ifnull 37, 3) := by decide +kernel
theorem dX11_pair_49 : decode cX11_pair 49 = .ok (.iconst (-1), 1) := by decide +kernel
theorem dX11_pair_50 : decode cX11_pair 50 = .ok (.ireturn, 1) := by decide +kernel
theorem dX11_dispute_0 : decode cX11_dispute 0 = .ok (.aload_n 0, 1) := by decide +kernel
theorem dX11_dispute_1 : decode cX11_dispute 1 = .ok (.getfield 10, 3) := by decide +kernel
theorem dX11_dispute_4 : decode cX11_dispute 4 = .ok (.iload_n 1, 1) := by decide +kernel
theorem dX11_dispute_5 : decode cX11_dispute 5 = .ok (.invokevirtual 285, 3) := by decide +kernel
set_option maxRecDepth 20000 in
theorem ggX11_dispute_X9_findDispute : GoodIn wsX11_dispute wsX9_findDispute := goodIn_r _ [9, 10, 11, 107, 108, 109, 110, 111, 112, 113] (by decide +kernel) (by decide +kernel)
set_option maxRecDepth 20000 in
theorem gX11_dispute_X9_findDispute : GoodIn wsX11_dispute (wsV RX11 285 RX9 yX9_findDispute wsX9_findDispute) := goodIn_app (goodIn_of _ (by decide +kernel)) ggX11_dispute_X9_findDispute
theorem dX11_dispute_8 : decode cX11_dispute 8 = .ok (.astore_n 3, 1) := by decide +kernel
theorem dX11_dispute_9 : decode cX11_dispute 9 = .ok (.aload_n 3, 1) := by decide +kernel
theorem dX11_dispute_10 : decode cX11_dispute 10 = .ok (.ifnonnull 6, 3) := by decide +kernel
theorem dX11_dispute_13 : decode cX11_dispute 13 = .ok (.bipush (-2), 2) := by decide +kernel
theorem dX11_dispute_15 : decode cX11_dispute 15 = .ok (.ireturn, 1) := by decide +kernel
theorem dX11_hours_0 : decode cX11_hours 0 = .ok (.aload_n 0, 1) := by decide +kernel
theorem dX11_hours_1 : decode cX11_hours 1 = .ok (.getfield 10, 3) := by decide +kernel
theorem dX11_hours_4 : decode cX11_hours 4 = .ok (.iload_n 1, 1) := by decide +kernel
theorem dX11_hours_5 : decode cX11_hours 5 = .ok (.invokevirtual 285, 3) := by decide +kernel
set_option maxRecDepth 20000 in
theorem ggX11_hours_X9_findDispute : GoodIn wsX11_hours wsX9_findDispute := goodIn_r _ [10, 11, 12, 66, 67, 68, 69, 70, 71, 72] (by decide +kernel) (by decide +kernel)
set_option maxRecDepth 20000 in
theorem gX11_hours_X9_findDispute : GoodIn wsX11_hours (wsV RX11 285 RX9 yX9_findDispute wsX9_findDispute) := goodIn_app (goodIn_of _ (by decide +kernel)) ggX11_hours_X9_findDispute
theorem dX11_hours_8 : decode cX11_hours 8 = .ok (.astore 4, 2) := by decide +kernel
theorem dX11_hours_10 : decode cX11_hours 10 = .ok (.aload 4, 2) := by decide +kernel
theorem dX11_hours_12 : decode cX11_hours 12 = .ok (.ifnull 28, 3) := by decide +kernel
theorem dX11_hours_40 : decode cX11_hours 40 = .ok (.iconst (-1), 1) := by decide +kernel
theorem dX11_hours_41 : decode cX11_hours 41 = .ok (.ireturn, 1) := by decide +kernel
theorem dX11_gulls_0 : decode cX11_gulls 0 = .ok (.aload_n 0, 1) := by decide +kernel
theorem dX11_gulls_1 : decode cX11_gulls 1 = .ok (.getfield 10, 3) := by decide +kernel
theorem dX11_gulls_4 : decode cX11_gulls 4 = .ok (.iload_n 1, 1) := by decide +kernel
theorem dX11_gulls_5 : decode cX11_gulls 5 = .ok (.invokevirtual 93, 3) := by decide +kernel
set_option maxRecDepth 20000 in
theorem ggX11_gulls_X9_findSea : GoodIn wsX11_gulls wsX9_findSea := goodIn_r _ [9, 10, 11, 229, 230, 231, 232, 233, 234, 235] (by decide +kernel) (by decide +kernel)
set_option maxRecDepth 20000 in
theorem gX11_gulls_X9_findSea : GoodIn wsX11_gulls (wsV RX11 93 RX9 yX9_findSea wsX9_findSea) := goodIn_app (goodIn_of _ (by decide +kernel)) ggX11_gulls_X9_findSea
theorem dX11_gulls_8 : decode cX11_gulls 8 = .ok (.astore 6, 2) := by decide +kernel
theorem dX11_gulls_10 : decode cX11_gulls 10 = .ok (.aload_n 0, 1) := by decide +kernel
theorem dX11_gulls_11 : decode cX11_gulls 11 = .ok (.getfield 10, 3) := by decide +kernel
theorem dX11_gulls_14 : decode cX11_gulls 14 = .ok (.iload_n 2, 1) := by decide +kernel
theorem dX11_gulls_15 : decode cX11_gulls 15 = .ok (.invokevirtual 170, 3) := by decide +kernel
set_option maxRecDepth 20000 in
theorem ggX11_gulls_X9_findDay : GoodIn wsX11_gulls wsX9_findDay := goodIn_r _ [15, 10, 16, 229, 230, 231, 232, 233, 234, 235] (by decide +kernel) (by decide +kernel)
set_option maxRecDepth 20000 in
theorem gX11_gulls_X9_findDay : GoodIn wsX11_gulls (wsV RX11 170 RX9 yX9_findDay wsX9_findDay) := goodIn_app (goodIn_of _ (by decide +kernel)) ggX11_gulls_X9_findDay
theorem dX11_gulls_18 : decode cX11_gulls 18 = .ok (.astore 7, 2) := by decide +kernel
theorem dX11_gulls_20 : decode cX11_gulls 20 = .ok (.aload 6, 2) := by decide +kernel
theorem dX11_gulls_22 : decode cX11_gulls 22 = .ok (.ifnull 20, 3) := by decide +kernel
theorem dX11_gulls_42 : decode cX11_gulls 42 = .ok (.iconst (-1), 1) := by decide +kernel
theorem dX11_gulls_43 : decode cX11_gulls 43 = .ok (.ireturn, 1) := by decide +kernel
theorem dX11_lack_0 : decode cX11_lack 0 = .ok (.aload_n 0, 1) := by decide +kernel
theorem dX11_lack_1 : decode cX11_lack 1 = .ok (.iload_n 1, 1) := by decide +kernel
theorem dX11_lack_2 : decode cX11_lack 2 = .ok (.iload_n 2, 1) := by decide +kernel
theorem dX11_lack_3 : decode cX11_lack 3 = .ok (.iload_n 3, 1) := by decide +kernel
theorem dX11_lack_4 : decode cX11_lack 4 = .ok (.invokevirtual 192, 3) := by decide +kernel
set_option maxRecDepth 20000 in
theorem ggX11_lack_X11_runToState : GoodIn wsX11_lack wsX11_runToState := goodIn_r _ [8, 9, 10, 1, 11, 12, 13, 14, 15, 16, 17, 18, 19, 20, 21, 22, 23, 24, 25, 26, 27, 28, 29, 30, 31, 32, 33, 34, 35, 36, 37, 38, 39, 40, 41, 42, 43, 44, 45, 46, 47, 48, 49, 50, 51, 52, 53, 54, 55, 56, 57, 58, 59, 60, 61, 62, 63, 64, 65, 66, 67, 68, 69, 70, 71, 72, 73, 74, 75, 76, 77, 78, 79, 80, 81, 82, 83, 84, 85, 86, 87, 88, 89, 90, 91, 92, 93, 94, 95, 96, 97, 98, 99, 100, 101, 102, 103, 104, 105, 106, 107, 108, 109, 110, 111, 112, 113, 114, 115, 116, 117, 118, 119, 120, 121, 122, 123, 124, 125, 126, 127, 128, 129, 130, 131, 132, 133, 134, 135, 136, 137, 138, 139, 140, 141, 142, 143, 144, 145, 146, 147, 148, 149, 150, 151, 152, 153, 154, 155, 156, 157, 158, 159, 160, 161, 162, 163, 164, 165, 166, 167, 168, 169, 170, 171, 172, 173, 174, 175, 176, 177, 178, 179, 180, 181, 182, 183, 184, 185, 186, 187, 188, 189, 190, 191, 192, 193, 194, 195, 196, 197, 198, 199, 200, 201, 202, 203, 204, 205, 206, 214, 215, 216, 217, 218, 219, 220, 237, 238, 239, 221, 222, 223, 224, 225, 226, 227, 228, 229, 230, 231, 232, 233, 234, 235, 236, 240, 241, 242, 243, 244, 245, 246, 247, 248, 249, 250, 251, 252, 253, 254, 255, 256, 257, 258, 259, 260, 261, 262, 263, 264, 265, 266, 267, 268, 269] (by decide +kernel) (by decide +kernel)
set_option maxRecDepth 20000 in
theorem gX11_lack_X11_runToState : GoodIn wsX11_lack (wsV RX11 192 RX11 yX11_runToState wsX11_runToState) := goodIn_app (goodIn_of _ (by decide +kernel)) ggX11_lack_X11_runToState
theorem dX11_lack_7 : decode cX11_lack 7 = .ok (.ifCond .eq 33, 3) := by decide +kernel
theorem dX11_lack_40 : decode cX11_lack 40 = .ok (.iconst (-1), 1) := by decide +kernel
theorem dX11_lack_41 : decode cX11_lack 41 = .ok (.ireturn, 1) := by decide +kernel
theorem dX11_least_0 : decode cX11_least 0 = .ok (.aload_n 0, 1) := by decide +kernel
theorem dX11_least_1 : decode cX11_least 1 = .ok (.getfield 10, 3) := by decide +kernel
theorem dX11_least_4 : decode cX11_least 4 = .ok (.iload_n 1, 1) := by decide +kernel
theorem dX11_least_5 : decode cX11_least 5 = .ok (.invokevirtual 93, 3) := by decide +kernel
set_option maxRecDepth 20000 in
theorem ggX11_least_X9_findSea : GoodIn wsX11_least wsX9_findSea := goodIn_r _ [7, 8, 9, 69, 70, 71, 72, 73, 74, 75] (by decide +kernel) (by decide +kernel)
set_option maxRecDepth 20000 in
theorem gX11_least_X9_findSea : GoodIn wsX11_least (wsV RX11 93 RX9 yX9_findSea wsX9_findSea) := goodIn_app (goodIn_of _ (by decide +kernel)) ggX11_least_X9_findSea
theorem dX11_least_8 : decode cX11_least 8 = .ok (.astore 4, 2) := by decide +kernel
theorem dX11_least_10 : decode cX11_least 10 = .ok (.aload 4, 2) := by decide +kernel
theorem dX11_least_12 : decode cX11_least 12 = .ok (.ifnull 21, 3) := by decide +kernel
theorem dX11_least_33 : decode cX11_least 33 = .ok (.iconst (-1), 1) := by decide +kernel
theorem dX11_least_34 : decode cX11_least 34 = .ok (.ireturn, 1) := by decide +kernel
theorem dX11_winds_0 : decode cX11_winds 0 = .ok (.aload_n 0, 1) := by decide +kernel
theorem dX11_winds_1 : decode cX11_winds 1 = .ok (.getfield 10, 3) := by decide +kernel
theorem dX11_winds_4 : decode cX11_winds 4 = .ok (.iload_n 1, 1) := by decide +kernel
theorem dX11_winds_5 : decode cX11_winds 5 = .ok (.invokevirtual 93, 3) := by decide +kernel
set_option maxRecDepth 20000 in
theorem ggX11_winds_X9_findSea : GoodIn wsX11_winds wsX9_findSea := goodIn_r _ [10, 11, 12, 86, 87, 88, 89, 90, 91, 92] (by decide +kernel) (by decide +kernel)
set_option maxRecDepth 20000 in
theorem gX11_winds_X9_findSea : GoodIn wsX11_winds (wsV RX11 93 RX9 yX9_findSea wsX9_findSea) := goodIn_app (goodIn_of _ (by decide +kernel)) ggX11_winds_X9_findSea
theorem dX11_winds_8 : decode cX11_winds 8 = .ok (.astore_n 3, 1) := by decide +kernel
theorem dX11_winds_9 : decode cX11_winds 9 = .ok (.aload_n 3, 1) := by decide +kernel
theorem dX11_winds_10 : decode cX11_winds 10 = .ok (.ifnull 12, 3) := by decide +kernel
theorem dX11_winds_22 : decode cX11_winds 22 = .ok (.iconst (-1), 1) := by decide +kernel
theorem dX11_winds_23 : decode cX11_winds 23 = .ok (.ireturn, 1) := by decide +kernel
theorem dX11_meet_0 : decode cX11_meet 0 = .ok (.aload_n 0, 1) := by decide +kernel
theorem dX11_meet_1 : decode cX11_meet 1 = .ok (.getfield 10, 3) := by decide +kernel
theorem dX11_meet_4 : decode cX11_meet 4 = .ok (.iload_n 1, 1) := by decide +kernel
theorem dX11_meet_5 : decode cX11_meet 5 = .ok (.invokevirtual 93, 3) := by decide +kernel
set_option maxRecDepth 20000 in
theorem ggX11_meet_X9_findSea : GoodIn wsX11_meet wsX9_findSea := goodIn_r _ [8, 9, 10, 57, 58, 59, 60, 61, 62, 63] (by decide +kernel) (by decide +kernel)
set_option maxRecDepth 20000 in
theorem gX11_meet_X9_findSea : GoodIn wsX11_meet (wsV RX11 93 RX9 yX9_findSea wsX9_findSea) := goodIn_app (goodIn_of _ (by decide +kernel)) ggX11_meet_X9_findSea
theorem dX11_meet_8 : decode cX11_meet 8 = .ok (.astore 4, 2) := by decide +kernel
theorem dX11_meet_10 : decode cX11_meet 10 = .ok (.aload 4, 2) := by decide +kernel
theorem dX11_meet_12 : decode cX11_meet 12 = .ok (.ifnull 26, 3) := by decide +kernel
theorem dX11_meet_38 : decode cX11_meet 38 = .ok (.iconst (-1), 1) := by decide +kernel
theorem dX11_meet_39 : decode cX11_meet 39 = .ok (.ireturn, 1) := by decide +kernel
theorem dX11_sum_0 : decode cX11_sum 0 = .ok (.aload_n 0, 1) := by decide +kernel
theorem dX11_sum_1 : decode cX11_sum 1 = .ok (.iload_n 1, 1) := by decide +kernel
theorem dX11_sum_2 : decode cX11_sum 2 = .ok (.iload_n 2, 1) := by decide +kernel
theorem dX11_sum_3 : decode cX11_sum 3 = .ok (.invokevirtual 185, 3) := by decide +kernel
set_option maxRecDepth 20000 in
theorem ggX11_sum_X11_runToStop : GoodIn wsX11_sum wsX11_runToStop := goodIn_r _ [7, 8, 1, 9, 10, 11, 12, 13, 14, 15, 16, 17, 18, 19, 20, 21, 22, 23, 24, 25, 26, 27, 28, 29, 30, 31, 32, 33, 34, 35, 36, 37, 38, 39, 40, 41, 42, 43, 44, 45, 46, 47, 48, 49, 50, 51, 52, 53, 54, 55, 56, 57, 58, 59, 60, 61, 62, 63, 64, 65, 66, 67, 68, 69, 70, 71, 72, 73, 74, 75, 76, 77, 78, 79, 80, 81, 82, 83, 84, 85, 86, 87, 88, 89, 90, 91, 92, 93, 94, 95, 96, 97, 98, 99, 100, 101, 102, 103, 104, 105, 106, 107, 108, 109, 110, 111, 112, 113, 114, 115, 116, 117, 118, 119, 120, 121, 122, 123, 124, 125, 126, 127, 128, 129, 130, 131, 132, 133, 134, 135, 136, 137, 138, 139, 140, 141, 142, 143, 144, 145, 146, 147, 148, 149, 150, 151, 152, 153, 154, 155, 156, 157, 158, 159, 160, 161, 162, 163, 164, 165, 166, 167, 168, 169, 170, 171, 172, 173, 174, 175, 176, 177, 178, 179, 180, 181, 182, 183, 184, 185, 186, 187, 188, 189, 190, 191, 192, 193, 194, 195, 196, 197, 198, 199, 200, 201, 202, 203, 228, 229, 230, 231, 232, 233, 234, 251, 252, 253, 254, 255, 256, 257, 235, 236, 237, 238, 239, 240, 241, 242, 243, 244, 245, 246, 247, 248, 249, 250, 258, 259, 260, 261, 262, 263, 264, 265, 266, 267, 268, 269, 270, 271, 272, 273, 274, 275, 276, 277, 278, 279, 280, 281, 282, 283] (by decide +kernel) (by decide +kernel)
set_option maxRecDepth 20000 in
theorem gX11_sum_X11_runToStop : GoodIn wsX11_sum (wsV RX11 185 RX11 yX11_runToStop wsX11_runToStop) := goodIn_app (goodIn_of _ (by decide +kernel)) ggX11_sum_X11_runToStop
theorem dX11_sum_6 : decode cX11_sum 6 = .ok (.ifCond .ne 6, 3) := by decide +kernel
theorem dX11_sum_9 : decode cX11_sum 9 = .ok (.bipush (-2), 2) := by decide +kernel
theorem dX11_sum_11 : decode cX11_sum 11 = .ok (.ireturn, 1) := by decide +kernel
theorem dX11_tells_0 : decode cX11_tells 0 = .ok (.aload_n 0, 1) := by decide +kernel
theorem dX11_tells_1 : decode cX11_tells 1 = .ok (.getfield 10, 3) := by decide +kernel
theorem dX11_tells_4 : decode cX11_tells 4 = .ok (.iload_n 1, 1) := by decide +kernel
theorem dX11_tells_5 : decode cX11_tells 5 = .ok (.invokevirtual 93, 3) := by decide +kernel
set_option maxRecDepth 20000 in
theorem ggX11_tells_X9_findSea : GoodIn wsX11_tells wsX9_findSea := goodIn_r _ [7, 8, 9, 61, 62, 63, 64, 65, 66, 67] (by decide +kernel) (by decide +kernel)
set_option maxRecDepth 20000 in
theorem gX11_tells_X9_findSea : GoodIn wsX11_tells (wsV RX11 93 RX9 yX9_findSea wsX9_findSea) := goodIn_app (goodIn_of _ (by decide +kernel)) ggX11_tells_X9_findSea
theorem dX11_tells_8 : decode cX11_tells 8 = .ok (.astore_n 3, 1) := by decide +kernel
theorem dX11_tells_9 : decode cX11_tells 9 = .ok (.aload_n 3, 1) := by decide +kernel
theorem dX11_tells_10 : decode cX11_tells 10 = .ok (.ifnull 11, 3) := by decide +kernel
theorem dX11_tells_21 : decode cX11_tells 21 = .ok (.iconst (-1), 1) := by decide +kernel
theorem dX11_tells_22 : decode cX11_tells 22 = .ok (.ireturn, 1) := by decide +kernel
theorem dX11_fault_0 : decode cX11_fault 0 = .ok (.iload_n 1, 1) := by decide +kernel
theorem dX11_fault_1 : decode cX11_fault 1 = .ok (.ifCond .ne 11, 3) := by decide +kernel
theorem dX11_fault_12 : decode cX11_fault 12 = .ok (.iload_n 1, 1) := by decide +kernel
theorem dX11_fault_13 : decode cX11_fault 13 = .ok (.iconst 1, 1) := by decide +kernel
theorem dX11_fault_14 : decode cX11_fault 14 = .ok (.if_icmp .ne 13, 3) := by decide +kernel
theorem dX11_fault_27 : decode cX11_fault 27 = .ok (.iconst (-1), 1) := by decide +kernel
theorem dX11_fault_28 : decode cX11_fault 28 = .ok (.ireturn, 1) := by decide +kernel
theorem dX11_fault_17 : decode cX11_fault 17 = .ok (.aload_n 0, 1) := by decide +kernel
theorem dX11_fault_18 : decode cX11_fault 18 = .ok (.getfield 10, 3) := by decide +kernel
theorem dX11_fault_21 : decode cX11_fault 21 = .ok (.getfield 92, 3) := by decide +kernel
theorem dX11_fault_24 : decode cX11_fault 24 = .ok (.goto 4, 3) := by decide +kernel
theorem dX11_fault_4 : decode cX11_fault 4 = .ok (.aload_n 0, 1) := by decide +kernel
theorem dX11_fault_5 : decode cX11_fault 5 = .ok (.getfield 10, 3) := by decide +kernel
theorem dX11_fault_8 : decode cX11_fault 8 = .ok (.getfield 91, 3) := by decide +kernel
theorem dX11_fault_11 : decode cX11_fault 11 = .ok (.ireturn, 1) := by decide +kernel
set_option maxHeartbeats 4000000 in
set_option maxRecDepth 100000 in
theorem c_X9_findSea (l : Launch) (D : va_G) (cy : Nat → ClassId) (t0 : Nat) (tp : Nat) (nu : Nat) (se : Nat) (da : Nat) (di : Nat) (p0 : Int32)  : Met l yX9_findSea wsX9_findSea ({ frames := 0, cells := 0, slots := 0, locals := 0 } : Room) (va_Pc [.ref t0, .int p0] (PR D cy [(t0, .inr (9, [.ref tp, .ref nu, .ref se, .ref da, .ref di, .int 0, .int (-1)])), (nu, .inl (cy 0, 3, .inl (fun _ => 0)))])) (va_Sq (fun r : Option Nat => r = none)) 0 0 (fun _ => False) := by
  refine Met.ofW (cc := cX9_findSea) (maxL := 2) (ret := (some (.object "ShoalClaims$Sea"))) (by decide) rfl ?_
  intro p e s m args below meth c s₁ B hml hv
  obtain ⟨rfl, hP, hKW⟩ := hv
  have hK := hKW.1
  have hx := B.exec
  have hb := B.bytes
  have hr := B.returns
  have hts := atoms_spec (ws := wsX9_findSea) B.pre
  have hown : s.vm.findClass RX9 = some m.cls := findClass_of_methodNamed B.named
  have hlocks := B.notSynchronized
  have in_9 : ∀ w ∈ u_ws RX9 TX9 7, w ∈ wsX9_findSea := by decide +kernel
  have fl_18 := hts (.fieldLink RX9 18 "ShoalClaims$Told" "numbers" "[I") (by decide +kernel)
  have hP : va_P D vwCl [(t0, .inr (9, [.ref tp, .ref nu, .ref se, .ref da, .ref di, .int 0, .int (-1)])), (nu, .inl (cy 0, 3, .inl (fun _ => 0)))] s.heap := hP
  have hl := lv_entry ([.ref t0, .int p0]) (n := 2) (Nat.le_of_ble_eq_true rfl)
  rw [lg_entry_eq]
  generalize (lg_sl ([.ref t0, .int p0]) ++ List.replicate (2 - (lg_sl ([.ref t0, .int p0])).length) Slot.unset).toArray = ls at hl ⊢
  have hl : lv_has ls 2 [(0, .ref t0), (1, .int p0)] := hl
  refine lv_iload_n hx hb dX9_findSea_0 rfl (lv_at hl 1 rfl) ?_
  refine lv_if_lt (tgt := 14) hx hb dX9_findSea_1 (by decide) (fun c_1 => ?_) (fun c_1 => ?_)
  · refine lv_null hx hb dX9_findSea_14 ?_
    refine lv_goto (tgt := 24) hx hb dX9_findSea_15 (by decide) ?_
    exact W.aret (v := .null) hx hb hr (Or.inl ⟨_, rfl⟩) (Or.inl rfl) (fun t ht hW => ⟨none, rfl, rfl, ht⟩) (fun _ h => absurd h List.not_mem_nil) dX9_findSea_24
  · refine lv_iload_n hx hb dX9_findSea_4 rfl (lv_at hl 1 rfl) ?_
    refine lv_aload_n hx hb dX9_findSea_5 rfl (lv_at hl 0 rfl) ?_
    refine va_get (D := D) (ci := 9) (v := .ref nu) (C := RX9) (T := TX9) (N := 7) hx hb hts in_9 hown hK hP 0 rfl rfl 1 (by decide) fl_18 (fun _ h9 => h9) rfl dX9_findSea_6 ?_
    refine lv_iconst (v := 0) hx hb dX9_findSea_9 (by decide +kernel) ?_
    refine va_iald hx hb hK hP 1 0 rfl rfl (vi_c (by decide +kernel)) dX9_findSea_10 ?_
    refine tp_i 0 rfl ?_
    refine lv_icmp_lt (tgt := 18) hx hb dX9_findSea_11 (by decide) (fun c_2 => absurd c_2 c_1) (fun c_2 => ?_)
    refine lv_null hx hb dX9_findSea_14 ?_
    refine lv_goto (tgt := 24) hx hb dX9_findSea_15 (by decide) ?_
    exact W.aret (v := .null) hx hb hr (Or.inl ⟨_, rfl⟩) (Or.inl rfl) (fun t ht hW => ⟨none, rfl, rfl, ht⟩) (fun _ h => absurd h List.not_mem_nil) dX9_findSea_24
set_option maxHeartbeats 4000000 in
set_option maxRecDepth 100000 in
theorem c_X9_findDay (l : Launch) (D : va_G) (cy : Nat → ClassId) (t0 : Nat) (tp : Nat) (nu : Nat) (se : Nat) (da : Nat) (di : Nat) (p0 : Int32)  : Met l yX9_findDay wsX9_findDay ({ frames := 0, cells := 0, slots := 0, locals := 0 } : Room) (va_Pc [.ref t0, .int p0] (PR D cy [(t0, .inr (9, [.ref tp, .ref nu, .ref se, .ref da, .ref di, .int 0, .int (-1)])), (nu, .inl (cy 0, 3, .inl (fun _ => 0)))])) (va_Sq (fun r : Option Nat => r = none)) 0 0 (fun _ => False) := by
  refine Met.ofW (cc := cX9_findDay) (maxL := 2) (ret := (some (.object "ShoalClaims$Day"))) (by decide) rfl ?_
  intro p e s m args below meth c s₁ B hml hv
  obtain ⟨rfl, hP, hKW⟩ := hv
  have hK := hKW.1
  have hx := B.exec
  have hb := B.bytes
  have hr := B.returns
  have hts := atoms_spec (ws := wsX9_findDay) B.pre
  have hown : s.vm.findClass RX9 = some m.cls := findClass_of_methodNamed B.named
  have hlocks := B.notSynchronized
  have in_9 : ∀ w ∈ u_ws RX9 TX9 7, w ∈ wsX9_findDay := by decide +kernel
  have fl_18 := hts (.fieldLink RX9 18 "ShoalClaims$Told" "numbers" "[I") (by decide +kernel)
  have hP : va_P D vwCl [(t0, .inr (9, [.ref tp, .ref nu, .ref se, .ref da, .ref di, .int 0, .int (-1)])), (nu, .inl (cy 0, 3, .inl (fun _ => 0)))] s.heap := hP
  have hl := lv_entry ([.ref t0, .int p0]) (n := 2) (Nat.le_of_ble_eq_true rfl)
  rw [lg_entry_eq]
  generalize (lg_sl ([.ref t0, .int p0]) ++ List.replicate (2 - (lg_sl ([.ref t0, .int p0])).length) Slot.unset).toArray = ls at hl ⊢
  have hl : lv_has ls 2 [(0, .ref t0), (1, .int p0)] := hl
  refine lv_iload_n hx hb dX9_findDay_0 rfl (lv_at hl 1 rfl) ?_
  refine lv_if_lt (tgt := 14) hx hb dX9_findDay_1 (by decide) (fun c_1 => ?_) (fun c_1 => ?_)
  · refine lv_null hx hb dX9_findDay_14 ?_
    refine lv_goto (tgt := 24) hx hb dX9_findDay_15 (by decide) ?_
    exact W.aret (v := .null) hx hb hr (Or.inl ⟨_, rfl⟩) (Or.inl rfl) (fun t ht hW => ⟨none, rfl, rfl, ht⟩) (fun _ h => absurd h List.not_mem_nil) dX9_findDay_24
  · refine lv_iload_n hx hb dX9_findDay_4 rfl (lv_at hl 1 rfl) ?_
    refine lv_aload_n hx hb dX9_findDay_5 rfl (lv_at hl 0 rfl) ?_
    refine va_get (D := D) (ci := 9) (v := .ref nu) (C := RX9) (T := TX9) (N := 7) hx hb hts in_9 hown hK hP 0 rfl rfl 1 (by decide) fl_18 (fun _ h9 => h9) rfl dX9_findDay_6 ?_
    refine lv_iconst (v := 1) hx hb dX9_findDay_9 (by decide +kernel) ?_
    refine va_iald hx hb hK hP 1 0 rfl rfl (vi_c (by decide +kernel)) dX9_findDay_10 ?_
    refine tp_i 0 rfl ?_
    refine lv_icmp_lt (tgt := 18) hx hb dX9_findDay_11 (by decide) (fun c_2 => absurd c_2 c_1) (fun c_2 => ?_)
    refine lv_null hx hb dX9_findDay_14 ?_
    refine lv_goto (tgt := 24) hx hb dX9_findDay_15 (by decide) ?_
    exact W.aret (v := .null) hx hb hr (Or.inl ⟨_, rfl⟩) (Or.inl rfl) (fun t ht hW => ⟨none, rfl, rfl, ht⟩) (fun _ h => absurd h List.not_mem_nil) dX9_findDay_24
set_option maxHeartbeats 4000000 in
set_option maxRecDepth 100000 in
theorem c_X9_findDispute (l : Launch) (D : va_G) (cy : Nat → ClassId) (t0 : Nat) (tp : Nat) (nu : Nat) (se : Nat) (da : Nat) (di : Nat) (p0 : Int32)  : Met l yX9_findDispute wsX9_findDispute ({ frames := 0, cells := 0, slots := 0, locals := 0 } : Room) (va_Pc [.ref t0, .int p0] (PR D cy [(t0, .inr (9, [.ref tp, .ref nu, .ref se, .ref da, .ref di, .int 0, .int (-1)])), (nu, .inl (cy 0, 3, .inl (fun _ => 0)))])) (va_Sq (fun r : Option Nat => r = none)) 0 0 (fun _ => False) := by
  refine Met.ofW (cc := cX9_findDispute) (maxL := 2) (ret := (some (.object "ShoalClaims$Dispute"))) (by decide) rfl ?_
  intro p e s m args below meth c s₁ B hml hv
  obtain ⟨rfl, hP, hKW⟩ := hv
  have hK := hKW.1
  have hx := B.exec
  have hb := B.bytes
  have hr := B.returns
  have hts := atoms_spec (ws := wsX9_findDispute) B.pre
  have hown : s.vm.findClass RX9 = some m.cls := findClass_of_methodNamed B.named
  have hlocks := B.notSynchronized
  have in_9 : ∀ w ∈ u_ws RX9 TX9 7, w ∈ wsX9_findDispute := by decide +kernel
  have fl_18 := hts (.fieldLink RX9 18 "ShoalClaims$Told" "numbers" "[I") (by decide +kernel)
  have hP : va_P D vwCl [(t0, .inr (9, [.ref tp, .ref nu, .ref se, .ref da, .ref di, .int 0, .int (-1)])), (nu, .inl (cy 0, 3, .inl (fun _ => 0)))] s.heap := hP
  have hl := lv_entry ([.ref t0, .int p0]) (n := 2) (Nat.le_of_ble_eq_true rfl)
  rw [lg_entry_eq]
  generalize (lg_sl ([.ref t0, .int p0]) ++ List.replicate (2 - (lg_sl ([.ref t0, .int p0])).length) Slot.unset).toArray = ls at hl ⊢
  have hl : lv_has ls 2 [(0, .ref t0), (1, .int p0)] := hl
  refine lv_iload_n hx hb dX9_findDispute_0 rfl (lv_at hl 1 rfl) ?_
  refine lv_if_lt (tgt := 14) hx hb dX9_findDispute_1 (by decide) (fun c_1 => ?_) (fun c_1 => ?_)
  · refine lv_null hx hb dX9_findDispute_14 ?_
    refine lv_goto (tgt := 24) hx hb dX9_findDispute_15 (by decide) ?_
    exact W.aret (v := .null) hx hb hr (Or.inl ⟨_, rfl⟩) (Or.inl rfl) (fun t ht hW => ⟨none, rfl, rfl, ht⟩) (fun _ h => absurd h List.not_mem_nil) dX9_findDispute_24
  · refine lv_iload_n hx hb dX9_findDispute_4 rfl (lv_at hl 1 rfl) ?_
    refine lv_aload_n hx hb dX9_findDispute_5 rfl (lv_at hl 0 rfl) ?_
    refine va_get (D := D) (ci := 9) (v := .ref nu) (C := RX9) (T := TX9) (N := 7) hx hb hts in_9 hown hK hP 0 rfl rfl 1 (by decide) fl_18 (fun _ h9 => h9) rfl dX9_findDispute_6 ?_
    refine lv_iconst (v := 2) hx hb dX9_findDispute_9 (by decide +kernel) ?_
    refine va_iald hx hb hK hP 1 0 rfl rfl (vi_c (by decide +kernel)) dX9_findDispute_10 ?_
    refine tp_i 0 rfl ?_
    refine lv_icmp_lt (tgt := 18) hx hb dX9_findDispute_11 (by decide) (fun c_2 => absurd c_2 c_1) (fun c_2 => ?_)
    refine lv_null hx hb dX9_findDispute_14 ?_
    refine lv_goto (tgt := 24) hx hb dX9_findDispute_15 (by decide) ?_
    exact W.aret (v := .null) hx hb hr (Or.inl ⟨_, rfl⟩) (Or.inl rfl) (fun t ht hW => ⟨none, rfl, rfl, ht⟩) (fun _ h => absurd h List.not_mem_nil) dX9_findDispute_24
set_option maxHeartbeats 4000000 in
set_option maxRecDepth 100000 in
theorem c_X11_runToStop (l : Launch) (D : va_G) (cy : Nat → ClassId) (h0 : Nat) (i0 : Nat) (r0 : Nat) (u0 : Nat) (w0 : Nat) (c0 : Nat) (o0 : Nat) (t0 : Nat) (tp : Nat) (nu : Nat) (se : Nat) (da : Nat) (di : Nat) (p0 : Int32) (p1 : Int32)  : Met l yX11_runToStop wsX11_runToStop ({ frames := 1, cells := 0, slots := 0, locals := 21 } : Room) (va_Pc [.ref h0, .int p0, .int p1] (PR D cy [(h0, .inr (11, [.ref t0, .ref i0, .ref r0, .ref u0, .ref w0, .ref c0, .ref o0])), (t0, .inr (9, [.ref tp, .ref nu, .ref se, .ref da, .ref di, .int 0, .int (-1)])), (nu, .inl (cy 0, 3, .inl (fun _ => 0)))])) (vp_Si (fun r : Int32 => r = 0)) 0 0 (fun _ => False) := by
  refine Met.ofW (cc := cX11_runToStop) (maxL := 5) (ret := (some .boolean)) (by decide) rfl ?_
  intro p e s m args below meth c s₁ B hml hv
  obtain ⟨rfl, hP, hKW⟩ := hv
  have hK := hKW.1
  have hx := B.exec
  have hb := B.bytes
  have hr := B.returns
  have hts := atoms_spec (ws := wsX11_runToStop) B.pre
  have hown : s.vm.findClass RX11 = some m.cls := findClass_of_methodNamed B.named
  have hlocks := B.notSynchronized
  have in_11 : ∀ w ∈ u_ws RX11 TX11 7, w ∈ wsX11_runToStop := by decide +kernel
  have fl_10 := hts (.fieldLink RX11 10 "ShoalClaims" "told" "LShoalClaims$Told;") (by decide +kernel)
  have hP : va_P D vwCl [(h0, .inr (11, [.ref t0, .ref i0, .ref r0, .ref u0, .ref w0, .ref c0, .ref o0])), (t0, .inr (9, [.ref tp, .ref nu, .ref se, .ref da, .ref di, .int 0, .int (-1)])), (nu, .inl (cy 0, 3, .inl (fun _ => 0)))] s.heap := hP
  have hl := lv_entry ([.ref h0, .int p0, .int p1]) (n := 5) (Nat.le_of_ble_eq_true rfl)
  rw [lg_entry_eq]
  generalize (lg_sl ([.ref h0, .int p0, .int p1]) ++ List.replicate (5 - (lg_sl ([.ref h0, .int p0, .int p1])).length) Slot.unset).toArray = ls at hl ⊢
  have hl : lv_has ls 5 [(0, .ref h0), (1, .int p0), (2, .int p1)] := hl
  refine lv_aload_n hx hb dX11_runToStop_0 rfl (lv_at hl 0 rfl) ?_
  refine va_get (D := D) (ci := 11) (v := .ref t0) (C := RX11) (T := TX11) (N := 7) hx hb hts in_11 hown hK hP 0 rfl rfl 0 (by decide) fl_10 (fun _ h9 => h9) rfl dX11_runToStop_1 ?_
  refine lv_iload_n hx hb dX11_runToStop_4 rfl (lv_at hl 1 rfl) ?_
  have hPc_1 := hP.sub (ws' := [(t0, .inr (9, [.ref tp, .ref nu, .ref se, .ref da, .ref di, .int 0, .int (-1)])), (nu, .inl (cy 0, 3, .inl (fun _ => 0)))]) [1, 2] rfl
  refine pc_q (va_runV (As := [.int p0]) (rest := []) ⟨hx, hb, hml, hown, hts⟩ (c_X9_findSea l D cy t0 tp nu se da di p0) (cwV 1 hts gX11_runToStop_X9_findSea rfl rfl rfl (by decide +kernel) ⟨Nat.le_of_ble_eq_true rfl, Nat.le_of_ble_eq_true rfl⟩) ⟨prB, va_recv hK hPc_1 (ci := 9) (q0 := 0) rfl rfl, fun U hU hW => ⟨rfl, PR.of hU hW hKW hPc_1⟩⟩ rfl rfl hl.1 rfl (lv_room (Nat.le_of_ble_eq_true rfl)) dX11_runToStop_5 ⟨by decide +kernel, by decide +kernel⟩) (fun r_2 hr_2 => ?_)
  subst hr_2
  refine tp_v (.null) rfl ?_
  refine lv_astore_nN (lv' := [(3, .null), (0, .ref h0), (1, .int p0), (2, .int p1)]) hx hb dX11_runToStop_8 rfl hl (by decide) rfl (fun ls hl => ?_)
  refine lv_aload_n hx hb dX11_runToStop_9 rfl (lv_at hl 1 rfl) ?_
  refine va_get (D := D) (ci := 11) (v := .ref t0) (C := RX11) (T := TX11) (N := 7) hx hb hts in_11 hown hK hP 0 rfl rfl 0 (by decide) fl_10 (fun _ h9 => h9) rfl dX11_runToStop_10 ?_
  refine lv_iload_n hx hb dX11_runToStop_13 rfl (lv_at hl 3 rfl) ?_
  have hPc_3 := hP.sub (ws' := [(t0, .inr (9, [.ref tp, .ref nu, .ref se, .ref da, .ref di, .int 0, .int (-1)])), (nu, .inl (cy 0, 3, .inl (fun _ => 0)))]) [1, 2] rfl
  refine pc_q (va_runV (As := [.int p1]) (rest := []) ⟨hx, hb, hml, hown, hts⟩ (c_X9_findDay l D cy t0 tp nu se da di p1) (cwV 1 hts gX11_runToStop_X9_findDay rfl rfl rfl (by decide +kernel) ⟨Nat.le_of_ble_eq_true rfl, Nat.le_of_ble_eq_true rfl⟩) ⟨prB, va_recv hK hPc_3 (ci := 9) (q0 := 0) rfl rfl, fun U hU hW => ⟨rfl, PR.of hU hW hKW hPc_3⟩⟩ rfl rfl hl.1 rfl (lv_room (Nat.le_of_ble_eq_true rfl)) dX11_runToStop_14 ⟨by decide +kernel, by decide +kernel⟩) (fun r_4 hr_4 => ?_)
  subst hr_4
  refine tp_v (.null) rfl ?_
  refine lv_astoreN (lv' := [(4, .null), (3, .null), (0, .ref h0), (1, .int p0), (2, .int p1)]) hx hb dX11_runToStop_17 hl (by decide) rfl (fun ls hl => ?_)
  refine lv_aload_nN hx hb dX11_runToStop_19 rfl (lv_at hl 1 rfl) ?_
  refine lv_ifnullN (tgt := 28) hx hb dX11_runToStop_20 (by decide) ?_
  refine lv_iconst (v := 0) hx hb dX11_runToStop_28 (by decide +kernel) ?_
  exact W.zret (v := 0) hx hb hr (rfl) (fun t ht hW => ⟨0, rfl, rfl, ht⟩) (fun _ h => absurd h List.not_mem_nil) dX11_runToStop_29
set_option maxHeartbeats 4000000 in
set_option maxRecDepth 100000 in
theorem c_X11_runToState (l : Launch) (D : va_G) (cy : Nat → ClassId) (h0 : Nat) (i0 : Nat) (r0 : Nat) (u0 : Nat) (w0 : Nat) (c0 : Nat) (o0 : Nat) (t0 : Nat) (tp : Nat) (nu : Nat) (se : Nat) (da : Nat) (di : Nat) (p0 : Int32) (p1 : Int32) (p2 : Int32)  : Met l yX11_runToState wsX11_runToState ({ frames := 1, cells := 0, slots := 0, locals := 21 } : Room) (va_Pc [.ref h0, .int p0, .int p1, .int p2] (PR D cy [(h0, .inr (11, [.ref t0, .ref i0, .ref r0, .ref u0, .ref w0, .ref c0, .ref o0])), (t0, .inr (9, [.ref tp, .ref nu, .ref se, .ref da, .ref di, .int 0, .int (-1)])), (nu, .inl (cy 0, 3, .inl (fun _ => 0)))])) (vp_Si (fun r : Int32 => r = 0)) 0 0 (fun _ => False) := by
  refine Met.ofW (cc := cX11_runToState) (maxL := 6) (ret := (some .boolean)) (by decide) rfl ?_
  intro p e s m args below meth c s₁ B hml hv
  obtain ⟨rfl, hP, hKW⟩ := hv
  have hK := hKW.1
  have hx := B.exec
  have hb := B.bytes
  have hr := B.returns
  have hts := atoms_spec (ws := wsX11_runToState) B.pre
  have hown : s.vm.findClass RX11 = some m.cls := findClass_of_methodNamed B.named
  have hlocks := B.notSynchronized
  have in_11 : ∀ w ∈ u_ws RX11 TX11 7, w ∈ wsX11_runToState := by decide +kernel
  have fl_10 := hts (.fieldLink RX11 10 "ShoalClaims" "told" "LShoalClaims$Told;") (by decide +kernel)
  have hP : va_P D vwCl [(h0, .inr (11, [.ref t0, .ref i0, .ref r0, .ref u0, .ref w0, .ref c0, .ref o0])), (t0, .inr (9, [.ref tp, .ref nu, .ref se, .ref da, .ref di, .int 0, .int (-1)])), (nu, .inl (cy 0, 3, .inl (fun _ => 0)))] s.heap := hP
  have hl := lv_entry ([.ref h0, .int p0, .int p1, .int p2]) (n := 6) (Nat.le_of_ble_eq_true rfl)
  rw [lg_entry_eq]
  generalize (lg_sl ([.ref h0, .int p0, .int p1, .int p2]) ++ List.replicate (6 - (lg_sl ([.ref h0, .int p0, .int p1, .int p2])).length) Slot.unset).toArray = ls at hl ⊢
  have hl : lv_has ls 6 [(0, .ref h0), (1, .int p0), (2, .int p1), (3, .int p2)] := hl
  refine lv_aload_n hx hb dX11_runToState_0 rfl (lv_at hl 0 rfl) ?_
  refine va_get (D := D) (ci := 11) (v := .ref t0) (C := RX11) (T := TX11) (N := 7) hx hb hts in_11 hown hK hP 0 rfl rfl 0 (by decide) fl_10 (fun _ h9 => h9) rfl dX11_runToState_1 ?_
  refine lv_iload_n hx hb dX11_runToState_4 rfl (lv_at hl 1 rfl) ?_
  have hPc_1 := hP.sub (ws' := [(t0, .inr (9, [.ref tp, .ref nu, .ref se, .ref da, .ref di, .int 0, .int (-1)])), (nu, .inl (cy 0, 3, .inl (fun _ => 0)))]) [1, 2] rfl
  refine pc_q (va_runV (As := [.int p0]) (rest := []) ⟨hx, hb, hml, hown, hts⟩ (c_X9_findSea l D cy t0 tp nu se da di p0) (cwV 1 hts gX11_runToState_X9_findSea rfl rfl rfl (by decide +kernel) ⟨Nat.le_of_ble_eq_true rfl, Nat.le_of_ble_eq_true rfl⟩) ⟨prB, va_recv hK hPc_1 (ci := 9) (q0 := 0) rfl rfl, fun U hU hW => ⟨rfl, PR.of hU hW hKW hPc_1⟩⟩ rfl rfl hl.1 rfl (lv_room (Nat.le_of_ble_eq_true rfl)) dX11_runToState_5 ⟨by decide +kernel, by decide +kernel⟩) (fun r_2 hr_2 => ?_)
  subst hr_2
  refine tp_v (.null) rfl ?_
  refine lv_astoreN (lv' := [(4, .null), (0, .ref h0), (1, .int p0), (2, .int p1), (3, .int p2)]) hx hb dX11_runToState_8 hl (by decide) rfl (fun ls hl => ?_)
  refine lv_aload_n hx hb dX11_runToState_10 rfl (lv_at hl 1 rfl) ?_
  refine va_get (D := D) (ci := 11) (v := .ref t0) (C := RX11) (T := TX11) (N := 7) hx hb hts in_11 hown hK hP 0 rfl rfl 0 (by decide) fl_10 (fun _ h9 => h9) rfl dX11_runToState_11 ?_
  refine lv_iload_n hx hb dX11_runToState_14 rfl (lv_at hl 3 rfl) ?_
  have hPc_3 := hP.sub (ws' := [(t0, .inr (9, [.ref tp, .ref nu, .ref se, .ref da, .ref di, .int 0, .int (-1)])), (nu, .inl (cy 0, 3, .inl (fun _ => 0)))]) [1, 2] rfl
  refine pc_q (va_runV (As := [.int p1]) (rest := []) ⟨hx, hb, hml, hown, hts⟩ (c_X9_findDay l D cy t0 tp nu se da di p1) (cwV 1 hts gX11_runToState_X9_findDay rfl rfl rfl (by decide +kernel) ⟨Nat.le_of_ble_eq_true rfl, Nat.le_of_ble_eq_true rfl⟩) ⟨prB, va_recv hK hPc_3 (ci := 9) (q0 := 0) rfl rfl, fun U hU hW => ⟨rfl, PR.of hU hW hKW hPc_3⟩⟩ rfl rfl hl.1 rfl (lv_room (Nat.le_of_ble_eq_true rfl)) dX11_runToState_15 ⟨by decide +kernel, by decide +kernel⟩) (fun r_4 hr_4 => ?_)
  subst hr_4
  refine tp_v (.null) rfl ?_
  refine lv_astoreN (lv' := [(5, .null), (4, .null), (0, .ref h0), (1, .int p0), (2, .int p1), (3, .int p2)]) hx hb dX11_runToState_18 hl (by decide) rfl (fun ls hl => ?_)
  refine lv_aloadN hx hb dX11_runToState_20 (lv_at hl 1 rfl) ?_
  refine lv_ifnullN (tgt := 43) hx hb dX11_runToState_22 (by decide) ?_
  refine lv_iconst (v := 0) hx hb dX11_runToState_43 (by decide +kernel) ?_
  exact W.zret (v := 0) hx hb hr (rfl) (fun t ht hW => ⟨0, rfl, rfl, ht⟩) (fun _ h => absurd h List.not_mem_nil) dX11_runToState_44
set_option maxHeartbeats 4000000 in
set_option maxRecDepth 100000 in
theorem c_X11_sea (l : Launch) (D : va_G) (cy : Nat → ClassId) (h0 : Nat) (i0 : Nat) (r0 : Nat) (u0 : Nat) (w0 : Nat) (c0 : Nat) (o0 : Nat) (t0 : Nat) (tp : Nat) (nu : Nat) (se : Nat) (da : Nat) (di : Nat) (p0 : Int32) (p1 : Int32)  : Met l yX11_sea wsX11_sea ({ frames := 1, cells := 0, slots := 0, locals := 21 } : Room) (va_Pc [.ref h0, .int p0, .int p1] (PR D cy [(h0, .inr (11, [.ref t0, .ref i0, .ref r0, .ref u0, .ref w0, .ref c0, .ref o0])), (t0, .inr (9, [.ref tp, .ref nu, .ref se, .ref da, .ref di, .int 0, .int (-1)])), (nu, .inl (cy 0, 3, .inl (fun _ => 0)))])) (vp_Si (fun r : Int32 => r = (-1))) 0 0 (fun _ => False) := by
  refine Met.ofW (cc := cX11_sea) (maxL := 4) (ret := (some .int)) (by decide) rfl ?_
  intro p e s m args below meth c s₁ B hml hv
  obtain ⟨rfl, hP, hKW⟩ := hv
  have hK := hKW.1
  have hx := B.exec
  have hb := B.bytes
  have hr := B.returns
  have hts := atoms_spec (ws := wsX11_sea) B.pre
  have hown : s.vm.findClass RX11 = some m.cls := findClass_of_methodNamed B.named
  have hlocks := B.notSynchronized
  have in_11 : ∀ w ∈ u_ws RX11 TX11 7, w ∈ wsX11_sea := by decide +kernel
  have fl_10 := hts (.fieldLink RX11 10 "ShoalClaims" "told" "LShoalClaims$Told;") (by decide +kernel)
  have hP : va_P D vwCl [(h0, .inr (11, [.ref t0, .ref i0, .ref r0, .ref u0, .ref w0, .ref c0, .ref o0])), (t0, .inr (9, [.ref tp, .ref nu, .ref se, .ref da, .ref di, .int 0, .int (-1)])), (nu, .inl (cy 0, 3, .inl (fun _ => 0)))] s.heap := hP
  have hl := lv_entry ([.ref h0, .int p0, .int p1]) (n := 4) (Nat.le_of_ble_eq_true rfl)
  rw [lg_entry_eq]
  generalize (lg_sl ([.ref h0, .int p0, .int p1]) ++ List.replicate (4 - (lg_sl ([.ref h0, .int p0, .int p1])).length) Slot.unset).toArray = ls at hl ⊢
  have hl : lv_has ls 4 [(0, .ref h0), (1, .int p0), (2, .int p1)] := hl
  refine lv_aload_n hx hb dX11_sea_0 rfl (lv_at hl 0 rfl) ?_
  refine va_get (D := D) (ci := 11) (v := .ref t0) (C := RX11) (T := TX11) (N := 7) hx hb hts in_11 hown hK hP 0 rfl rfl 0 (by decide) fl_10 (fun _ h9 => h9) rfl dX11_sea_1 ?_
  refine lv_iload_n hx hb dX11_sea_4 rfl (lv_at hl 1 rfl) ?_
  have hPc_1 := hP.sub (ws' := [(t0, .inr (9, [.ref tp, .ref nu, .ref se, .ref da, .ref di, .int 0, .int (-1)])), (nu, .inl (cy 0, 3, .inl (fun _ => 0)))]) [1, 2] rfl
  refine pc_q (va_runV (As := [.int p0]) (rest := []) ⟨hx, hb, hml, hown, hts⟩ (c_X9_findSea l D cy t0 tp nu se da di p0) (cwV 1 hts gX11_sea_X9_findSea rfl rfl rfl (by decide +kernel) ⟨Nat.le_of_ble_eq_true rfl, Nat.le_of_ble_eq_true rfl⟩) ⟨prB, va_recv hK hPc_1 (ci := 9) (q0 := 0) rfl rfl, fun U hU hW => ⟨rfl, PR.of hU hW hKW hPc_1⟩⟩ rfl rfl hl.1 rfl (lv_room (Nat.le_of_ble_eq_true rfl)) dX11_sea_5 ⟨by decide +kernel, by decide +kernel⟩) (fun r_2 hr_2 => ?_)
  subst hr_2
  refine tp_v (.null) rfl ?_
  refine lv_astore_nN (lv' := [(3, .null), (0, .ref h0), (1, .int p0), (2, .int p1)]) hx hb dX11_sea_8 rfl hl (by decide) rfl (fun ls hl => ?_)
  refine lv_aload_nN hx hb dX11_sea_9 rfl (lv_at hl 0 rfl) ?_
  refine lv_ifnonnullN hx hb dX11_sea_10 ?_
  refine lv_iconst (v := (-1)) hx hb dX11_sea_13 (by decide +kernel) ?_
  exact W.iret (v := (-1)) hx hb hr (fun t ht hW => ⟨(-1), rfl, rfl, ht⟩) (fun _ h => absurd h List.not_mem_nil) dX11_sea_14
set_option maxHeartbeats 4000000 in
set_option maxRecDepth 100000 in
theorem c_X11_shoal (l : Launch) (D : va_G) (cy : Nat → ClassId) (h0 : Nat) (i0 : Nat) (r0 : Nat) (u0 : Nat) (w0 : Nat) (c0 : Nat) (o0 : Nat) (t0 : Nat) (tp : Nat) (nu : Nat) (se : Nat) (da : Nat) (di : Nat) (p0 : Int32) (p1 : Int32) (p2 : Int32)  : Met l yX11_shoal wsX11_shoal ({ frames := 1, cells := 0, slots := 0, locals := 21 } : Room) (va_Pc [.ref h0, .int p0, .int p1, .int p2] (PR D cy [(h0, .inr (11, [.ref t0, .ref i0, .ref r0, .ref u0, .ref w0, .ref c0, .ref o0])), (t0, .inr (9, [.ref tp, .ref nu, .ref se, .ref da, .ref di, .int 0, .int (-1)])), (nu, .inl (cy 0, 3, .inl (fun _ => 0)))])) (vp_Si (fun r : Int32 => r = (-1))) 0 0 (fun _ => False) := by
  refine Met.ofW (cc := cX11_shoal) (maxL := 5) (ret := (some .int)) (by decide) rfl ?_
  intro p e s m args below meth c s₁ B hml hv
  obtain ⟨rfl, hP, hKW⟩ := hv
  have hK := hKW.1
  have hx := B.exec
  have hb := B.bytes
  have hr := B.returns
  have hts := atoms_spec (ws := wsX11_shoal) B.pre
  have hown : s.vm.findClass RX11 = some m.cls := findClass_of_methodNamed B.named
  have hlocks := B.notSynchronized
  have in_11 : ∀ w ∈ u_ws RX11 TX11 7, w ∈ wsX11_shoal := by decide +kernel
  have fl_10 := hts (.fieldLink RX11 10 "ShoalClaims" "told" "LShoalClaims$Told;") (by decide +kernel)
  have hP : va_P D vwCl [(h0, .inr (11, [.ref t0, .ref i0, .ref r0, .ref u0, .ref w0, .ref c0, .ref o0])), (t0, .inr (9, [.ref tp, .ref nu, .ref se, .ref da, .ref di, .int 0, .int (-1)])), (nu, .inl (cy 0, 3, .inl (fun _ => 0)))] s.heap := hP
  have hl := lv_entry ([.ref h0, .int p0, .int p1, .int p2]) (n := 5) (Nat.le_of_ble_eq_true rfl)
  rw [lg_entry_eq]
  generalize (lg_sl ([.ref h0, .int p0, .int p1, .int p2]) ++ List.replicate (5 - (lg_sl ([.ref h0, .int p0, .int p1, .int p2])).length) Slot.unset).toArray = ls at hl ⊢
  have hl : lv_has ls 5 [(0, .ref h0), (1, .int p0), (2, .int p1), (3, .int p2)] := hl
  refine lv_aload_n hx hb dX11_shoal_0 rfl (lv_at hl 0 rfl) ?_
  refine va_get (D := D) (ci := 11) (v := .ref t0) (C := RX11) (T := TX11) (N := 7) hx hb hts in_11 hown hK hP 0 rfl rfl 0 (by decide) fl_10 (fun _ h9 => h9) rfl dX11_shoal_1 ?_
  refine lv_iload_n hx hb dX11_shoal_4 rfl (lv_at hl 1 rfl) ?_
  have hPc_1 := hP.sub (ws' := [(t0, .inr (9, [.ref tp, .ref nu, .ref se, .ref da, .ref di, .int 0, .int (-1)])), (nu, .inl (cy 0, 3, .inl (fun _ => 0)))]) [1, 2] rfl
  refine pc_q (va_runV (As := [.int p0]) (rest := []) ⟨hx, hb, hml, hown, hts⟩ (c_X9_findSea l D cy t0 tp nu se da di p0) (cwV 1 hts gX11_shoal_X9_findSea rfl rfl rfl (by decide +kernel) ⟨Nat.le_of_ble_eq_true rfl, Nat.le_of_ble_eq_true rfl⟩) ⟨prB, va_recv hK hPc_1 (ci := 9) (q0 := 0) rfl rfl, fun U hU hW => ⟨rfl, PR.of hU hW hKW hPc_1⟩⟩ rfl rfl hl.1 rfl (lv_room (Nat.le_of_ble_eq_true rfl)) dX11_shoal_5 ⟨by decide +kernel, by decide +kernel⟩) (fun r_2 hr_2 => ?_)
  subst hr_2
  refine tp_v (.null) rfl ?_
  refine lv_astoreN (lv' := [(4, .null), (0, .ref h0), (1, .int p0), (2, .int p1), (3, .int p2)]) hx hb dX11_shoal_8 hl (by decide) rfl (fun ls hl => ?_)
  refine lv_aloadN hx hb dX11_shoal_10 (lv_at hl 0 rfl) ?_
  refine lv_ifnullN (tgt := 24) hx hb dX11_shoal_12 (by decide) ?_
  refine lv_iconst (v := (-1)) hx hb dX11_shoal_24 (by decide +kernel) ?_
  exact W.iret (v := (-1)) hx hb hr (fun t ht hW => ⟨(-1), rfl, rfl, ht⟩) (fun _ h => absurd h List.not_mem_nil) dX11_shoal_25
set_option maxHeartbeats 4000000 in
set_option maxRecDepth 100000 in
theorem c_X11_boat (l : Launch) (D : va_G) (cy : Nat → ClassId) (h0 : Nat) (i0 : Nat) (r0 : Nat) (u0 : Nat) (w0 : Nat) (c0 : Nat) (o0 : Nat) (t0 : Nat) (tp : Nat) (nu : Nat) (se : Nat) (da : Nat) (di : Nat) (p0 : Int32) (p1 : Int32) (p2 : Int32)  : Met l yX11_boat wsX11_boat ({ frames := 1, cells := 0, slots := 0, locals := 21 } : Room) (va_Pc [.ref h0, .int p0, .int p1, .int p2] (PR D cy [(h0, .inr (11, [.ref t0, .ref i0, .ref r0, .ref u0, .ref w0, .ref c0, .ref o0])), (t0, .inr (9, [.ref tp, .ref nu, .ref se, .ref da, .ref di, .int 0, .int (-1)])), (nu, .inl (cy 0, 3, .inl (fun _ => 0)))])) (vp_Si (fun r : Int32 => r = (-1))) 0 0 (fun _ => False) := by
  refine Met.ofW (cc := cX11_boat) (maxL := 5) (ret := (some .int)) (by decide) rfl ?_
  intro p e s m args below meth c s₁ B hml hv
  obtain ⟨rfl, hP, hKW⟩ := hv
  have hK := hKW.1
  have hx := B.exec
  have hb := B.bytes
  have hr := B.returns
  have hts := atoms_spec (ws := wsX11_boat) B.pre
  have hown : s.vm.findClass RX11 = some m.cls := findClass_of_methodNamed B.named
  have hlocks := B.notSynchronized
  have in_11 : ∀ w ∈ u_ws RX11 TX11 7, w ∈ wsX11_boat := by decide +kernel
  have fl_10 := hts (.fieldLink RX11 10 "ShoalClaims" "told" "LShoalClaims$Told;") (by decide +kernel)
  have hP : va_P D vwCl [(h0, .inr (11, [.ref t0, .ref i0, .ref r0, .ref u0, .ref w0, .ref c0, .ref o0])), (t0, .inr (9, [.ref tp, .ref nu, .ref se, .ref da, .ref di, .int 0, .int (-1)])), (nu, .inl (cy 0, 3, .inl (fun _ => 0)))] s.heap := hP
  have hl := lv_entry ([.ref h0, .int p0, .int p1, .int p2]) (n := 5) (Nat.le_of_ble_eq_true rfl)
  rw [lg_entry_eq]
  generalize (lg_sl ([.ref h0, .int p0, .int p1, .int p2]) ++ List.replicate (5 - (lg_sl ([.ref h0, .int p0, .int p1, .int p2])).length) Slot.unset).toArray = ls at hl ⊢
  have hl : lv_has ls 5 [(0, .ref h0), (1, .int p0), (2, .int p1), (3, .int p2)] := hl
  refine lv_aload_n hx hb dX11_boat_0 rfl (lv_at hl 0 rfl) ?_
  refine va_get (D := D) (ci := 11) (v := .ref t0) (C := RX11) (T := TX11) (N := 7) hx hb hts in_11 hown hK hP 0 rfl rfl 0 (by decide) fl_10 (fun _ h9 => h9) rfl dX11_boat_1 ?_
  refine lv_iload_n hx hb dX11_boat_4 rfl (lv_at hl 1 rfl) ?_
  have hPc_1 := hP.sub (ws' := [(t0, .inr (9, [.ref tp, .ref nu, .ref se, .ref da, .ref di, .int 0, .int (-1)])), (nu, .inl (cy 0, 3, .inl (fun _ => 0)))]) [1, 2] rfl
  refine pc_q (va_runV (As := [.int p0]) (rest := []) ⟨hx, hb, hml, hown, hts⟩ (c_X9_findSea l D cy t0 tp nu se da di p0) (cwV 1 hts gX11_boat_X9_findSea rfl rfl rfl (by decide +kernel) ⟨Nat.le_of_ble_eq_true rfl, Nat.le_of_ble_eq_true rfl⟩) ⟨prB, va_recv hK hPc_1 (ci := 9) (q0 := 0) rfl rfl, fun U hU hW => ⟨rfl, PR.of hU hW hKW hPc_1⟩⟩ rfl rfl hl.1 rfl (lv_room (Nat.le_of_ble_eq_true rfl)) dX11_boat_5 ⟨by decide +kernel, by decide +kernel⟩) (fun r_2 hr_2 => ?_)
  subst hr_2
  refine tp_v (.null) rfl ?_
  refine lv_astoreN (lv' := [(4, .null), (0, .ref h0), (1, .int p0), (2, .int p1), (3, .int p2)]) hx hb dX11_boat_8 hl (by decide) rfl (fun ls hl => ?_)
  refine lv_aloadN hx hb dX11_boat_10 (lv_at hl 0 rfl) ?_
  refine lv_ifnullN (tgt := 24) hx hb dX11_boat_12 (by decide) ?_
  refine lv_iconst (v := (-1)) hx hb dX11_boat_24 (by decide +kernel) ?_
  exact W.iret (v := (-1)) hx hb hr (fun t ht hW => ⟨(-1), rfl, rfl, ht⟩) (fun _ h => absurd h List.not_mem_nil) dX11_boat_25
set_option maxHeartbeats 4000000 in
set_option maxRecDepth 100000 in
theorem c_X11_far (l : Launch) (D : va_G) (cy : Nat → ClassId) (h0 : Nat) (i0 : Nat) (r0 : Nat) (u0 : Nat) (w0 : Nat) (c0 : Nat) (o0 : Nat) (t0 : Nat) (tp : Nat) (nu : Nat) (se : Nat) (da : Nat) (di : Nat) (p0 : Int32) (p1 : Int32) (p2 : Int32)  : Met l yX11_far wsX11_far ({ frames := 1, cells := 0, slots := 0, locals := 21 } : Room) (va_Pc [.ref h0, .int p0, .int p1, .int p2] (PR D cy [(h0, .inr (11, [.ref t0, .ref i0, .ref r0, .ref u0, .ref w0, .ref c0, .ref o0])), (t0, .inr (9, [.ref tp, .ref nu, .ref se, .ref da, .ref di, .int 0, .int (-1)])), (nu, .inl (cy 0, 3, .inl (fun _ => 0)))])) (vp_Si (fun r : Int32 => r = (-1))) 0 0 (fun _ => False) := by
  refine Met.ofW (cc := cX11_far) (maxL := 5) (ret := (some .int)) (by decide) rfl ?_
  intro p e s m args below meth c s₁ B hml hv
  obtain ⟨rfl, hP, hKW⟩ := hv
  have hK := hKW.1
  have hx := B.exec
  have hb := B.bytes
  have hr := B.returns
  have hts := atoms_spec (ws := wsX11_far) B.pre
  have hown : s.vm.findClass RX11 = some m.cls := findClass_of_methodNamed B.named
  have hlocks := B.notSynchronized
  have in_11 : ∀ w ∈ u_ws RX11 TX11 7, w ∈ wsX11_far := by decide +kernel
  have fl_10 := hts (.fieldLink RX11 10 "ShoalClaims" "told" "LShoalClaims$Told;") (by decide +kernel)
  have hP : va_P D vwCl [(h0, .inr (11, [.ref t0, .ref i0, .ref r0, .ref u0, .ref w0, .ref c0, .ref o0])), (t0, .inr (9, [.ref tp, .ref nu, .ref se, .ref da, .ref di, .int 0, .int (-1)])), (nu, .inl (cy 0, 3, .inl (fun _ => 0)))] s.heap := hP
  have hl := lv_entry ([.ref h0, .int p0, .int p1, .int p2]) (n := 5) (Nat.le_of_ble_eq_true rfl)
  rw [lg_entry_eq]
  generalize (lg_sl ([.ref h0, .int p0, .int p1, .int p2]) ++ List.replicate (5 - (lg_sl ([.ref h0, .int p0, .int p1, .int p2])).length) Slot.unset).toArray = ls at hl ⊢
  have hl : lv_has ls 5 [(0, .ref h0), (1, .int p0), (2, .int p1), (3, .int p2)] := hl
  refine lv_aload_n hx hb dX11_far_0 rfl (lv_at hl 0 rfl) ?_
  refine va_get (D := D) (ci := 11) (v := .ref t0) (C := RX11) (T := TX11) (N := 7) hx hb hts in_11 hown hK hP 0 rfl rfl 0 (by decide) fl_10 (fun _ h9 => h9) rfl dX11_far_1 ?_
  refine lv_iload_n hx hb dX11_far_4 rfl (lv_at hl 1 rfl) ?_
  have hPc_1 := hP.sub (ws' := [(t0, .inr (9, [.ref tp, .ref nu, .ref se, .ref da, .ref di, .int 0, .int (-1)])), (nu, .inl (cy 0, 3, .inl (fun _ => 0)))]) [1, 2] rfl
  refine pc_q (va_runV (As := [.int p0]) (rest := []) ⟨hx, hb, hml, hown, hts⟩ (c_X9_findSea l D cy t0 tp nu se da di p0) (cwV 1 hts gX11_far_X9_findSea rfl rfl rfl (by decide +kernel) ⟨Nat.le_of_ble_eq_true rfl, Nat.le_of_ble_eq_true rfl⟩) ⟨prB, va_recv hK hPc_1 (ci := 9) (q0 := 0) rfl rfl, fun U hU hW => ⟨rfl, PR.of hU hW hKW hPc_1⟩⟩ rfl rfl hl.1 rfl (lv_room (Nat.le_of_ble_eq_true rfl)) dX11_far_5 ⟨by decide +kernel, by decide +kernel⟩) (fun r_2 hr_2 => ?_)
  subst hr_2
  refine tp_v (.null) rfl ?_
  refine lv_astoreN (lv' := [(4, .null), (0, .ref h0), (1, .int p0), (2, .int p1), (3, .int p2)]) hx hb dX11_far_8 hl (by decide) rfl (fun ls hl => ?_)
  refine lv_aloadN hx hb dX11_far_10 (lv_at hl 0 rfl) ?_
  refine lv_ifnullN (tgt := 33) hx hb dX11_far_12 (by decide) ?_
  refine lv_iconst (v := (-1)) hx hb dX11_far_33 (by decide +kernel) ?_
  exact W.iret (v := (-1)) hx hb hr (fun t ht hW => ⟨(-1), rfl, rfl, ht⟩) (fun _ h => absurd h List.not_mem_nil) dX11_far_34
set_option maxHeartbeats 4000000 in
set_option maxRecDepth 100000 in
theorem c_X11_hears (l : Launch) (D : va_G) (cy : Nat → ClassId) (h0 : Nat) (i0 : Nat) (r0 : Nat) (u0 : Nat) (w0 : Nat) (c0 : Nat) (o0 : Nat) (t0 : Nat) (tp : Nat) (nu : Nat) (se : Nat) (da : Nat) (di : Nat) (p0 : Int32) (p1 : Int32) (p2 : Int32)  : Met l yX11_hears wsX11_hears ({ frames := 1, cells := 0, slots := 0, locals := 21 } : Room) (va_Pc [.ref h0, .int p0, .int p1, .int p2] (PR D cy [(h0, .inr (11, [.ref t0, .ref i0, .ref r0, .ref u0, .ref w0, .ref c0, .ref o0])), (t0, .inr (9, [.ref tp, .ref nu, .ref se, .ref da, .ref di, .int 0, .int (-1)])), (nu, .inl (cy 0, 3, .inl (fun _ => 0)))])) (vp_Si (fun r : Int32 => r = (-1))) 0 0 (fun _ => False) := by
  refine Met.ofW (cc := cX11_hears) (maxL := 5) (ret := (some .int)) (by decide) rfl ?_
  intro p e s m args below meth c s₁ B hml hv
  obtain ⟨rfl, hP, hKW⟩ := hv
  have hK := hKW.1
  have hx := B.exec
  have hb := B.bytes
  have hr := B.returns
  have hts := atoms_spec (ws := wsX11_hears) B.pre
  have hown : s.vm.findClass RX11 = some m.cls := findClass_of_methodNamed B.named
  have hlocks := B.notSynchronized
  have in_11 : ∀ w ∈ u_ws RX11 TX11 7, w ∈ wsX11_hears := by decide +kernel
  have fl_10 := hts (.fieldLink RX11 10 "ShoalClaims" "told" "LShoalClaims$Told;") (by decide +kernel)
  have hP : va_P D vwCl [(h0, .inr (11, [.ref t0, .ref i0, .ref r0, .ref u0, .ref w0, .ref c0, .ref o0])), (t0, .inr (9, [.ref tp, .ref nu, .ref se, .ref da, .ref di, .int 0, .int (-1)])), (nu, .inl (cy 0, 3, .inl (fun _ => 0)))] s.heap := hP
  have hl := lv_entry ([.ref h0, .int p0, .int p1, .int p2]) (n := 5) (Nat.le_of_ble_eq_true rfl)
  rw [lg_entry_eq]
  generalize (lg_sl ([.ref h0, .int p0, .int p1, .int p2]) ++ List.replicate (5 - (lg_sl ([.ref h0, .int p0, .int p1, .int p2])).length) Slot.unset).toArray = ls at hl ⊢
  have hl : lv_has ls 5 [(0, .ref h0), (1, .int p0), (2, .int p1), (3, .int p2)] := hl
  refine lv_aload_n hx hb dX11_hears_0 rfl (lv_at hl 0 rfl) ?_
  refine va_get (D := D) (ci := 11) (v := .ref t0) (C := RX11) (T := TX11) (N := 7) hx hb hts in_11 hown hK hP 0 rfl rfl 0 (by decide) fl_10 (fun _ h9 => h9) rfl dX11_hears_1 ?_
  refine lv_iload_n hx hb dX11_hears_4 rfl (lv_at hl 1 rfl) ?_
  have hPc_1 := hP.sub (ws' := [(t0, .inr (9, [.ref tp, .ref nu, .ref se, .ref da, .ref di, .int 0, .int (-1)])), (nu, .inl (cy 0, 3, .inl (fun _ => 0)))]) [1, 2] rfl
  refine pc_q (va_runV (As := [.int p0]) (rest := []) ⟨hx, hb, hml, hown, hts⟩ (c_X9_findSea l D cy t0 tp nu se da di p0) (cwV 1 hts gX11_hears_X9_findSea rfl rfl rfl (by decide +kernel) ⟨Nat.le_of_ble_eq_true rfl, Nat.le_of_ble_eq_true rfl⟩) ⟨prB, va_recv hK hPc_1 (ci := 9) (q0 := 0) rfl rfl, fun U hU hW => ⟨rfl, PR.of hU hW hKW hPc_1⟩⟩ rfl rfl hl.1 rfl (lv_room (Nat.le_of_ble_eq_true rfl)) dX11_hears_5 ⟨by decide +kernel, by decide +kernel⟩) (fun r_2 hr_2 => ?_)
  subst hr_2
  refine tp_v (.null) rfl ?_
  refine lv_astoreN (lv' := [(4, .null), (0, .ref h0), (1, .int p0), (2, .int p1), (3, .int p2)]) hx hb dX11_hears_8 hl (by decide) rfl (fun ls hl => ?_)
  refine lv_aloadN hx hb dX11_hears_10 (lv_at hl 0 rfl) ?_
  refine lv_ifnullN (tgt := 24) hx hb dX11_hears_12 (by decide) ?_
  refine lv_iconst (v := (-1)) hx hb dX11_hears_24 (by decide +kernel) ?_
  exact W.iret (v := (-1)) hx hb hr (fun t ht hW => ⟨(-1), rfl, rfl, ht⟩) (fun _ h => absurd h List.not_mem_nil) dX11_hears_25
set_option maxHeartbeats 4000000 in
set_option maxRecDepth 100000 in
theorem c_X11_loud (l : Launch) (D : va_G) (cy : Nat → ClassId) (h0 : Nat) (i0 : Nat) (r0 : Nat) (u0 : Nat) (w0 : Nat) (c0 : Nat) (o0 : Nat) (t0 : Nat) (tp : Nat) (nu : Nat) (se : Nat) (da : Nat) (di : Nat) (p0 : Int32)  : Met l yX11_loud wsX11_loud ({ frames := 1, cells := 0, slots := 0, locals := 21 } : Room) (va_Pc [.ref h0, .int p0] (PR D cy [(h0, .inr (11, [.ref t0, .ref i0, .ref r0, .ref u0, .ref w0, .ref c0, .ref o0])), (t0, .inr (9, [.ref tp, .ref nu, .ref se, .ref da, .ref di, .int 0, .int (-1)])), (nu, .inl (cy 0, 3, .inl (fun _ => 0)))])) (vp_Si (fun r : Int32 => r = (-1))) 0 0 (fun _ => False) := by
  refine Met.ofW (cc := cX11_loud) (maxL := 3) (ret := (some .int)) (by decide) rfl ?_
  intro p e s m args below meth c s₁ B hml hv
  obtain ⟨rfl, hP, hKW⟩ := hv
  have hK := hKW.1
  have hx := B.exec
  have hb := B.bytes
  have hr := B.returns
  have hts := atoms_spec (ws := wsX11_loud) B.pre
  have hown : s.vm.findClass RX11 = some m.cls := findClass_of_methodNamed B.named
  have hlocks := B.notSynchronized
  have in_11 : ∀ w ∈ u_ws RX11 TX11 7, w ∈ wsX11_loud := by decide +kernel
  have fl_10 := hts (.fieldLink RX11 10 "ShoalClaims" "told" "LShoalClaims$Told;") (by decide +kernel)
  have hP : va_P D vwCl [(h0, .inr (11, [.ref t0, .ref i0, .ref r0, .ref u0, .ref w0, .ref c0, .ref o0])), (t0, .inr (9, [.ref tp, .ref nu, .ref se, .ref da, .ref di, .int 0, .int (-1)])), (nu, .inl (cy 0, 3, .inl (fun _ => 0)))] s.heap := hP
  have hl := lv_entry ([.ref h0, .int p0]) (n := 3) (Nat.le_of_ble_eq_true rfl)
  rw [lg_entry_eq]
  generalize (lg_sl ([.ref h0, .int p0]) ++ List.replicate (3 - (lg_sl ([.ref h0, .int p0])).length) Slot.unset).toArray = ls at hl ⊢
  have hl : lv_has ls 3 [(0, .ref h0), (1, .int p0)] := hl
  refine lv_aload_n hx hb dX11_loud_0 rfl (lv_at hl 0 rfl) ?_
  refine va_get (D := D) (ci := 11) (v := .ref t0) (C := RX11) (T := TX11) (N := 7) hx hb hts in_11 hown hK hP 0 rfl rfl 0 (by decide) fl_10 (fun _ h9 => h9) rfl dX11_loud_1 ?_
  refine lv_iload_n hx hb dX11_loud_4 rfl (lv_at hl 1 rfl) ?_
  have hPc_1 := hP.sub (ws' := [(t0, .inr (9, [.ref tp, .ref nu, .ref se, .ref da, .ref di, .int 0, .int (-1)])), (nu, .inl (cy 0, 3, .inl (fun _ => 0)))]) [1, 2] rfl
  refine pc_q (va_runV (As := [.int p0]) (rest := []) ⟨hx, hb, hml, hown, hts⟩ (c_X9_findSea l D cy t0 tp nu se da di p0) (cwV 1 hts gX11_loud_X9_findSea rfl rfl rfl (by decide +kernel) ⟨Nat.le_of_ble_eq_true rfl, Nat.le_of_ble_eq_true rfl⟩) ⟨prB, va_recv hK hPc_1 (ci := 9) (q0 := 0) rfl rfl, fun U hU hW => ⟨rfl, PR.of hU hW hKW hPc_1⟩⟩ rfl rfl hl.1 rfl (lv_room (Nat.le_of_ble_eq_true rfl)) dX11_loud_5 ⟨by decide +kernel, by decide +kernel⟩) (fun r_2 hr_2 => ?_)
  subst hr_2
  refine tp_v (.null) rfl ?_
  refine lv_astore_nN (lv' := [(2, .null), (0, .ref h0), (1, .int p0)]) hx hb dX11_loud_8 rfl hl (by decide) rfl (fun ls hl => ?_)
  refine lv_aload_nN hx hb dX11_loud_9 rfl (lv_at hl 0 rfl) ?_
  refine lv_ifnonnullN hx hb dX11_loud_10 ?_
  refine lv_iconst (v := (-1)) hx hb dX11_loud_13 (by decide +kernel) ?_
  refine lv_goto (tgt := 25) hx hb dX11_loud_14 (by decide) ?_
  exact W.iret (v := (-1)) hx hb hr (fun t ht hW => ⟨(-1), rfl, rfl, ht⟩) (fun _ h => absurd h List.not_mem_nil) dX11_loud_25
set_option maxHeartbeats 4000000 in
set_option maxRecDepth 100000 in
theorem c_X11_deed (l : Launch) (D : va_G) (cy : Nat → ClassId) (h0 : Nat) (i0 : Nat) (r0 : Nat) (u0 : Nat) (w0 : Nat) (c0 : Nat) (o0 : Nat) (t0 : Nat) (tp : Nat) (nu : Nat) (se : Nat) (da : Nat) (di : Nat) (p0 : Int32) (p1 : Int32) (p2 : Int32)  : Met l yX11_deed wsX11_deed ({ frames := 1, cells := 0, slots := 0, locals := 21 } : Room) (va_Pc [.ref h0, .int p0, .int p1, .int p2] (PR D cy [(h0, .inr (11, [.ref t0, .ref i0, .ref r0, .ref u0, .ref w0, .ref c0, .ref o0])), (t0, .inr (9, [.ref tp, .ref nu, .ref se, .ref da, .ref di, .int 0, .int (-1)])), (nu, .inl (cy 0, 3, .inl (fun _ => 0)))])) (vp_Si (fun r : Int32 => r = (-2))) 0 0 (fun _ => False) := by
  refine Met.ofW (cc := cX11_deed) (maxL := 5) (ret := (some .int)) (by decide) rfl ?_
  intro p e s m args below meth c s₁ B hml hv
  obtain ⟨rfl, hP, hKW⟩ := hv
  have hK := hKW.1
  have hx := B.exec
  have hb := B.bytes
  have hr := B.returns
  have hts := atoms_spec (ws := wsX11_deed) B.pre
  have hown : s.vm.findClass RX11 = some m.cls := findClass_of_methodNamed B.named
  have hlocks := B.notSynchronized
  have in_11 : ∀ w ∈ u_ws RX11 TX11 7, w ∈ wsX11_deed := by decide +kernel
  have fl_10 := hts (.fieldLink RX11 10 "ShoalClaims" "told" "LShoalClaims$Told;") (by decide +kernel)
  have hP : va_P D vwCl [(h0, .inr (11, [.ref t0, .ref i0, .ref r0, .ref u0, .ref w0, .ref c0, .ref o0])), (t0, .inr (9, [.ref tp, .ref nu, .ref se, .ref da, .ref di, .int 0, .int (-1)])), (nu, .inl (cy 0, 3, .inl (fun _ => 0)))] s.heap := hP
  have hl := lv_entry ([.ref h0, .int p0, .int p1, .int p2]) (n := 5) (Nat.le_of_ble_eq_true rfl)
  rw [lg_entry_eq]
  generalize (lg_sl ([.ref h0, .int p0, .int p1, .int p2]) ++ List.replicate (5 - (lg_sl ([.ref h0, .int p0, .int p1, .int p2])).length) Slot.unset).toArray = ls at hl ⊢
  have hl : lv_has ls 5 [(0, .ref h0), (1, .int p0), (2, .int p1), (3, .int p2)] := hl
  refine lv_aload_n hx hb dX11_deed_0 rfl (lv_at hl 0 rfl) ?_
  refine va_get (D := D) (ci := 11) (v := .ref t0) (C := RX11) (T := TX11) (N := 7) hx hb hts in_11 hown hK hP 0 rfl rfl 0 (by decide) fl_10 (fun _ h9 => h9) rfl dX11_deed_1 ?_
  refine lv_iload_n hx hb dX11_deed_4 rfl (lv_at hl 1 rfl) ?_
  have hPc_1 := hP.sub (ws' := [(t0, .inr (9, [.ref tp, .ref nu, .ref se, .ref da, .ref di, .int 0, .int (-1)])), (nu, .inl (cy 0, 3, .inl (fun _ => 0)))]) [1, 2] rfl
  refine pc_q (va_runV (As := [.int p0]) (rest := []) ⟨hx, hb, hml, hown, hts⟩ (c_X9_findDay l D cy t0 tp nu se da di p0) (cwV 1 hts gX11_deed_X9_findDay rfl rfl rfl (by decide +kernel) ⟨Nat.le_of_ble_eq_true rfl, Nat.le_of_ble_eq_true rfl⟩) ⟨prB, va_recv hK hPc_1 (ci := 9) (q0 := 0) rfl rfl, fun U hU hW => ⟨rfl, PR.of hU hW hKW hPc_1⟩⟩ rfl rfl hl.1 rfl (lv_room (Nat.le_of_ble_eq_true rfl)) dX11_deed_5 ⟨by decide +kernel, by decide +kernel⟩) (fun r_2 hr_2 => ?_)
  subst hr_2
  refine tp_v (.null) rfl ?_
  refine lv_astoreN (lv' := [(4, .null), (0, .ref h0), (1, .int p0), (2, .int p1), (3, .int p2)]) hx hb dX11_deed_8 hl (by decide) rfl (fun ls hl => ?_)
  refine lv_aloadN hx hb dX11_deed_10 (lv_at hl 0 rfl) ?_
  refine lv_ifnonnullN hx hb dX11_deed_12 ?_
  refine lv_bipush (v := (-2)) hx hb dX11_deed_15 (by decide +kernel) ?_
  exact W.iret (v := (-2)) hx hb hr (fun t ht hW => ⟨(-2), rfl, rfl, ht⟩) (fun _ h => absurd h List.not_mem_nil) dX11_deed_17
set_option maxHeartbeats 4000000 in
set_option maxRecDepth 100000 in
theorem c_X11_stop (l : Launch) (D : va_G) (cy : Nat → ClassId) (h0 : Nat) (i0 : Nat) (r0 : Nat) (u0 : Nat) (w0 : Nat) (c0 : Nat) (o0 : Nat) (t0 : Nat) (tp : Nat) (nu : Nat) (se : Nat) (da : Nat) (di : Nat) (p0 : Int32) (p1 : Int32)  : Met l yX11_stop wsX11_stop ({ frames := 2, cells := 0, slots := 0, locals := 45 } : Room) (va_Pc [.ref h0, .int p0, .int p1] (PR D cy [(h0, .inr (11, [.ref t0, .ref i0, .ref r0, .ref u0, .ref w0, .ref c0, .ref o0])), (t0, .inr (9, [.ref tp, .ref nu, .ref se, .ref da, .ref di, .int 0, .int (-1)])), (nu, .inl (cy 0, 3, .inl (fun _ => 0)))])) (vp_Si (fun r : Int32 => r = (-1))) 0 0 (fun _ => False) := by
  refine Met.ofW (cc := cX11_stop) (maxL := 3) (ret := (some .int)) (by decide) rfl ?_
  intro p e s m args below meth c s₁ B hml hv
  obtain ⟨rfl, hP, hKW⟩ := hv
  have hK := hKW.1
  have hx := B.exec
  have hb := B.bytes
  have hr := B.returns
  have hts := atoms_spec (ws := wsX11_stop) B.pre
  have hown : s.vm.findClass RX11 = some m.cls := findClass_of_methodNamed B.named
  have hlocks := B.notSynchronized
  have hP : va_P D vwCl [(h0, .inr (11, [.ref t0, .ref i0, .ref r0, .ref u0, .ref w0, .ref c0, .ref o0])), (t0, .inr (9, [.ref tp, .ref nu, .ref se, .ref da, .ref di, .int 0, .int (-1)])), (nu, .inl (cy 0, 3, .inl (fun _ => 0)))] s.heap := hP
  have hl := lv_entry ([.ref h0, .int p0, .int p1]) (n := 3) (Nat.le_of_ble_eq_true rfl)
  rw [lg_entry_eq]
  generalize (lg_sl ([.ref h0, .int p0, .int p1]) ++ List.replicate (3 - (lg_sl ([.ref h0, .int p0, .int p1])).length) Slot.unset).toArray = ls at hl ⊢
  have hl : lv_has ls 3 [(0, .ref h0), (1, .int p0), (2, .int p1)] := hl
  refine lv_aload_n hx hb dX11_stop_0 rfl (lv_at hl 0 rfl) ?_
  refine lv_iload_n hx hb dX11_stop_1 rfl (lv_at hl 1 rfl) ?_
  refine lv_iload_n hx hb dX11_stop_2 rfl (lv_at hl 2 rfl) ?_
  have hPc_1 := hP.sub (ws' := [(h0, .inr (11, [.ref t0, .ref i0, .ref r0, .ref u0, .ref w0, .ref c0, .ref o0])), (t0, .inr (9, [.ref tp, .ref nu, .ref se, .ref da, .ref di, .int 0, .int (-1)])), (nu, .inl (cy 0, 3, .inl (fun _ => 0)))]) [0, 1, 2] rfl
  refine pc_i (va_runV (As := [.int p0, .int p1]) (rest := []) ⟨hx, hb, hml, hown, hts⟩ (c_X11_runToStop l D cy h0 i0 r0 u0 w0 c0 o0 t0 tp nu se da di p0 p1) (cwV 2 hts gX11_stop_X11_runToStop rfl rfl rfl (by decide +kernel) ⟨Nat.le_of_ble_eq_true rfl, Nat.le_of_ble_eq_true rfl⟩) ⟨prB, va_recv hK hPc_1 (ci := 11) (q0 := 0) rfl rfl, fun U hU hW => ⟨rfl, PR.of hU hW hKW hPc_1⟩⟩ rfl rfl hl.1 rfl (lv_room (Nat.le_of_ble_eq_true rfl)) dX11_stop_3 ⟨by decide +kernel, by decide +kernel⟩) (fun r_2 hr_2 => ?_)
  subst hr_2
  refine lv_if_eq (tgt := 19) hx hb dX11_stop_6 (by decide) (fun _ => ?_) (fun c_3 => absurd (by decide +kernel) c_3)
  refine lv_iconst (v := (-1)) hx hb dX11_stop_19 (by decide +kernel) ?_
  exact W.iret (v := (-1)) hx hb hr (fun t ht hW => ⟨(-1), rfl, rfl, ht⟩) (fun _ h => absurd h List.not_mem_nil) dX11_stop_20
set_option maxHeartbeats 4000000 in
set_option maxRecDepth 100000 in
theorem c_X11_state (l : Launch) (D : va_G) (cy : Nat → ClassId) (h0 : Nat) (i0 : Nat) (r0 : Nat) (u0 : Nat) (w0 : Nat) (c0 : Nat) (o0 : Nat) (t0 : Nat) (tp : Nat) (nu : Nat) (se : Nat) (da : Nat) (di : Nat) (p0 : Int32) (p1 : Int32) (p2 : Int32) (p3 : Int32) (p4 : Int32)  : Met l yX11_state wsX11_state ({ frames := 2, cells := 0, slots := 0, locals := 46 } : Room) (va_Pc [.ref h0, .int p0, .int p1, .int p2, .int p3, .int p4] (PR D cy [(h0, .inr (11, [.ref t0, .ref i0, .ref r0, .ref u0, .ref w0, .ref c0, .ref o0])), (t0, .inr (9, [.ref tp, .ref nu, .ref se, .ref da, .ref di, .int 0, .int (-1)])), (nu, .inl (cy 0, 3, .inl (fun _ => 0)))])) (vp_Si (fun r : Int32 => r = (-2))) 0 0 (fun _ => False) := by
  refine Met.ofW (cc := cX11_state) (maxL := 8) (ret := (some .int)) (by decide) rfl ?_
  intro p e s m args below meth c s₁ B hml hv
  obtain ⟨rfl, hP, hKW⟩ := hv
  have hK := hKW.1
  have hx := B.exec
  have hb := B.bytes
  have hr := B.returns
  have hts := atoms_spec (ws := wsX11_state) B.pre
  have hown : s.vm.findClass RX11 = some m.cls := findClass_of_methodNamed B.named
  have hlocks := B.notSynchronized
  have hP : va_P D vwCl [(h0, .inr (11, [.ref t0, .ref i0, .ref r0, .ref u0, .ref w0, .ref c0, .ref o0])), (t0, .inr (9, [.ref tp, .ref nu, .ref se, .ref da, .ref di, .int 0, .int (-1)])), (nu, .inl (cy 0, 3, .inl (fun _ => 0)))] s.heap := hP
  have hl := lv_entry ([.ref h0, .int p0, .int p1, .int p2, .int p3, .int p4]) (n := 8) (Nat.le_of_ble_eq_true rfl)
  rw [lg_entry_eq]
  generalize (lg_sl ([.ref h0, .int p0, .int p1, .int p2, .int p3, .int p4]) ++ List.replicate (8 - (lg_sl ([.ref h0, .int p0, .int p1, .int p2, .int p3, .int p4])).length) Slot.unset).toArray = ls at hl ⊢
  have hl : lv_has ls 8 [(0, .ref h0), (1, .int p0), (2, .int p1), (3, .int p2), (4, .int p3), (5, .int p4)] := hl
  refine lv_aload_n hx hb dX11_state_0 rfl (lv_at hl 0 rfl) ?_
  refine lv_iload_n hx hb dX11_state_1 rfl (lv_at hl 1 rfl) ?_
  refine lv_iload_n hx hb dX11_state_2 rfl (lv_at hl 2 rfl) ?_
  refine lv_iload_n hx hb dX11_state_3 rfl (lv_at hl 3 rfl) ?_
  have hPc_1 := hP.sub (ws' := [(h0, .inr (11, [.ref t0, .ref i0, .ref r0, .ref u0, .ref w0, .ref c0, .ref o0])), (t0, .inr (9, [.ref tp, .ref nu, .ref se, .ref da, .ref di, .int 0, .int (-1)])), (nu, .inl (cy 0, 3, .inl (fun _ => 0)))]) [0, 1, 2] rfl
  refine pc_i (va_runV (As := [.int p0, .int p1, .int p2]) (rest := []) ⟨hx, hb, hml, hown, hts⟩ (c_X11_runToState l D cy h0 i0 r0 u0 w0 c0 o0 t0 tp nu se da di p0 p1 p2) (cwV 3 hts gX11_state_X11_runToState rfl rfl rfl (by decide +kernel) ⟨Nat.le_of_ble_eq_true rfl, Nat.le_of_ble_eq_true rfl⟩) ⟨prB, va_recv hK hPc_1 (ci := 11) (q0 := 0) rfl rfl, fun U hU hW => ⟨rfl, PR.of hU hW hKW hPc_1⟩⟩ rfl rfl hl.1 rfl (lv_room (Nat.le_of_ble_eq_true rfl)) dX11_state_4 ⟨by decide +kernel, by decide +kernel⟩) (fun r_2 hr_2 => ?_)
  subst hr_2
  refine lv_if_eq (tgt := 25) hx hb dX11_state_7 (by decide) (fun _ => ?_) (fun c_3 => absurd (by decide +kernel) c_3)
  refine lv_bipush (v := (-2)) hx hb dX11_state_25 (by decide +kernel) ?_
  exact W.iret (v := (-2)) hx hb hr (fun t ht hW => ⟨(-2), rfl, rfl, ht⟩) (fun _ h => absurd h List.not_mem_nil) dX11_state_27
set_option maxHeartbeats 4000000 in
set_option maxRecDepth 100000 in
theorem c_X11_has (l : Launch) (D : va_G) (cy : Nat → ClassId) (h0 : Nat) (i0 : Nat) (r0 : Nat) (u0 : Nat) (w0 : Nat) (c0 : Nat) (o0 : Nat) (t0 : Nat) (tp : Nat) (nu : Nat) (se : Nat) (da : Nat) (di : Nat) (p0 : Int32) (p1 : Int32) (p2 : Int32) (p3 : Int32) (p4 : Int32)  : Met l yX11_has wsX11_has ({ frames := 2, cells := 0, slots := 0, locals := 46 } : Room) (va_Pc [.ref h0, .int p0, .int p1, .int p2, .int p3, .int p4] (PR D cy [(h0, .inr (11, [.ref t0, .ref i0, .ref r0, .ref u0, .ref w0, .ref c0, .ref o0])), (t0, .inr (9, [.ref tp, .ref nu, .ref se, .ref da, .ref di, .int 0, .int (-1)])), (nu, .inl (cy 0, 3, .inl (fun _ => 0)))])) (vp_Si (fun r : Int32 => r = (-2))) 0 0 (fun _ => False) := by
  refine Met.ofW (cc := cX11_has) (maxL := 6) (ret := (some .int)) (by decide) rfl ?_
  intro p e s m args below meth c s₁ B hml hv
  obtain ⟨rfl, hP, hKW⟩ := hv
  have hK := hKW.1
  have hx := B.exec
  have hb := B.bytes
  have hr := B.returns
  have hts := atoms_spec (ws := wsX11_has) B.pre
  have hown : s.vm.findClass RX11 = some m.cls := findClass_of_methodNamed B.named
  have hlocks := B.notSynchronized
  have hP : va_P D vwCl [(h0, .inr (11, [.ref t0, .ref i0, .ref r0, .ref u0, .ref w0, .ref c0, .ref o0])), (t0, .inr (9, [.ref tp, .ref nu, .ref se, .ref da, .ref di, .int 0, .int (-1)])), (nu, .inl (cy 0, 3, .inl (fun _ => 0)))] s.heap := hP
  have hl := lv_entry ([.ref h0, .int p0, .int p1, .int p2, .int p3, .int p4]) (n := 6) (Nat.le_of_ble_eq_true rfl)
  rw [lg_entry_eq]
  generalize (lg_sl ([.ref h0, .int p0, .int p1, .int p2, .int p3, .int p4]) ++ List.replicate (6 - (lg_sl ([.ref h0, .int p0, .int p1, .int p2, .int p3, .int p4])).length) Slot.unset).toArray = ls at hl ⊢
  have hl : lv_has ls 6 [(0, .ref h0), (1, .int p0), (2, .int p1), (3, .int p2), (4, .int p3), (5, .int p4)] := hl
  refine lv_aload_n hx hb dX11_has_0 rfl (lv_at hl 0 rfl) ?_
  refine lv_iload_n hx hb dX11_has_1 rfl (lv_at hl 1 rfl) ?_
  refine lv_iload_n hx hb dX11_has_2 rfl (lv_at hl 2 rfl) ?_
  refine lv_iload_n hx hb dX11_has_3 rfl (lv_at hl 3 rfl) ?_
  have hPc_1 := hP.sub (ws' := [(h0, .inr (11, [.ref t0, .ref i0, .ref r0, .ref u0, .ref w0, .ref c0, .ref o0])), (t0, .inr (9, [.ref tp, .ref nu, .ref se, .ref da, .ref di, .int 0, .int (-1)])), (nu, .inl (cy 0, 3, .inl (fun _ => 0)))]) [0, 1, 2] rfl
  refine pc_i (va_runV (As := [.int p0, .int p1, .int p2]) (rest := []) ⟨hx, hb, hml, hown, hts⟩ (c_X11_runToState l D cy h0 i0 r0 u0 w0 c0 o0 t0 tp nu se da di p0 p1 p2) (cwV 3 hts gX11_has_X11_runToState rfl rfl rfl (by decide +kernel) ⟨Nat.le_of_ble_eq_true rfl, Nat.le_of_ble_eq_true rfl⟩) ⟨prB, va_recv hK hPc_1 (ci := 11) (q0 := 0) rfl rfl, fun U hU hW => ⟨rfl, PR.of hU hW hKW hPc_1⟩⟩ rfl rfl hl.1 rfl (lv_room (Nat.le_of_ble_eq_true rfl)) dX11_has_4 ⟨by decide +kernel, by decide +kernel⟩) (fun r_2 hr_2 => ?_)
  subst hr_2
  refine lv_if_eq (tgt := 25) hx hb dX11_has_7 (by decide) (fun _ => ?_) (fun c_3 => absurd (by decide +kernel) c_3)
  refine lv_bipush (v := (-2)) hx hb dX11_has_25 (by decide +kernel) ?_
  exact W.iret (v := (-2)) hx hb hr (fun t ht hW => ⟨(-2), rfl, rfl, ht⟩) (fun _ h => absurd h List.not_mem_nil) dX11_has_27
set_option maxHeartbeats 4000000 in
set_option maxRecDepth 100000 in
theorem c_X11_claimed (l : Launch) (D : va_G) (cy : Nat → ClassId) (h0 : Nat) (i0 : Nat) (r0 : Nat) (u0 : Nat) (w0 : Nat) (c0 : Nat) (o0 : Nat) (t0 : Nat) (tp : Nat) (nu : Nat) (se : Nat) (da : Nat) (di : Nat) (p0 : Int32) (p1 : Int32) (p2 : Int32) (p3 : Int32)  : Met l yX11_claimed wsX11_claimed ({ frames := 2, cells := 0, slots := 0, locals := 46 } : Room) (va_Pc [.ref h0, .int p0, .int p1, .int p2, .int p3] (PR D cy [(h0, .inr (11, [.ref t0, .ref i0, .ref r0, .ref u0, .ref w0, .ref c0, .ref o0])), (t0, .inr (9, [.ref tp, .ref nu, .ref se, .ref da, .ref di, .int 0, .int (-1)])), (nu, .inl (cy 0, 3, .inl (fun _ => 0)))])) (vp_Si (fun r : Int32 => r = (-1))) 0 0 (fun _ => False) := by
  refine Met.ofW (cc := cX11_claimed) (maxL := 6) (ret := (some .int)) (by decide) rfl ?_
  intro p e s m args below meth c s₁ B hml hv
  obtain ⟨rfl, hP, hKW⟩ := hv
  have hK := hKW.1
  have hx := B.exec
  have hb := B.bytes
  have hr := B.returns
  have hts := atoms_spec (ws := wsX11_claimed) B.pre
  have hown : s.vm.findClass RX11 = some m.cls := findClass_of_methodNamed B.named
  have hlocks := B.notSynchronized
  have hP : va_P D vwCl [(h0, .inr (11, [.ref t0, .ref i0, .ref r0, .ref u0, .ref w0, .ref c0, .ref o0])), (t0, .inr (9, [.ref tp, .ref nu, .ref se, .ref da, .ref di, .int 0, .int (-1)])), (nu, .inl (cy 0, 3, .inl (fun _ => 0)))] s.heap := hP
  have hl := lv_entry ([.ref h0, .int p0, .int p1, .int p2, .int p3]) (n := 6) (Nat.le_of_ble_eq_true rfl)
  rw [lg_entry_eq]
  generalize (lg_sl ([.ref h0, .int p0, .int p1, .int p2, .int p3]) ++ List.replicate (6 - (lg_sl ([.ref h0, .int p0, .int p1, .int p2, .int p3])).length) Slot.unset).toArray = ls at hl ⊢
  have hl : lv_has ls 6 [(0, .ref h0), (1, .int p0), (2, .int p1), (3, .int p2), (4, .int p3)] := hl
  refine lv_iload_n hx hb dX11_claimed_0 rfl (lv_at hl 3 rfl) ?_
  refine lv_if_lt (tgt := 16) hx hb dX11_claimed_1 (by decide) (fun c_1 => ?_) (fun c_1 => ?_)
  · refine lv_iconst (v := (-1)) hx hb dX11_claimed_16 (by decide +kernel) ?_
    exact W.iret (v := (-1)) hx hb hr (fun t ht hW => ⟨(-1), rfl, rfl, ht⟩) (fun _ h => absurd h List.not_mem_nil) dX11_claimed_17
  · refine lv_aload_n hx hb dX11_claimed_4 rfl (lv_at hl 0 rfl) ?_
    refine lv_iload_n hx hb dX11_claimed_5 rfl (lv_at hl 1 rfl) ?_
    refine lv_iload_n hx hb dX11_claimed_6 rfl (lv_at hl 2 rfl) ?_
    refine lv_iload_n hx hb dX11_claimed_7 rfl (lv_at hl 3 rfl) ?_
    refine lv_iconst (v := 1) hx hb dX11_claimed_8 (by decide +kernel) ?_
    refine lv_iadd hx hb dX11_claimed_9 ?_
    have hPc_2 := hP.sub (ws' := [(h0, .inr (11, [.ref t0, .ref i0, .ref r0, .ref u0, .ref w0, .ref c0, .ref o0])), (t0, .inr (9, [.ref tp, .ref nu, .ref se, .ref da, .ref di, .int 0, .int (-1)])), (nu, .inl (cy 0, 3, .inl (fun _ => 0)))]) [0, 1, 2] rfl
    refine pc_i (va_runV (As := [.int p0, .int p1, .int (p2 + 1)]) (rest := []) ⟨hx, hb, hml, hown, hts⟩ (c_X11_runToState l D cy h0 i0 r0 u0 w0 c0 o0 t0 tp nu se da di p0 p1 (p2 + 1)) (cwV 3 hts gX11_claimed_X11_runToState rfl rfl rfl (by decide +kernel) ⟨Nat.le_of_ble_eq_true rfl, Nat.le_of_ble_eq_true rfl⟩) ⟨prB, va_recv hK hPc_2 (ci := 11) (q0 := 0) rfl rfl, fun U hU hW => ⟨rfl, PR.of hU hW hKW hPc_2⟩⟩ rfl rfl hl.1 rfl (lv_room (Nat.le_of_ble_eq_true rfl)) dX11_claimed_10 ⟨by decide +kernel, by decide +kernel⟩) (fun r_3 hr_3 => ?_)
    subst hr_3
    refine lv_if_ne (tgt := 18) hx hb dX11_claimed_13 (by decide) (fun c_4 => absurd (by decide +kernel) c_4) (fun _ => ?_)
    refine lv_iconst (v := (-1)) hx hb dX11_claimed_16 (by decide +kernel) ?_
    exact W.iret (v := (-1)) hx hb hr (fun t ht hW => ⟨(-1), rfl, rfl, ht⟩) (fun _ h => absurd h List.not_mem_nil) dX11_claimed_17
set_option maxHeartbeats 4000000 in
set_option maxRecDepth 100000 in
theorem c_X11_shares (l : Launch) (D : va_G) (cy : Nat → ClassId) (h0 : Nat) (i0 : Nat) (r0 : Nat) (u0 : Nat) (w0 : Nat) (c0 : Nat) (o0 : Nat) (t0 : Nat) (tp : Nat) (nu : Nat) (se : Nat) (da : Nat) (di : Nat) (p0 : Int32) (p1 : Int32) (p2 : Int32) (p3 : Int32)  : Met l yX11_shares wsX11_shares ({ frames := 2, cells := 0, slots := 0, locals := 46 } : Room) (va_Pc [.ref h0, .int p0, .int p1, .int p2, .int p3] (PR D cy [(h0, .inr (11, [.ref t0, .ref i0, .ref r0, .ref u0, .ref w0, .ref c0, .ref o0])), (t0, .inr (9, [.ref tp, .ref nu, .ref se, .ref da, .ref di, .int 0, .int (-1)])), (nu, .inl (cy 0, 3, .inl (fun _ => 0)))])) (vp_Si (fun r : Int32 => r = (-2))) 0 0 (fun _ => False) := by
  refine Met.ofW (cc := cX11_shares) (maxL := 5) (ret := (some .int)) (by decide) rfl ?_
  intro p e s m args below meth c s₁ B hml hv
  obtain ⟨rfl, hP, hKW⟩ := hv
  have hK := hKW.1
  have hx := B.exec
  have hb := B.bytes
  have hr := B.returns
  have hts := atoms_spec (ws := wsX11_shares) B.pre
  have hown : s.vm.findClass RX11 = some m.cls := findClass_of_methodNamed B.named
  have hlocks := B.notSynchronized
  have hP : va_P D vwCl [(h0, .inr (11, [.ref t0, .ref i0, .ref r0, .ref u0, .ref w0, .ref c0, .ref o0])), (t0, .inr (9, [.ref tp, .ref nu, .ref se, .ref da, .ref di, .int 0, .int (-1)])), (nu, .inl (cy 0, 3, .inl (fun _ => 0)))] s.heap := hP
  have hl := lv_entry ([.ref h0, .int p0, .int p1, .int p2, .int p3]) (n := 5) (Nat.le_of_ble_eq_true rfl)
  rw [lg_entry_eq]
  generalize (lg_sl ([.ref h0, .int p0, .int p1, .int p2, .int p3]) ++ List.replicate (5 - (lg_sl ([.ref h0, .int p0, .int p1, .int p2, .int p3])).length) Slot.unset).toArray = ls at hl ⊢
  have hl : lv_has ls 5 [(0, .ref h0), (1, .int p0), (2, .int p1), (3, .int p2), (4, .int p3)] := hl
  refine lv_iload_n hx hb dX11_shares_0 rfl (lv_at hl 3 rfl) ?_
  refine lv_if_lt (tgt := 32) hx hb dX11_shares_1 (by decide) (fun c_1 => ?_) (fun c_1 => ?_)
  · refine lv_bipush (v := (-2)) hx hb dX11_shares_32 (by decide +kernel) ?_
    exact W.iret (v := (-2)) hx hb hr (fun t ht hW => ⟨(-2), rfl, rfl, ht⟩) (fun _ h => absurd h List.not_mem_nil) dX11_shares_34
  · refine lv_aload_n hx hb dX11_shares_4 rfl (lv_at hl 0 rfl) ?_
    refine lv_iload_n hx hb dX11_shares_5 rfl (lv_at hl 1 rfl) ?_
    refine lv_iload_n hx hb dX11_shares_6 rfl (lv_at hl 2 rfl) ?_
    refine lv_iload_n hx hb dX11_shares_7 rfl (lv_at hl 3 rfl) ?_
    refine lv_iconst (v := 1) hx hb dX11_shares_8 (by decide +kernel) ?_
    refine lv_iadd hx hb dX11_shares_9 ?_
    have hPc_2 := hP.sub (ws' := [(h0, .inr (11, [.ref t0, .ref i0, .ref r0, .ref u0, .ref w0, .ref c0, .ref o0])), (t0, .inr (9, [.ref tp, .ref nu, .ref se, .ref da, .ref di, .int 0, .int (-1)])), (nu, .inl (cy 0, 3, .inl (fun _ => 0)))]) [0, 1, 2] rfl
    refine pc_i (va_runV (As := [.int p0, .int p1, .int (p2 + 1)]) (rest := []) ⟨hx, hb, hml, hown, hts⟩ (c_X11_runToState l D cy h0 i0 r0 u0 w0 c0 o0 t0 tp nu se da di p0 p1 (p2 + 1)) (cwV 3 hts gX11_shares_X11_runToState rfl rfl rfl (by decide +kernel) ⟨Nat.le_of_ble_eq_true rfl, Nat.le_of_ble_eq_true rfl⟩) ⟨prB, va_recv hK hPc_2 (ci := 11) (q0 := 0) rfl rfl, fun U hU hW => ⟨rfl, PR.of hU hW hKW hPc_2⟩⟩ rfl rfl hl.1 rfl (lv_room (Nat.le_of_ble_eq_true rfl)) dX11_shares_10 ⟨by decide +kernel, by decide +kernel⟩) (fun r_3 hr_3 => ?_)
    subst hr_3
    refine lv_if_eq (tgt := 32) hx hb dX11_shares_13 (by decide) (fun _ => ?_) (fun c_4 => absurd (by decide +kernel) c_4)
    refine lv_bipush (v := (-2)) hx hb dX11_shares_32 (by decide +kernel) ?_
    exact W.iret (v := (-2)) hx hb hr (fun t ht hW => ⟨(-2), rfl, rfl, ht⟩) (fun _ h => absurd h List.not_mem_nil) dX11_shares_34
set_option maxHeartbeats 4000000 in
set_option maxRecDepth 100000 in
theorem c_X11_twice (l : Launch) (D : va_G) (cy : Nat → ClassId) (h0 : Nat) (i0 : Nat) (r0 : Nat) (u0 : Nat) (w0 : Nat) (c0 : Nat) (o0 : Nat) (t0 : Nat) (tp : Nat) (nu : Nat) (se : Nat) (da : Nat) (di : Nat) (p0 : Int32) (p1 : Int32)  : Met l yX11_twice wsX11_twice ({ frames := 2, cells := 0, slots := 0, locals := 45 } : Room) (va_Pc [.ref h0, .int p0, .int p1] (PR D cy [(h0, .inr (11, [.ref t0, .ref i0, .ref r0, .ref u0, .ref w0, .ref c0, .ref o0])), (t0, .inr (9, [.ref tp, .ref nu, .ref se, .ref da, .ref di, .int 0, .int (-1)])), (nu, .inl (cy 0, 3, .inl (fun _ => 0)))])) (vp_Si (fun r : Int32 => r = (-1))) 0 0 (fun _ => False) := by
  refine Met.ofW (cc := cX11_twice) (maxL := 3) (ret := (some .int)) (by decide) rfl ?_
  intro p e s m args below meth c s₁ B hml hv
  obtain ⟨rfl, hP, hKW⟩ := hv
  have hK := hKW.1
  have hx := B.exec
  have hb := B.bytes
  have hr := B.returns
  have hts := atoms_spec (ws := wsX11_twice) B.pre
  have hown : s.vm.findClass RX11 = some m.cls := findClass_of_methodNamed B.named
  have hlocks := B.notSynchronized
  have hP : va_P D vwCl [(h0, .inr (11, [.ref t0, .ref i0, .ref r0, .ref u0, .ref w0, .ref c0, .ref o0])), (t0, .inr (9, [.ref tp, .ref nu, .ref se, .ref da, .ref di, .int 0, .int (-1)])), (nu, .inl (cy 0, 3, .inl (fun _ => 0)))] s.heap := hP
  have hl := lv_entry ([.ref h0, .int p0, .int p1]) (n := 3) (Nat.le_of_ble_eq_true rfl)
  rw [lg_entry_eq]
  generalize (lg_sl ([.ref h0, .int p0, .int p1]) ++ List.replicate (3 - (lg_sl ([.ref h0, .int p0, .int p1])).length) Slot.unset).toArray = ls at hl ⊢
  have hl : lv_has ls 3 [(0, .ref h0), (1, .int p0), (2, .int p1)] := hl
  refine lv_aload_n hx hb dX11_twice_0 rfl (lv_at hl 0 rfl) ?_
  refine lv_iload_n hx hb dX11_twice_1 rfl (lv_at hl 1 rfl) ?_
  refine lv_iload_n hx hb dX11_twice_2 rfl (lv_at hl 2 rfl) ?_
  have hPc_1 := hP.sub (ws' := [(h0, .inr (11, [.ref t0, .ref i0, .ref r0, .ref u0, .ref w0, .ref c0, .ref o0])), (t0, .inr (9, [.ref tp, .ref nu, .ref se, .ref da, .ref di, .int 0, .int (-1)])), (nu, .inl (cy 0, 3, .inl (fun _ => 0)))]) [0, 1, 2] rfl
  refine pc_i (va_runV (As := [.int p0, .int p1]) (rest := []) ⟨hx, hb, hml, hown, hts⟩ (c_X11_runToStop l D cy h0 i0 r0 u0 w0 c0 o0 t0 tp nu se da di p0 p1) (cwV 2 hts gX11_twice_X11_runToStop rfl rfl rfl (by decide +kernel) ⟨Nat.le_of_ble_eq_true rfl, Nat.le_of_ble_eq_true rfl⟩) ⟨prB, va_recv hK hPc_1 (ci := 11) (q0 := 0) rfl rfl, fun U hU hW => ⟨rfl, PR.of hU hW hKW hPc_1⟩⟩ rfl rfl hl.1 rfl (lv_room (Nat.le_of_ble_eq_true rfl)) dX11_twice_3 ⟨by decide +kernel, by decide +kernel⟩) (fun r_2 hr_2 => ?_)
  subst hr_2
  refine lv_if_eq (tgt := 19) hx hb dX11_twice_6 (by decide) (fun _ => ?_) (fun c_3 => absurd (by decide +kernel) c_3)
  refine lv_iconst (v := (-1)) hx hb dX11_twice_19 (by decide +kernel) ?_
  exact W.iret (v := (-1)) hx hb hr (fun t ht hW => ⟨(-1), rfl, rfl, ht⟩) (fun _ h => absurd h List.not_mem_nil) dX11_twice_20
set_option maxHeartbeats 4000000 in
set_option maxRecDepth 100000 in
theorem c_X11_soon (l : Launch) (D : va_G) (cy : Nat → ClassId) (h0 : Nat) (i0 : Nat) (r0 : Nat) (u0 : Nat) (w0 : Nat) (c0 : Nat) (o0 : Nat) (t0 : Nat) (tp : Nat) (nu : Nat) (se : Nat) (da : Nat) (di : Nat) (p0 : Int32) (p1 : Int32) (p2 : Int32) (p3 : Int32)  : Met l yX11_soon wsX11_soon ({ frames := 1, cells := 0, slots := 0, locals := 21 } : Room) (va_Pc [.ref h0, .int p0, .int p1, .int p2, .int p3] (PR D cy [(h0, .inr (11, [.ref t0, .ref i0, .ref r0, .ref u0, .ref w0, .ref c0, .ref o0])), (t0, .inr (9, [.ref tp, .ref nu, .ref se, .ref da, .ref di, .int 0, .int (-1)])), (nu, .inl (cy 0, 3, .inl (fun _ => 0)))])) (vp_Si (fun r : Int32 => r = (-1))) 0 0 (fun _ => False) := by
  refine Met.ofW (cc := cX11_soon) (maxL := 7) (ret := (some .int)) (by decide) rfl ?_
  intro p e s m args below meth c s₁ B hml hv
  obtain ⟨rfl, hP, hKW⟩ := hv
  have hK := hKW.1
  have hx := B.exec
  have hb := B.bytes
  have hr := B.returns
  have hts := atoms_spec (ws := wsX11_soon) B.pre
  have hown : s.vm.findClass RX11 = some m.cls := findClass_of_methodNamed B.named
  have hlocks := B.notSynchronized
  have in_11 : ∀ w ∈ u_ws RX11 TX11 7, w ∈ wsX11_soon := by decide +kernel
  have fl_10 := hts (.fieldLink RX11 10 "ShoalClaims" "told" "LShoalClaims$Told;") (by decide +kernel)
  have hP : va_P D vwCl [(h0, .inr (11, [.ref t0, .ref i0, .ref r0, .ref u0, .ref w0, .ref c0, .ref o0])), (t0, .inr (9, [.ref tp, .ref nu, .ref se, .ref da, .ref di, .int 0, .int (-1)])), (nu, .inl (cy 0, 3, .inl (fun _ => 0)))] s.heap := hP
  have hl := lv_entry ([.ref h0, .int p0, .int p1, .int p2, .int p3]) (n := 7) (Nat.le_of_ble_eq_true rfl)
  rw [lg_entry_eq]
  generalize (lg_sl ([.ref h0, .int p0, .int p1, .int p2, .int p3]) ++ List.replicate (7 - (lg_sl ([.ref h0, .int p0, .int p1, .int p2, .int p3])).length) Slot.unset).toArray = ls at hl ⊢
  have hl : lv_has ls 7 [(0, .ref h0), (1, .int p0), (2, .int p1), (3, .int p2), (4, .int p3)] := hl
  refine lv_aload_n hx hb dX11_soon_0 rfl (lv_at hl 0 rfl) ?_
  refine va_get (D := D) (ci := 11) (v := .ref t0) (C := RX11) (T := TX11) (N := 7) hx hb hts in_11 hown hK hP 0 rfl rfl 0 (by decide) fl_10 (fun _ h9 => h9) rfl dX11_soon_1 ?_
  refine lv_iload_n hx hb dX11_soon_4 rfl (lv_at hl 1 rfl) ?_
  have hPc_1 := hP.sub (ws' := [(t0, .inr (9, [.ref tp, .ref nu, .ref se, .ref da, .ref di, .int 0, .int (-1)])), (nu, .inl (cy 0, 3, .inl (fun _ => 0)))]) [1, 2] rfl
  refine pc_q (va_runV (As := [.int p0]) (rest := []) ⟨hx, hb, hml, hown, hts⟩ (c_X9_findSea l D cy t0 tp nu se da di p0) (cwV 1 hts gX11_soon_X9_findSea rfl rfl rfl (by decide +kernel) ⟨Nat.le_of_ble_eq_true rfl, Nat.le_of_ble_eq_true rfl⟩) ⟨prB, va_recv hK hPc_1 (ci := 9) (q0 := 0) rfl rfl, fun U hU hW => ⟨rfl, PR.of hU hW hKW hPc_1⟩⟩ rfl rfl hl.1 rfl (lv_room (Nat.le_of_ble_eq_true rfl)) dX11_soon_5 ⟨by decide +kernel, by decide +kernel⟩) (fun r_2 hr_2 => ?_)
  subst hr_2
  refine tp_v (.null) rfl ?_
  refine lv_astoreN (lv' := [(5, .null), (0, .ref h0), (1, .int p0), (2, .int p1), (3, .int p2), (4, .int p3)]) hx hb dX11_soon_8 hl (by decide) rfl (fun ls hl => ?_)
  refine lv_aloadN hx hb dX11_soon_10 (lv_at hl 0 rfl) ?_
  refine lv_ifnullN (tgt := 33) hx hb dX11_soon_12 (by decide) ?_
  refine lv_iconst (v := (-1)) hx hb dX11_soon_33 (by decide +kernel) ?_
  exact W.iret (v := (-1)) hx hb hr (fun t ht hW => ⟨(-1), rfl, rfl, ht⟩) (fun _ h => absurd h List.not_mem_nil) dX11_soon_34
set_option maxHeartbeats 4000000 in
set_option maxRecDepth 100000 in
theorem c_X11_berth (l : Launch) (D : va_G) (cy : Nat → ClassId) (h0 : Nat) (i0 : Nat) (r0 : Nat) (u0 : Nat) (w0 : Nat) (c0 : Nat) (o0 : Nat) (t0 : Nat) (tp : Nat) (nu : Nat) (se : Nat) (da : Nat) (di : Nat) (p0 : Int32) (p1 : Int32) (p2 : Int32)  : Met l yX11_berth wsX11_berth ({ frames := 1, cells := 0, slots := 0, locals := 21 } : Room) (va_Pc [.ref h0, .int p0, .int p1, .int p2] (PR D cy [(h0, .inr (11, [.ref t0, .ref i0, .ref r0, .ref u0, .ref w0, .ref c0, .ref o0])), (t0, .inr (9, [.ref tp, .ref nu, .ref se, .ref da, .ref di, .int 0, .int (-1)])), (nu, .inl (cy 0, 3, .inl (fun _ => 0)))])) (vp_Si (fun r : Int32 => r = (-1))) 0 0 (fun _ => False) := by
  refine Met.ofW (cc := cX11_berth) (maxL := 5) (ret := (some .int)) (by decide) rfl ?_
  intro p e s m args below meth c s₁ B hml hv
  obtain ⟨rfl, hP, hKW⟩ := hv
  have hK := hKW.1
  have hx := B.exec
  have hb := B.bytes
  have hr := B.returns
  have hts := atoms_spec (ws := wsX11_berth) B.pre
  have hown : s.vm.findClass RX11 = some m.cls := findClass_of_methodNamed B.named
  have hlocks := B.notSynchronized
  have in_11 : ∀ w ∈ u_ws RX11 TX11 7, w ∈ wsX11_berth := by decide +kernel
  have fl_10 := hts (.fieldLink RX11 10 "ShoalClaims" "told" "LShoalClaims$Told;") (by decide +kernel)
  have hP : va_P D vwCl [(h0, .inr (11, [.ref t0, .ref i0, .ref r0, .ref u0, .ref w0, .ref c0, .ref o0])), (t0, .inr (9, [.ref tp, .ref nu, .ref se, .ref da, .ref di, .int 0, .int (-1)])), (nu, .inl (cy 0, 3, .inl (fun _ => 0)))] s.heap := hP
  have hl := lv_entry ([.ref h0, .int p0, .int p1, .int p2]) (n := 5) (Nat.le_of_ble_eq_true rfl)
  rw [lg_entry_eq]
  generalize (lg_sl ([.ref h0, .int p0, .int p1, .int p2]) ++ List.replicate (5 - (lg_sl ([.ref h0, .int p0, .int p1, .int p2])).length) Slot.unset).toArray = ls at hl ⊢
  have hl : lv_has ls 5 [(0, .ref h0), (1, .int p0), (2, .int p1), (3, .int p2)] := hl
  refine lv_aload_n hx hb dX11_berth_0 rfl (lv_at hl 0 rfl) ?_
  refine va_get (D := D) (ci := 11) (v := .ref t0) (C := RX11) (T := TX11) (N := 7) hx hb hts in_11 hown hK hP 0 rfl rfl 0 (by decide) fl_10 (fun _ h9 => h9) rfl dX11_berth_1 ?_
  refine lv_iload_n hx hb dX11_berth_4 rfl (lv_at hl 1 rfl) ?_
  have hPc_1 := hP.sub (ws' := [(t0, .inr (9, [.ref tp, .ref nu, .ref se, .ref da, .ref di, .int 0, .int (-1)])), (nu, .inl (cy 0, 3, .inl (fun _ => 0)))]) [1, 2] rfl
  refine pc_q (va_runV (As := [.int p0]) (rest := []) ⟨hx, hb, hml, hown, hts⟩ (c_X9_findSea l D cy t0 tp nu se da di p0) (cwV 1 hts gX11_berth_X9_findSea rfl rfl rfl (by decide +kernel) ⟨Nat.le_of_ble_eq_true rfl, Nat.le_of_ble_eq_true rfl⟩) ⟨prB, va_recv hK hPc_1 (ci := 9) (q0 := 0) rfl rfl, fun U hU hW => ⟨rfl, PR.of hU hW hKW hPc_1⟩⟩ rfl rfl hl.1 rfl (lv_room (Nat.le_of_ble_eq_true rfl)) dX11_berth_5 ⟨by decide +kernel, by decide +kernel⟩) (fun r_2 hr_2 => ?_)
  subst hr_2
  refine tp_v (.null) rfl ?_
  refine lv_astoreN (lv' := [(4, .null), (0, .ref h0), (1, .int p0), (2, .int p1), (3, .int p2)]) hx hb dX11_berth_8 hl (by decide) rfl (fun ls hl => ?_)
  refine lv_aloadN hx hb dX11_berth_10 (lv_at hl 0 rfl) ?_
  refine lv_ifnullN (tgt := 24) hx hb dX11_berth_12 (by decide) ?_
  refine lv_iconst (v := (-1)) hx hb dX11_berth_24 (by decide +kernel) ?_
  exact W.iret (v := (-1)) hx hb hr (fun t ht hW => ⟨(-1), rfl, rfl, ht⟩) (fun _ h => absurd h List.not_mem_nil) dX11_berth_25
set_option maxHeartbeats 4000000 in
set_option maxRecDepth 100000 in
theorem c_X11_pair (l : Launch) (D : va_G) (cy : Nat → ClassId) (h0 : Nat) (i0 : Nat) (r0 : Nat) (u0 : Nat) (w0 : Nat) (c0 : Nat) (o0 : Nat) (t0 : Nat) (tp : Nat) (nu : Nat) (se : Nat) (da : Nat) (di : Nat) (p0 : Int32) (p1 : Int32) (p2 : Int32) (p3 : Int32)  : Met l yX11_pair wsX11_pair ({ frames := 1, cells := 0, slots := 0, locals := 21 } : Room) (va_Pc [.ref h0, .int p0, .int p1, .int p2, .int p3] (PR D cy [(h0, .inr (11, [.ref t0, .ref i0, .ref r0, .ref u0, .ref w0, .ref c0, .ref o0])), (t0, .inr (9, [.ref tp, .ref nu, .ref se, .ref da, .ref di, .int 0, .int (-1)])), (nu, .inl (cy 0, 3, .inl (fun _ => 0)))])) (vp_Si (fun r : Int32 => r = (-1))) 0 0 (fun _ => False) := by
  refine Met.ofW (cc := cX11_pair) (maxL := 6) (ret := (some .int)) (by decide) rfl ?_
  intro p e s m args below meth c s₁ B hml hv
  obtain ⟨rfl, hP, hKW⟩ := hv
  have hK := hKW.1
  have hx := B.exec
  have hb := B.bytes
  have hr := B.returns
  have hts := atoms_spec (ws := wsX11_pair) B.pre
  have hown : s.vm.findClass RX11 = some m.cls := findClass_of_methodNamed B.named
  have hlocks := B.notSynchronized
  have in_11 : ∀ w ∈ u_ws RX11 TX11 7, w ∈ wsX11_pair := by decide +kernel
  have fl_10 := hts (.fieldLink RX11 10 "ShoalClaims" "told" "LShoalClaims$Told;") (by decide +kernel)
  have hP : va_P D vwCl [(h0, .inr (11, [.ref t0, .ref i0, .ref r0, .ref u0, .ref w0, .ref c0, .ref o0])), (t0, .inr (9, [.ref tp, .ref nu, .ref se, .ref da, .ref di, .int 0, .int (-1)])), (nu, .inl (cy 0, 3, .inl (fun _ => 0)))] s.heap := hP
  have hl := lv_entry ([.ref h0, .int p0, .int p1, .int p2, .int p3]) (n := 6) (Nat.le_of_ble_eq_true rfl)
  rw [lg_entry_eq]
  generalize (lg_sl ([.ref h0, .int p0, .int p1, .int p2, .int p3]) ++ List.replicate (6 - (lg_sl ([.ref h0, .int p0, .int p1, .int p2, .int p3])).length) Slot.unset).toArray = ls at hl ⊢
  have hl : lv_has ls 6 [(0, .ref h0), (1, .int p0), (2, .int p1), (3, .int p2), (4, .int p3)] := hl
  refine lv_aload_n hx hb dX11_pair_0 rfl (lv_at hl 0 rfl) ?_
  refine va_get (D := D) (ci := 11) (v := .ref t0) (C := RX11) (T := TX11) (N := 7) hx hb hts in_11 hown hK hP 0 rfl rfl 0 (by decide) fl_10 (fun _ h9 => h9) rfl dX11_pair_1 ?_
  refine lv_iload_n hx hb dX11_pair_4 rfl (lv_at hl 1 rfl) ?_
  have hPc_1 := hP.sub (ws' := [(t0, .inr (9, [.ref tp, .ref nu, .ref se, .ref da, .ref di, .int 0, .int (-1)])), (nu, .inl (cy 0, 3, .inl (fun _ => 0)))]) [1, 2] rfl
  refine pc_q (va_runV (As := [.int p0]) (rest := []) ⟨hx, hb, hml, hown, hts⟩ (c_X9_findSea l D cy t0 tp nu se da di p0) (cwV 1 hts gX11_pair_X9_findSea rfl rfl rfl (by decide +kernel) ⟨Nat.le_of_ble_eq_true rfl, Nat.le_of_ble_eq_true rfl⟩) ⟨prB, va_recv hK hPc_1 (ci := 9) (q0 := 0) rfl rfl, fun U hU hW => ⟨rfl, PR.of hU hW hKW hPc_1⟩⟩ rfl rfl hl.1 rfl (lv_room (Nat.le_of_ble_eq_true rfl)) dX11_pair_5 ⟨by decide +kernel, by decide +kernel⟩) (fun r_2 hr_2 => ?_)
  subst hr_2
  refine tp_v (.null) rfl ?_
  refine lv_astoreN (lv' := [(5, .null), (0, .ref h0), (1, .int p0), (2, .int p1), (3, .int p2), (4, .int p3)]) hx hb dX11_pair_8 hl (by decide) rfl (fun ls hl => ?_)
  refine lv_aloadN hx hb dX11_pair_10 (lv_at hl 0 rfl) ?_
  refine lv_ifnullN (tgt := 49) hx hb dX11_pair_12 (by decide) ?_
  refine lv_iconst (v := (-1)) hx hb dX11_pair_49 (by decide +kernel) ?_
  exact W.iret (v := (-1)) hx hb hr (fun t ht hW => ⟨(-1), rfl, rfl, ht⟩) (fun _ h => absurd h List.not_mem_nil) dX11_pair_50
set_option maxHeartbeats 4000000 in
set_option maxRecDepth 100000 in
theorem c_X11_dispute (l : Launch) (D : va_G) (cy : Nat → ClassId) (h0 : Nat) (i0 : Nat) (r0 : Nat) (u0 : Nat) (w0 : Nat) (c0 : Nat) (o0 : Nat) (t0 : Nat) (tp : Nat) (nu : Nat) (se : Nat) (da : Nat) (di : Nat) (p0 : Int32) (p1 : Int32)  : Met l yX11_dispute wsX11_dispute ({ frames := 1, cells := 0, slots := 0, locals := 21 } : Room) (va_Pc [.ref h0, .int p0, .int p1] (PR D cy [(h0, .inr (11, [.ref t0, .ref i0, .ref r0, .ref u0, .ref w0, .ref c0, .ref o0])), (t0, .inr (9, [.ref tp, .ref nu, .ref se, .ref da, .ref di, .int 0, .int (-1)])), (nu, .inl (cy 0, 3, .inl (fun _ => 0)))])) (vp_Si (fun r : Int32 => r = (-2))) 0 0 (fun _ => False) := by
  refine Met.ofW (cc := cX11_dispute) (maxL := 4) (ret := (some .int)) (by decide) rfl ?_
  intro p e s m args below meth c s₁ B hml hv
  obtain ⟨rfl, hP, hKW⟩ := hv
  have hK := hKW.1
  have hx := B.exec
  have hb := B.bytes
  have hr := B.returns
  have hts := atoms_spec (ws := wsX11_dispute) B.pre
  have hown : s.vm.findClass RX11 = some m.cls := findClass_of_methodNamed B.named
  have hlocks := B.notSynchronized
  have in_11 : ∀ w ∈ u_ws RX11 TX11 7, w ∈ wsX11_dispute := by decide +kernel
  have fl_10 := hts (.fieldLink RX11 10 "ShoalClaims" "told" "LShoalClaims$Told;") (by decide +kernel)
  have hP : va_P D vwCl [(h0, .inr (11, [.ref t0, .ref i0, .ref r0, .ref u0, .ref w0, .ref c0, .ref o0])), (t0, .inr (9, [.ref tp, .ref nu, .ref se, .ref da, .ref di, .int 0, .int (-1)])), (nu, .inl (cy 0, 3, .inl (fun _ => 0)))] s.heap := hP
  have hl := lv_entry ([.ref h0, .int p0, .int p1]) (n := 4) (Nat.le_of_ble_eq_true rfl)
  rw [lg_entry_eq]
  generalize (lg_sl ([.ref h0, .int p0, .int p1]) ++ List.replicate (4 - (lg_sl ([.ref h0, .int p0, .int p1])).length) Slot.unset).toArray = ls at hl ⊢
  have hl : lv_has ls 4 [(0, .ref h0), (1, .int p0), (2, .int p1)] := hl
  refine lv_aload_n hx hb dX11_dispute_0 rfl (lv_at hl 0 rfl) ?_
  refine va_get (D := D) (ci := 11) (v := .ref t0) (C := RX11) (T := TX11) (N := 7) hx hb hts in_11 hown hK hP 0 rfl rfl 0 (by decide) fl_10 (fun _ h9 => h9) rfl dX11_dispute_1 ?_
  refine lv_iload_n hx hb dX11_dispute_4 rfl (lv_at hl 1 rfl) ?_
  have hPc_1 := hP.sub (ws' := [(t0, .inr (9, [.ref tp, .ref nu, .ref se, .ref da, .ref di, .int 0, .int (-1)])), (nu, .inl (cy 0, 3, .inl (fun _ => 0)))]) [1, 2] rfl
  refine pc_q (va_runV (As := [.int p0]) (rest := []) ⟨hx, hb, hml, hown, hts⟩ (c_X9_findDispute l D cy t0 tp nu se da di p0) (cwV 1 hts gX11_dispute_X9_findDispute rfl rfl rfl (by decide +kernel) ⟨Nat.le_of_ble_eq_true rfl, Nat.le_of_ble_eq_true rfl⟩) ⟨prB, va_recv hK hPc_1 (ci := 9) (q0 := 0) rfl rfl, fun U hU hW => ⟨rfl, PR.of hU hW hKW hPc_1⟩⟩ rfl rfl hl.1 rfl (lv_room (Nat.le_of_ble_eq_true rfl)) dX11_dispute_5 ⟨by decide +kernel, by decide +kernel⟩) (fun r_2 hr_2 => ?_)
  subst hr_2
  refine tp_v (.null) rfl ?_
  refine lv_astore_nN (lv' := [(3, .null), (0, .ref h0), (1, .int p0), (2, .int p1)]) hx hb dX11_dispute_8 rfl hl (by decide) rfl (fun ls hl => ?_)
  refine lv_aload_nN hx hb dX11_dispute_9 rfl (lv_at hl 0 rfl) ?_
  refine lv_ifnonnullN hx hb dX11_dispute_10 ?_
  refine lv_bipush (v := (-2)) hx hb dX11_dispute_13 (by decide +kernel) ?_
  exact W.iret (v := (-2)) hx hb hr (fun t ht hW => ⟨(-2), rfl, rfl, ht⟩) (fun _ h => absurd h List.not_mem_nil) dX11_dispute_15
set_option maxHeartbeats 4000000 in
set_option maxRecDepth 100000 in
theorem c_X11_hours (l : Launch) (D : va_G) (cy : Nat → ClassId) (h0 : Nat) (i0 : Nat) (r0 : Nat) (u0 : Nat) (w0 : Nat) (c0 : Nat) (o0 : Nat) (t0 : Nat) (tp : Nat) (nu : Nat) (se : Nat) (da : Nat) (di : Nat) (p0 : Int32) (p1 : Int32) (p2 : Int32)  : Met l yX11_hours wsX11_hours ({ frames := 1, cells := 0, slots := 0, locals := 21 } : Room) (va_Pc [.ref h0, .int p0, .int p1, .int p2] (PR D cy [(h0, .inr (11, [.ref t0, .ref i0, .ref r0, .ref u0, .ref w0, .ref c0, .ref o0])), (t0, .inr (9, [.ref tp, .ref nu, .ref se, .ref da, .ref di, .int 0, .int (-1)])), (nu, .inl (cy 0, 3, .inl (fun _ => 0)))])) (vp_Si (fun r : Int32 => r = (-1))) 0 0 (fun _ => False) := by
  refine Met.ofW (cc := cX11_hours) (maxL := 5) (ret := (some .int)) (by decide) rfl ?_
  intro p e s m args below meth c s₁ B hml hv
  obtain ⟨rfl, hP, hKW⟩ := hv
  have hK := hKW.1
  have hx := B.exec
  have hb := B.bytes
  have hr := B.returns
  have hts := atoms_spec (ws := wsX11_hours) B.pre
  have hown : s.vm.findClass RX11 = some m.cls := findClass_of_methodNamed B.named
  have hlocks := B.notSynchronized
  have in_11 : ∀ w ∈ u_ws RX11 TX11 7, w ∈ wsX11_hours := by decide +kernel
  have fl_10 := hts (.fieldLink RX11 10 "ShoalClaims" "told" "LShoalClaims$Told;") (by decide +kernel)
  have hP : va_P D vwCl [(h0, .inr (11, [.ref t0, .ref i0, .ref r0, .ref u0, .ref w0, .ref c0, .ref o0])), (t0, .inr (9, [.ref tp, .ref nu, .ref se, .ref da, .ref di, .int 0, .int (-1)])), (nu, .inl (cy 0, 3, .inl (fun _ => 0)))] s.heap := hP
  have hl := lv_entry ([.ref h0, .int p0, .int p1, .int p2]) (n := 5) (Nat.le_of_ble_eq_true rfl)
  rw [lg_entry_eq]
  generalize (lg_sl ([.ref h0, .int p0, .int p1, .int p2]) ++ List.replicate (5 - (lg_sl ([.ref h0, .int p0, .int p1, .int p2])).length) Slot.unset).toArray = ls at hl ⊢
  have hl : lv_has ls 5 [(0, .ref h0), (1, .int p0), (2, .int p1), (3, .int p2)] := hl
  refine lv_aload_n hx hb dX11_hours_0 rfl (lv_at hl 0 rfl) ?_
  refine va_get (D := D) (ci := 11) (v := .ref t0) (C := RX11) (T := TX11) (N := 7) hx hb hts in_11 hown hK hP 0 rfl rfl 0 (by decide) fl_10 (fun _ h9 => h9) rfl dX11_hours_1 ?_
  refine lv_iload_n hx hb dX11_hours_4 rfl (lv_at hl 1 rfl) ?_
  have hPc_1 := hP.sub (ws' := [(t0, .inr (9, [.ref tp, .ref nu, .ref se, .ref da, .ref di, .int 0, .int (-1)])), (nu, .inl (cy 0, 3, .inl (fun _ => 0)))]) [1, 2] rfl
  refine pc_q (va_runV (As := [.int p0]) (rest := []) ⟨hx, hb, hml, hown, hts⟩ (c_X9_findDispute l D cy t0 tp nu se da di p0) (cwV 1 hts gX11_hours_X9_findDispute rfl rfl rfl (by decide +kernel) ⟨Nat.le_of_ble_eq_true rfl, Nat.le_of_ble_eq_true rfl⟩) ⟨prB, va_recv hK hPc_1 (ci := 9) (q0 := 0) rfl rfl, fun U hU hW => ⟨rfl, PR.of hU hW hKW hPc_1⟩⟩ rfl rfl hl.1 rfl (lv_room (Nat.le_of_ble_eq_true rfl)) dX11_hours_5 ⟨by decide +kernel, by decide +kernel⟩) (fun r_2 hr_2 => ?_)
  subst hr_2
  refine tp_v (.null) rfl ?_
  refine lv_astoreN (lv' := [(4, .null), (0, .ref h0), (1, .int p0), (2, .int p1), (3, .int p2)]) hx hb dX11_hours_8 hl (by decide) rfl (fun ls hl => ?_)
  refine lv_aloadN hx hb dX11_hours_10 (lv_at hl 0 rfl) ?_
  refine lv_ifnullN (tgt := 40) hx hb dX11_hours_12 (by decide) ?_
  refine lv_iconst (v := (-1)) hx hb dX11_hours_40 (by decide +kernel) ?_
  exact W.iret (v := (-1)) hx hb hr (fun t ht hW => ⟨(-1), rfl, rfl, ht⟩) (fun _ h => absurd h List.not_mem_nil) dX11_hours_41
set_option maxHeartbeats 4000000 in
set_option maxRecDepth 100000 in
theorem c_X11_gulls (l : Launch) (D : va_G) (cy : Nat → ClassId) (h0 : Nat) (i0 : Nat) (r0 : Nat) (u0 : Nat) (w0 : Nat) (c0 : Nat) (o0 : Nat) (t0 : Nat) (tp : Nat) (nu : Nat) (se : Nat) (da : Nat) (di : Nat) (p0 : Int32) (p1 : Int32) (p2 : Int32) (p3 : Int32) (p4 : Int32)  : Met l yX11_gulls wsX11_gulls ({ frames := 1, cells := 0, slots := 0, locals := 21 } : Room) (va_Pc [.ref h0, .int p0, .int p1, .int p2, .int p3, .int p4] (PR D cy [(h0, .inr (11, [.ref t0, .ref i0, .ref r0, .ref u0, .ref w0, .ref c0, .ref o0])), (t0, .inr (9, [.ref tp, .ref nu, .ref se, .ref da, .ref di, .int 0, .int (-1)])), (nu, .inl (cy 0, 3, .inl (fun _ => 0)))])) (vp_Si (fun r : Int32 => r = (-1))) 0 0 (fun _ => False) := by
  refine Met.ofW (cc := cX11_gulls) (maxL := 9) (ret := (some .int)) (by decide) rfl ?_
  intro p e s m args below meth c s₁ B hml hv
  obtain ⟨rfl, hP, hKW⟩ := hv
  have hK := hKW.1
  have hx := B.exec
  have hb := B.bytes
  have hr := B.returns
  have hts := atoms_spec (ws := wsX11_gulls) B.pre
  have hown : s.vm.findClass RX11 = some m.cls := findClass_of_methodNamed B.named
  have hlocks := B.notSynchronized
  have in_11 : ∀ w ∈ u_ws RX11 TX11 7, w ∈ wsX11_gulls := by decide +kernel
  have fl_10 := hts (.fieldLink RX11 10 "ShoalClaims" "told" "LShoalClaims$Told;") (by decide +kernel)
  have hP : va_P D vwCl [(h0, .inr (11, [.ref t0, .ref i0, .ref r0, .ref u0, .ref w0, .ref c0, .ref o0])), (t0, .inr (9, [.ref tp, .ref nu, .ref se, .ref da, .ref di, .int 0, .int (-1)])), (nu, .inl (cy 0, 3, .inl (fun _ => 0)))] s.heap := hP
  have hl := lv_entry ([.ref h0, .int p0, .int p1, .int p2, .int p3, .int p4]) (n := 9) (Nat.le_of_ble_eq_true rfl)
  rw [lg_entry_eq]
  generalize (lg_sl ([.ref h0, .int p0, .int p1, .int p2, .int p3, .int p4]) ++ List.replicate (9 - (lg_sl ([.ref h0, .int p0, .int p1, .int p2, .int p3, .int p4])).length) Slot.unset).toArray = ls at hl ⊢
  have hl : lv_has ls 9 [(0, .ref h0), (1, .int p0), (2, .int p1), (3, .int p2), (4, .int p3), (5, .int p4)] := hl
  refine lv_aload_n hx hb dX11_gulls_0 rfl (lv_at hl 0 rfl) ?_
  refine va_get (D := D) (ci := 11) (v := .ref t0) (C := RX11) (T := TX11) (N := 7) hx hb hts in_11 hown hK hP 0 rfl rfl 0 (by decide) fl_10 (fun _ h9 => h9) rfl dX11_gulls_1 ?_
  refine lv_iload_n hx hb dX11_gulls_4 rfl (lv_at hl 1 rfl) ?_
  have hPc_1 := hP.sub (ws' := [(t0, .inr (9, [.ref tp, .ref nu, .ref se, .ref da, .ref di, .int 0, .int (-1)])), (nu, .inl (cy 0, 3, .inl (fun _ => 0)))]) [1, 2] rfl
  refine pc_q (va_runV (As := [.int p0]) (rest := []) ⟨hx, hb, hml, hown, hts⟩ (c_X9_findSea l D cy t0 tp nu se da di p0) (cwV 1 hts gX11_gulls_X9_findSea rfl rfl rfl (by decide +kernel) ⟨Nat.le_of_ble_eq_true rfl, Nat.le_of_ble_eq_true rfl⟩) ⟨prB, va_recv hK hPc_1 (ci := 9) (q0 := 0) rfl rfl, fun U hU hW => ⟨rfl, PR.of hU hW hKW hPc_1⟩⟩ rfl rfl hl.1 rfl (lv_room (Nat.le_of_ble_eq_true rfl)) dX11_gulls_5 ⟨by decide +kernel, by decide +kernel⟩) (fun r_2 hr_2 => ?_)
  subst hr_2
  refine tp_v (.null) rfl ?_
  refine lv_astoreN (lv' := [(6, .null), (0, .ref h0), (1, .int p0), (2, .int p1), (3, .int p2), (4, .int p3), (5, .int p4)]) hx hb dX11_gulls_8 hl (by decide) rfl (fun ls hl => ?_)
  refine lv_aload_n hx hb dX11_gulls_10 rfl (lv_at hl 1 rfl) ?_
  refine va_get (D := D) (ci := 11) (v := .ref t0) (C := RX11) (T := TX11) (N := 7) hx hb hts in_11 hown hK hP 0 rfl rfl 0 (by decide) fl_10 (fun _ h9 => h9) rfl dX11_gulls_11 ?_
  refine lv_iload_n hx hb dX11_gulls_14 rfl (lv_at hl 3 rfl) ?_
  have hPc_3 := hP.sub (ws' := [(t0, .inr (9, [.ref tp, .ref nu, .ref se, .ref da, .ref di, .int 0, .int (-1)])), (nu, .inl (cy 0, 3, .inl (fun _ => 0)))]) [1, 2] rfl
  refine pc_q (va_runV (As := [.int p1]) (rest := []) ⟨hx, hb, hml, hown, hts⟩ (c_X9_findDay l D cy t0 tp nu se da di p1) (cwV 1 hts gX11_gulls_X9_findDay rfl rfl rfl (by decide +kernel) ⟨Nat.le_of_ble_eq_true rfl, Nat.le_of_ble_eq_true rfl⟩) ⟨prB, va_recv hK hPc_3 (ci := 9) (q0 := 0) rfl rfl, fun U hU hW => ⟨rfl, PR.of hU hW hKW hPc_3⟩⟩ rfl rfl hl.1 rfl (lv_room (Nat.le_of_ble_eq_true rfl)) dX11_gulls_15 ⟨by decide +kernel, by decide +kernel⟩) (fun r_4 hr_4 => ?_)
  subst hr_4
  refine tp_v (.null) rfl ?_
  refine lv_astoreN (lv' := [(7, .null), (6, .null), (0, .ref h0), (1, .int p0), (2, .int p1), (3, .int p2), (4, .int p3), (5, .int p4)]) hx hb dX11_gulls_18 hl (by decide) rfl (fun ls hl => ?_)
  refine lv_aloadN hx hb dX11_gulls_20 (lv_at hl 1 rfl) ?_
  refine lv_ifnullN (tgt := 42) hx hb dX11_gulls_22 (by decide) ?_
  refine lv_iconst (v := (-1)) hx hb dX11_gulls_42 (by decide +kernel) ?_
  exact W.iret (v := (-1)) hx hb hr (fun t ht hW => ⟨(-1), rfl, rfl, ht⟩) (fun _ h => absurd h List.not_mem_nil) dX11_gulls_43
set_option maxHeartbeats 4000000 in
set_option maxRecDepth 100000 in
theorem c_X11_lack (l : Launch) (D : va_G) (cy : Nat → ClassId) (h0 : Nat) (i0 : Nat) (r0 : Nat) (u0 : Nat) (w0 : Nat) (c0 : Nat) (o0 : Nat) (t0 : Nat) (tp : Nat) (nu : Nat) (se : Nat) (da : Nat) (di : Nat) (p0 : Int32) (p1 : Int32) (p2 : Int32) (p3 : Int32) (p4 : Int32)  : Met l yX11_lack wsX11_lack ({ frames := 2, cells := 0, slots := 0, locals := 46 } : Room) (va_Pc [.ref h0, .int p0, .int p1, .int p2, .int p3, .int p4] (PR D cy [(h0, .inr (11, [.ref t0, .ref i0, .ref r0, .ref u0, .ref w0, .ref c0, .ref o0])), (t0, .inr (9, [.ref tp, .ref nu, .ref se, .ref da, .ref di, .int 0, .int (-1)])), (nu, .inl (cy 0, 3, .inl (fun _ => 0)))])) (vp_Si (fun r : Int32 => r = (-1))) 0 0 (fun _ => False) := by
  refine Met.ofW (cc := cX11_lack) (maxL := 6) (ret := (some .int)) (by decide) rfl ?_
  intro p e s m args below meth c s₁ B hml hv
  obtain ⟨rfl, hP, hKW⟩ := hv
  have hK := hKW.1
  have hx := B.exec
  have hb := B.bytes
  have hr := B.returns
  have hts := atoms_spec (ws := wsX11_lack) B.pre
  have hown : s.vm.findClass RX11 = some m.cls := findClass_of_methodNamed B.named
  have hlocks := B.notSynchronized
  have hP : va_P D vwCl [(h0, .inr (11, [.ref t0, .ref i0, .ref r0, .ref u0, .ref w0, .ref c0, .ref o0])), (t0, .inr (9, [.ref tp, .ref nu, .ref se, .ref da, .ref di, .int 0, .int (-1)])), (nu, .inl (cy 0, 3, .inl (fun _ => 0)))] s.heap := hP
  have hl := lv_entry ([.ref h0, .int p0, .int p1, .int p2, .int p3, .int p4]) (n := 6) (Nat.le_of_ble_eq_true rfl)
  rw [lg_entry_eq]
  generalize (lg_sl ([.ref h0, .int p0, .int p1, .int p2, .int p3, .int p4]) ++ List.replicate (6 - (lg_sl ([.ref h0, .int p0, .int p1, .int p2, .int p3, .int p4])).length) Slot.unset).toArray = ls at hl ⊢
  have hl : lv_has ls 6 [(0, .ref h0), (1, .int p0), (2, .int p1), (3, .int p2), (4, .int p3), (5, .int p4)] := hl
  refine lv_aload_n hx hb dX11_lack_0 rfl (lv_at hl 0 rfl) ?_
  refine lv_iload_n hx hb dX11_lack_1 rfl (lv_at hl 1 rfl) ?_
  refine lv_iload_n hx hb dX11_lack_2 rfl (lv_at hl 2 rfl) ?_
  refine lv_iload_n hx hb dX11_lack_3 rfl (lv_at hl 3 rfl) ?_
  have hPc_1 := hP.sub (ws' := [(h0, .inr (11, [.ref t0, .ref i0, .ref r0, .ref u0, .ref w0, .ref c0, .ref o0])), (t0, .inr (9, [.ref tp, .ref nu, .ref se, .ref da, .ref di, .int 0, .int (-1)])), (nu, .inl (cy 0, 3, .inl (fun _ => 0)))]) [0, 1, 2] rfl
  refine pc_i (va_runV (As := [.int p0, .int p1, .int p2]) (rest := []) ⟨hx, hb, hml, hown, hts⟩ (c_X11_runToState l D cy h0 i0 r0 u0 w0 c0 o0 t0 tp nu se da di p0 p1 p2) (cwV 3 hts gX11_lack_X11_runToState rfl rfl rfl (by decide +kernel) ⟨Nat.le_of_ble_eq_true rfl, Nat.le_of_ble_eq_true rfl⟩) ⟨prB, va_recv hK hPc_1 (ci := 11) (q0 := 0) rfl rfl, fun U hU hW => ⟨rfl, PR.of hU hW hKW hPc_1⟩⟩ rfl rfl hl.1 rfl (lv_room (Nat.le_of_ble_eq_true rfl)) dX11_lack_4 ⟨by decide +kernel, by decide +kernel⟩) (fun r_2 hr_2 => ?_)
  subst hr_2
  refine lv_if_eq (tgt := 40) hx hb dX11_lack_7 (by decide) (fun _ => ?_) (fun c_3 => absurd (by decide +kernel) c_3)
  refine lv_iconst (v := (-1)) hx hb dX11_lack_40 (by decide +kernel) ?_
  exact W.iret (v := (-1)) hx hb hr (fun t ht hW => ⟨(-1), rfl, rfl, ht⟩) (fun _ h => absurd h List.not_mem_nil) dX11_lack_41
set_option maxHeartbeats 4000000 in
set_option maxRecDepth 100000 in
theorem c_X11_least (l : Launch) (D : va_G) (cy : Nat → ClassId) (h0 : Nat) (i0 : Nat) (r0 : Nat) (u0 : Nat) (w0 : Nat) (c0 : Nat) (o0 : Nat) (t0 : Nat) (tp : Nat) (nu : Nat) (se : Nat) (da : Nat) (di : Nat) (p0 : Int32) (p1 : Int32) (p2 : Int32)  : Met l yX11_least wsX11_least ({ frames := 1, cells := 0, slots := 0, locals := 21 } : Room) (va_Pc [.ref h0, .int p0, .int p1, .int p2] (PR D cy [(h0, .inr (11, [.ref t0, .ref i0, .ref r0, .ref u0, .ref w0, .ref c0, .ref o0])), (t0, .inr (9, [.ref tp, .ref nu, .ref se, .ref da, .ref di, .int 0, .int (-1)])), (nu, .inl (cy 0, 3, .inl (fun _ => 0)))])) (vp_Si (fun r : Int32 => r = (-1))) 0 0 (fun _ => False) := by
  refine Met.ofW (cc := cX11_least) (maxL := 5) (ret := (some .int)) (by decide) rfl ?_
  intro p e s m args below meth c s₁ B hml hv
  obtain ⟨rfl, hP, hKW⟩ := hv
  have hK := hKW.1
  have hx := B.exec
  have hb := B.bytes
  have hr := B.returns
  have hts := atoms_spec (ws := wsX11_least) B.pre
  have hown : s.vm.findClass RX11 = some m.cls := findClass_of_methodNamed B.named
  have hlocks := B.notSynchronized
  have in_11 : ∀ w ∈ u_ws RX11 TX11 7, w ∈ wsX11_least := by decide +kernel
  have fl_10 := hts (.fieldLink RX11 10 "ShoalClaims" "told" "LShoalClaims$Told;") (by decide +kernel)
  have hP : va_P D vwCl [(h0, .inr (11, [.ref t0, .ref i0, .ref r0, .ref u0, .ref w0, .ref c0, .ref o0])), (t0, .inr (9, [.ref tp, .ref nu, .ref se, .ref da, .ref di, .int 0, .int (-1)])), (nu, .inl (cy 0, 3, .inl (fun _ => 0)))] s.heap := hP
  have hl := lv_entry ([.ref h0, .int p0, .int p1, .int p2]) (n := 5) (Nat.le_of_ble_eq_true rfl)
  rw [lg_entry_eq]
  generalize (lg_sl ([.ref h0, .int p0, .int p1, .int p2]) ++ List.replicate (5 - (lg_sl ([.ref h0, .int p0, .int p1, .int p2])).length) Slot.unset).toArray = ls at hl ⊢
  have hl : lv_has ls 5 [(0, .ref h0), (1, .int p0), (2, .int p1), (3, .int p2)] := hl
  refine lv_aload_n hx hb dX11_least_0 rfl (lv_at hl 0 rfl) ?_
  refine va_get (D := D) (ci := 11) (v := .ref t0) (C := RX11) (T := TX11) (N := 7) hx hb hts in_11 hown hK hP 0 rfl rfl 0 (by decide) fl_10 (fun _ h9 => h9) rfl dX11_least_1 ?_
  refine lv_iload_n hx hb dX11_least_4 rfl (lv_at hl 1 rfl) ?_
  have hPc_1 := hP.sub (ws' := [(t0, .inr (9, [.ref tp, .ref nu, .ref se, .ref da, .ref di, .int 0, .int (-1)])), (nu, .inl (cy 0, 3, .inl (fun _ => 0)))]) [1, 2] rfl
  refine pc_q (va_runV (As := [.int p0]) (rest := []) ⟨hx, hb, hml, hown, hts⟩ (c_X9_findSea l D cy t0 tp nu se da di p0) (cwV 1 hts gX11_least_X9_findSea rfl rfl rfl (by decide +kernel) ⟨Nat.le_of_ble_eq_true rfl, Nat.le_of_ble_eq_true rfl⟩) ⟨prB, va_recv hK hPc_1 (ci := 9) (q0 := 0) rfl rfl, fun U hU hW => ⟨rfl, PR.of hU hW hKW hPc_1⟩⟩ rfl rfl hl.1 rfl (lv_room (Nat.le_of_ble_eq_true rfl)) dX11_least_5 ⟨by decide +kernel, by decide +kernel⟩) (fun r_2 hr_2 => ?_)
  subst hr_2
  refine tp_v (.null) rfl ?_
  refine lv_astoreN (lv' := [(4, .null), (0, .ref h0), (1, .int p0), (2, .int p1), (3, .int p2)]) hx hb dX11_least_8 hl (by decide) rfl (fun ls hl => ?_)
  refine lv_aloadN hx hb dX11_least_10 (lv_at hl 0 rfl) ?_
  refine lv_ifnullN (tgt := 33) hx hb dX11_least_12 (by decide) ?_
  refine lv_iconst (v := (-1)) hx hb dX11_least_33 (by decide +kernel) ?_
  exact W.iret (v := (-1)) hx hb hr (fun t ht hW => ⟨(-1), rfl, rfl, ht⟩) (fun _ h => absurd h List.not_mem_nil) dX11_least_34
set_option maxHeartbeats 4000000 in
set_option maxRecDepth 100000 in
theorem c_X11_winds (l : Launch) (D : va_G) (cy : Nat → ClassId) (h0 : Nat) (i0 : Nat) (r0 : Nat) (u0 : Nat) (w0 : Nat) (c0 : Nat) (o0 : Nat) (t0 : Nat) (tp : Nat) (nu : Nat) (se : Nat) (da : Nat) (di : Nat) (p0 : Int32) (p1 : Int32)  : Met l yX11_winds wsX11_winds ({ frames := 1, cells := 0, slots := 0, locals := 21 } : Room) (va_Pc [.ref h0, .int p0, .int p1] (PR D cy [(h0, .inr (11, [.ref t0, .ref i0, .ref r0, .ref u0, .ref w0, .ref c0, .ref o0])), (t0, .inr (9, [.ref tp, .ref nu, .ref se, .ref da, .ref di, .int 0, .int (-1)])), (nu, .inl (cy 0, 3, .inl (fun _ => 0)))])) (vp_Si (fun r : Int32 => r = (-1))) 0 0 (fun _ => False) := by
  refine Met.ofW (cc := cX11_winds) (maxL := 4) (ret := (some .int)) (by decide) rfl ?_
  intro p e s m args below meth c s₁ B hml hv
  obtain ⟨rfl, hP, hKW⟩ := hv
  have hK := hKW.1
  have hx := B.exec
  have hb := B.bytes
  have hr := B.returns
  have hts := atoms_spec (ws := wsX11_winds) B.pre
  have hown : s.vm.findClass RX11 = some m.cls := findClass_of_methodNamed B.named
  have hlocks := B.notSynchronized
  have in_11 : ∀ w ∈ u_ws RX11 TX11 7, w ∈ wsX11_winds := by decide +kernel
  have fl_10 := hts (.fieldLink RX11 10 "ShoalClaims" "told" "LShoalClaims$Told;") (by decide +kernel)
  have hP : va_P D vwCl [(h0, .inr (11, [.ref t0, .ref i0, .ref r0, .ref u0, .ref w0, .ref c0, .ref o0])), (t0, .inr (9, [.ref tp, .ref nu, .ref se, .ref da, .ref di, .int 0, .int (-1)])), (nu, .inl (cy 0, 3, .inl (fun _ => 0)))] s.heap := hP
  have hl := lv_entry ([.ref h0, .int p0, .int p1]) (n := 4) (Nat.le_of_ble_eq_true rfl)
  rw [lg_entry_eq]
  generalize (lg_sl ([.ref h0, .int p0, .int p1]) ++ List.replicate (4 - (lg_sl ([.ref h0, .int p0, .int p1])).length) Slot.unset).toArray = ls at hl ⊢
  have hl : lv_has ls 4 [(0, .ref h0), (1, .int p0), (2, .int p1)] := hl
  refine lv_aload_n hx hb dX11_winds_0 rfl (lv_at hl 0 rfl) ?_
  refine va_get (D := D) (ci := 11) (v := .ref t0) (C := RX11) (T := TX11) (N := 7) hx hb hts in_11 hown hK hP 0 rfl rfl 0 (by decide) fl_10 (fun _ h9 => h9) rfl dX11_winds_1 ?_
  refine lv_iload_n hx hb dX11_winds_4 rfl (lv_at hl 1 rfl) ?_
  have hPc_1 := hP.sub (ws' := [(t0, .inr (9, [.ref tp, .ref nu, .ref se, .ref da, .ref di, .int 0, .int (-1)])), (nu, .inl (cy 0, 3, .inl (fun _ => 0)))]) [1, 2] rfl
  refine pc_q (va_runV (As := [.int p0]) (rest := []) ⟨hx, hb, hml, hown, hts⟩ (c_X9_findSea l D cy t0 tp nu se da di p0) (cwV 1 hts gX11_winds_X9_findSea rfl rfl rfl (by decide +kernel) ⟨Nat.le_of_ble_eq_true rfl, Nat.le_of_ble_eq_true rfl⟩) ⟨prB, va_recv hK hPc_1 (ci := 9) (q0 := 0) rfl rfl, fun U hU hW => ⟨rfl, PR.of hU hW hKW hPc_1⟩⟩ rfl rfl hl.1 rfl (lv_room (Nat.le_of_ble_eq_true rfl)) dX11_winds_5 ⟨by decide +kernel, by decide +kernel⟩) (fun r_2 hr_2 => ?_)
  subst hr_2
  refine tp_v (.null) rfl ?_
  refine lv_astore_nN (lv' := [(3, .null), (0, .ref h0), (1, .int p0), (2, .int p1)]) hx hb dX11_winds_8 rfl hl (by decide) rfl (fun ls hl => ?_)
  refine lv_aload_nN hx hb dX11_winds_9 rfl (lv_at hl 0 rfl) ?_
  refine lv_ifnullN (tgt := 22) hx hb dX11_winds_10 (by decide) ?_
  refine lv_iconst (v := (-1)) hx hb dX11_winds_22 (by decide +kernel) ?_
  exact W.iret (v := (-1)) hx hb hr (fun t ht hW => ⟨(-1), rfl, rfl, ht⟩) (fun _ h => absurd h List.not_mem_nil) dX11_winds_23
set_option maxHeartbeats 4000000 in
set_option maxRecDepth 100000 in
theorem c_X11_meet (l : Launch) (D : va_G) (cy : Nat → ClassId) (h0 : Nat) (i0 : Nat) (r0 : Nat) (u0 : Nat) (w0 : Nat) (c0 : Nat) (o0 : Nat) (t0 : Nat) (tp : Nat) (nu : Nat) (se : Nat) (da : Nat) (di : Nat) (p0 : Int32) (p1 : Int32) (p2 : Int32)  : Met l yX11_meet wsX11_meet ({ frames := 1, cells := 0, slots := 0, locals := 21 } : Room) (va_Pc [.ref h0, .int p0, .int p1, .int p2] (PR D cy [(h0, .inr (11, [.ref t0, .ref i0, .ref r0, .ref u0, .ref w0, .ref c0, .ref o0])), (t0, .inr (9, [.ref tp, .ref nu, .ref se, .ref da, .ref di, .int 0, .int (-1)])), (nu, .inl (cy 0, 3, .inl (fun _ => 0)))])) (vp_Si (fun r : Int32 => r = (-1))) 0 0 (fun _ => False) := by
  refine Met.ofW (cc := cX11_meet) (maxL := 8) (ret := (some .int)) (by decide) rfl ?_
  intro p e s m args below meth c s₁ B hml hv
  obtain ⟨rfl, hP, hKW⟩ := hv
  have hK := hKW.1
  have hx := B.exec
  have hb := B.bytes
  have hr := B.returns
  have hts := atoms_spec (ws := wsX11_meet) B.pre
  have hown : s.vm.findClass RX11 = some m.cls := findClass_of_methodNamed B.named
  have hlocks := B.notSynchronized
  have in_11 : ∀ w ∈ u_ws RX11 TX11 7, w ∈ wsX11_meet := by decide +kernel
  have fl_10 := hts (.fieldLink RX11 10 "ShoalClaims" "told" "LShoalClaims$Told;") (by decide +kernel)
  have hP : va_P D vwCl [(h0, .inr (11, [.ref t0, .ref i0, .ref r0, .ref u0, .ref w0, .ref c0, .ref o0])), (t0, .inr (9, [.ref tp, .ref nu, .ref se, .ref da, .ref di, .int 0, .int (-1)])), (nu, .inl (cy 0, 3, .inl (fun _ => 0)))] s.heap := hP
  have hl := lv_entry ([.ref h0, .int p0, .int p1, .int p2]) (n := 8) (Nat.le_of_ble_eq_true rfl)
  rw [lg_entry_eq]
  generalize (lg_sl ([.ref h0, .int p0, .int p1, .int p2]) ++ List.replicate (8 - (lg_sl ([.ref h0, .int p0, .int p1, .int p2])).length) Slot.unset).toArray = ls at hl ⊢
  have hl : lv_has ls 8 [(0, .ref h0), (1, .int p0), (2, .int p1), (3, .int p2)] := hl
  refine lv_aload_n hx hb dX11_meet_0 rfl (lv_at hl 0 rfl) ?_
  refine va_get (D := D) (ci := 11) (v := .ref t0) (C := RX11) (T := TX11) (N := 7) hx hb hts in_11 hown hK hP 0 rfl rfl 0 (by decide) fl_10 (fun _ h9 => h9) rfl dX11_meet_1 ?_
  refine lv_iload_n hx hb dX11_meet_4 rfl (lv_at hl 1 rfl) ?_
  have hPc_1 := hP.sub (ws' := [(t0, .inr (9, [.ref tp, .ref nu, .ref se, .ref da, .ref di, .int 0, .int (-1)])), (nu, .inl (cy 0, 3, .inl (fun _ => 0)))]) [1, 2] rfl
  refine pc_q (va_runV (As := [.int p0]) (rest := []) ⟨hx, hb, hml, hown, hts⟩ (c_X9_findSea l D cy t0 tp nu se da di p0) (cwV 1 hts gX11_meet_X9_findSea rfl rfl rfl (by decide +kernel) ⟨Nat.le_of_ble_eq_true rfl, Nat.le_of_ble_eq_true rfl⟩) ⟨prB, va_recv hK hPc_1 (ci := 9) (q0 := 0) rfl rfl, fun U hU hW => ⟨rfl, PR.of hU hW hKW hPc_1⟩⟩ rfl rfl hl.1 rfl (lv_room (Nat.le_of_ble_eq_true rfl)) dX11_meet_5 ⟨by decide +kernel, by decide +kernel⟩) (fun r_2 hr_2 => ?_)
  subst hr_2
  refine tp_v (.null) rfl ?_
  refine lv_astoreN (lv' := [(4, .null), (0, .ref h0), (1, .int p0), (2, .int p1), (3, .int p2)]) hx hb dX11_meet_8 hl (by decide) rfl (fun ls hl => ?_)
  refine lv_aloadN hx hb dX11_meet_10 (lv_at hl 0 rfl) ?_
  refine lv_ifnullN (tgt := 38) hx hb dX11_meet_12 (by decide) ?_
  refine lv_iconst (v := (-1)) hx hb dX11_meet_38 (by decide +kernel) ?_
  exact W.iret (v := (-1)) hx hb hr (fun t ht hW => ⟨(-1), rfl, rfl, ht⟩) (fun _ h => absurd h List.not_mem_nil) dX11_meet_39
set_option maxHeartbeats 4000000 in
set_option maxRecDepth 100000 in
theorem c_X11_sum (l : Launch) (D : va_G) (cy : Nat → ClassId) (h0 : Nat) (i0 : Nat) (r0 : Nat) (u0 : Nat) (w0 : Nat) (c0 : Nat) (o0 : Nat) (t0 : Nat) (tp : Nat) (nu : Nat) (se : Nat) (da : Nat) (di : Nat) (p0 : Int32) (p1 : Int32) (p2 : Int32)  : Met l yX11_sum wsX11_sum ({ frames := 2, cells := 0, slots := 0, locals := 45 } : Room) (va_Pc [.ref h0, .int p0, .int p1, .int p2] (PR D cy [(h0, .inr (11, [.ref t0, .ref i0, .ref r0, .ref u0, .ref w0, .ref c0, .ref o0])), (t0, .inr (9, [.ref tp, .ref nu, .ref se, .ref da, .ref di, .int 0, .int (-1)])), (nu, .inl (cy 0, 3, .inl (fun _ => 0)))])) (vp_Si (fun r : Int32 => r = (-2))) 0 0 (fun _ => False) := by
  refine Met.ofW (cc := cX11_sum) (maxL := 4) (ret := (some .int)) (by decide) rfl ?_
  intro p e s m args below meth c s₁ B hml hv
  obtain ⟨rfl, hP, hKW⟩ := hv
  have hK := hKW.1
  have hx := B.exec
  have hb := B.bytes
  have hr := B.returns
  have hts := atoms_spec (ws := wsX11_sum) B.pre
  have hown : s.vm.findClass RX11 = some m.cls := findClass_of_methodNamed B.named
  have hlocks := B.notSynchronized
  have hP : va_P D vwCl [(h0, .inr (11, [.ref t0, .ref i0, .ref r0, .ref u0, .ref w0, .ref c0, .ref o0])), (t0, .inr (9, [.ref tp, .ref nu, .ref se, .ref da, .ref di, .int 0, .int (-1)])), (nu, .inl (cy 0, 3, .inl (fun _ => 0)))] s.heap := hP
  have hl := lv_entry ([.ref h0, .int p0, .int p1, .int p2]) (n := 4) (Nat.le_of_ble_eq_true rfl)
  rw [lg_entry_eq]
  generalize (lg_sl ([.ref h0, .int p0, .int p1, .int p2]) ++ List.replicate (4 - (lg_sl ([.ref h0, .int p0, .int p1, .int p2])).length) Slot.unset).toArray = ls at hl ⊢
  have hl : lv_has ls 4 [(0, .ref h0), (1, .int p0), (2, .int p1), (3, .int p2)] := hl
  refine lv_aload_n hx hb dX11_sum_0 rfl (lv_at hl 0 rfl) ?_
  refine lv_iload_n hx hb dX11_sum_1 rfl (lv_at hl 1 rfl) ?_
  refine lv_iload_n hx hb dX11_sum_2 rfl (lv_at hl 2 rfl) ?_
  have hPc_1 := hP.sub (ws' := [(h0, .inr (11, [.ref t0, .ref i0, .ref r0, .ref u0, .ref w0, .ref c0, .ref o0])), (t0, .inr (9, [.ref tp, .ref nu, .ref se, .ref da, .ref di, .int 0, .int (-1)])), (nu, .inl (cy 0, 3, .inl (fun _ => 0)))]) [0, 1, 2] rfl
  refine pc_i (va_runV (As := [.int p0, .int p1]) (rest := []) ⟨hx, hb, hml, hown, hts⟩ (c_X11_runToStop l D cy h0 i0 r0 u0 w0 c0 o0 t0 tp nu se da di p0 p1) (cwV 2 hts gX11_sum_X11_runToStop rfl rfl rfl (by decide +kernel) ⟨Nat.le_of_ble_eq_true rfl, Nat.le_of_ble_eq_true rfl⟩) ⟨prB, va_recv hK hPc_1 (ci := 11) (q0 := 0) rfl rfl, fun U hU hW => ⟨rfl, PR.of hU hW hKW hPc_1⟩⟩ rfl rfl hl.1 rfl (lv_room (Nat.le_of_ble_eq_true rfl)) dX11_sum_3 ⟨by decide +kernel, by decide +kernel⟩) (fun r_2 hr_2 => ?_)
  subst hr_2
  refine lv_if_ne (tgt := 12) hx hb dX11_sum_6 (by decide) (fun c_3 => absurd (by decide +kernel) c_3) (fun _ => ?_)
  refine lv_bipush (v := (-2)) hx hb dX11_sum_9 (by decide +kernel) ?_
  exact W.iret (v := (-2)) hx hb hr (fun t ht hW => ⟨(-2), rfl, rfl, ht⟩) (fun _ h => absurd h List.not_mem_nil) dX11_sum_11
set_option maxHeartbeats 4000000 in
set_option maxRecDepth 100000 in
theorem c_X11_tells (l : Launch) (D : va_G) (cy : Nat → ClassId) (h0 : Nat) (i0 : Nat) (r0 : Nat) (u0 : Nat) (w0 : Nat) (c0 : Nat) (o0 : Nat) (t0 : Nat) (tp : Nat) (nu : Nat) (se : Nat) (da : Nat) (di : Nat) (p0 : Int32) (p1 : Int32)  : Met l yX11_tells wsX11_tells ({ frames := 1, cells := 0, slots := 0, locals := 21 } : Room) (va_Pc [.ref h0, .int p0, .int p1] (PR D cy [(h0, .inr (11, [.ref t0, .ref i0, .ref r0, .ref u0, .ref w0, .ref c0, .ref o0])), (t0, .inr (9, [.ref tp, .ref nu, .ref se, .ref da, .ref di, .int 0, .int (-1)])), (nu, .inl (cy 0, 3, .inl (fun _ => 0)))])) (vp_Si (fun r : Int32 => r = (-1))) 0 0 (fun _ => False) := by
  refine Met.ofW (cc := cX11_tells) (maxL := 4) (ret := (some .int)) (by decide) rfl ?_
  intro p e s m args below meth c s₁ B hml hv
  obtain ⟨rfl, hP, hKW⟩ := hv
  have hK := hKW.1
  have hx := B.exec
  have hb := B.bytes
  have hr := B.returns
  have hts := atoms_spec (ws := wsX11_tells) B.pre
  have hown : s.vm.findClass RX11 = some m.cls := findClass_of_methodNamed B.named
  have hlocks := B.notSynchronized
  have in_11 : ∀ w ∈ u_ws RX11 TX11 7, w ∈ wsX11_tells := by decide +kernel
  have fl_10 := hts (.fieldLink RX11 10 "ShoalClaims" "told" "LShoalClaims$Told;") (by decide +kernel)
  have hP : va_P D vwCl [(h0, .inr (11, [.ref t0, .ref i0, .ref r0, .ref u0, .ref w0, .ref c0, .ref o0])), (t0, .inr (9, [.ref tp, .ref nu, .ref se, .ref da, .ref di, .int 0, .int (-1)])), (nu, .inl (cy 0, 3, .inl (fun _ => 0)))] s.heap := hP
  have hl := lv_entry ([.ref h0, .int p0, .int p1]) (n := 4) (Nat.le_of_ble_eq_true rfl)
  rw [lg_entry_eq]
  generalize (lg_sl ([.ref h0, .int p0, .int p1]) ++ List.replicate (4 - (lg_sl ([.ref h0, .int p0, .int p1])).length) Slot.unset).toArray = ls at hl ⊢
  have hl : lv_has ls 4 [(0, .ref h0), (1, .int p0), (2, .int p1)] := hl
  refine lv_aload_n hx hb dX11_tells_0 rfl (lv_at hl 0 rfl) ?_
  refine va_get (D := D) (ci := 11) (v := .ref t0) (C := RX11) (T := TX11) (N := 7) hx hb hts in_11 hown hK hP 0 rfl rfl 0 (by decide) fl_10 (fun _ h9 => h9) rfl dX11_tells_1 ?_
  refine lv_iload_n hx hb dX11_tells_4 rfl (lv_at hl 1 rfl) ?_
  have hPc_1 := hP.sub (ws' := [(t0, .inr (9, [.ref tp, .ref nu, .ref se, .ref da, .ref di, .int 0, .int (-1)])), (nu, .inl (cy 0, 3, .inl (fun _ => 0)))]) [1, 2] rfl
  refine pc_q (va_runV (As := [.int p0]) (rest := []) ⟨hx, hb, hml, hown, hts⟩ (c_X9_findSea l D cy t0 tp nu se da di p0) (cwV 1 hts gX11_tells_X9_findSea rfl rfl rfl (by decide +kernel) ⟨Nat.le_of_ble_eq_true rfl, Nat.le_of_ble_eq_true rfl⟩) ⟨prB, va_recv hK hPc_1 (ci := 9) (q0 := 0) rfl rfl, fun U hU hW => ⟨rfl, PR.of hU hW hKW hPc_1⟩⟩ rfl rfl hl.1 rfl (lv_room (Nat.le_of_ble_eq_true rfl)) dX11_tells_5 ⟨by decide +kernel, by decide +kernel⟩) (fun r_2 hr_2 => ?_)
  subst hr_2
  refine tp_v (.null) rfl ?_
  refine lv_astore_nN (lv' := [(3, .null), (0, .ref h0), (1, .int p0), (2, .int p1)]) hx hb dX11_tells_8 rfl hl (by decide) rfl (fun ls hl => ?_)
  refine lv_aload_nN hx hb dX11_tells_9 rfl (lv_at hl 0 rfl) ?_
  refine lv_ifnullN (tgt := 21) hx hb dX11_tells_10 (by decide) ?_
  refine lv_iconst (v := (-1)) hx hb dX11_tells_21 (by decide +kernel) ?_
  exact W.iret (v := (-1)) hx hb hr (fun t ht hW => ⟨(-1), rfl, rfl, ht⟩) (fun _ h => absurd h List.not_mem_nil) dX11_tells_22
set_option maxHeartbeats 4000000 in
set_option maxRecDepth 100000 in
theorem c_X11_fault (l : Launch) (D : va_G) (cy : Nat → ClassId) (h0 : Nat) (i0 : Nat) (r0 : Nat) (u0 : Nat) (w0 : Nat) (c0 : Nat) (o0 : Nat) (t0 : Nat) (tp : Nat) (nu : Nat) (se : Nat) (da : Nat) (di : Nat) (p0 : Int32)  : Met l yX11_fault wsX11_fault ({ frames := 0, cells := 0, slots := 0, locals := 0 } : Room) (va_Pc [.ref h0, .int p0] (PR D cy [(h0, .inr (11, [.ref t0, .ref i0, .ref r0, .ref u0, .ref w0, .ref c0, .ref o0])), (t0, .inr (9, [.ref tp, .ref nu, .ref se, .ref da, .ref di, .int 0, .int (-1)])), (nu, .inl (cy 0, 3, .inl (fun _ => 0)))])) (vp_Si (fun r : Int32 => r = if p0 = 0 then 0 else -1)) 0 0 (fun _ => False) := by
  refine Met.ofW (cc := cX11_fault) (maxL := 2) (ret := (some .int)) (by decide) rfl ?_
  intro p e s m args below meth c s₁ B hml hv
  obtain ⟨rfl, hP, hKW⟩ := hv
  have hK := hKW.1
  have hx := B.exec
  have hb := B.bytes
  have hr := B.returns
  have hts := atoms_spec (ws := wsX11_fault) B.pre
  have hown : s.vm.findClass RX11 = some m.cls := findClass_of_methodNamed B.named
  have hlocks := B.notSynchronized
  have in_9 : ∀ w ∈ u_ws RX9 TX9 7, w ∈ wsX11_fault := by decide +kernel
  have in_11 : ∀ w ∈ u_ws RX11 TX11 7, w ∈ wsX11_fault := by decide +kernel
  have fl_10 := hts (.fieldLink RX11 10 "ShoalClaims" "told" "LShoalClaims$Told;") (by decide +kernel)
  have fl_92 := hts (.fieldLink RX11 92 "ShoalClaims$Told" "place" "I") (by decide +kernel)
  have fl_91 := hts (.fieldLink RX11 91 "ShoalClaims$Told" "fault" "I") (by decide +kernel)
  have hP : va_P D vwCl [(h0, .inr (11, [.ref t0, .ref i0, .ref r0, .ref u0, .ref w0, .ref c0, .ref o0])), (t0, .inr (9, [.ref tp, .ref nu, .ref se, .ref da, .ref di, .int 0, .int (-1)])), (nu, .inl (cy 0, 3, .inl (fun _ => 0)))] s.heap := hP
  have hl := lv_entry ([.ref h0, .int p0]) (n := 2) (Nat.le_of_ble_eq_true rfl)
  rw [lg_entry_eq]
  generalize (lg_sl ([.ref h0, .int p0]) ++ List.replicate (2 - (lg_sl ([.ref h0, .int p0])).length) Slot.unset).toArray = ls at hl ⊢
  have hl : lv_has ls 2 [(0, .ref h0), (1, .int p0)] := hl
  refine lv_iload_n hx hb dX11_fault_0 rfl (lv_at hl 1 rfl) ?_
  refine lv_if_ne (tgt := 12) hx hb dX11_fault_1 (by decide) (fun c_1 => ?_) (fun c_1 => ?_)
  · refine lv_iload_n hx hb dX11_fault_12 rfl (lv_at hl 1 rfl) ?_
    refine lv_iconst (v := 1) hx hb dX11_fault_13 (by decide +kernel) ?_
    refine lv_icmp_ne (tgt := 27) hx hb dX11_fault_14 (by decide) (fun c_2 => ?_) (fun c_2 => ?_)
    · refine lv_iconst (v := (-1)) hx hb dX11_fault_27 (by decide +kernel) ?_
      exact W.iret (v := (-1)) hx hb hr (fun t ht hW => ⟨(-1), rfl, (by simp [c_1, c_2]), ht⟩) (fun _ h => absurd h List.not_mem_nil) dX11_fault_28
    · refine lv_aload_n hx hb dX11_fault_17 rfl (lv_at hl 0 rfl) ?_
      refine va_get (D := D) (ci := 11) (v := .ref t0) (C := RX11) (T := TX11) (N := 7) hx hb hts in_11 hown hK hP 0 rfl rfl 0 (by decide) fl_10 (fun _ h9 => h9) rfl dX11_fault_18 ?_
      refine va_get (D := D) (ci := 9) (v := .int (-1)) (C := RX9) (T := TX9) (N := 7) hx hb hts in_9 hown hK hP 1 rfl rfl 6 (by decide) fl_92 (fun _ h9 => h9) rfl dX11_fault_21 ?_
      refine lv_goto (tgt := 28) hx hb dX11_fault_24 (by decide) ?_
      exact W.iret (v := (-1)) hx hb hr (fun t ht hW => ⟨(-1), rfl, (by simp [c_1, c_2]), ht⟩) (fun _ h => absurd h List.not_mem_nil) dX11_fault_28
  · refine lv_aload_n hx hb dX11_fault_4 rfl (lv_at hl 0 rfl) ?_
    refine va_get (D := D) (ci := 11) (v := .ref t0) (C := RX11) (T := TX11) (N := 7) hx hb hts in_11 hown hK hP 0 rfl rfl 0 (by decide) fl_10 (fun _ h9 => h9) rfl dX11_fault_5 ?_
    refine va_get (D := D) (ci := 9) (v := .int 0) (C := RX9) (T := TX9) (N := 7) hx hb hts in_9 hown hK hP 1 rfl rfl 5 (by decide) fl_91 (fun _ h9 => h9) rfl dX11_fault_8 ?_
    exact W.iret (v := 0) hx hb hr (fun t ht hW => ⟨0, rfl, (by simp [c_1]), ht⟩) (fun _ h => absurd h List.not_mem_nil) dX11_fault_11
