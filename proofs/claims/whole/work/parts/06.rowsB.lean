set_option maxRecDepth 20000 in
theorem ggX0_init_X1_init : GoodIn wsX0_init wsX1_init := goodIn_r _ [10, 11, 2, 3, 12, 13, 14, 15, 16, 17, 18, 19, 20, 24, 25, 26, 27, 28, 29, 30, 31, 32, 33, 34, 35, 36, 37, 38, 39] (by decide +kernel) (by decide +kernel)
set_option maxRecDepth 20000 in
theorem gX0_init_X1_init : GoodIn wsX0_init (wsX1_init) := ggX0_init_X1_init
theorem dX0_init_0 : decode cX0_init 0 = .ok (.aload_n 0, 1) := by decide +kernel
theorem dX0_init_1 : decode cX0_init 1 = .ok (.invokespecial 3, 3) := by decide +kernel
theorem dX0_init_4 : decode cX0_init 4 = .ok (.aload_n 0, 1) := by decide +kernel
theorem dX0_init_5 : decode cX0_init 5 = .ok (.bipush 8, 2) := by decide +kernel
theorem dX0_init_7 : decode cX0_init 7 = .ok (.anewarray 11, 3) := by decide +kernel
theorem dX0_init_10 : decode cX0_init 10 = .ok (.putfield 13, 3) := by decide +kernel
theorem dX0_init_13 : decode cX0_init 13 = .ok (.iconst 0, 1) := by decide +kernel
theorem dX0_init_14 : decode cX0_init 14 = .ok (.istore_n 2, 1) := by decide +kernel
theorem dX0_init_15 : decode cX0_init 15 = .ok (.iload_n 2, 1) := by decide +kernel
theorem dX0_init_16 : decode cX0_init 16 = .ok (.bipush 8, 2) := by decide +kernel
theorem dX0_init_18 : decode cX0_init 18 = .ok (.if_icmp .ge 23, 3) := by decide +kernel
theorem dX0_init_21 : decode cX0_init 21 = .ok (.aload_n 0, 1) := by decide +kernel
theorem dX0_init_22 : decode cX0_init 22 = .ok (.getfield 13, 3) := by decide +kernel
theorem dX0_init_25 : decode cX0_init 25 = .ok (.iload_n 2, 1) := by decide +kernel
theorem dX0_init_26 : decode cX0_init 26 = .ok (.new 11, 3) := by decide +kernel
theorem dX0_init_29 : decode cX0_init 29 = .ok (.dup, 1) := by decide +kernel
theorem dX0_init_30 : decode cX0_init 30 = .ok (.aload_n 1, 1) := by decide +kernel
theorem dX0_init_31 : decode cX0_init 31 = .ok (.invokespecial 17, 3) := by decide +kernel
theorem dX0_init_34 : decode cX0_init 34 = .ok (.aastore, 1) := by decide +kernel
theorem dX0_init_35 : decode cX0_init 35 = .ok (.iinc 2 1, 3) := by decide +kernel
theorem dX0_init_38 : decode cX0_init 38 = .ok (.goto (-23), 3) := by decide +kernel
theorem dX0_init_41 : decode cX0_init 41 = .ok (.return_, 1) := by decide +kernel
set_option maxRecDepth 20000 in
theorem ggX0_keep_X1_copyFrom : GoodIn wsX0_keep wsX1_copyFrom := goodIn_r _ [12, 13, 14, 15, 16, 17, 18, 19, 20, 21, 22, 23, 24, 25, 26, 27, 28, 29, 30, 34, 35, 36, 37, 38, 39, 40, 41, 42, 43, 44, 45, 46, 47, 48, 49] (by decide +kernel) (by decide +kernel)
set_option maxRecDepth 20000 in
theorem gX0_keep_X1_copyFrom : GoodIn wsX0_keep (wsV RX0 24 RX1 yX1_copyFrom wsX1_copyFrom) := goodIn_app (goodIn_of _ (by decide +kernel)) ggX0_keep_X1_copyFrom
theorem dX0_keep_0 : decode cX0_keep 0 = .ok (.aload_n 0, 1) := by decide +kernel
theorem dX0_keep_1 : decode cX0_keep 1 = .ok (.aload_n 0, 1) := by decide +kernel
theorem dX0_keep_2 : decode cX0_keep 2 = .ok (.getfield 20, 3) := by decide +kernel
theorem dX0_keep_5 : decode cX0_keep 5 = .ok (.iconst 1, 1) := by decide +kernel
theorem dX0_keep_6 : decode cX0_keep 6 = .ok (.iadd, 1) := by decide +kernel
theorem dX0_keep_7 : decode cX0_keep 7 = .ok (.bipush 7, 2) := by decide +kernel
theorem dX0_keep_9 : decode cX0_keep 9 = .ok (.iand, 1) := by decide +kernel
theorem dX0_keep_10 : decode cX0_keep 10 = .ok (.putfield 20, 3) := by decide +kernel
theorem dX0_keep_13 : decode cX0_keep 13 = .ok (.aload_n 0, 1) := by decide +kernel
theorem dX0_keep_14 : decode cX0_keep 14 = .ok (.getfield 13, 3) := by decide +kernel
theorem dX0_keep_17 : decode cX0_keep 17 = .ok (.aload_n 0, 1) := by decide +kernel
theorem dX0_keep_18 : decode cX0_keep 18 = .ok (.getfield 20, 3) := by decide +kernel
theorem dX0_keep_21 : decode cX0_keep 21 = .ok (.aaload, 1) := by decide +kernel
theorem dX0_keep_22 : decode cX0_keep 22 = .ok (.aload_n 1, 1) := by decide +kernel
theorem dX0_keep_23 : decode cX0_keep 23 = .ok (.invokevirtual 24, 3) := by decide +kernel
theorem dX0_keep_26 : decode cX0_keep 26 = .ok (.aload_n 0, 1) := by decide +kernel
theorem dX0_keep_27 : decode cX0_keep 27 = .ok (.bipush 8, 2) := by decide +kernel
theorem dX0_keep_29 : decode cX0_keep 29 = .ok (.aload_n 0, 1) := by decide +kernel
theorem dX0_keep_30 : decode cX0_keep 30 = .ok (.getfield 28, 3) := by decide +kernel
theorem dX0_keep_33 : decode cX0_keep 33 = .ok (.iconst 1, 1) := by decide +kernel
theorem dX0_keep_34 : decode cX0_keep 34 = .ok (.iadd, 1) := by decide +kernel
theorem dX0_keep_35 : decode cX0_keep 35 = .ok (.invokestatic 31, 3) := by decide +kernel
theorem dX0_keep_38 : decode cX0_keep 38 = .ok (.putfield 28, 3) := by decide +kernel
theorem dX0_keep_41 : decode cX0_keep 41 = .ok (.return_, 1) := by decide +kernel
set_option maxRecDepth 20000 in
theorem ggX0_takeBack_X1_copyFrom : GoodIn wsX0_takeBack wsX1_copyFrom := goodIn_r _ [8, 9, 10, 11, 12, 13, 14, 15, 16, 17, 18, 19, 20, 21, 22, 23, 24, 25, 26, 30, 31, 32, 33, 34, 35, 36, 37, 38, 39, 40, 41, 42, 43, 44, 45] (by decide +kernel) (by decide +kernel)
set_option maxRecDepth 20000 in
theorem gX0_takeBack_X1_copyFrom : GoodIn wsX0_takeBack (wsV RX0 24 RX1 yX1_copyFrom wsX1_copyFrom) := goodIn_app (goodIn_of _ (by decide +kernel)) ggX0_takeBack_X1_copyFrom
theorem dX0_takeBack_0 : decode cX0_takeBack 0 = .ok (.aload_n 0, 1) := by decide +kernel
theorem dX0_takeBack_1 : decode cX0_takeBack 1 = .ok (.getfield 28, 3) := by decide +kernel
theorem dX0_takeBack_4 : decode cX0_takeBack 4 = .ok (.iconst 1, 1) := by decide +kernel
theorem dX0_takeBack_5 : decode cX0_takeBack 5 = .ok (.if_icmp .ge 5, 3) := by decide +kernel
theorem dX0_takeBack_8 : decode cX0_takeBack 8 = .ok (.iconst (-1), 1) := by decide +kernel
theorem dX0_takeBack_9 : decode cX0_takeBack 9 = .ok (.ireturn, 1) := by decide +kernel
theorem dX0_takeBack_10 : decode cX0_takeBack 10 = .ok (.aload_n 1, 1) := by decide +kernel
theorem dX0_takeBack_11 : decode cX0_takeBack 11 = .ok (.aload_n 0, 1) := by decide +kernel
theorem dX0_takeBack_12 : decode cX0_takeBack 12 = .ok (.getfield 13, 3) := by decide +kernel
theorem dX0_takeBack_15 : decode cX0_takeBack 15 = .ok (.aload_n 0, 1) := by decide +kernel
theorem dX0_takeBack_16 : decode cX0_takeBack 16 = .ok (.getfield 20, 3) := by decide +kernel
theorem dX0_takeBack_19 : decode cX0_takeBack 19 = .ok (.aaload, 1) := by decide +kernel
theorem dX0_takeBack_20 : decode cX0_takeBack 20 = .ok (.invokevirtual 24, 3) := by decide +kernel
theorem dX0_takeBack_23 : decode cX0_takeBack 23 = .ok (.aload_n 0, 1) := by decide +kernel
theorem dX0_takeBack_24 : decode cX0_takeBack 24 = .ok (.aload_n 0, 1) := by decide +kernel
theorem dX0_takeBack_25 : decode cX0_takeBack 25 = .ok (.getfield 20, 3) := by decide +kernel
theorem dX0_takeBack_28 : decode cX0_takeBack 28 = .ok (.iconst 1, 1) := by decide +kernel
theorem dX0_takeBack_29 : decode cX0_takeBack 29 = .ok (.isub, 1) := by decide +kernel
theorem dX0_takeBack_30 : decode cX0_takeBack 30 = .ok (.bipush 7, 2) := by decide +kernel
theorem dX0_takeBack_32 : decode cX0_takeBack 32 = .ok (.iand, 1) := by decide +kernel
theorem dX0_takeBack_33 : decode cX0_takeBack 33 = .ok (.putfield 20, 3) := by decide +kernel
theorem dX0_takeBack_36 : decode cX0_takeBack 36 = .ok (.aload_n 0, 1) := by decide +kernel
theorem dX0_takeBack_37 : decode cX0_takeBack 37 = .ok (.dup, 1) := by decide +kernel
theorem dX0_takeBack_38 : decode cX0_takeBack 38 = .ok (.getfield 28, 3) := by decide +kernel
theorem dX0_takeBack_41 : decode cX0_takeBack 41 = .ok (.iconst 1, 1) := by decide +kernel
theorem dX0_takeBack_42 : decode cX0_takeBack 42 = .ok (.isub, 1) := by decide +kernel
theorem dX0_takeBack_43 : decode cX0_takeBack 43 = .ok (.putfield 28, 3) := by decide +kernel
theorem dX0_takeBack_46 : decode cX0_takeBack 46 = .ok (.aload_n 0, 1) := by decide +kernel
theorem dX0_takeBack_47 : decode cX0_takeBack 47 = .ok (.getfield 28, 3) := by decide +kernel
theorem dX0_takeBack_50 : decode cX0_takeBack 50 = .ok (.ireturn, 1) := by decide +kernel
set_option maxRecDepth 20000 in
theorem ggX3_init_X2_init : GoodIn wsX3_init wsX2_init := goodIn_r _ [11, 12, 2, 3, 13, 14, 15, 16, 17, 18, 19, 20, 21, 22, 23, 27, 28, 29, 30, 31, 32, 33, 34, 35, 36, 37] (by decide +kernel) (by decide +kernel)
set_option maxRecDepth 20000 in
theorem gX3_init_X2_init : GoodIn wsX3_init (wsX2_init) := ggX3_init_X2_init
theorem dX3_init_0 : decode cX3_init 0 = .ok (.aload_n 0, 1) := by decide +kernel
theorem dX3_init_1 : decode cX3_init 1 = .ok (.invokespecial 3, 3) := by decide +kernel
theorem dX3_init_4 : decode cX3_init 4 = .ok (.aload_n 0, 1) := by decide +kernel
theorem dX3_init_5 : decode cX3_init 5 = .ok (.aload_n 1, 1) := by decide +kernel
theorem dX3_init_6 : decode cX3_init 6 = .ok (.putfield 9, 3) := by decide +kernel
theorem dX3_init_9 : decode cX3_init 9 = .ok (.aload_n 0, 1) := by decide +kernel
theorem dX3_init_10 : decode cX3_init 10 = .ok (.new 15, 3) := by decide +kernel
theorem dX3_init_13 : decode cX3_init 13 = .ok (.dup, 1) := by decide +kernel
theorem dX3_init_14 : decode cX3_init 14 = .ok (.invokespecial 17, 3) := by decide +kernel
theorem dX3_init_17 : decode cX3_init 17 = .ok (.putfield 18, 3) := by decide +kernel
theorem dX3_init_20 : decode cX3_init 20 = .ok (.return_, 1) := by decide +kernel
set_option maxRecDepth 20000 in
theorem ggX3_read_X6_open : GoodIn wsX3_read wsX6_open := goodIn_r _ [9, 10, 11, 12, 13, 14, 15, 16, 8, 17, 18, 19, 20, 21, 22, 23, 24, 25, 26, 27, 28, 29, 30, 31, 32, 33, 34, 35, 36, 37, 38, 39, 40, 41, 42, 43, 44, 45, 46, 131, 132, 133, 134, 135, 136, 137, 138, 139, 140, 141, 142, 143, 144] (by decide +kernel) (by decide +kernel)
set_option maxRecDepth 20000 in
theorem gX3_read_X6_open : GoodIn wsX3_read (wsV RX3 22 RX6 yX6_open wsX6_open) := goodIn_app (goodIn_of _ (by decide +kernel)) ggX3_read_X6_open
set_option maxRecDepth 20000 in
theorem ggX3_read_X2_clear : GoodIn wsX3_read wsX2_clear := goodIn_r _ [51, 52, 53, 54, 145, 146, 147, 148, 149, 150, 151, 152, 153, 154, 155] (by decide +kernel) (by decide +kernel)
set_option maxRecDepth 20000 in
theorem gX3_read_X2_clear : GoodIn wsX3_read (wsV RX3 28 RX2 yX2_clear wsX2_clear) := goodIn_app (goodIn_of _ (by decide +kernel)) ggX3_read_X2_clear
set_option maxRecDepth 20000 in
theorem ggX3_read_X3_readLine : GoodIn wsX3_read wsX3_readLine := goodIn_r _ [59, 1, 60, 61, 62, 63, 58, 64, 3, 2, 65, 66, 67, 68, 69, 70, 8, 71, 12, 24, 13, 72, 15, 16, 17, 18, 11, 19, 10, 20, 21, 22, 23, 25, 26, 27, 28, 29, 30, 31, 32, 33, 34, 35, 36, 37, 38, 39, 40, 41, 42, 43, 44, 45, 46, 73, 74, 75, 76, 77, 78, 14, 79, 80, 81, 82, 83, 84, 85, 86, 87, 88, 89, 90, 91, 92, 93, 94, 95, 96, 97, 98, 99, 100, 50, 101, 53, 102, 103, 104, 105, 106, 54, 107, 108, 109, 110, 111, 112, 113, 114, 115, 116, 117, 118, 119, 120, 121, 122, 123, 124, 125, 126, 127, 128, 129, 130, 131, 132, 133, 134, 135, 136, 137, 138, 139, 140, 141, 142, 145, 146, 147, 148, 149, 150, 151, 152, 153, 154, 155, 143, 144] (by decide +kernel) (by decide +kernel)
set_option maxRecDepth 20000 in
theorem gX3_read_X3_readLine : GoodIn wsX3_read (wsV RX3 39 RX3 yX3_readLine wsX3_readLine) := goodIn_app (goodIn_of _ (by decide +kernel)) ggX3_read_X3_readLine
theorem dX3_read_0 : decode cX3_read 0 = .ok (.aload_n 0, 1) := by decide +kernel
theorem dX3_read_1 : decode cX3_read 1 = .ok (.getfield 9, 3) := by decide +kernel
theorem dX3_read_4 : decode cX3_read 4 = .ok (.sipush 900, 3) := by decide +kernel
theorem dX3_read_7 : decode cX3_read 7 = .ok (.invokevirtual 22, 3) := by decide +kernel
theorem dX3_read_10 : decode cX3_read 10 = .ok (.aload_n 0, 1) := by decide +kernel
theorem dX3_read_11 : decode cX3_read 11 = .ok (.getfield 18, 3) := by decide +kernel
theorem dX3_read_14 : decode cX3_read 14 = .ok (.invokevirtual 28, 3) := by decide +kernel
theorem dX3_read_17 : decode cX3_read 17 = .ok (.aload_n 0, 1) := by decide +kernel
theorem dX3_read_18 : decode cX3_read 18 = .ok (.iconst 0, 1) := by decide +kernel
theorem dX3_read_19 : decode cX3_read 19 = .ok (.putfield 31, 3) := by decide +kernel
theorem dX3_read_22 : decode cX3_read 22 = .ok (.iconst 0, 1) := by decide +kernel
theorem dX3_read_23 : decode cX3_read 23 = .ok (.istore_n 1, 1) := by decide +kernel
theorem dX3_read_24 : decode cX3_read 24 = .ok (.iload_n 1, 1) := by decide +kernel
theorem dX3_read_25 : decode cX3_read 25 = .ok (.sipush 940, 3) := by decide +kernel
theorem dX3_read_28 : decode cX3_read 28 = .ok (.if_icmp .ge 30, 3) := by decide +kernel
theorem dX3_read_31 : decode cX3_read 31 = .ok (.aload_n 0, 1) := by decide +kernel
theorem dX3_read_32 : decode cX3_read 32 = .ok (.getfield 9, 3) := by decide +kernel
theorem dX3_read_35 : decode cX3_read 35 = .ok (.getfield 35, 3) := by decide +kernel
theorem dX3_read_38 : decode cX3_read 38 = .ok (.ifCond .ne 5, 3) := by decide +kernel
theorem dX3_read_41 : decode cX3_read 41 = .ok (.iload_n 1, 1) := by decide +kernel
theorem dX3_read_42 : decode cX3_read 42 = .ok (.ireturn, 1) := by decide +kernel
theorem dX3_read_43 : decode cX3_read 43 = .ok (.aload_n 0, 1) := by decide +kernel
theorem dX3_read_44 : decode cX3_read 44 = .ok (.invokevirtual 39, 3) := by decide +kernel
theorem dX3_read_47 : decode cX3_read 47 = .ok (.ifCond .ne 5, 3) := by decide +kernel
theorem dX3_read_50 : decode cX3_read 50 = .ok (.iconst (-1), 1) := by decide +kernel
theorem dX3_read_51 : decode cX3_read 51 = .ok (.ireturn, 1) := by decide +kernel
theorem dX3_read_52 : decode cX3_read 52 = .ok (.iinc 1 1, 3) := by decide +kernel
theorem dX3_read_55 : decode cX3_read 55 = .ok (.goto (-31), 3) := by decide +kernel
theorem dX3_read_58 : decode cX3_read 58 = .ok (.iconst (-1), 1) := by decide +kernel
theorem dX3_read_59 : decode cX3_read 59 = .ok (.ireturn, 1) := by decide +kernel
set_option maxRecDepth 20000 in
theorem ggX3_readLine_X3_readChairs : GoodIn wsX3_readLine wsX3_readChairs := goodIn_r _ [7, 8, 9, 10, 1, 11, 12, 13, 14, 15, 16, 17, 18, 19, 20, 21, 22, 23, 24, 25, 26, 27, 28, 29, 30, 31, 32, 33, 34, 35, 36, 37, 38, 39, 40, 41, 42, 43, 44, 45, 46, 47, 48, 49, 50, 51, 52, 53, 54, 55, 56, 57, 58, 59, 60, 61, 114, 115, 116, 129, 130, 131, 132, 133, 134, 135, 136, 137, 138, 139, 117, 118, 119, 120, 121, 122, 123, 124, 125, 126, 127, 128, 140, 141] (by decide +kernel) (by decide +kernel)
set_option maxRecDepth 20000 in
theorem gX3_readLine_X3_readChairs : GoodIn wsX3_readLine (wsV RX3 46 RX3 yX3_readChairs wsX3_readChairs) := goodIn_app (goodIn_of _ (by decide +kernel)) ggX3_readLine_X3_readChairs
set_option maxRecDepth 20000 in
theorem ggX3_readLine_X3_readGuest : GoodIn wsX3_readLine wsX3_readGuest := goodIn_r _ [65, 9, 10, 12, 1, 66, 67, 68, 11, 69, 70, 71, 72, 13, 14, 15, 16, 17, 18, 19, 20, 21, 22, 23, 24, 25, 26, 27, 28, 29, 30, 31, 32, 33, 34, 35, 36, 37, 38, 39, 40, 41, 42, 43, 44, 45, 46, 47, 48, 49, 50, 51, 52, 53, 54, 73, 74, 75, 6, 76, 77, 78, 79, 80, 81, 82, 83, 84, 85, 86, 87, 88, 89, 90, 91, 92, 93, 55, 56, 57, 58, 59, 60, 61, 114, 115, 116, 129, 130, 131, 132, 133, 134, 135, 136, 137, 138, 139, 117, 118, 119, 120, 121, 122, 123, 124, 125, 126, 127, 128, 140, 141] (by decide +kernel) (by decide +kernel)
set_option maxRecDepth 20000 in
theorem gX3_readLine_X3_readGuest : GoodIn wsX3_readLine (wsV RX3 49 RX3 yX3_readGuest wsX3_readGuest) := goodIn_app (goodIn_of _ (by decide +kernel)) ggX3_readLine_X3_readGuest
set_option maxRecDepth 20000 in
theorem ggX3_readLine_X3_readDish : GoodIn wsX3_readLine wsX3_readDish := goodIn_r _ [97, 9, 98, 1, 99, 67, 100, 11, 13, 14, 15, 16, 17, 18, 19, 20, 21, 22, 23, 24, 25, 26, 27, 28, 29, 30, 31, 32, 33, 34, 35, 36, 37, 38, 39, 40, 41, 42, 43, 44, 45, 46, 47, 48, 49, 50, 51, 52, 53, 54, 73, 74, 75, 6, 76, 77, 78, 79, 80, 81, 82, 83, 84, 85, 86, 87, 88, 89, 90, 91, 92, 93, 55, 56, 57, 58, 59, 60, 61, 114, 115, 116, 129, 130, 131, 132, 133, 134, 135, 136, 137, 138, 139, 117, 118, 119, 120, 121, 122, 123, 124, 125, 126, 127, 128, 140, 141] (by decide +kernel) (by decide +kernel)
set_option maxRecDepth 20000 in
theorem gX3_readLine_X3_readDish : GoodIn wsX3_readLine (wsV RX3 52 RX3 yX3_readDish wsX3_readDish) := goodIn_app (goodIn_of _ (by decide +kernel)) ggX3_readLine_X3_readDish
set_option maxRecDepth 20000 in
theorem ggX3_readLine_X3_readPays : GoodIn wsX3_readLine wsX3_readPays := goodIn_r _ [104, 1, 9, 67, 11, 72, 21, 22, 23, 16, 24, 25, 26, 27, 28, 29, 30, 31, 32, 19, 33, 34, 35, 36, 37, 38, 39, 40, 41, 42, 43, 44, 45, 46, 47, 48, 49, 50, 51, 52, 53, 54, 81, 82, 83, 84, 85, 86, 87, 105, 106, 107, 108, 59, 109, 78, 79, 80, 60, 14, 15, 17, 18, 20, 61, 77, 13, 114, 115, 116, 117, 118, 119, 120, 121, 122, 123, 124, 125, 126, 127, 128, 129, 130, 131, 132, 133, 134, 135, 136, 137, 138, 139, 140, 141] (by decide +kernel) (by decide +kernel)
set_option maxRecDepth 20000 in
theorem gX3_readLine_X3_readPays : GoodIn wsX3_readLine (wsV RX3 55 RX3 yX3_readPays wsX3_readPays) := goodIn_app (goodIn_of _ (by decide +kernel)) ggX3_readLine_X3_readPays
set_option maxRecDepth 20000 in
theorem ggX3_readLine_X6_refuse : GoodIn wsX3_readLine wsX6_refuse := goodIn_r _ [17, 18, 19, 20, 117, 118, 119, 120, 121, 122, 123, 124, 125, 126, 127, 128] (by decide +kernel) (by decide +kernel)
set_option maxRecDepth 20000 in
theorem gX3_readLine_X6_refuse : GoodIn wsX3_readLine (wsV RX3 58 RX6 yX6_refuse wsX6_refuse) := goodIn_app (goodIn_of _ (by decide +kernel)) ggX3_readLine_X6_refuse
set_option maxRecDepth 20000 in
theorem ggX3_readLine_X6_takeSign : GoodIn wsX3_readLine wsX6_takeSign := goodIn_r _ [113, 34, 60, 14, 15, 16, 17, 18, 19, 20, 61, 22, 23, 24, 25, 26, 27, 28, 29, 30, 31, 32, 33, 35, 36, 37, 38, 39, 40, 41, 42, 43, 44, 45, 46, 47, 48, 49, 50, 51, 52, 53, 54, 117, 118, 119, 120, 121, 122, 123, 124, 125, 126, 127, 128, 140, 141] (by decide +kernel) (by decide +kernel)
set_option maxRecDepth 20000 in
theorem gX3_readLine_X6_takeSign : GoodIn wsX3_readLine (wsV RX3 62 RX6 yX6_takeSign wsX6_takeSign) := goodIn_app (goodIn_of _ (by decide +kernel)) ggX3_readLine_X6_takeSign
theorem dX3_readLine_0 : decode cX3_readLine 0 = .ok (.aload_n 0, 1) := by decide +kernel
theorem dX3_readLine_1 : decode cX3_readLine 1 = .ok (.getfield 9, 3) := by decide +kernel
theorem dX3_readLine_4 : decode cX3_readLine 4 = .ok (.getfield 43, 3) := by decide +kernel
theorem dX3_readLine_7 : decode cX3_readLine 7 = .ok (.tableswitch 61 0 3 #[29, 37, 45, 53], 29) := by decide +kernel
theorem dX3_readLine_36 : decode cX3_readLine 36 = .ok (.aload_n 0, 1) := by decide +kernel
theorem dX3_readLine_37 : decode cX3_readLine 37 = .ok (.invokevirtual 46, 3) := by decide +kernel
theorem dX3_readLine_40 : decode cX3_readLine 40 = .ok (.istore_n 1, 1) := by decide +kernel
theorem dX3_readLine_41 : decode cX3_readLine 41 = .ok (.goto 36, 3) := by decide +kernel
theorem dX3_readLine_44 : decode cX3_readLine 44 = .ok (.aload_n 0, 1) := by decide +kernel
theorem dX3_readLine_45 : decode cX3_readLine 45 = .ok (.invokevirtual 49, 3) := by decide +kernel
theorem dX3_readLine_48 : decode cX3_readLine 48 = .ok (.istore_n 1, 1) := by decide +kernel
theorem dX3_readLine_49 : decode cX3_readLine 49 = .ok (.goto 28, 3) := by decide +kernel
theorem dX3_readLine_52 : decode cX3_readLine 52 = .ok (.aload_n 0, 1) := by decide +kernel
theorem dX3_readLine_53 : decode cX3_readLine 53 = .ok (.invokevirtual 52, 3) := by decide +kernel
theorem dX3_readLine_56 : decode cX3_readLine 56 = .ok (.istore_n 1, 1) := by decide +kernel
theorem dX3_readLine_57 : decode cX3_readLine 57 = .ok (.goto 20, 3) := by decide +kernel
theorem dX3_readLine_60 : decode cX3_readLine 60 = .ok (.aload_n 0, 1) := by decide +kernel
theorem dX3_readLine_61 : decode cX3_readLine 61 = .ok (.invokevirtual 55, 3) := by decide +kernel
theorem dX3_readLine_64 : decode cX3_readLine 64 = .ok (.istore_n 1, 1) := by decide +kernel
theorem dX3_readLine_65 : decode cX3_readLine 65 = .ok (.goto 12, 3) := by decide +kernel
theorem dX3_readLine_68 : decode cX3_readLine 68 = .ok (.aload_n 0, 1) := by decide +kernel
theorem dX3_readLine_69 : decode cX3_readLine 69 = .ok (.getfield 9, 3) := by decide +kernel
theorem dX3_readLine_72 : decode cX3_readLine 72 = .ok (.iconst 1, 1) := by decide +kernel
theorem dX3_readLine_73 : decode cX3_readLine 73 = .ok (.invokevirtual 58, 3) := by decide +kernel
theorem dX3_readLine_76 : decode cX3_readLine 76 = .ok (.istore_n 1, 1) := by decide +kernel
theorem dX3_readLine_77 : decode cX3_readLine 77 = .ok (.iload_n 1, 1) := by decide +kernel
theorem dX3_readLine_78 : decode cX3_readLine 78 = .ok (.ifCond .eq 19, 3) := by decide +kernel
theorem dX3_readLine_81 : decode cX3_readLine 81 = .ok (.aload_n 0, 1) := by decide +kernel
theorem dX3_readLine_82 : decode cX3_readLine 82 = .ok (.getfield 9, 3) := by decide +kernel
theorem dX3_readLine_85 : decode cX3_readLine 85 = .ok (.bipush 59, 2) := by decide +kernel
theorem dX3_readLine_87 : decode cX3_readLine 87 = .ok (.invokevirtual 62, 3) := by decide +kernel
theorem dX3_readLine_90 : decode cX3_readLine 90 = .ok (.ifCond .eq 7, 3) := by decide +kernel
theorem dX3_readLine_93 : decode cX3_readLine 93 = .ok (.iconst 1, 1) := by decide +kernel
theorem dX3_readLine_94 : decode cX3_readLine 94 = .ok (.goto 4, 3) := by decide +kernel
theorem dX3_readLine_97 : decode cX3_readLine 97 = .ok (.iconst 0, 1) := by decide +kernel
theorem dX3_readLine_98 : decode cX3_readLine 98 = .ok (.ireturn, 1) := by decide +kernel
set_option maxRecDepth 20000 in
theorem ggX3_readChairs_X6_refuse : GoodIn wsX3_readChairs wsX6_refuse := goodIn_r _ [11, 12, 13, 14, 70, 71, 72, 73, 74, 75, 76, 77, 78, 79, 80, 81] (by decide +kernel) (by decide +kernel)
set_option maxRecDepth 20000 in
theorem gX3_readChairs_X6_refuse : GoodIn wsX3_readChairs (wsV RX3 58 RX6 yX6_refuse wsX6_refuse) := goodIn_app (goodIn_of _ (by decide +kernel)) ggX3_readChairs_X6_refuse
set_option maxRecDepth 20000 in
theorem ggX3_readChairs_X6_step : GoodIn wsX3_readChairs wsX6_step := goodIn_r _ [18, 19, 20, 21, 22, 23, 24, 25, 26, 13, 27, 28, 29, 30, 31, 32, 33, 34, 35, 36, 37, 38, 39, 10, 40, 41, 42, 43, 44, 45, 46, 47, 48, 70, 71, 72, 73, 74, 75, 76, 77, 78, 79, 80, 81, 82, 83] (by decide +kernel) (by decide +kernel)
set_option maxRecDepth 20000 in
theorem gX3_readChairs_X6_step : GoodIn wsX3_readChairs (wsV RX3 68 RX6 yX6_step wsX6_step) := goodIn_app (goodIn_of _ (by decide +kernel)) ggX3_readChairs_X6_step
set_option maxRecDepth 20000 in
theorem ggX3_readChairs_X6_takeNumber : GoodIn wsX3_readChairs wsX6_takeNumber := goodIn_r _ [52, 28, 41, 53, 54, 8, 9, 10, 11, 12, 13, 14, 55, 16, 17, 18, 19, 20, 21, 22, 23, 24, 25, 26, 27, 29, 30, 31, 32, 33, 34, 35, 36, 37, 38, 39, 40, 42, 43, 44, 45, 46, 47, 48, 70, 71, 72, 73, 74, 75, 76, 77, 78, 79, 80, 81, 82, 83] (by decide +kernel) (by decide +kernel)
set_option maxRecDepth 20000 in
theorem gX3_readChairs_X6_takeNumber : GoodIn wsX3_readChairs (wsV RX3 71 RX6 yX6_takeNumber wsX6_takeNumber) := goodIn_app (goodIn_of _ (by decide +kernel)) ggX3_readChairs_X6_takeNumber
theorem dX3_readChairs_0 : decode cX3_readChairs 0 = .ok (.aload_n 0, 1) := by decide +kernel
theorem dX3_readChairs_1 : decode cX3_readChairs 1 = .ok (.getfield 31, 3) := by decide +kernel
theorem dX3_readChairs_4 : decode cX3_readChairs 4 = .ok (.ifCond .ne 13, 3) := by decide +kernel
theorem dX3_readChairs_7 : decode cX3_readChairs 7 = .ok (.aload_n 0, 1) := by decide +kernel
theorem dX3_readChairs_8 : decode cX3_readChairs 8 = .ok (.getfield 18, 3) := by decide +kernel
theorem dX3_readChairs_11 : decode cX3_readChairs 11 = .ok (.getfield 65, 3) := by decide +kernel
theorem dX3_readChairs_14 : decode cX3_readChairs 14 = .ok (.ifCond .le 12, 3) := by decide +kernel
theorem dX3_readChairs_17 : decode cX3_readChairs 17 = .ok (.aload_n 0, 1) := by decide +kernel
theorem dX3_readChairs_18 : decode cX3_readChairs 18 = .ok (.getfield 9, 3) := by decide +kernel
theorem dX3_readChairs_21 : decode cX3_readChairs 21 = .ok (.iconst 3, 1) := by decide +kernel
theorem dX3_readChairs_22 : decode cX3_readChairs 22 = .ok (.invokevirtual 58, 3) := by decide +kernel
theorem dX3_readChairs_25 : decode cX3_readChairs 25 = .ok (.ireturn, 1) := by decide +kernel
theorem dX3_readChairs_26 : decode cX3_readChairs 26 = .ok (.aload_n 0, 1) := by decide +kernel
theorem dX3_readChairs_27 : decode cX3_readChairs 27 = .ok (.getfield 9, 3) := by decide +kernel
theorem dX3_readChairs_30 : decode cX3_readChairs 30 = .ok (.invokevirtual 68, 3) := by decide +kernel
theorem dX3_readChairs_33 : decode cX3_readChairs 33 = .ok (.aload_n 0, 1) := by decide +kernel
theorem dX3_readChairs_34 : decode cX3_readChairs 34 = .ok (.getfield 9, 3) := by decide +kernel
theorem dX3_readChairs_37 : decode cX3_readChairs 37 = .ok (.iconst 2, 1) := by decide +kernel
theorem dX3_readChairs_38 : decode cX3_readChairs 38 = .ok (.bipush 9, 2) := by decide +kernel
theorem dX3_readChairs_40 : decode cX3_readChairs 40 = .ok (.invokevirtual 71, 3) := by decide +kernel
theorem dX3_readChairs_43 : decode cX3_readChairs 43 = .ok (.ifCond .ne 5, 3) := by decide +kernel
theorem dX3_readChairs_46 : decode cX3_readChairs 46 = .ok (.iconst 0, 1) := by decide +kernel
theorem dX3_readChairs_47 : decode cX3_readChairs 47 = .ok (.ireturn, 1) := by decide +kernel
theorem dX3_readChairs_48 : decode cX3_readChairs 48 = .ok (.aload_n 0, 1) := by decide +kernel
theorem dX3_readChairs_49 : decode cX3_readChairs 49 = .ok (.getfield 18, 3) := by decide +kernel
theorem dX3_readChairs_52 : decode cX3_readChairs 52 = .ok (.aload_n 0, 1) := by decide +kernel
theorem dX3_readChairs_53 : decode cX3_readChairs 53 = .ok (.getfield 9, 3) := by decide +kernel
theorem dX3_readChairs_56 : decode cX3_readChairs 56 = .ok (.getfield 75, 3) := by decide +kernel
theorem dX3_readChairs_59 : decode cX3_readChairs 59 = .ok (.putfield 78, 3) := by decide +kernel
theorem dX3_readChairs_62 : decode cX3_readChairs 62 = .ok (.aload_n 0, 1) := by decide +kernel
theorem dX3_readChairs_63 : decode cX3_readChairs 63 = .ok (.iconst 1, 1) := by decide +kernel
theorem dX3_readChairs_64 : decode cX3_readChairs 64 = .ok (.putfield 31, 3) := by decide +kernel
theorem dX3_readChairs_67 : decode cX3_readChairs 67 = .ok (.iconst 1, 1) := by decide +kernel
theorem dX3_readChairs_68 : decode cX3_readChairs 68 = .ok (.ireturn, 1) := by decide +kernel
set_option maxRecDepth 20000 in
theorem ggX3_readGuest_X6_refuse : GoodIn wsX3_readGuest wsX6_refuse := goodIn_r _ [17, 18, 19, 20, 98, 99, 100, 101, 102, 103, 104, 105, 106, 107, 108, 109] (by decide +kernel) (by decide +kernel)
set_option maxRecDepth 20000 in
theorem gX3_readGuest_X6_refuse : GoodIn wsX3_readGuest (wsV RX3 58 RX6 yX6_refuse wsX6_refuse) := goodIn_app (goodIn_of _ (by decide +kernel)) ggX3_readGuest_X6_refuse
set_option maxRecDepth 20000 in
theorem ggX3_readGuest_X6_step : GoodIn wsX3_readGuest wsX6_step := goodIn_r _ [24, 25, 26, 27, 28, 29, 30, 31, 32, 19, 33, 34, 35, 36, 37, 38, 39, 40, 41, 42, 43, 44, 45, 16, 46, 47, 48, 49, 50, 51, 52, 53, 54, 98, 99, 100, 101, 102, 103, 104, 105, 106, 107, 108, 109, 110, 111] (by decide +kernel) (by decide +kernel)
set_option maxRecDepth 20000 in
theorem gX3_readGuest_X6_step : GoodIn wsX3_readGuest (wsV RX3 68 RX6 yX6_step wsX6_step) := goodIn_app (goodIn_of _ (by decide +kernel)) ggX3_readGuest_X6_step
set_option maxRecDepth 20000 in
theorem ggX3_readGuest_X3_isNewName : GoodIn wsX3_readGuest wsX3_isNewName := goodIn_r _ [59, 4, 1, 6, 60, 61, 62, 16, 63, 34, 33, 13, 14, 15, 17, 18, 19, 20, 64, 65, 66, 67, 68, 69, 70, 71, 72, 73, 74, 75, 76, 84, 85, 86, 98, 99, 100, 101, 102, 103, 104, 105, 106, 107, 108, 109, 87, 88, 89, 90, 91, 92, 93, 94, 95, 96, 97] (by decide +kernel) (by decide +kernel)
set_option maxRecDepth 20000 in
theorem gX3_readGuest_X3_isNewName : GoodIn wsX3_readGuest (wsV RX3 81 RX3 yX3_isNewName wsX3_isNewName) := goodIn_app (goodIn_of _ (by decide +kernel)) ggX3_readGuest_X3_isNewName
set_option maxRecDepth 20000 in
theorem ggX3_readGuest_X6_takeNumber : GoodIn wsX3_readGuest wsX6_takeNumber := goodIn_r _ [80, 34, 47, 81, 82, 14, 15, 16, 17, 18, 19, 20, 83, 22, 23, 24, 25, 26, 27, 28, 29, 30, 31, 32, 33, 35, 36, 37, 38, 39, 40, 41, 42, 43, 44, 45, 46, 48, 49, 50, 51, 52, 53, 54, 98, 99, 100, 101, 102, 103, 104, 105, 106, 107, 108, 109, 110, 111] (by decide +kernel) (by decide +kernel)
set_option maxRecDepth 20000 in
theorem gX3_readGuest_X6_takeNumber : GoodIn wsX3_readGuest (wsV RX3 71 RX6 yX6_takeNumber wsX6_takeNumber) := goodIn_app (goodIn_of _ (by decide +kernel)) ggX3_readGuest_X6_takeNumber
theorem dX3_readGuest_0 : decode cX3_readGuest 0 = .ok (.aload_n 0, 1) := by decide +kernel
theorem dX3_readGuest_1 : decode cX3_readGuest 1 = .ok (.getfield 18, 3) := by decide +kernel
theorem dX3_readGuest_4 : decode cX3_readGuest 4 = .ok (.getfield 65, 3) := by decide +kernel
theorem dX3_readGuest_7 : decode cX3_readGuest 7 = .ok (.istore_n 1, 1) := by decide +kernel
theorem dX3_readGuest_8 : decode cX3_readGuest 8 = .ok (.iload_n 1, 1) := by decide +kernel
theorem dX3_readGuest_9 : decode cX3_readGuest 9 = .ok (.bipush 7, 2) := by decide +kernel
theorem dX3_readGuest_11 : decode cX3_readGuest 11 = .ok (.if_icmp .ge 14, 3) := by decide +kernel
theorem dX3_readGuest_14 : decode cX3_readGuest 14 = .ok (.iload_n 1, 1) := by decide +kernel
theorem dX3_readGuest_15 : decode cX3_readGuest 15 = .ok (.aload_n 0, 1) := by decide +kernel
theorem dX3_readGuest_16 : decode cX3_readGuest 16 = .ok (.getfield 18, 3) := by decide +kernel
theorem dX3_readGuest_19 : decode cX3_readGuest 19 = .ok (.getfield 78, 3) := by decide +kernel
theorem dX3_readGuest_22 : decode cX3_readGuest 22 = .ok (.if_icmp .lt 12, 3) := by decide +kernel
theorem dX3_readGuest_25 : decode cX3_readGuest 25 = .ok (.aload_n 0, 1) := by decide +kernel
theorem dX3_readGuest_26 : decode cX3_readGuest 26 = .ok (.getfield 9, 3) := by decide +kernel
theorem dX3_readGuest_29 : decode cX3_readGuest 29 = .ok (.iconst 4, 1) := by decide +kernel
theorem dX3_readGuest_30 : decode cX3_readGuest 30 = .ok (.invokevirtual 58, 3) := by decide +kernel
theorem dX3_readGuest_33 : decode cX3_readGuest 33 = .ok (.ireturn, 1) := by decide +kernel
theorem dX3_readGuest_34 : decode cX3_readGuest 34 = .ok (.aload_n 0, 1) := by decide +kernel
theorem dX3_readGuest_35 : decode cX3_readGuest 35 = .ok (.getfield 9, 3) := by decide +kernel
theorem dX3_readGuest_38 : decode cX3_readGuest 38 = .ok (.invokevirtual 68, 3) := by decide +kernel
theorem dX3_readGuest_41 : decode cX3_readGuest 41 = .ok (.aload_n 0, 1) := by decide +kernel
theorem dX3_readGuest_42 : decode cX3_readGuest 42 = .ok (.invokevirtual 81, 3) := by decide +kernel
theorem dX3_readGuest_45 : decode cX3_readGuest 45 = .ok (.ifCond .ne 5, 3) := by decide +kernel
theorem dX3_readGuest_48 : decode cX3_readGuest 48 = .ok (.iconst 0, 1) := by decide +kernel
theorem dX3_readGuest_49 : decode cX3_readGuest 49 = .ok (.ireturn, 1) := by decide +kernel
theorem dX3_readGuest_50 : decode cX3_readGuest 50 = .ok (.aload_n 0, 1) := by decide +kernel
theorem dX3_readGuest_51 : decode cX3_readGuest 51 = .ok (.getfield 18, 3) := by decide +kernel
theorem dX3_readGuest_54 : decode cX3_readGuest 54 = .ok (.getfield 84, 3) := by decide +kernel
theorem dX3_readGuest_57 : decode cX3_readGuest 57 = .ok (.iload_n 1, 1) := by decide +kernel
theorem dX3_readGuest_58 : decode cX3_readGuest 58 = .ok (.aload_n 0, 1) := by decide +kernel
theorem dX3_readGuest_59 : decode cX3_readGuest 59 = .ok (.getfield 9, 3) := by decide +kernel
theorem dX3_readGuest_62 : decode cX3_readGuest 62 = .ok (.getfield 88, 3) := by decide +kernel
theorem dX3_readGuest_65 : decode cX3_readGuest 65 = .ok (.lastore, 1) := by decide +kernel
theorem dX3_readGuest_66 : decode cX3_readGuest 66 = .ok (.aload_n 0, 1) := by decide +kernel
theorem dX3_readGuest_67 : decode cX3_readGuest 67 = .ok (.getfield 9, 3) := by decide +kernel
theorem dX3_readGuest_70 : decode cX3_readGuest 70 = .ok (.invokevirtual 68, 3) := by decide +kernel
theorem dX3_readGuest_73 : decode cX3_readGuest 73 = .ok (.aload_n 0, 1) := by decide +kernel
theorem dX3_readGuest_74 : decode cX3_readGuest 74 = .ok (.getfield 9, 3) := by decide +kernel
theorem dX3_readGuest_77 : decode cX3_readGuest 77 = .ok (.iconst 0, 1) := by decide +kernel
theorem dX3_readGuest_78 : decode cX3_readGuest 78 = .ok (.sipush 999, 3) := by decide +kernel
theorem dX3_readGuest_81 : decode cX3_readGuest 81 = .ok (.invokevirtual 71, 3) := by decide +kernel
theorem dX3_readGuest_84 : decode cX3_readGuest 84 = .ok (.ifCond .ne 5, 3) := by decide +kernel
theorem dX3_readGuest_87 : decode cX3_readGuest 87 = .ok (.iconst 0, 1) := by decide +kernel
theorem dX3_readGuest_88 : decode cX3_readGuest 88 = .ok (.ireturn, 1) := by decide +kernel
theorem dX3_readGuest_89 : decode cX3_readGuest 89 = .ok (.aload_n 0, 1) := by decide +kernel
theorem dX3_readGuest_90 : decode cX3_readGuest 90 = .ok (.getfield 18, 3) := by decide +kernel
theorem dX3_readGuest_93 : decode cX3_readGuest 93 = .ok (.getfield 92, 3) := by decide +kernel
theorem dX3_readGuest_96 : decode cX3_readGuest 96 = .ok (.iload_n 1, 1) := by decide +kernel
theorem dX3_readGuest_97 : decode cX3_readGuest 97 = .ok (.aload_n 0, 1) := by decide +kernel
theorem dX3_readGuest_98 : decode cX3_readGuest 98 = .ok (.getfield 9, 3) := by decide +kernel
theorem dX3_readGuest_101 : decode cX3_readGuest 101 = .ok (.getfield 75, 3) := by decide +kernel
theorem dX3_readGuest_104 : decode cX3_readGuest 104 = .ok (.iastore, 1) := by decide +kernel
theorem dX3_readGuest_105 : decode cX3_readGuest 105 = .ok (.aload_n 0, 1) := by decide +kernel
theorem dX3_readGuest_106 : decode cX3_readGuest 106 = .ok (.getfield 9, 3) := by decide +kernel
theorem dX3_readGuest_109 : decode cX3_readGuest 109 = .ok (.iconst 0, 1) := by decide +kernel
theorem dX3_readGuest_110 : decode cX3_readGuest 110 = .ok (.bipush 9, 2) := by decide +kernel
theorem dX3_readGuest_112 : decode cX3_readGuest 112 = .ok (.invokevirtual 71, 3) := by decide +kernel
theorem dX3_readGuest_115 : decode cX3_readGuest 115 = .ok (.ifCond .ne 5, 3) := by decide +kernel
theorem dX3_readGuest_118 : decode cX3_readGuest 118 = .ok (.iconst 0, 1) := by decide +kernel
theorem dX3_readGuest_119 : decode cX3_readGuest 119 = .ok (.ireturn, 1) := by decide +kernel
theorem dX3_readGuest_120 : decode cX3_readGuest 120 = .ok (.aload_n 0, 1) := by decide +kernel
theorem dX3_readGuest_121 : decode cX3_readGuest 121 = .ok (.getfield 18, 3) := by decide +kernel
theorem dX3_readGuest_124 : decode cX3_readGuest 124 = .ok (.getfield 96, 3) := by decide +kernel
theorem dX3_readGuest_127 : decode cX3_readGuest 127 = .ok (.iload_n 1, 1) := by decide +kernel
theorem dX3_readGuest_128 : decode cX3_readGuest 128 = .ok (.aload_n 0, 1) := by decide +kernel
theorem dX3_readGuest_129 : decode cX3_readGuest 129 = .ok (.getfield 9, 3) := by decide +kernel
theorem dX3_readGuest_132 : decode cX3_readGuest 132 = .ok (.getfield 75, 3) := by decide +kernel
theorem dX3_readGuest_135 : decode cX3_readGuest 135 = .ok (.iastore, 1) := by decide +kernel
theorem dX3_readGuest_136 : decode cX3_readGuest 136 = .ok (.aload_n 0, 1) := by decide +kernel
theorem dX3_readGuest_137 : decode cX3_readGuest 137 = .ok (.getfield 9, 3) := by decide +kernel
theorem dX3_readGuest_140 : decode cX3_readGuest 140 = .ok (.iconst 0, 1) := by decide +kernel
theorem dX3_readGuest_141 : decode cX3_readGuest 141 = .ok (.bipush 9, 2) := by decide +kernel
theorem dX3_readGuest_143 : decode cX3_readGuest 143 = .ok (.invokevirtual 71, 3) := by decide +kernel
theorem dX3_readGuest_146 : decode cX3_readGuest 146 = .ok (.ifCond .ne 5, 3) := by decide +kernel
theorem dX3_readGuest_149 : decode cX3_readGuest 149 = .ok (.iconst 0, 1) := by decide +kernel
theorem dX3_readGuest_150 : decode cX3_readGuest 150 = .ok (.ireturn, 1) := by decide +kernel
theorem dX3_readGuest_151 : decode cX3_readGuest 151 = .ok (.aload_n 0, 1) := by decide +kernel
theorem dX3_readGuest_152 : decode cX3_readGuest 152 = .ok (.getfield 18, 3) := by decide +kernel
theorem dX3_readGuest_155 : decode cX3_readGuest 155 = .ok (.getfield 99, 3) := by decide +kernel
theorem dX3_readGuest_158 : decode cX3_readGuest 158 = .ok (.iload_n 1, 1) := by decide +kernel
theorem dX3_readGuest_159 : decode cX3_readGuest 159 = .ok (.aload_n 0, 1) := by decide +kernel
theorem dX3_readGuest_160 : decode cX3_readGuest 160 = .ok (.getfield 9, 3) := by decide +kernel
theorem dX3_readGuest_163 : decode cX3_readGuest 163 = .ok (.getfield 75, 3) := by decide +kernel
theorem dX3_readGuest_166 : decode cX3_readGuest 166 = .ok (.iastore, 1) := by decide +kernel
theorem dX3_readGuest_167 : decode cX3_readGuest 167 = .ok (.aload_n 0, 1) := by decide +kernel
theorem dX3_readGuest_168 : decode cX3_readGuest 168 = .ok (.getfield 9, 3) := by decide +kernel
theorem dX3_readGuest_171 : decode cX3_readGuest 171 = .ok (.iconst 0, 1) := by decide +kernel
theorem dX3_readGuest_172 : decode cX3_readGuest 172 = .ok (.aload_n 0, 1) := by decide +kernel
theorem dX3_readGuest_173 : decode cX3_readGuest 173 = .ok (.getfield 18, 3) := by decide +kernel
theorem dX3_readGuest_176 : decode cX3_readGuest 176 = .ok (.getfield 78, 3) := by decide +kernel
theorem dX3_readGuest_179 : decode cX3_readGuest 179 = .ok (.iconst 1, 1) := by decide +kernel
theorem dX3_readGuest_180 : decode cX3_readGuest 180 = .ok (.isub, 1) := by decide +kernel
theorem dX3_readGuest_181 : decode cX3_readGuest 181 = .ok (.invokevirtual 71, 3) := by decide +kernel
theorem dX3_readGuest_184 : decode cX3_readGuest 184 = .ok (.ifCond .ne 5, 3) := by decide +kernel
theorem dX3_readGuest_187 : decode cX3_readGuest 187 = .ok (.iconst 0, 1) := by decide +kernel
theorem dX3_readGuest_188 : decode cX3_readGuest 188 = .ok (.ireturn, 1) := by decide +kernel
theorem dX3_readGuest_189 : decode cX3_readGuest 189 = .ok (.aload_n 0, 1) := by decide +kernel
theorem dX3_readGuest_190 : decode cX3_readGuest 190 = .ok (.getfield 18, 3) := by decide +kernel
theorem dX3_readGuest_193 : decode cX3_readGuest 193 = .ok (.getfield 102, 3) := by decide +kernel
theorem dX3_readGuest_196 : decode cX3_readGuest 196 = .ok (.iload_n 1, 1) := by decide +kernel
theorem dX3_readGuest_197 : decode cX3_readGuest 197 = .ok (.aload_n 0, 1) := by decide +kernel
theorem dX3_readGuest_198 : decode cX3_readGuest 198 = .ok (.getfield 9, 3) := by decide +kernel
theorem dX3_readGuest_201 : decode cX3_readGuest 201 = .ok (.getfield 75, 3) := by decide +kernel
theorem dX3_readGuest_204 : decode cX3_readGuest 204 = .ok (.iastore, 1) := by decide +kernel
theorem dX3_readGuest_205 : decode cX3_readGuest 205 = .ok (.aload_n 0, 1) := by decide +kernel
theorem dX3_readGuest_206 : decode cX3_readGuest 206 = .ok (.getfield 18, 3) := by decide +kernel
theorem dX3_readGuest_209 : decode cX3_readGuest 209 = .ok (.getfield 105, 3) := by decide +kernel
theorem dX3_readGuest_212 : decode cX3_readGuest 212 = .ok (.iload_n 1, 1) := by decide +kernel
theorem dX3_readGuest_213 : decode cX3_readGuest 213 = .ok (.iload_n 1, 1) := by decide +kernel
theorem dX3_readGuest_214 : decode cX3_readGuest 214 = .ok (.iastore, 1) := by decide +kernel
theorem dX3_readGuest_215 : decode cX3_readGuest 215 = .ok (.aload_n 0, 1) := by decide +kernel
theorem dX3_readGuest_216 : decode cX3_readGuest 216 = .ok (.getfield 18, 3) := by decide +kernel
theorem dX3_readGuest_219 : decode cX3_readGuest 219 = .ok (.dup, 1) := by decide +kernel
theorem dX3_readGuest_220 : decode cX3_readGuest 220 = .ok (.getfield 65, 3) := by decide +kernel
theorem dX3_readGuest_223 : decode cX3_readGuest 223 = .ok (.iconst 1, 1) := by decide +kernel
theorem dX3_readGuest_224 : decode cX3_readGuest 224 = .ok (.iadd, 1) := by decide +kernel
theorem dX3_readGuest_225 : decode cX3_readGuest 225 = .ok (.putfield 65, 3) := by decide +kernel
theorem dX3_readGuest_228 : decode cX3_readGuest 228 = .ok (.iconst 1, 1) := by decide +kernel
theorem dX3_readGuest_229 : decode cX3_readGuest 229 = .ok (.ireturn, 1) := by decide +kernel
set_option maxRecDepth 20000 in
theorem ggX3_readDish_X6_refuse : GoodIn wsX3_readDish wsX6_refuse := goodIn_r _ [12, 13, 14, 15, 93, 94, 95, 96, 97, 98, 99, 100, 101, 102, 103, 104] (by decide +kernel) (by decide +kernel)
set_option maxRecDepth 20000 in
theorem gX3_readDish_X6_refuse : GoodIn wsX3_readDish (wsV RX3 58 RX6 yX6_refuse wsX6_refuse) := goodIn_app (goodIn_of _ (by decide +kernel)) ggX3_readDish_X6_refuse
set_option maxRecDepth 20000 in
theorem ggX3_readDish_X6_step : GoodIn wsX3_readDish wsX6_step := goodIn_r _ [19, 20, 21, 22, 23, 24, 25, 26, 27, 14, 28, 29, 30, 31, 32, 33, 34, 35, 36, 37, 38, 39, 40, 11, 41, 42, 43, 44, 45, 46, 47, 48, 49, 93, 94, 95, 96, 97, 98, 99, 100, 101, 102, 103, 104, 105, 106] (by decide +kernel) (by decide +kernel)
set_option maxRecDepth 20000 in
theorem gX3_readDish_X6_step : GoodIn wsX3_readDish (wsV RX3 68 RX6 yX6_step wsX6_step) := goodIn_app (goodIn_of _ (by decide +kernel)) ggX3_readDish_X6_step
set_option maxRecDepth 20000 in
theorem ggX3_readDish_X3_isNewName : GoodIn wsX3_readDish wsX3_isNewName := goodIn_r _ [54, 3, 1, 5, 55, 56, 57, 11, 58, 29, 28, 8, 9, 10, 12, 13, 14, 15, 59, 60, 61, 62, 63, 64, 65, 66, 67, 68, 69, 70, 71, 79, 80, 81, 93, 94, 95, 96, 97, 98, 99, 100, 101, 102, 103, 104, 82, 83, 84, 85, 86, 87, 88, 89, 90, 91, 92] (by decide +kernel) (by decide +kernel)
set_option maxRecDepth 20000 in
theorem gX3_readDish_X3_isNewName : GoodIn wsX3_readDish (wsV RX3 81 RX3 yX3_isNewName wsX3_isNewName) := goodIn_app (goodIn_of _ (by decide +kernel)) ggX3_readDish_X3_isNewName
set_option maxRecDepth 20000 in
theorem ggX3_readDish_X6_takeNumber : GoodIn wsX3_readDish wsX6_takeNumber := goodIn_r _ [75, 29, 42, 76, 77, 9, 10, 11, 12, 13, 14, 15, 78, 17, 18, 19, 20, 21, 22, 23, 24, 25, 26, 27, 28, 30, 31, 32, 33, 34, 35, 36, 37, 38, 39, 40, 41, 43, 44, 45, 46, 47, 48, 49, 93, 94, 95, 96, 97, 98, 99, 100, 101, 102, 103, 104, 105, 106] (by decide +kernel) (by decide +kernel)
set_option maxRecDepth 20000 in
theorem gX3_readDish_X6_takeNumber : GoodIn wsX3_readDish (wsV RX3 71 RX6 yX6_takeNumber wsX6_takeNumber) := goodIn_app (goodIn_of _ (by decide +kernel)) ggX3_readDish_X6_takeNumber
theorem dX3_readDish_0 : decode cX3_readDish 0 = .ok (.aload_n 0, 1) := by decide +kernel
theorem dX3_readDish_1 : decode cX3_readDish 1 = .ok (.getfield 18, 3) := by decide +kernel
theorem dX3_readDish_4 : decode cX3_readDish 4 = .ok (.getfield 108, 3) := by decide +kernel
theorem dX3_readDish_7 : decode cX3_readDish 7 = .ok (.istore_n 1, 1) := by decide +kernel
theorem dX3_readDish_8 : decode cX3_readDish 8 = .ok (.iload_n 1, 1) := by decide +kernel
theorem dX3_readDish_9 : decode cX3_readDish 9 = .ok (.bipush 6, 2) := by decide +kernel
theorem dX3_readDish_11 : decode cX3_readDish 11 = .ok (.if_icmp .lt 12, 3) := by decide +kernel
theorem dX3_readDish_14 : decode cX3_readDish 14 = .ok (.aload_n 0, 1) := by decide +kernel
theorem dX3_readDish_15 : decode cX3_readDish 15 = .ok (.getfield 9, 3) := by decide +kernel
theorem dX3_readDish_18 : decode cX3_readDish 18 = .ok (.iconst 4, 1) := by decide +kernel
theorem dX3_readDish_19 : decode cX3_readDish 19 = .ok (.invokevirtual 58, 3) := by decide +kernel
theorem dX3_readDish_22 : decode cX3_readDish 22 = .ok (.ireturn, 1) := by decide +kernel
theorem dX3_readDish_23 : decode cX3_readDish 23 = .ok (.aload_n 0, 1) := by decide +kernel
theorem dX3_readDish_24 : decode cX3_readDish 24 = .ok (.getfield 9, 3) := by decide +kernel
theorem dX3_readDish_27 : decode cX3_readDish 27 = .ok (.invokevirtual 68, 3) := by decide +kernel
theorem dX3_readDish_30 : decode cX3_readDish 30 = .ok (.aload_n 0, 1) := by decide +kernel
theorem dX3_readDish_31 : decode cX3_readDish 31 = .ok (.invokevirtual 81, 3) := by decide +kernel
theorem dX3_readDish_34 : decode cX3_readDish 34 = .ok (.ifCond .ne 5, 3) := by decide +kernel
theorem dX3_readDish_37 : decode cX3_readDish 37 = .ok (.iconst 0, 1) := by decide +kernel
theorem dX3_readDish_38 : decode cX3_readDish 38 = .ok (.ireturn, 1) := by decide +kernel
theorem dX3_readDish_39 : decode cX3_readDish 39 = .ok (.aload_n 0, 1) := by decide +kernel
theorem dX3_readDish_40 : decode cX3_readDish 40 = .ok (.getfield 18, 3) := by decide +kernel
theorem dX3_readDish_43 : decode cX3_readDish 43 = .ok (.getfield 111, 3) := by decide +kernel
theorem dX3_readDish_46 : decode cX3_readDish 46 = .ok (.iload_n 1, 1) := by decide +kernel
theorem dX3_readDish_47 : decode cX3_readDish 47 = .ok (.aload_n 0, 1) := by decide +kernel
theorem dX3_readDish_48 : decode cX3_readDish 48 = .ok (.getfield 9, 3) := by decide +kernel
theorem dX3_readDish_51 : decode cX3_readDish 51 = .ok (.getfield 88, 3) := by decide +kernel
theorem dX3_readDish_54 : decode cX3_readDish 54 = .ok (.lastore, 1) := by decide +kernel
theorem dX3_readDish_55 : decode cX3_readDish 55 = .ok (.aload_n 0, 1) := by decide +kernel
theorem dX3_readDish_56 : decode cX3_readDish 56 = .ok (.getfield 9, 3) := by decide +kernel
theorem dX3_readDish_59 : decode cX3_readDish 59 = .ok (.invokevirtual 68, 3) := by decide +kernel
theorem dX3_readDish_62 : decode cX3_readDish 62 = .ok (.aload_n 0, 1) := by decide +kernel
theorem dX3_readDish_63 : decode cX3_readDish 63 = .ok (.getfield 9, 3) := by decide +kernel
theorem dX3_readDish_66 : decode cX3_readDish 66 = .ok (.iconst 1, 1) := by decide +kernel
theorem dX3_readDish_67 : decode cX3_readDish 67 = .ok (.bipush 99, 2) := by decide +kernel
theorem dX3_readDish_69 : decode cX3_readDish 69 = .ok (.invokevirtual 71, 3) := by decide +kernel
theorem dX3_readDish_72 : decode cX3_readDish 72 = .ok (.ifCond .ne 5, 3) := by decide +kernel
theorem dX3_readDish_75 : decode cX3_readDish 75 = .ok (.iconst 0, 1) := by decide +kernel
theorem dX3_readDish_76 : decode cX3_readDish 76 = .ok (.ireturn, 1) := by decide +kernel
theorem dX3_readDish_77 : decode cX3_readDish 77 = .ok (.aload_n 0, 1) := by decide +kernel
theorem dX3_readDish_78 : decode cX3_readDish 78 = .ok (.getfield 18, 3) := by decide +kernel
theorem dX3_readDish_81 : decode cX3_readDish 81 = .ok (.getfield 114, 3) := by decide +kernel
theorem dX3_readDish_84 : decode cX3_readDish 84 = .ok (.iload_n 1, 1) := by decide +kernel
theorem dX3_readDish_85 : decode cX3_readDish 85 = .ok (.aload_n 0, 1) := by decide +kernel
theorem dX3_readDish_86 : decode cX3_readDish 86 = .ok (.getfield 9, 3) := by decide +kernel
theorem dX3_readDish_89 : decode cX3_readDish 89 = .ok (.getfield 75, 3) := by decide +kernel
theorem dX3_readDish_92 : decode cX3_readDish 92 = .ok (.iastore, 1) := by decide +kernel
theorem dX3_readDish_93 : decode cX3_readDish 93 = .ok (.aload_n 0, 1) := by decide +kernel
theorem dX3_readDish_94 : decode cX3_readDish 94 = .ok (.getfield 18, 3) := by decide +kernel
theorem dX3_readDish_97 : decode cX3_readDish 97 = .ok (.dup, 1) := by decide +kernel
theorem dX3_readDish_98 : decode cX3_readDish 98 = .ok (.getfield 108, 3) := by decide +kernel
theorem dX3_readDish_101 : decode cX3_readDish 101 = .ok (.iconst 1, 1) := by decide +kernel
theorem dX3_readDish_102 : decode cX3_readDish 102 = .ok (.iadd, 1) := by decide +kernel
theorem dX3_readDish_103 : decode cX3_readDish 103 = .ok (.putfield 108, 3) := by decide +kernel
theorem dX3_readDish_106 : decode cX3_readDish 106 = .ok (.iconst 1, 1) := by decide +kernel
theorem dX3_readDish_107 : decode cX3_readDish 107 = .ok (.ireturn, 1) := by decide +kernel
set_option maxRecDepth 20000 in
theorem ggX3_readPays_X6_step : GoodIn wsX3_readPays wsX6_step := goodIn_r _ [10, 11, 12, 13, 14, 15, 16, 17, 18, 19, 20, 21, 22, 23, 24, 25, 26, 27, 28, 29, 30, 31, 32, 9, 33, 34, 35, 36, 37, 38, 39, 40, 41, 70, 71, 72, 73, 74, 75, 76, 77, 78, 79, 80, 81, 93, 94] (by decide +kernel) (by decide +kernel)
set_option maxRecDepth 20000 in
theorem gX3_readPays_X6_step : GoodIn wsX3_readPays (wsV RX3 68 RX6 yX6_step wsX6_step) := goodIn_app (goodIn_of _ (by decide +kernel)) ggX3_readPays_X6_step
set_option maxRecDepth 20000 in
theorem ggX3_readPays_X2_guestNamed : GoodIn wsX3_readPays wsX2_guestNamed := goodIn_r _ [46, 47, 48, 82, 83, 84, 85, 86, 87, 88, 89, 90, 91, 92] (by decide +kernel) (by decide +kernel)
set_option maxRecDepth 20000 in
theorem gX3_readPays_X2_guestNamed : GoodIn wsX3_readPays (wsV RX3 117 RX2 yX2_guestNamed wsX2_guestNamed) := goodIn_app (goodIn_of _ (by decide +kernel)) ggX3_readPays_X2_guestNamed
set_option maxRecDepth 20000 in
theorem ggX3_readPays_X6_takeNamed : GoodIn wsX3_readPays wsX6_takeNamed := goodIn_r _ [52, 53, 54, 55, 56, 9, 57, 21, 20, 58, 59, 60, 61, 62, 19, 63, 64, 7, 8, 10, 11, 12, 13, 14, 15, 16, 17, 18, 22, 23, 24, 25, 26, 27, 28, 29, 30, 31, 32, 33, 34, 35, 36, 37, 38, 39, 40, 41, 70, 71, 72, 73, 74, 75, 76, 77, 78, 79, 80, 81, 93, 94] (by decide +kernel) (by decide +kernel)
set_option maxRecDepth 20000 in
theorem gX3_readPays_X6_takeNamed : GoodIn wsX3_readPays (wsV RX3 121 RX6 yX6_takeNamed wsX6_takeNamed) := goodIn_app (goodIn_of _ (by decide +kernel)) ggX3_readPays_X6_takeNamed
set_option maxRecDepth 20000 in
theorem ggX3_readPays_X6_isName : GoodIn wsX3_readPays wsX6_isName := goodIn_r _ [57, 21, 20, 70, 71, 72, 73, 74, 75, 76, 77, 78, 79, 80, 81] (by decide +kernel) (by decide +kernel)
set_option maxRecDepth 20000 in
theorem gX3_readPays_X6_isName : GoodIn wsX3_readPays (wsV RX3 124 RX6 yX6_isName wsX6_isName) := goodIn_app (goodIn_of _ (by decide +kernel)) ggX3_readPays_X6_isName
set_option maxRecDepth 20000 in
theorem ggX3_readPays_X6_refuse : GoodIn wsX3_readPays wsX6_refuse := goodIn_r _ [61, 62, 19, 63, 70, 71, 72, 73, 74, 75, 76, 77, 78, 79, 80, 81] (by decide +kernel) (by decide +kernel)
set_option maxRecDepth 20000 in
theorem gX3_readPays_X6_refuse : GoodIn wsX3_readPays (wsV RX3 58 RX6 yX6_refuse wsX6_refuse) := goodIn_app (goodIn_of _ (by decide +kernel)) ggX3_readPays_X6_refuse
theorem dX3_readPays_0 : decode cX3_readPays 0 = .ok (.aload_n 0, 1) := by decide +kernel
theorem dX3_readPays_1 : decode cX3_readPays 1 = .ok (.getfield 9, 3) := by decide +kernel
theorem dX3_readPays_4 : decode cX3_readPays 4 = .ok (.invokevirtual 68, 3) := by decide +kernel
theorem dX3_readPays_7 : decode cX3_readPays 7 = .ok (.aload_n 0, 1) := by decide +kernel
theorem dX3_readPays_8 : decode cX3_readPays 8 = .ok (.getfield 9, 3) := by decide +kernel
theorem dX3_readPays_11 : decode cX3_readPays 11 = .ok (.aload_n 0, 1) := by decide +kernel
theorem dX3_readPays_12 : decode cX3_readPays 12 = .ok (.getfield 18, 3) := by decide +kernel
theorem dX3_readPays_15 : decode cX3_readPays 15 = .ok (.aload_n 0, 1) := by decide +kernel
theorem dX3_readPays_16 : decode cX3_readPays 16 = .ok (.getfield 9, 3) := by decide +kernel
theorem dX3_readPays_19 : decode cX3_readPays 19 = .ok (.getfield 88, 3) := by decide +kernel
theorem dX3_readPays_22 : decode cX3_readPays 22 = .ok (.invokevirtual 117, 3) := by decide +kernel
theorem dX3_readPays_25 : decode cX3_readPays 25 = .ok (.invokevirtual 121, 3) := by decide +kernel
theorem dX3_readPays_28 : decode cX3_readPays 28 = .ok (.ifCond .ne 5, 3) := by decide +kernel
theorem dX3_readPays_31 : decode cX3_readPays 31 = .ok (.iconst 0, 1) := by decide +kernel
theorem dX3_readPays_32 : decode cX3_readPays 32 = .ok (.ireturn, 1) := by decide +kernel
theorem dX3_readPays_33 : decode cX3_readPays 33 = .ok (.aload_n 0, 1) := by decide +kernel
theorem dX3_readPays_34 : decode cX3_readPays 34 = .ok (.getfield 9, 3) := by decide +kernel
theorem dX3_readPays_37 : decode cX3_readPays 37 = .ok (.getfield 75, 3) := by decide +kernel
theorem dX3_readPays_40 : decode cX3_readPays 40 = .ok (.istore_n 1, 1) := by decide +kernel
theorem dX3_readPays_41 : decode cX3_readPays 41 = .ok (.aload_n 0, 1) := by decide +kernel
theorem dX3_readPays_42 : decode cX3_readPays 42 = .ok (.getfield 9, 3) := by decide +kernel
theorem dX3_readPays_45 : decode cX3_readPays 45 = .ok (.invokevirtual 124, 3) := by decide +kernel
theorem dX3_readPays_48 : decode cX3_readPays 48 = .ok (.ifCond .eq 20, 3) := by decide +kernel
theorem dX3_readPays_51 : decode cX3_readPays 51 = .ok (.aload_n 0, 1) := by decide +kernel
theorem dX3_readPays_52 : decode cX3_readPays 52 = .ok (.getfield 18, 3) := by decide +kernel
theorem dX3_readPays_55 : decode cX3_readPays 55 = .ok (.aload_n 0, 1) := by decide +kernel
theorem dX3_readPays_56 : decode cX3_readPays 56 = .ok (.getfield 9, 3) := by decide +kernel
theorem dX3_readPays_59 : decode cX3_readPays 59 = .ok (.getfield 88, 3) := by decide +kernel
theorem dX3_readPays_62 : decode cX3_readPays 62 = .ok (.invokevirtual 117, 3) := by decide +kernel
theorem dX3_readPays_65 : decode cX3_readPays 65 = .ok (.goto 4, 3) := by decide +kernel
theorem dX3_readPays_68 : decode cX3_readPays 68 = .ok (.iconst (-1), 1) := by decide +kernel
theorem dX3_readPays_69 : decode cX3_readPays 69 = .ok (.istore_n 2, 1) := by decide +kernel
theorem dX3_readPays_70 : decode cX3_readPays 70 = .ok (.iload_n 2, 1) := by decide +kernel
theorem dX3_readPays_71 : decode cX3_readPays 71 = .ok (.iconst (-1), 1) := by decide +kernel
theorem dX3_readPays_72 : decode cX3_readPays 72 = .ok (.if_icmp .eq 30, 3) := by decide +kernel
theorem dX3_readPays_75 : decode cX3_readPays 75 = .ok (.iload_n 2, 1) := by decide +kernel
theorem dX3_readPays_76 : decode cX3_readPays 76 = .ok (.iload_n 1, 1) := by decide +kernel
theorem dX3_readPays_77 : decode cX3_readPays 77 = .ok (.if_icmp .eq 16, 3) := by decide +kernel
theorem dX3_readPays_80 : decode cX3_readPays 80 = .ok (.aload_n 0, 1) := by decide +kernel
theorem dX3_readPays_81 : decode cX3_readPays 81 = .ok (.getfield 18, 3) := by decide +kernel
theorem dX3_readPays_84 : decode cX3_readPays 84 = .ok (.getfield 105, 3) := by decide +kernel
theorem dX3_readPays_87 : decode cX3_readPays 87 = .ok (.iload_n 2, 1) := by decide +kernel
theorem dX3_readPays_88 : decode cX3_readPays 88 = .ok (.iaload, 1) := by decide +kernel
theorem dX3_readPays_89 : decode cX3_readPays 89 = .ok (.iload_n 2, 1) := by decide +kernel
theorem dX3_readPays_90 : decode cX3_readPays 90 = .ok (.if_icmp .eq 12, 3) := by decide +kernel
theorem dX3_readPays_93 : decode cX3_readPays 93 = .ok (.aload_n 0, 1) := by decide +kernel
theorem dX3_readPays_94 : decode cX3_readPays 94 = .ok (.getfield 9, 3) := by decide +kernel
theorem dX3_readPays_97 : decode cX3_readPays 97 = .ok (.iconst 3, 1) := by decide +kernel
theorem dX3_readPays_98 : decode cX3_readPays 98 = .ok (.invokevirtual 58, 3) := by decide +kernel
theorem dX3_readPays_101 : decode cX3_readPays 101 = .ok (.ireturn, 1) := by decide +kernel
theorem dX3_readPays_102 : decode cX3_readPays 102 = .ok (.aload_n 0, 1) := by decide +kernel
theorem dX3_readPays_103 : decode cX3_readPays 103 = .ok (.getfield 9, 3) := by decide +kernel
theorem dX3_readPays_106 : decode cX3_readPays 106 = .ok (.aload_n 0, 1) := by decide +kernel
theorem dX3_readPays_107 : decode cX3_readPays 107 = .ok (.getfield 18, 3) := by decide +kernel
theorem dX3_readPays_110 : decode cX3_readPays 110 = .ok (.aload_n 0, 1) := by decide +kernel
theorem dX3_readPays_111 : decode cX3_readPays 111 = .ok (.getfield 9, 3) := by decide +kernel
theorem dX3_readPays_114 : decode cX3_readPays 114 = .ok (.getfield 88, 3) := by decide +kernel
theorem dX3_readPays_117 : decode cX3_readPays 117 = .ok (.invokevirtual 117, 3) := by decide +kernel
theorem dX3_readPays_120 : decode cX3_readPays 120 = .ok (.invokevirtual 121, 3) := by decide +kernel
theorem dX3_readPays_123 : decode cX3_readPays 123 = .ok (.ifCond .ne 5, 3) := by decide +kernel
theorem dX3_readPays_126 : decode cX3_readPays 126 = .ok (.iconst 0, 1) := by decide +kernel
theorem dX3_readPays_127 : decode cX3_readPays 127 = .ok (.ireturn, 1) := by decide +kernel
theorem dX3_readPays_128 : decode cX3_readPays 128 = .ok (.aload_n 0, 1) := by decide +kernel
theorem dX3_readPays_129 : decode cX3_readPays 129 = .ok (.getfield 18, 3) := by decide +kernel
theorem dX3_readPays_132 : decode cX3_readPays 132 = .ok (.getfield 105, 3) := by decide +kernel
theorem dX3_readPays_135 : decode cX3_readPays 135 = .ok (.aload_n 0, 1) := by decide +kernel
theorem dX3_readPays_136 : decode cX3_readPays 136 = .ok (.getfield 9, 3) := by decide +kernel
theorem dX3_readPays_139 : decode cX3_readPays 139 = .ok (.getfield 75, 3) := by decide +kernel
theorem dX3_readPays_142 : decode cX3_readPays 142 = .ok (.iload_n 1, 1) := by decide +kernel
theorem dX3_readPays_143 : decode cX3_readPays 143 = .ok (.iastore, 1) := by decide +kernel
theorem dX3_readPays_144 : decode cX3_readPays 144 = .ok (.iconst 1, 1) := by decide +kernel
theorem dX3_readPays_145 : decode cX3_readPays 145 = .ok (.ireturn, 1) := by decide +kernel
set_option maxRecDepth 20000 in
theorem ggX3_isNewName_X6_isName : GoodIn wsX3_isNewName wsX6_isName := goodIn_r _ [8, 9, 10, 34, 35, 36, 37, 38, 39, 40, 41, 42, 43, 44, 45] (by decide +kernel) (by decide +kernel)
set_option maxRecDepth 20000 in
theorem gX3_isNewName_X6_isName : GoodIn wsX3_isNewName (wsV RX3 124 RX6 yX6_isName wsX6_isName) := goodIn_app (goodIn_of _ (by decide +kernel)) ggX3_isNewName_X6_isName
set_option maxRecDepth 20000 in
theorem ggX3_isNewName_X6_refuse : GoodIn wsX3_isNewName wsX6_refuse := goodIn_r _ [14, 15, 16, 17, 34, 35, 36, 37, 38, 39, 40, 41, 42, 43, 44, 45] (by decide +kernel) (by decide +kernel)
set_option maxRecDepth 20000 in
theorem gX3_isNewName_X6_refuse : GoodIn wsX3_isNewName (wsV RX3 58 RX6 yX6_refuse wsX6_refuse) := goodIn_app (goodIn_of _ (by decide +kernel)) ggX3_isNewName_X6_refuse
set_option maxRecDepth 20000 in
theorem ggX3_isNewName_X2_guestNamed : GoodIn wsX3_isNewName wsX2_guestNamed := goodIn_r _ [22, 23, 24, 46, 47, 48, 49, 50, 51, 52, 53, 54, 55, 56] (by decide +kernel) (by decide +kernel)
set_option maxRecDepth 20000 in
theorem gX3_isNewName_X2_guestNamed : GoodIn wsX3_isNewName (wsV RX3 117 RX2 yX2_guestNamed wsX2_guestNamed) := goodIn_app (goodIn_of _ (by decide +kernel)) ggX3_isNewName_X2_guestNamed
set_option maxRecDepth 20000 in
theorem ggX3_isNewName_X2_dishNamed : GoodIn wsX3_isNewName wsX2_dishNamed := goodIn_r _ [28, 29, 30, 46, 47, 48, 49, 50, 51, 52, 53, 54, 55, 56] (by decide +kernel) (by decide +kernel)
set_option maxRecDepth 20000 in
theorem gX3_isNewName_X2_dishNamed : GoodIn wsX3_isNewName (wsV RX3 127 RX2 yX2_dishNamed wsX2_dishNamed) := goodIn_app (goodIn_of _ (by decide +kernel)) ggX3_isNewName_X2_dishNamed
theorem dX3_isNewName_0 : decode cX3_isNewName 0 = .ok (.aload_n 0, 1) := by decide +kernel
theorem dX3_isNewName_1 : decode cX3_isNewName 1 = .ok (.getfield 9, 3) := by decide +kernel
theorem dX3_isNewName_4 : decode cX3_isNewName 4 = .ok (.invokevirtual 124, 3) := by decide +kernel
theorem dX3_isNewName_7 : decode cX3_isNewName 7 = .ok (.ifCond .ne 12, 3) := by decide +kernel
theorem dX3_isNewName_10 : decode cX3_isNewName 10 = .ok (.aload_n 0, 1) := by decide +kernel
theorem dX3_isNewName_11 : decode cX3_isNewName 11 = .ok (.getfield 9, 3) := by decide +kernel
theorem dX3_isNewName_14 : decode cX3_isNewName 14 = .ok (.iconst 1, 1) := by decide +kernel
theorem dX3_isNewName_15 : decode cX3_isNewName 15 = .ok (.invokevirtual 58, 3) := by decide +kernel
theorem dX3_isNewName_18 : decode cX3_isNewName 18 = .ok (.ireturn, 1) := by decide +kernel
theorem dX3_isNewName_19 : decode cX3_isNewName 19 = .ok (.aload_n 0, 1) := by decide +kernel
theorem dX3_isNewName_20 : decode cX3_isNewName 20 = .ok (.getfield 18, 3) := by decide +kernel
theorem dX3_isNewName_23 : decode cX3_isNewName 23 = .ok (.aload_n 0, 1) := by decide +kernel
theorem dX3_isNewName_24 : decode cX3_isNewName 24 = .ok (.getfield 9, 3) := by decide +kernel
theorem dX3_isNewName_27 : decode cX3_isNewName 27 = .ok (.getfield 88, 3) := by decide +kernel
theorem dX3_isNewName_30 : decode cX3_isNewName 30 = .ok (.invokevirtual 117, 3) := by decide +kernel
theorem dX3_isNewName_33 : decode cX3_isNewName 33 = .ok (.iconst (-1), 1) := by decide +kernel
theorem dX3_isNewName_34 : decode cX3_isNewName 34 = .ok (.if_icmp .ne 21, 3) := by decide +kernel
theorem dX3_isNewName_37 : decode cX3_isNewName 37 = .ok (.aload_n 0, 1) := by decide +kernel
theorem dX3_isNewName_38 : decode cX3_isNewName 38 = .ok (.getfield 18, 3) := by decide +kernel
theorem dX3_isNewName_41 : decode cX3_isNewName 41 = .ok (.aload_n 0, 1) := by decide +kernel
theorem dX3_isNewName_42 : decode cX3_isNewName 42 = .ok (.getfield 9, 3) := by decide +kernel
theorem dX3_isNewName_45 : decode cX3_isNewName 45 = .ok (.getfield 88, 3) := by decide +kernel
theorem dX3_isNewName_48 : decode cX3_isNewName 48 = .ok (.invokevirtual 127, 3) := by decide +kernel
theorem dX3_isNewName_51 : decode cX3_isNewName 51 = .ok (.iconst (-1), 1) := by decide +kernel
theorem dX3_isNewName_52 : decode cX3_isNewName 52 = .ok (.if_icmp .eq 12, 3) := by decide +kernel
theorem dX3_isNewName_55 : decode cX3_isNewName 55 = .ok (.aload_n 0, 1) := by decide +kernel
theorem dX3_isNewName_56 : decode cX3_isNewName 56 = .ok (.getfield 9, 3) := by decide +kernel
theorem dX3_isNewName_59 : decode cX3_isNewName 59 = .ok (.iconst 3, 1) := by decide +kernel
theorem dX3_isNewName_60 : decode cX3_isNewName 60 = .ok (.invokevirtual 58, 3) := by decide +kernel
theorem dX3_isNewName_63 : decode cX3_isNewName 63 = .ok (.ireturn, 1) := by decide +kernel
theorem dX3_isNewName_64 : decode cX3_isNewName 64 = .ok (.iconst 1, 1) := by decide +kernel
theorem dX3_isNewName_65 : decode cX3_isNewName 65 = .ok (.ireturn, 1) := by decide +kernel
set_option maxRecDepth 20000 in
theorem ggX4_init_X2_init : GoodIn wsX4_init wsX2_init := goodIn_r _ [18, 19, 2, 3, 20, 21, 22, 23, 24, 25, 26, 27, 28, 29, 30, 51, 52, 53, 54, 55, 56, 57, 58, 59, 60, 61] (by decide +kernel) (by decide +kernel)
set_option maxRecDepth 20000 in
theorem gX4_init_X2_init : GoodIn wsX4_init (wsX2_init) := ggX4_init_X2_init
set_option maxRecDepth 20000 in
theorem ggX4_init_X1_init : GoodIn wsX4_init wsX1_init := goodIn_r _ [33, 34, 2, 3, 35, 22, 36, 37, 38, 39, 40, 41, 42, 66, 67, 68, 69, 70, 71, 72, 73, 74, 75, 76, 77, 78, 79, 80, 81] (by decide +kernel) (by decide +kernel)
set_option maxRecDepth 20000 in
theorem gX4_init_X1_init : GoodIn wsX4_init (wsX1_init) := ggX4_init_X1_init
set_option maxRecDepth 20000 in
theorem ggX4_init_X7_init : GoodIn wsX4_init wsX7_init := goodIn_r _ [45, 46, 2, 3, 22, 47, 48, 49, 50, 82, 83, 84, 85, 86, 87] (by decide +kernel) (by decide +kernel)
set_option maxRecDepth 20000 in
theorem gX4_init_X7_init : GoodIn wsX4_init (wsX7_init) := ggX4_init_X7_init
theorem dX4_init_0 : decode cX4_init 0 = .ok (.aload_n 0, 1) := by decide +kernel
theorem dX4_init_1 : decode cX4_init 1 = .ok (.invokespecial 1, 3) := by decide +kernel
theorem dX4_init_4 : decode cX4_init 4 = .ok (.aload_n 0, 1) := by decide +kernel
theorem dX4_init_5 : decode cX4_init 5 = .ok (.new 7, 3) := by decide +kernel
theorem dX4_init_8 : decode cX4_init 8 = .ok (.dup, 1) := by decide +kernel
theorem dX4_init_9 : decode cX4_init 9 = .ok (.invokespecial 9, 3) := by decide +kernel
theorem dX4_init_12 : decode cX4_init 12 = .ok (.putfield 10, 3) := by decide +kernel
theorem dX4_init_15 : decode cX4_init 15 = .ok (.aload_n 0, 1) := by decide +kernel
theorem dX4_init_16 : decode cX4_init 16 = .ok (.new 16, 3) := by decide +kernel
theorem dX4_init_19 : decode cX4_init 19 = .ok (.dup, 1) := by decide +kernel
theorem dX4_init_20 : decode cX4_init 20 = .ok (.aload_n 0, 1) := by decide +kernel
theorem dX4_init_21 : decode cX4_init 21 = .ok (.getfield 10, 3) := by decide +kernel
theorem dX4_init_24 : decode cX4_init 24 = .ok (.invokespecial 18, 3) := by decide +kernel
theorem dX4_init_27 : decode cX4_init 27 = .ok (.putfield 21, 3) := by decide +kernel
theorem dX4_init_30 : decode cX4_init 30 = .ok (.aload_n 0, 1) := by decide +kernel
theorem dX4_init_31 : decode cX4_init 31 = .ok (.new 25, 3) := by decide +kernel
theorem dX4_init_34 : decode cX4_init 34 = .ok (.dup, 1) := by decide +kernel
theorem dX4_init_35 : decode cX4_init 35 = .ok (.invokespecial 27, 3) := by decide +kernel
theorem dX4_init_38 : decode cX4_init 38 = .ok (.putfield 28, 3) := by decide +kernel
theorem dX4_init_41 : decode cX4_init 41 = .ok (.return_, 1) := by decide +kernel
theorem dX5_init_0 : decode cX5_init 0 = .ok (.aload_n 0, 1) := by decide +kernel
theorem dX5_init_1 : decode cX5_init 1 = .ok (.invokespecial 3, 3) := by decide +kernel
theorem dX5_init_4 : decode cX5_init 4 = .ok (.aload_n 0, 1) := by decide +kernel
theorem dX5_init_5 : decode cX5_init 5 = .ok (.aload_n 1, 1) := by decide +kernel
theorem dX5_init_6 : decode cX5_init 6 = .ok (.putfield 9, 3) := by decide +kernel
theorem dX5_init_9 : decode cX5_init 9 = .ok (.aload_n 0, 1) := by decide +kernel
theorem dX5_init_10 : decode cX5_init 10 = .ok (.aload_n 2, 1) := by decide +kernel
theorem dX5_init_11 : decode cX5_init 11 = .ok (.putfield 15, 3) := by decide +kernel
theorem dX5_init_14 : decode cX5_init 14 = .ok (.aload_n 0, 1) := by decide +kernel
theorem dX5_init_15 : decode cX5_init 15 = .ok (.bipush 40, 2) := by decide +kernel
theorem dX5_init_17 : decode cX5_init 17 = .ok (.newarray .int, 2) := by decide +kernel
theorem dX5_init_19 : decode cX5_init 19 = .ok (.putfield 19, 3) := by decide +kernel
theorem dX5_init_22 : decode cX5_init 22 = .ok (.aload_n 0, 1) := by decide +kernel
theorem dX5_init_23 : decode cX5_init 23 = .ok (.bipush 40, 2) := by decide +kernel
theorem dX5_init_25 : decode cX5_init 25 = .ok (.newarray .int, 2) := by decide +kernel
theorem dX5_init_27 : decode cX5_init 27 = .ok (.putfield 23, 3) := by decide +kernel
theorem dX5_init_30 : decode cX5_init 30 = .ok (.return_, 1) := by decide +kernel
set_option maxRecDepth 20000 in
theorem ggX5_read_X6_open : GoodIn wsX5_read wsX6_open := goodIn_r _ [8, 9, 10, 11, 12, 13, 14, 15, 7, 16, 17, 18, 19, 20, 21, 22, 23, 24, 25, 26, 27, 28, 29, 30, 31, 32, 33, 34, 35, 36, 37, 38, 39, 40, 41, 42, 43, 44, 45, 116, 117, 118, 119, 120, 121, 122, 123, 124, 125, 126, 127, 128, 129] (by decide +kernel) (by decide +kernel)
set_option maxRecDepth 20000 in
theorem gX5_read_X6_open : GoodIn wsX5_read (wsV RX5 26 RX6 yX6_open wsX6_open) := goodIn_app (goodIn_of _ (by decide +kernel)) ggX5_read_X6_open
set_option maxRecDepth 20000 in
theorem ggX5_read_X5_readLine : GoodIn wsX5_read wsX5_readLine := goodIn_r _ [50, 1, 51, 52, 53, 2, 54, 55, 56, 7, 57, 25, 24, 58, 59, 60, 61, 11, 23, 12, 62, 63, 64, 65, 66, 67, 68, 69, 70, 71, 49, 72, 73, 74, 75, 76, 77, 78, 79, 80, 81, 82, 13, 14, 15, 16, 17, 10, 18, 9, 19, 20, 21, 22, 26, 27, 28, 29, 30, 31, 32, 33, 34, 35, 36, 37, 38, 39, 40, 41, 42, 43, 44, 45, 83, 84, 85, 86, 87, 88, 89, 90, 91, 92, 93, 94, 95, 96, 97, 98, 99, 100, 101, 102, 103, 104, 105, 106, 107, 108, 109, 110, 111, 112, 113, 114, 115, 116, 117, 118, 119, 120, 121, 122, 123, 124, 125, 126, 127, 130, 131, 132, 133, 134, 135, 136, 137, 138, 139, 140, 128, 129] (by decide +kernel) (by decide +kernel)
set_option maxRecDepth 20000 in
theorem gX5_read_X5_readLine : GoodIn wsX5_read (wsV RX5 39 RX5 yX5_readLine wsX5_readLine) := goodIn_app (goodIn_of _ (by decide +kernel)) ggX5_read_X5_readLine
theorem dX5_read_0 : decode cX5_read 0 = .ok (.aload_n 0, 1) := by decide +kernel
theorem dX5_read_1 : decode cX5_read 1 = .ok (.getfield 9, 3) := by decide +kernel
theorem dX5_read_4 : decode cX5_read 4 = .ok (.sipush 400, 3) := by decide +kernel
theorem dX5_read_7 : decode cX5_read 7 = .ok (.invokevirtual 26, 3) := by decide +kernel
theorem dX5_read_10 : decode cX5_read 10 = .ok (.aload_n 0, 1) := by decide +kernel
theorem dX5_read_11 : decode cX5_read 11 = .ok (.iconst 0, 1) := by decide +kernel
theorem dX5_read_12 : decode cX5_read 12 = .ok (.putfield 32, 3) := by decide +kernel
theorem dX5_read_15 : decode cX5_read 15 = .ok (.iconst 0, 1) := by decide +kernel
theorem dX5_read_16 : decode cX5_read 16 = .ok (.istore_n 1, 1) := by decide +kernel
theorem dX5_read_17 : decode cX5_read 17 = .ok (.iload_n 1, 1) := by decide +kernel
theorem dX5_read_18 : decode cX5_read 18 = .ok (.bipush 40, 2) := by decide +kernel
theorem dX5_read_20 : decode cX5_read 20 = .ok (.if_icmp .gt 30, 3) := by decide +kernel
theorem dX5_read_23 : decode cX5_read 23 = .ok (.aload_n 0, 1) := by decide +kernel
theorem dX5_read_24 : decode cX5_read 24 = .ok (.getfield 9, 3) := by decide +kernel
theorem dX5_read_27 : decode cX5_read 27 = .ok (.getfield 36, 3) := by decide +kernel
theorem dX5_read_30 : decode cX5_read 30 = .ok (.ifCond .ne 5, 3) := by decide +kernel
theorem dX5_read_33 : decode cX5_read 33 = .ok (.iconst 1, 1) := by decide +kernel
theorem dX5_read_34 : decode cX5_read 34 = .ok (.ireturn, 1) := by decide +kernel
theorem dX5_read_35 : decode cX5_read 35 = .ok (.aload_n 0, 1) := by decide +kernel
theorem dX5_read_36 : decode cX5_read 36 = .ok (.invokevirtual 39, 3) := by decide +kernel
theorem dX5_read_39 : decode cX5_read 39 = .ok (.ifCond .ne 5, 3) := by decide +kernel
theorem dX5_read_42 : decode cX5_read 42 = .ok (.iconst 0, 1) := by decide +kernel
theorem dX5_read_43 : decode cX5_read 43 = .ok (.ireturn, 1) := by decide +kernel
theorem dX5_read_44 : decode cX5_read 44 = .ok (.iinc 1 1, 3) := by decide +kernel
theorem dX5_read_47 : decode cX5_read 47 = .ok (.goto (-30), 3) := by decide +kernel
theorem dX5_read_50 : decode cX5_read 50 = .ok (.iconst 0, 1) := by decide +kernel
theorem dX5_read_51 : decode cX5_read 51 = .ok (.ireturn, 1) := by decide +kernel
set_option maxRecDepth 20000 in
theorem ggX5_readLine_X6_isName : GoodIn wsX5_readLine wsX6_isName := goodIn_r _ [10, 11, 12, 107, 108, 109, 110, 111, 112, 113, 114, 115, 116, 117, 118] (by decide +kernel) (by decide +kernel)
set_option maxRecDepth 20000 in
theorem gX5_readLine_X6_isName : GoodIn wsX5_readLine (wsV RX5 46 RX6 yX6_isName wsX6_isName) := goodIn_app (goodIn_of _ (by decide +kernel)) ggX5_readLine_X6_isName
set_option maxRecDepth 20000 in
theorem ggX5_readLine_X6_refuse : GoodIn wsX5_readLine wsX6_refuse := goodIn_r _ [16, 17, 18, 19, 107, 108, 109, 110, 111, 112, 113, 114, 115, 116, 117, 118] (by decide +kernel) (by decide +kernel)
set_option maxRecDepth 20000 in
theorem gX5_readLine_X6_refuse : GoodIn wsX5_readLine (wsV RX5 49 RX6 yX6_refuse wsX6_refuse) := goodIn_app (goodIn_of _ (by decide +kernel)) ggX5_readLine_X6_refuse
set_option maxRecDepth 20000 in
theorem ggX5_readLine_X2_guestNamed : GoodIn wsX5_readLine wsX2_guestNamed := goodIn_r _ [24, 25, 26, 119, 120, 121, 122, 123, 124, 125, 126, 127, 128, 129] (by decide +kernel) (by decide +kernel)
set_option maxRecDepth 20000 in
theorem gX5_readLine_X2_guestNamed : GoodIn wsX5_readLine (wsV RX5 57 RX2 yX2_guestNamed wsX2_guestNamed) := goodIn_app (goodIn_of _ (by decide +kernel)) ggX5_readLine_X2_guestNamed
set_option maxRecDepth 20000 in
theorem ggX5_readLine_X5_readGuestDeed : GoodIn wsX5_readLine wsX5_readGuestDeed := goodIn_r _ [31, 1, 3, 4, 32, 5, 2, 33, 34, 20, 21, 22, 23, 24, 25, 26, 35, 36, 37, 9, 38, 39, 40, 7, 8, 10, 11, 12, 41, 14, 15, 16, 17, 18, 19, 42, 43, 44, 45, 46, 47, 48, 49, 50, 51, 52, 53, 54, 55, 56, 57, 58, 59, 60, 61, 62, 63, 64, 65, 66, 67, 68, 69, 70, 71, 72, 73, 74, 75, 76, 77, 13, 78, 97, 98, 99, 100, 101, 102, 103, 104, 105, 106, 107, 108, 109, 110, 111, 112, 113, 114, 115, 116, 117, 118, 119, 120, 121, 122, 123, 124, 125, 126, 127, 128, 129, 130, 131] (by decide +kernel) (by decide +kernel)
set_option maxRecDepth 20000 in
theorem gX5_readLine_X5_readGuestDeed : GoodIn wsX5_readLine (wsV RX5 63 RX5 yX5_readGuestDeed wsX5_readGuestDeed) := goodIn_app (goodIn_of _ (by decide +kernel)) ggX5_readLine_X5_readGuestDeed
set_option maxRecDepth 20000 in
theorem ggX5_readLine_X5_readOtherDeed : GoodIn wsX5_readLine wsX5_readOtherDeed := goodIn_r _ [82, 1, 3, 4, 32, 5, 33, 34, 78, 43, 44, 9, 45, 46, 47, 48, 49, 50, 51, 52, 53, 18, 12, 11, 54, 55, 56, 57, 58, 59, 60, 61, 62, 63, 64, 65, 66, 67, 68, 69, 70, 71, 72, 73, 83, 84, 85, 23, 86, 87, 88, 35, 36, 37, 38, 39, 40, 7, 8, 10, 41, 14, 15, 16, 17, 19, 42, 89, 90, 91, 92, 97, 98, 99, 100, 101, 102, 103, 104, 105, 106, 107, 108, 109, 110, 111, 112, 113, 114, 115, 116, 117, 118, 130, 131, 119, 120, 121, 122, 123, 124, 125, 126, 127, 128, 129] (by decide +kernel) (by decide +kernel)
set_option maxRecDepth 20000 in
theorem gX5_readLine_X5_readOtherDeed : GoodIn wsX5_readLine (wsV RX5 66 RX5 yX5_readOtherDeed wsX5_readOtherDeed) := goodIn_app (goodIn_of _ (by decide +kernel)) ggX5_readLine_X5_readOtherDeed
set_option maxRecDepth 20000 in
theorem ggX5_readLine_X6_takeSign : GoodIn wsX5_readLine wsX6_takeSign := goodIn_r _ [96, 11, 41, 14, 15, 9, 16, 17, 18, 19, 42, 43, 44, 45, 46, 47, 48, 49, 50, 51, 52, 53, 12, 54, 55, 56, 57, 58, 59, 60, 61, 62, 63, 64, 65, 66, 67, 68, 69, 70, 71, 72, 73, 107, 108, 109, 110, 111, 112, 113, 114, 115, 116, 117, 118, 130, 131] (by decide +kernel) (by decide +kernel)
set_option maxRecDepth 20000 in
theorem gX5_readLine_X6_takeSign : GoodIn wsX5_readLine (wsV RX5 69 RX6 yX6_takeSign wsX6_takeSign) := goodIn_app (goodIn_of _ (by decide +kernel)) ggX5_readLine_X6_takeSign
theorem dX5_readLine_0 : decode cX5_readLine 0 = .ok (.aload_n 0, 1) := by decide +kernel
theorem dX5_readLine_1 : decode cX5_readLine 1 = .ok (.getfield 9, 3) := by decide +kernel
theorem dX5_readLine_4 : decode cX5_readLine 4 = .ok (.getfield 43, 3) := by decide +kernel
theorem dX5_readLine_7 : decode cX5_readLine 7 = .ok (.istore_n 1, 1) := by decide +kernel
theorem dX5_readLine_8 : decode cX5_readLine 8 = .ok (.aload_n 0, 1) := by decide +kernel
theorem dX5_readLine_9 : decode cX5_readLine 9 = .ok (.getfield 9, 3) := by decide +kernel
theorem dX5_readLine_12 : decode cX5_readLine 12 = .ok (.invokevirtual 46, 3) := by decide +kernel
theorem dX5_readLine_15 : decode cX5_readLine 15 = .ok (.istore_n 2, 1) := by decide +kernel
theorem dX5_readLine_16 : decode cX5_readLine 16 = .ok (.iload_n 2, 1) := by decide +kernel
theorem dX5_readLine_17 : decode cX5_readLine 17 = .ok (.ifCond .ne 24, 3) := by decide +kernel
theorem dX5_readLine_20 : decode cX5_readLine 20 = .ok (.iload_n 1, 1) := by decide +kernel
theorem dX5_readLine_21 : decode cX5_readLine 21 = .ok (.bipush 6, 2) := by decide +kernel
theorem dX5_readLine_23 : decode cX5_readLine 23 = .ok (.if_icmp .lt 9, 3) := by decide +kernel
theorem dX5_readLine_26 : decode cX5_readLine 26 = .ok (.iload_n 1, 1) := by decide +kernel
theorem dX5_readLine_27 : decode cX5_readLine 27 = .ok (.bipush 9, 2) := by decide +kernel
theorem dX5_readLine_29 : decode cX5_readLine 29 = .ok (.if_icmp .le 12, 3) := by decide +kernel
theorem dX5_readLine_32 : decode cX5_readLine 32 = .ok (.aload_n 0, 1) := by decide +kernel
theorem dX5_readLine_33 : decode cX5_readLine 33 = .ok (.getfield 9, 3) := by decide +kernel
theorem dX5_readLine_36 : decode cX5_readLine 36 = .ok (.iconst 1, 1) := by decide +kernel
theorem dX5_readLine_37 : decode cX5_readLine 37 = .ok (.invokevirtual 49, 3) := by decide +kernel
theorem dX5_readLine_40 : decode cX5_readLine 40 = .ok (.ireturn, 1) := by decide +kernel
theorem dX5_readLine_41 : decode cX5_readLine 41 = .ok (.iload_n 2, 1) := by decide +kernel
theorem dX5_readLine_42 : decode cX5_readLine 42 = .ok (.ifCond .eq 30, 3) := by decide +kernel
theorem dX5_readLine_45 : decode cX5_readLine 45 = .ok (.aload_n 0, 1) := by decide +kernel
theorem dX5_readLine_46 : decode cX5_readLine 46 = .ok (.getfield 15, 3) := by decide +kernel
theorem dX5_readLine_49 : decode cX5_readLine 49 = .ok (.aload_n 0, 1) := by decide +kernel
theorem dX5_readLine_50 : decode cX5_readLine 50 = .ok (.getfield 9, 3) := by decide +kernel
theorem dX5_readLine_53 : decode cX5_readLine 53 = .ok (.getfield 53, 3) := by decide +kernel
theorem dX5_readLine_56 : decode cX5_readLine 56 = .ok (.invokevirtual 57, 3) := by decide +kernel
theorem dX5_readLine_59 : decode cX5_readLine 59 = .ok (.iconst (-1), 1) := by decide +kernel
theorem dX5_readLine_60 : decode cX5_readLine 60 = .ok (.if_icmp .ne 12, 3) := by decide +kernel
theorem dX5_readLine_63 : decode cX5_readLine 63 = .ok (.aload_n 0, 1) := by decide +kernel
theorem dX5_readLine_64 : decode cX5_readLine 64 = .ok (.getfield 9, 3) := by decide +kernel
theorem dX5_readLine_67 : decode cX5_readLine 67 = .ok (.iconst 3, 1) := by decide +kernel
theorem dX5_readLine_68 : decode cX5_readLine 68 = .ok (.invokevirtual 49, 3) := by decide +kernel
theorem dX5_readLine_71 : decode cX5_readLine 71 = .ok (.ireturn, 1) := by decide +kernel
theorem dX5_readLine_72 : decode cX5_readLine 72 = .ok (.aload_n 0, 1) := by decide +kernel
theorem dX5_readLine_73 : decode cX5_readLine 73 = .ok (.getfield 32, 3) := by decide +kernel
theorem dX5_readLine_76 : decode cX5_readLine 76 = .ok (.bipush 40, 2) := by decide +kernel
theorem dX5_readLine_78 : decode cX5_readLine 78 = .ok (.if_icmp .lt 12, 3) := by decide +kernel
theorem dX5_readLine_81 : decode cX5_readLine 81 = .ok (.aload_n 0, 1) := by decide +kernel
theorem dX5_readLine_82 : decode cX5_readLine 82 = .ok (.getfield 9, 3) := by decide +kernel
theorem dX5_readLine_85 : decode cX5_readLine 85 = .ok (.iconst 4, 1) := by decide +kernel
theorem dX5_readLine_86 : decode cX5_readLine 86 = .ok (.invokevirtual 49, 3) := by decide +kernel
theorem dX5_readLine_89 : decode cX5_readLine 89 = .ok (.ireturn, 1) := by decide +kernel
theorem dX5_readLine_90 : decode cX5_readLine 90 = .ok (.iload_n 2, 1) := by decide +kernel
theorem dX5_readLine_91 : decode cX5_readLine 91 = .ok (.ifCond .eq 13, 3) := by decide +kernel
theorem dX5_readLine_94 : decode cX5_readLine 94 = .ok (.aload_n 0, 1) := by decide +kernel
theorem dX5_readLine_95 : decode cX5_readLine 95 = .ok (.invokevirtual 63, 3) := by decide +kernel
theorem dX5_readLine_98 : decode cX5_readLine 98 = .ok (.ifCond .eq 14, 3) := by decide +kernel
theorem dX5_readLine_101 : decode cX5_readLine 101 = .ok (.goto 13, 3) := by decide +kernel
theorem dX5_readLine_104 : decode cX5_readLine 104 = .ok (.aload_n 0, 1) := by decide +kernel
theorem dX5_readLine_105 : decode cX5_readLine 105 = .ok (.iload_n 1, 1) := by decide +kernel
theorem dX5_readLine_106 : decode cX5_readLine 106 = .ok (.invokevirtual 66, 3) := by decide +kernel
theorem dX5_readLine_109 : decode cX5_readLine 109 = .ok (.ifCond .ne 5, 3) := by decide +kernel
theorem dX5_readLine_112 : decode cX5_readLine 112 = .ok (.iconst 0, 1) := by decide +kernel
theorem dX5_readLine_113 : decode cX5_readLine 113 = .ok (.ireturn, 1) := by decide +kernel
theorem dX5_readLine_114 : decode cX5_readLine 114 = .ok (.aload_n 0, 1) := by decide +kernel
theorem dX5_readLine_115 : decode cX5_readLine 115 = .ok (.dup, 1) := by decide +kernel
theorem dX5_readLine_116 : decode cX5_readLine 116 = .ok (.getfield 32, 3) := by decide +kernel
theorem dX5_readLine_119 : decode cX5_readLine 119 = .ok (.iconst 1, 1) := by decide +kernel
theorem dX5_readLine_120 : decode cX5_readLine 120 = .ok (.iadd, 1) := by decide +kernel
theorem dX5_readLine_121 : decode cX5_readLine 121 = .ok (.putfield 32, 3) := by decide +kernel
theorem dX5_readLine_124 : decode cX5_readLine 124 = .ok (.aload_n 0, 1) := by decide +kernel
theorem dX5_readLine_125 : decode cX5_readLine 125 = .ok (.getfield 9, 3) := by decide +kernel
theorem dX5_readLine_128 : decode cX5_readLine 128 = .ok (.bipush 59, 2) := by decide +kernel
theorem dX5_readLine_130 : decode cX5_readLine 130 = .ok (.invokevirtual 69, 3) := by decide +kernel
theorem dX5_readLine_133 : decode cX5_readLine 133 = .ok (.ireturn, 1) := by decide +kernel
set_option maxRecDepth 20000 in
theorem ggX5_readGuestDeed_X2_guestNamed : GoodIn wsX5_readGuestDeed wsX2_guestNamed := goodIn_r _ [13, 14, 15, 95, 96, 97, 98, 99, 100, 101, 102, 103, 104, 105] (by decide +kernel) (by decide +kernel)
set_option maxRecDepth 20000 in
theorem gX5_readGuestDeed_X2_guestNamed : GoodIn wsX5_readGuestDeed (wsV RX5 57 RX2 yX2_guestNamed wsX2_guestNamed) := goodIn_app (goodIn_of _ (by decide +kernel)) ggX5_readGuestDeed_X2_guestNamed
set_option maxRecDepth 20000 in
theorem ggX5_readGuestDeed_X6_takeNamed : GoodIn wsX5_readGuestDeed wsX6_takeNamed := goodIn_r _ [20, 21, 22, 23, 24, 19, 25, 26, 27, 28, 29, 30, 31, 32, 33, 34, 35, 36, 37, 38, 39, 40, 41, 42, 43, 44, 45, 46, 47, 48, 49, 50, 51, 52, 53, 54, 55, 56, 57, 58, 59, 60, 61, 62, 63, 64, 65, 66, 83, 84, 85, 86, 87, 88, 89, 90, 91, 92, 93, 94, 106, 107] (by decide +kernel) (by decide +kernel)
set_option maxRecDepth 20000 in
theorem gX5_readGuestDeed_X6_takeNamed : GoodIn wsX5_readGuestDeed (wsV RX5 72 RX6 yX6_takeNamed wsX6_takeNamed) := goodIn_app (goodIn_of _ (by decide +kernel)) ggX5_readGuestDeed_X6_takeNamed
set_option maxRecDepth 20000 in
theorem ggX5_readGuestDeed_X6_isKey : GoodIn wsX5_readGuestDeed wsX6_isKey := goodIn_r _ [70, 26, 27, 83, 84, 85, 86, 87, 88, 89, 90, 91, 92, 93, 94] (by decide +kernel) (by decide +kernel)
set_option maxRecDepth 20000 in
theorem gX5_readGuestDeed_X6_isKey : GoodIn wsX5_readGuestDeed (wsV RX5 75 RX6 yX6_isKey wsX6_isKey) := goodIn_app (goodIn_of _ (by decide +kernel)) ggX5_readGuestDeed_X6_isKey
set_option maxRecDepth 20000 in
theorem ggX5_readGuestDeed_X6_refuse : GoodIn wsX5_readGuestDeed wsX6_refuse := goodIn_r _ [31, 32, 33, 34, 83, 84, 85, 86, 87, 88, 89, 90, 91, 92, 93, 94] (by decide +kernel) (by decide +kernel)
set_option maxRecDepth 20000 in
theorem gX5_readGuestDeed_X6_refuse : GoodIn wsX5_readGuestDeed (wsV RX5 49 RX6 yX6_refuse wsX6_refuse) := goodIn_app (goodIn_of _ (by decide +kernel)) ggX5_readGuestDeed_X6_refuse
set_option maxRecDepth 20000 in
theorem ggX5_readGuestDeed_X6_step : GoodIn wsX5_readGuestDeed wsX6_step := goodIn_r _ [38, 39, 40, 41, 42, 43, 44, 45, 46, 33, 27, 26, 47, 48, 49, 50, 51, 52, 53, 54, 55, 56, 57, 19, 58, 59, 60, 61, 62, 63, 64, 65, 66, 83, 84, 85, 86, 87, 88, 89, 90, 91, 92, 93, 94, 106, 107] (by decide +kernel) (by decide +kernel)
set_option maxRecDepth 20000 in
theorem gX5_readGuestDeed_X6_step : GoodIn wsX5_readGuestDeed (wsV RX5 81 RX6 yX6_step wsX6_step) := goodIn_app (goodIn_of _ (by decide +kernel)) ggX5_readGuestDeed_X6_step
theorem dX5_readGuestDeed_0 : decode cX5_readGuestDeed 0 = .ok (.aload_n 0, 1) := by decide +kernel
theorem dX5_readGuestDeed_1 : decode cX5_readGuestDeed 1 = .ok (.getfield 9, 3) := by decide +kernel
theorem dX5_readGuestDeed_4 : decode cX5_readGuestDeed 4 = .ok (.aload_n 0, 1) := by decide +kernel
theorem dX5_readGuestDeed_5 : decode cX5_readGuestDeed 5 = .ok (.getfield 15, 3) := by decide +kernel
theorem dX5_readGuestDeed_8 : decode cX5_readGuestDeed 8 = .ok (.aload_n 0, 1) := by decide +kernel
theorem dX5_readGuestDeed_9 : decode cX5_readGuestDeed 9 = .ok (.getfield 9, 3) := by decide +kernel
theorem dX5_readGuestDeed_12 : decode cX5_readGuestDeed 12 = .ok (.getfield 53, 3) := by decide +kernel
theorem dX5_readGuestDeed_15 : decode cX5_readGuestDeed 15 = .ok (.invokevirtual 57, 3) := by decide +kernel
theorem dX5_readGuestDeed_18 : decode cX5_readGuestDeed 18 = .ok (.invokevirtual 72, 3) := by decide +kernel
theorem dX5_readGuestDeed_21 : decode cX5_readGuestDeed 21 = .ok (.ifCond .ne 5, 3) := by decide +kernel
theorem dX5_readGuestDeed_24 : decode cX5_readGuestDeed 24 = .ok (.iconst 0, 1) := by decide +kernel
theorem dX5_readGuestDeed_25 : decode cX5_readGuestDeed 25 = .ok (.ireturn, 1) := by decide +kernel
theorem dX5_readGuestDeed_26 : decode cX5_readGuestDeed 26 = .ok (.aload_n 0, 1) := by decide +kernel
theorem dX5_readGuestDeed_27 : decode cX5_readGuestDeed 27 = .ok (.getfield 9, 3) := by decide +kernel
theorem dX5_readGuestDeed_30 : decode cX5_readGuestDeed 30 = .ok (.iconst 4, 1) := by decide +kernel
theorem dX5_readGuestDeed_31 : decode cX5_readGuestDeed 31 = .ok (.invokevirtual 75, 3) := by decide +kernel
theorem dX5_readGuestDeed_34 : decode cX5_readGuestDeed 34 = .ok (.ifCond .ne 23, 3) := by decide +kernel
theorem dX5_readGuestDeed_37 : decode cX5_readGuestDeed 37 = .ok (.aload_n 0, 1) := by decide +kernel
theorem dX5_readGuestDeed_38 : decode cX5_readGuestDeed 38 = .ok (.getfield 9, 3) := by decide +kernel
theorem dX5_readGuestDeed_41 : decode cX5_readGuestDeed 41 = .ok (.iconst 5, 1) := by decide +kernel
theorem dX5_readGuestDeed_42 : decode cX5_readGuestDeed 42 = .ok (.invokevirtual 75, 3) := by decide +kernel
theorem dX5_readGuestDeed_45 : decode cX5_readGuestDeed 45 = .ok (.ifCond .ne 12, 3) := by decide +kernel
theorem dX5_readGuestDeed_48 : decode cX5_readGuestDeed 48 = .ok (.aload_n 0, 1) := by decide +kernel
theorem dX5_readGuestDeed_49 : decode cX5_readGuestDeed 49 = .ok (.getfield 9, 3) := by decide +kernel
theorem dX5_readGuestDeed_52 : decode cX5_readGuestDeed 52 = .ok (.iconst 1, 1) := by decide +kernel
theorem dX5_readGuestDeed_53 : decode cX5_readGuestDeed 53 = .ok (.invokevirtual 49, 3) := by decide +kernel
theorem dX5_readGuestDeed_56 : decode cX5_readGuestDeed 56 = .ok (.ireturn, 1) := by decide +kernel
theorem dX5_readGuestDeed_57 : decode cX5_readGuestDeed 57 = .ok (.aload_n 0, 1) := by decide +kernel
theorem dX5_readGuestDeed_58 : decode cX5_readGuestDeed 58 = .ok (.getfield 19, 3) := by decide +kernel
theorem dX5_readGuestDeed_61 : decode cX5_readGuestDeed 61 = .ok (.aload_n 0, 1) := by decide +kernel
theorem dX5_readGuestDeed_62 : decode cX5_readGuestDeed 62 = .ok (.getfield 32, 3) := by decide +kernel
theorem dX5_readGuestDeed_65 : decode cX5_readGuestDeed 65 = .ok (.aload_n 0, 1) := by decide +kernel
theorem dX5_readGuestDeed_66 : decode cX5_readGuestDeed 66 = .ok (.getfield 9, 3) := by decide +kernel
theorem dX5_readGuestDeed_69 : decode cX5_readGuestDeed 69 = .ok (.getfield 43, 3) := by decide +kernel
theorem dX5_readGuestDeed_72 : decode cX5_readGuestDeed 72 = .ok (.iastore, 1) := by decide +kernel
theorem dX5_readGuestDeed_73 : decode cX5_readGuestDeed 73 = .ok (.aload_n 0, 1) := by decide +kernel
theorem dX5_readGuestDeed_74 : decode cX5_readGuestDeed 74 = .ok (.getfield 23, 3) := by decide +kernel
theorem dX5_readGuestDeed_77 : decode cX5_readGuestDeed 77 = .ok (.aload_n 0, 1) := by decide +kernel
theorem dX5_readGuestDeed_78 : decode cX5_readGuestDeed 78 = .ok (.getfield 32, 3) := by decide +kernel
theorem dX5_readGuestDeed_81 : decode cX5_readGuestDeed 81 = .ok (.aload_n 0, 1) := by decide +kernel
theorem dX5_readGuestDeed_82 : decode cX5_readGuestDeed 82 = .ok (.getfield 9, 3) := by decide +kernel
theorem dX5_readGuestDeed_85 : decode cX5_readGuestDeed 85 = .ok (.getfield 78, 3) := by decide +kernel
theorem dX5_readGuestDeed_88 : decode cX5_readGuestDeed 88 = .ok (.iastore, 1) := by decide +kernel
theorem dX5_readGuestDeed_89 : decode cX5_readGuestDeed 89 = .ok (.aload_n 0, 1) := by decide +kernel
theorem dX5_readGuestDeed_90 : decode cX5_readGuestDeed 90 = .ok (.getfield 9, 3) := by decide +kernel
theorem dX5_readGuestDeed_93 : decode cX5_readGuestDeed 93 = .ok (.invokevirtual 81, 3) := by decide +kernel
theorem dX5_readGuestDeed_96 : decode cX5_readGuestDeed 96 = .ok (.iconst 1, 1) := by decide +kernel
theorem dX5_readGuestDeed_97 : decode cX5_readGuestDeed 97 = .ok (.ireturn, 1) := by decide +kernel
set_option maxRecDepth 20000 in
theorem ggX5_readOtherDeed_X6_step : GoodIn wsX5_readOtherDeed wsX6_step := goodIn_r _ [12, 13, 14, 15, 16, 17, 18, 19, 20, 21, 22, 23, 24, 25, 26, 27, 28, 29, 30, 31, 32, 33, 34, 11, 35, 36, 37, 38, 39, 40, 41, 42, 43, 81, 82, 83, 84, 85, 86, 87, 88, 89, 90, 91, 92, 93, 94] (by decide +kernel) (by decide +kernel)
set_option maxRecDepth 20000 in
theorem gX5_readOtherDeed_X6_step : GoodIn wsX5_readOtherDeed (wsV RX5 81 RX6 yX6_step wsX6_step) := goodIn_app (goodIn_of _ (by decide +kernel)) ggX5_readOtherDeed_X6_step
set_option maxRecDepth 20000 in
theorem ggX5_readOtherDeed_X2_dishNamed : GoodIn wsX5_readOtherDeed wsX2_dishNamed := goodIn_r _ [48, 49, 50, 95, 96, 97, 98, 99, 100, 101, 102, 103, 104, 105] (by decide +kernel) (by decide +kernel)
set_option maxRecDepth 20000 in
theorem gX5_readOtherDeed_X2_dishNamed : GoodIn wsX5_readOtherDeed (wsV RX5 84 RX2 yX2_dishNamed wsX2_dishNamed) := goodIn_app (goodIn_of _ (by decide +kernel)) ggX5_readOtherDeed_X2_dishNamed
set_option maxRecDepth 20000 in
theorem ggX5_readOtherDeed_X6_takeNamed : GoodIn wsX5_readOtherDeed wsX6_takeNamed := goodIn_r _ [54, 55, 56, 57, 58, 11, 59, 23, 22, 60, 61, 62, 63, 64, 21, 65, 66, 9, 10, 12, 13, 14, 15, 16, 17, 18, 19, 20, 24, 25, 26, 27, 28, 29, 30, 31, 32, 33, 34, 35, 36, 37, 38, 39, 40, 41, 42, 43, 81, 82, 83, 84, 85, 86, 87, 88, 89, 90, 91, 92, 93, 94] (by decide +kernel) (by decide +kernel)
set_option maxRecDepth 20000 in
theorem gX5_readOtherDeed_X6_takeNamed : GoodIn wsX5_readOtherDeed (wsV RX5 72 RX6 yX6_takeNamed wsX6_takeNamed) := goodIn_app (goodIn_of _ (by decide +kernel)) ggX5_readOtherDeed_X6_takeNamed
set_option maxRecDepth 20000 in
theorem ggX5_readOtherDeed_X6_takeNumber : GoodIn wsX5_readOtherDeed wsX6_takeNumber := goodIn_r _ [70, 23, 36, 55, 60, 61, 62, 11, 63, 64, 21, 65, 66, 9, 10, 12, 13, 14, 15, 16, 17, 18, 19, 20, 22, 24, 25, 26, 27, 28, 29, 30, 31, 32, 33, 34, 35, 37, 38, 39, 40, 41, 42, 43, 81, 82, 83, 84, 85, 86, 87, 88, 89, 90, 91, 92, 93, 94] (by decide +kernel) (by decide +kernel)
set_option maxRecDepth 20000 in
theorem gX5_readOtherDeed_X6_takeNumber : GoodIn wsX5_readOtherDeed (wsV RX5 87 RX6 yX6_takeNumber wsX6_takeNumber) := goodIn_app (goodIn_of _ (by decide +kernel)) ggX5_readOtherDeed_X6_takeNumber
theorem dX5_readOtherDeed_0 : decode cX5_readOtherDeed 0 = .ok (.aload_n 0, 1) := by decide +kernel
theorem dX5_readOtherDeed_1 : decode cX5_readOtherDeed 1 = .ok (.getfield 9, 3) := by decide +kernel
theorem dX5_readOtherDeed_4 : decode cX5_readOtherDeed 4 = .ok (.invokevirtual 81, 3) := by decide +kernel
theorem dX5_readOtherDeed_7 : decode cX5_readOtherDeed 7 = .ok (.iload_n 1, 1) := by decide +kernel
theorem dX5_readOtherDeed_8 : decode cX5_readOtherDeed 8 = .ok (.bipush 6, 2) := by decide +kernel
theorem dX5_readOtherDeed_10 : decode cX5_readOtherDeed 10 = .ok (.if_icmp .ne 28, 3) := by decide +kernel
theorem dX5_readOtherDeed_13 : decode cX5_readOtherDeed 13 = .ok (.aload_n 0, 1) := by decide +kernel
theorem dX5_readOtherDeed_14 : decode cX5_readOtherDeed 14 = .ok (.getfield 9, 3) := by decide +kernel
theorem dX5_readOtherDeed_17 : decode cX5_readOtherDeed 17 = .ok (.aload_n 0, 1) := by decide +kernel
theorem dX5_readOtherDeed_18 : decode cX5_readOtherDeed 18 = .ok (.getfield 15, 3) := by decide +kernel
theorem dX5_readOtherDeed_21 : decode cX5_readOtherDeed 21 = .ok (.aload_n 0, 1) := by decide +kernel
theorem dX5_readOtherDeed_22 : decode cX5_readOtherDeed 22 = .ok (.getfield 9, 3) := by decide +kernel
theorem dX5_readOtherDeed_25 : decode cX5_readOtherDeed 25 = .ok (.getfield 53, 3) := by decide +kernel
theorem dX5_readOtherDeed_28 : decode cX5_readOtherDeed 28 = .ok (.invokevirtual 84, 3) := by decide +kernel
theorem dX5_readOtherDeed_31 : decode cX5_readOtherDeed 31 = .ok (.invokevirtual 72, 3) := by decide +kernel
theorem dX5_readOtherDeed_34 : decode cX5_readOtherDeed 34 = .ok (.istore_n 2, 1) := by decide +kernel
theorem dX5_readOtherDeed_35 : decode cX5_readOtherDeed 35 = .ok (.goto 34, 3) := by decide +kernel
theorem dX5_readOtherDeed_38 : decode cX5_readOtherDeed 38 = .ok (.iload_n 1, 1) := by decide +kernel
theorem dX5_readOtherDeed_39 : decode cX5_readOtherDeed 39 = .ok (.bipush 9, 2) := by decide +kernel
theorem dX5_readOtherDeed_41 : decode cX5_readOtherDeed 41 = .ok (.if_icmp .ne 17, 3) := by decide +kernel
theorem dX5_readOtherDeed_44 : decode cX5_readOtherDeed 44 = .ok (.aload_n 0, 1) := by decide +kernel
theorem dX5_readOtherDeed_45 : decode cX5_readOtherDeed 45 = .ok (.getfield 9, 3) := by decide +kernel
theorem dX5_readOtherDeed_48 : decode cX5_readOtherDeed 48 = .ok (.iconst 1, 1) := by decide +kernel
theorem dX5_readOtherDeed_49 : decode cX5_readOtherDeed 49 = .ok (.bipush 60, 2) := by decide +kernel
theorem dX5_readOtherDeed_51 : decode cX5_readOtherDeed 51 = .ok (.invokevirtual 87, 3) := by decide +kernel
theorem dX5_readOtherDeed_54 : decode cX5_readOtherDeed 54 = .ok (.istore_n 2, 1) := by decide +kernel
theorem dX5_readOtherDeed_55 : decode cX5_readOtherDeed 55 = .ok (.goto 14, 3) := by decide +kernel
theorem dX5_readOtherDeed_58 : decode cX5_readOtherDeed 58 = .ok (.aload_n 0, 1) := by decide +kernel
theorem dX5_readOtherDeed_59 : decode cX5_readOtherDeed 59 = .ok (.getfield 9, 3) := by decide +kernel
theorem dX5_readOtherDeed_62 : decode cX5_readOtherDeed 62 = .ok (.iconst 0, 1) := by decide +kernel
theorem dX5_readOtherDeed_63 : decode cX5_readOtherDeed 63 = .ok (.bipush 8, 2) := by decide +kernel
theorem dX5_readOtherDeed_65 : decode cX5_readOtherDeed 65 = .ok (.invokevirtual 87, 3) := by decide +kernel
theorem dX5_readOtherDeed_68 : decode cX5_readOtherDeed 68 = .ok (.istore_n 2, 1) := by decide +kernel
theorem dX5_readOtherDeed_69 : decode cX5_readOtherDeed 69 = .ok (.aload_n 0, 1) := by decide +kernel
theorem dX5_readOtherDeed_70 : decode cX5_readOtherDeed 70 = .ok (.getfield 19, 3) := by decide +kernel
theorem dX5_readOtherDeed_73 : decode cX5_readOtherDeed 73 = .ok (.aload_n 0, 1) := by decide +kernel
theorem dX5_readOtherDeed_74 : decode cX5_readOtherDeed 74 = .ok (.getfield 32, 3) := by decide +kernel
theorem dX5_readOtherDeed_77 : decode cX5_readOtherDeed 77 = .ok (.iload_n 1, 1) := by decide +kernel
theorem dX5_readOtherDeed_78 : decode cX5_readOtherDeed 78 = .ok (.iastore, 1) := by decide +kernel
theorem dX5_readOtherDeed_79 : decode cX5_readOtherDeed 79 = .ok (.aload_n 0, 1) := by decide +kernel
theorem dX5_readOtherDeed_80 : decode cX5_readOtherDeed 80 = .ok (.getfield 23, 3) := by decide +kernel
theorem dX5_readOtherDeed_83 : decode cX5_readOtherDeed 83 = .ok (.aload_n 0, 1) := by decide +kernel
theorem dX5_readOtherDeed_84 : decode cX5_readOtherDeed 84 = .ok (.getfield 32, 3) := by decide +kernel
theorem dX5_readOtherDeed_87 : decode cX5_readOtherDeed 87 = .ok (.aload_n 0, 1) := by decide +kernel
theorem dX5_readOtherDeed_88 : decode cX5_readOtherDeed 88 = .ok (.getfield 9, 3) := by decide +kernel
theorem dX5_readOtherDeed_91 : decode cX5_readOtherDeed 91 = .ok (.getfield 78, 3) := by decide +kernel
theorem dX5_readOtherDeed_94 : decode cX5_readOtherDeed 94 = .ok (.iastore, 1) := by decide +kernel
theorem dX5_readOtherDeed_95 : decode cX5_readOtherDeed 95 = .ok (.iload_n 2, 1) := by decide +kernel
theorem dX5_readOtherDeed_96 : decode cX5_readOtherDeed 96 = .ok (.ireturn, 1) := by decide +kernel
set_option maxRecDepth 20000 in
theorem ggX5_judge_X5_liveLine : GoodIn wsX5_judge wsX5_liveLine := goodIn_r _ [14, 15, 16, 13, 17, 18, 19, 20, 21, 22, 23, 24, 25, 26, 27, 28, 29, 30, 31, 32, 33, 34, 35, 36, 37, 38, 39, 40, 41, 42, 43, 44, 45, 46, 47, 48, 49, 50, 51, 52, 53, 54, 55, 56, 57, 58, 59, 60, 61, 62, 63, 64, 65, 66, 67, 68, 69, 70, 71, 72, 73, 74, 75, 76, 77, 78, 79, 80, 81, 82, 83, 84, 85, 86, 87, 88, 89, 90, 91, 92, 93, 94, 95, 96, 97, 98, 99, 100, 101, 102, 103, 104, 105, 106, 107, 108, 109, 110, 111, 112, 113, 114, 115, 116, 117, 118, 119, 120, 121, 122, 123, 7, 124, 125, 126, 127, 128, 129, 130, 131, 132, 133, 134, 135, 136, 147, 148, 149, 150, 151, 152, 153, 154, 155, 156, 157, 158, 159, 160, 161, 162, 163, 164, 165, 166, 167, 168, 169, 170, 171, 172, 173] (by decide +kernel) (by decide +kernel)
set_option maxRecDepth 20000 in
theorem gX5_judge_X5_liveLine : GoodIn wsX5_judge (va_wsS RX5 101 yX5_liveLine wsX5_liveLine) := goodIn_app (goodIn_of _ (by decide +kernel)) ggX5_judge_X5_liveLine
theorem dX5_judge_0 : decode cX5_judge 0 = .ok (.aload_n 0, 1) := by decide +kernel
theorem dX5_judge_1 : decode cX5_judge 1 = .ok (.iconst 1, 1) := by decide +kernel
theorem dX5_judge_2 : decode cX5_judge 2 = .ok (.putfield 91, 3) := by decide +kernel
theorem dX5_judge_5 : decode cX5_judge 5 = .ok (.aload_n 0, 1) := by decide +kernel
theorem dX5_judge_6 : decode cX5_judge 6 = .ok (.iconst 0, 1) := by decide +kernel
theorem dX5_judge_7 : decode cX5_judge 7 = .ok (.putfield 95, 3) := by decide +kernel
theorem dX5_judge_10 : decode cX5_judge 10 = .ok (.aload_n 0, 1) := by decide +kernel
theorem dX5_judge_11 : decode cX5_judge 11 = .ok (.iconst 0, 1) := by decide +kernel
theorem dX5_judge_12 : decode cX5_judge 12 = .ok (.putfield 98, 3) := by decide +kernel
theorem dX5_judge_15 : decode cX5_judge 15 = .ok (.iconst 0, 1) := by decide +kernel
theorem dX5_judge_16 : decode cX5_judge 16 = .ok (.istore_n 2, 1) := by decide +kernel
theorem dX5_judge_17 : decode cX5_judge 17 = .ok (.iload_n 2, 1) := by decide +kernel
theorem dX5_judge_18 : decode cX5_judge 18 = .ok (.aload_n 0, 1) := by decide +kernel
theorem dX5_judge_19 : decode cX5_judge 19 = .ok (.getfield 32, 3) := by decide +kernel
theorem dX5_judge_22 : decode cX5_judge 22 = .ok (.if_icmp .ge 53, 3) := by decide +kernel
theorem dX5_judge_25 : decode cX5_judge 25 = .ok (.aload_n 0, 1) := by decide +kernel
theorem dX5_judge_26 : decode cX5_judge 26 = .ok (.getfield 95, 3) := by decide +kernel
theorem dX5_judge_29 : decode cX5_judge 29 = .ok (.ifCond .ne 46, 3) := by decide +kernel
theorem dX5_judge_32 : decode cX5_judge 32 = .ok (.aload_n 0, 1) := by decide +kernel
theorem dX5_judge_33 : decode cX5_judge 33 = .ok (.aload_n 1, 1) := by decide +kernel
theorem dX5_judge_34 : decode cX5_judge 34 = .ok (.aload_n 0, 1) := by decide +kernel
theorem dX5_judge_35 : decode cX5_judge 35 = .ok (.getfield 19, 3) := by decide +kernel
theorem dX5_judge_38 : decode cX5_judge 38 = .ok (.iload_n 2, 1) := by decide +kernel
theorem dX5_judge_39 : decode cX5_judge 39 = .ok (.iaload, 1) := by decide +kernel
theorem dX5_judge_40 : decode cX5_judge 40 = .ok (.aload_n 0, 1) := by decide +kernel
theorem dX5_judge_41 : decode cX5_judge 41 = .ok (.getfield 23, 3) := by decide +kernel
theorem dX5_judge_44 : decode cX5_judge 44 = .ok (.iload_n 2, 1) := by decide +kernel
theorem dX5_judge_45 : decode cX5_judge 45 = .ok (.iaload, 1) := by decide +kernel
theorem dX5_judge_46 : decode cX5_judge 46 = .ok (.invokestatic 101, 3) := by decide +kernel
theorem dX5_judge_49 : decode cX5_judge 49 = .ok (.putfield 95, 3) := by decide +kernel
theorem dX5_judge_52 : decode cX5_judge 52 = .ok (.aload_n 0, 1) := by decide +kernel
theorem dX5_judge_53 : decode cX5_judge 53 = .ok (.getfield 95, 3) := by decide +kernel
theorem dX5_judge_56 : decode cX5_judge 56 = .ok (.ifCond .ne 13, 3) := by decide +kernel
theorem dX5_judge_59 : decode cX5_judge 59 = .ok (.aload_n 0, 1) := by decide +kernel
theorem dX5_judge_60 : decode cX5_judge 60 = .ok (.dup, 1) := by decide +kernel
theorem dX5_judge_61 : decode cX5_judge 61 = .ok (.getfield 98, 3) := by decide +kernel
theorem dX5_judge_64 : decode cX5_judge 64 = .ok (.iconst 1, 1) := by decide +kernel
theorem dX5_judge_65 : decode cX5_judge 65 = .ok (.iadd, 1) := by decide +kernel
theorem dX5_judge_66 : decode cX5_judge 66 = .ok (.putfield 98, 3) := by decide +kernel
theorem dX5_judge_69 : decode cX5_judge 69 = .ok (.iinc 2 1, 3) := by decide +kernel
theorem dX5_judge_72 : decode cX5_judge 72 = .ok (.goto (-55), 3) := by decide +kernel
theorem dX5_judge_75 : decode cX5_judge 75 = .ok (.aload_n 0, 1) := by decide +kernel
theorem dX5_judge_76 : decode cX5_judge 76 = .ok (.aload_n 1, 1) := by decide +kernel
theorem dX5_judge_77 : decode cX5_judge 77 = .ok (.getfield 105, 3) := by decide +kernel
theorem dX5_judge_80 : decode cX5_judge 80 = .ok (.putfield 110, 3) := by decide +kernel
theorem dX5_judge_83 : decode cX5_judge 83 = .ok (.aload_n 0, 1) := by decide +kernel
theorem dX5_judge_84 : decode cX5_judge 84 = .ok (.aload_n 1, 1) := by decide +kernel
theorem dX5_judge_85 : decode cX5_judge 85 = .ok (.getfield 113, 3) := by decide +kernel
theorem dX5_judge_88 : decode cX5_judge 88 = .ok (.putfield 116, 3) := by decide +kernel
theorem dX5_judge_91 : decode cX5_judge 91 = .ok (.return_, 1) := by decide +kernel
set_option maxRecDepth 20000 in
theorem ggX5_liveLine_X5_liveSitting : GoodIn wsX5_liveLine wsX5_liveSitting := goodIn_r _ [4, 5, 6, 7, 8, 9, 10, 11, 12, 13, 14, 15, 16, 17, 18, 19, 20, 21, 22, 23, 24, 25, 26, 27, 28, 29, 30, 31, 32, 33, 34, 35, 36, 37, 38, 39, 40, 41, 42, 43, 44, 45, 46, 47, 48, 49, 50, 51, 52, 53, 54, 55, 56, 57, 58, 59, 60, 125, 126, 127, 128, 129, 130, 131, 132, 133, 134, 135, 136, 137, 138, 139, 140, 141, 142, 143, 144, 145, 146, 147, 148, 149, 150, 151] (by decide +kernel) (by decide +kernel)
set_option maxRecDepth 20000 in
theorem gX5_liveLine_X5_liveSitting : GoodIn wsX5_liveLine (va_wsS RX5 119 yX5_liveSitting wsX5_liveSitting) := goodIn_app (goodIn_of _ (by decide +kernel)) ggX5_liveLine_X5_liveSitting
set_option maxRecDepth 20000 in
theorem ggX5_liveLine_X5_liveRising : GoodIn wsX5_liveLine wsX5_liveRising := goodIn_r _ [63, 64, 65, 66, 8, 67, 13, 14, 15, 16, 17, 68, 69, 70, 71, 10, 11, 125, 126, 127, 128, 129, 130, 131, 132, 133, 134, 135, 136, 137, 138, 139, 140] (by decide +kernel) (by decide +kernel)
set_option maxRecDepth 20000 in
theorem gX5_liveLine_X5_liveRising : GoodIn wsX5_liveLine (va_wsS RX5 123 yX5_liveRising wsX5_liveRising) := goodIn_app (goodIn_of _ (by decide +kernel)) ggX5_liveLine_X5_liveRising
set_option maxRecDepth 20000 in
theorem ggX5_liveLine_X5_liveServing : GoodIn wsX5_liveLine wsX5_liveServing := goodIn_r _ [74, 75, 76, 77, 8, 78, 35, 79, 80, 81, 82, 125, 126, 127, 128, 129, 130, 131, 132, 133, 134, 135, 136, 137, 138, 139, 140] (by decide +kernel) (by decide +kernel)
set_option maxRecDepth 20000 in
theorem gX5_liveLine_X5_liveServing : GoodIn wsX5_liveLine (va_wsS RX5 126 yX5_liveServing wsX5_liveServing) := goodIn_app (goodIn_of _ (by decide +kernel)) ggX5_liveLine_X5_liveServing
set_option maxRecDepth 20000 in
theorem ggX5_liveLine_X5_liveHiding : GoodIn wsX5_liveLine wsX5_liveHiding := goodIn_r _ [85, 86, 87, 88, 89, 8, 90, 22, 12, 10, 91, 92, 93, 44, 94, 95, 96, 97, 98, 99, 100, 23, 24, 25, 26, 27, 28, 29, 30, 125, 126, 127, 128, 129, 130, 131, 132, 133, 134, 135, 136, 137, 138, 139, 140, 141, 142, 143, 144, 145, 146, 147, 148, 149, 150, 151] (by decide +kernel) (by decide +kernel)
set_option maxRecDepth 20000 in
theorem gX5_liveLine_X5_liveHiding : GoodIn wsX5_liveLine (va_wsS RX5 129 yX5_liveHiding wsX5_liveHiding) := goodIn_app (goodIn_of _ (by decide +kernel)) ggX5_liveLine_X5_liveHiding
set_option maxRecDepth 20000 in
theorem ggX5_liveLine_X5_liveShowing : GoodIn wsX5_liveLine wsX5_liveShowing := goodIn_r _ [103, 86, 104, 105, 106, 8, 107, 22, 12, 91, 92, 93, 44, 94, 95, 125, 126, 127, 128, 129, 130, 131, 132, 133, 134, 135, 136, 137, 138, 139, 140, 141, 142, 143, 144, 145, 146, 147, 148, 149, 150, 151] (by decide +kernel) (by decide +kernel)
set_option maxRecDepth 20000 in
theorem gX5_liveLine_X5_liveShowing : GoodIn wsX5_liveLine (va_wsS RX5 132 yX5_liveShowing wsX5_liveShowing) := goodIn_app (goodIn_of _ (by decide +kernel)) ggX5_liveLine_X5_liveShowing
set_option maxRecDepth 20000 in
theorem ggX5_liveLine_X5_liveRounds : GoodIn wsX5_liveLine wsX5_liveRounds := goodIn_r _ [110, 111, 112, 113, 114, 8, 115, 40, 116, 22, 23, 11, 39, 53, 54, 55, 56, 117, 13, 14, 15, 16, 17, 118, 119, 120, 121, 100, 122, 123, 6, 7, 9, 10, 12, 124, 19, 20, 21, 24, 25, 26, 27, 28, 29, 30, 31, 32, 33, 34, 35, 36, 37, 38, 41, 42, 43, 44, 45, 46, 47, 48, 49, 50, 51, 52, 57, 58, 59, 60, 125, 126, 127, 128, 129, 130, 131, 132, 133, 134, 135, 136, 137, 138, 139, 140, 141, 142, 143, 144, 145, 146, 147, 148, 149, 150, 151] (by decide +kernel) (by decide +kernel)
set_option maxRecDepth 20000 in
theorem gX5_liveLine_X5_liveRounds : GoodIn wsX5_liveLine (va_wsS RX5 135 yX5_liveRounds wsX5_liveRounds) := goodIn_app (goodIn_of _ (by decide +kernel)) ggX5_liveLine_X5_liveRounds
theorem dX5_liveLine_0 : decode cX5_liveLine 0 = .ok (.iload_n 1, 1) := by decide +kernel
theorem dX5_liveLine_1 : decode cX5_liveLine 1 = .ok (.tableswitch 65 4 8 #[35, 41, 47, 53, 59], 35) := by decide +kernel
theorem dX5_liveLine_36 : decode cX5_liveLine 36 = .ok (.aload_n 0, 1) := by decide +kernel
theorem dX5_liveLine_37 : decode cX5_liveLine 37 = .ok (.iload_n 2, 1) := by decide +kernel
theorem dX5_liveLine_38 : decode cX5_liveLine 38 = .ok (.invokestatic 119, 3) := by decide +kernel
theorem dX5_liveLine_41 : decode cX5_liveLine 41 = .ok (.ireturn, 1) := by decide +kernel
theorem dX5_liveLine_42 : decode cX5_liveLine 42 = .ok (.aload_n 0, 1) := by decide +kernel
theorem dX5_liveLine_43 : decode cX5_liveLine 43 = .ok (.iload_n 2, 1) := by decide +kernel
theorem dX5_liveLine_44 : decode cX5_liveLine 44 = .ok (.invokestatic 123, 3) := by decide +kernel
theorem dX5_liveLine_47 : decode cX5_liveLine 47 = .ok (.ireturn, 1) := by decide +kernel
theorem dX5_liveLine_48 : decode cX5_liveLine 48 = .ok (.aload_n 0, 1) := by decide +kernel
theorem dX5_liveLine_49 : decode cX5_liveLine 49 = .ok (.iload_n 2, 1) := by decide +kernel
theorem dX5_liveLine_50 : decode cX5_liveLine 50 = .ok (.invokestatic 126, 3) := by decide +kernel
theorem dX5_liveLine_53 : decode cX5_liveLine 53 = .ok (.ireturn, 1) := by decide +kernel
theorem dX5_liveLine_54 : decode cX5_liveLine 54 = .ok (.aload_n 0, 1) := by decide +kernel
theorem dX5_liveLine_55 : decode cX5_liveLine 55 = .ok (.iload_n 2, 1) := by decide +kernel
theorem dX5_liveLine_56 : decode cX5_liveLine 56 = .ok (.invokestatic 129, 3) := by decide +kernel
theorem dX5_liveLine_59 : decode cX5_liveLine 59 = .ok (.ireturn, 1) := by decide +kernel
theorem dX5_liveLine_60 : decode cX5_liveLine 60 = .ok (.aload_n 0, 1) := by decide +kernel
theorem dX5_liveLine_61 : decode cX5_liveLine 61 = .ok (.iload_n 2, 1) := by decide +kernel
theorem dX5_liveLine_62 : decode cX5_liveLine 62 = .ok (.invokestatic 132, 3) := by decide +kernel
theorem dX5_liveLine_65 : decode cX5_liveLine 65 = .ok (.ireturn, 1) := by decide +kernel
theorem dX5_liveLine_66 : decode cX5_liveLine 66 = .ok (.aload_n 0, 1) := by decide +kernel
theorem dX5_liveLine_67 : decode cX5_liveLine 67 = .ok (.iload_n 2, 1) := by decide +kernel
theorem dX5_liveLine_68 : decode cX5_liveLine 68 = .ok (.invokestatic 135, 3) := by decide +kernel
theorem dX5_liveLine_71 : decode cX5_liveLine 71 = .ok (.ireturn, 1) := by decide +kernel
set_option maxRecDepth 20000 in
theorem ggX5_liveSitting_X1_whyNotSit : GoodIn wsX5_liveSitting wsX1_whyNotSit := goodIn_r _ [5, 6, 7, 8, 9, 10, 11, 4, 12, 13, 57, 58, 59, 60, 61, 62, 63, 64, 65, 66, 67, 68, 69, 70, 71, 72] (by decide +kernel) (by decide +kernel)
set_option maxRecDepth 20000 in
theorem gX5_liveSitting_X1_whyNotSit : GoodIn wsX5_liveSitting (wsV RX5 138 RX1 yX1_whyNotSit wsX1_whyNotSit) := goodIn_app (goodIn_of _ (by decide +kernel)) ggX5_liveSitting_X1_whyNotSit
set_option maxRecDepth 20000 in
theorem ggX5_liveSitting_X1_sitDown : GoodIn wsX5_liveSitting wsX1_sitDown := goodIn_r _ [17, 13, 6, 7, 18, 19, 20, 21, 22, 23, 24, 25, 26, 27, 28, 29, 4, 30, 31, 32, 33, 34, 35, 36, 37, 38, 39, 40, 41, 42, 43, 9, 10, 11, 12, 44, 45, 46, 47, 48, 49, 50, 51, 52, 53, 54, 55, 56, 57, 58, 59, 60, 61, 62, 63, 64, 65, 66, 67, 68, 69, 70, 71, 72, 73, 74, 75, 76, 77, 78, 79, 80, 81, 82, 83] (by decide +kernel) (by decide +kernel)
set_option maxRecDepth 20000 in
theorem gX5_liveSitting_X1_sitDown : GoodIn wsX5_liveSitting (wsV RX5 142 RX1 yX1_sitDown wsX1_sitDown) := goodIn_app (goodIn_of _ (by decide +kernel)) ggX5_liveSitting_X1_sitDown
theorem dX5_liveSitting_0 : decode cX5_liveSitting 0 = .ok (.aload_n 0, 1) := by decide +kernel
theorem dX5_liveSitting_1 : decode cX5_liveSitting 1 = .ok (.iload_n 1, 1) := by decide +kernel
theorem dX5_liveSitting_2 : decode cX5_liveSitting 2 = .ok (.invokevirtual 138, 3) := by decide +kernel
theorem dX5_liveSitting_5 : decode cX5_liveSitting 5 = .ok (.istore_n 2, 1) := by decide +kernel
theorem dX5_liveSitting_6 : decode cX5_liveSitting 6 = .ok (.iload_n 2, 1) := by decide +kernel
theorem dX5_liveSitting_7 : decode cX5_liveSitting 7 = .ok (.ifCond .ne 8, 3) := by decide +kernel
theorem dX5_liveSitting_10 : decode cX5_liveSitting 10 = .ok (.aload_n 0, 1) := by decide +kernel
theorem dX5_liveSitting_11 : decode cX5_liveSitting 11 = .ok (.iload_n 1, 1) := by decide +kernel
theorem dX5_liveSitting_12 : decode cX5_liveSitting 12 = .ok (.invokevirtual 142, 3) := by decide +kernel
theorem dX5_liveSitting_15 : decode cX5_liveSitting 15 = .ok (.iload_n 2, 1) := by decide +kernel
theorem dX5_liveSitting_16 : decode cX5_liveSitting 16 = .ok (.ireturn, 1) := by decide +kernel
set_option maxRecDepth 20000 in
theorem ggX5_liveRising_X1_whyNotRise : GoodIn wsX5_liveRising wsX1_whyNotRise := goodIn_r _ [5, 6, 7, 8, 4, 9, 10, 17, 18, 19, 20, 21, 22, 23, 24, 25, 26, 27, 28, 29, 30, 31, 32] (by decide +kernel) (by decide +kernel)
set_option maxRecDepth 20000 in
theorem gX5_liveRising_X1_whyNotRise : GoodIn wsX5_liveRising (wsV RX5 145 RX1 yX1_whyNotRise wsX1_whyNotRise) := goodIn_app (goodIn_of _ (by decide +kernel)) ggX5_liveRising_X1_whyNotRise
set_option maxRecDepth 20000 in
theorem ggX5_liveRising_X1_standUp : GoodIn wsX5_liveRising wsX1_standUp := goodIn_r _ [14, 10, 15, 16, 17, 18, 19, 20, 21, 22, 23, 24, 25, 26, 27, 28, 29, 30, 31, 32] (by decide +kernel) (by decide +kernel)
set_option maxRecDepth 20000 in
theorem gX5_liveRising_X1_standUp : GoodIn wsX5_liveRising (wsV RX5 148 RX1 yX1_standUp wsX1_standUp) := goodIn_app (goodIn_of _ (by decide +kernel)) ggX5_liveRising_X1_standUp
theorem dX5_liveRising_0 : decode cX5_liveRising 0 = .ok (.aload_n 0, 1) := by decide +kernel
theorem dX5_liveRising_1 : decode cX5_liveRising 1 = .ok (.iload_n 1, 1) := by decide +kernel
theorem dX5_liveRising_2 : decode cX5_liveRising 2 = .ok (.invokevirtual 145, 3) := by decide +kernel
theorem dX5_liveRising_5 : decode cX5_liveRising 5 = .ok (.istore_n 2, 1) := by decide +kernel
theorem dX5_liveRising_6 : decode cX5_liveRising 6 = .ok (.iload_n 2, 1) := by decide +kernel
theorem dX5_liveRising_7 : decode cX5_liveRising 7 = .ok (.ifCond .ne 8, 3) := by decide +kernel
theorem dX5_liveRising_10 : decode cX5_liveRising 10 = .ok (.aload_n 0, 1) := by decide +kernel
theorem dX5_liveRising_11 : decode cX5_liveRising 11 = .ok (.iload_n 1, 1) := by decide +kernel
theorem dX5_liveRising_12 : decode cX5_liveRising 12 = .ok (.invokevirtual 148, 3) := by decide +kernel
theorem dX5_liveRising_15 : decode cX5_liveRising 15 = .ok (.iload_n 2, 1) := by decide +kernel
theorem dX5_liveRising_16 : decode cX5_liveRising 16 = .ok (.ifCond .ne 7, 3) := by decide +kernel
theorem dX5_liveRising_19 : decode cX5_liveRising 19 = .ok (.iconst 0, 1) := by decide +kernel
theorem dX5_liveRising_20 : decode cX5_liveRising 20 = .ok (.goto 7, 3) := by decide +kernel
theorem dX5_liveRising_23 : decode cX5_liveRising 23 = .ok (.bipush 10, 2) := by decide +kernel
theorem dX5_liveRising_25 : decode cX5_liveRising 25 = .ok (.iload_n 2, 1) := by decide +kernel
theorem dX5_liveRising_26 : decode cX5_liveRising 26 = .ok (.iadd, 1) := by decide +kernel
theorem dX5_liveRising_27 : decode cX5_liveRising 27 = .ok (.ireturn, 1) := by decide +kernel
set_option maxRecDepth 20000 in
theorem ggX5_liveServing_X1_whyNotServe : GoodIn wsX5_liveServing wsX1_whyNotServe := goodIn_r _ [5, 6, 11, 12, 13, 14, 15, 16, 17, 18, 19, 20, 21, 22, 23, 24, 25, 26] (by decide +kernel) (by decide +kernel)
set_option maxRecDepth 20000 in
theorem gX5_liveServing_X1_whyNotServe : GoodIn wsX5_liveServing (wsV RX5 151 RX1 yX1_whyNotServe wsX1_whyNotServe) := goodIn_app (goodIn_of _ (by decide +kernel)) ggX5_liveServing_X1_whyNotServe
set_option maxRecDepth 20000 in
theorem ggX5_liveServing_X1_bring : GoodIn wsX5_liveServing wsX1_bring := goodIn_r _ [10, 6, 11, 12, 13, 14, 15, 16, 17, 18, 19, 20, 21, 22, 23, 24, 25, 26] (by decide +kernel) (by decide +kernel)
set_option maxRecDepth 20000 in
theorem gX5_liveServing_X1_bring : GoodIn wsX5_liveServing (wsV RX5 154 RX1 yX1_bring wsX1_bring) := goodIn_app (goodIn_of _ (by decide +kernel)) ggX5_liveServing_X1_bring
theorem dX5_liveServing_0 : decode cX5_liveServing 0 = .ok (.aload_n 0, 1) := by decide +kernel
theorem dX5_liveServing_1 : decode cX5_liveServing 1 = .ok (.iload_n 1, 1) := by decide +kernel
theorem dX5_liveServing_2 : decode cX5_liveServing 2 = .ok (.invokevirtual 151, 3) := by decide +kernel
theorem dX5_liveServing_5 : decode cX5_liveServing 5 = .ok (.istore_n 2, 1) := by decide +kernel
theorem dX5_liveServing_6 : decode cX5_liveServing 6 = .ok (.iload_n 2, 1) := by decide +kernel
theorem dX5_liveServing_7 : decode cX5_liveServing 7 = .ok (.ifCond .ne 8, 3) := by decide +kernel
theorem dX5_liveServing_10 : decode cX5_liveServing 10 = .ok (.aload_n 0, 1) := by decide +kernel
theorem dX5_liveServing_11 : decode cX5_liveServing 11 = .ok (.iload_n 1, 1) := by decide +kernel
theorem dX5_liveServing_12 : decode cX5_liveServing 12 = .ok (.invokevirtual 154, 3) := by decide +kernel
theorem dX5_liveServing_15 : decode cX5_liveServing 15 = .ok (.iload_n 2, 1) := by decide +kernel
theorem dX5_liveServing_16 : decode cX5_liveServing 16 = .ok (.ifCond .ne 7, 3) := by decide +kernel
theorem dX5_liveServing_19 : decode cX5_liveServing 19 = .ok (.iconst 0, 1) := by decide +kernel
theorem dX5_liveServing_20 : decode cX5_liveServing 20 = .ok (.goto 7, 3) := by decide +kernel
theorem dX5_liveServing_23 : decode cX5_liveServing 23 = .ok (.bipush 20, 2) := by decide +kernel
theorem dX5_liveServing_25 : decode cX5_liveServing 25 = .ok (.iload_n 2, 1) := by decide +kernel
theorem dX5_liveServing_26 : decode cX5_liveServing 26 = .ok (.iadd, 1) := by decide +kernel
theorem dX5_liveServing_27 : decode cX5_liveServing 27 = .ok (.ireturn, 1) := by decide +kernel
set_option maxRecDepth 20000 in
theorem ggX5_liveHiding_X1_whyNotHide : GoodIn wsX5_liveHiding wsX1_whyNotHide := goodIn_r _ [6, 7, 8, 9, 10, 11, 12, 13, 14, 15, 16, 17, 18, 5, 19, 20, 21, 22, 23, 24, 25, 26, 27, 28, 29, 30, 31, 32, 33, 34, 35, 36, 37, 38, 39, 40, 41, 42, 43, 44, 45, 46, 47, 48, 49, 50, 51, 52, 53, 54, 55] (by decide +kernel) (by decide +kernel)
set_option maxRecDepth 20000 in
theorem gX5_liveHiding_X1_whyNotHide : GoodIn wsX5_liveHiding (wsV RX5 157 RX1 yX1_whyNotHide wsX1_whyNotHide) := goodIn_app (goodIn_of _ (by decide +kernel)) ggX5_liveHiding_X1_whyNotHide
theorem dX5_liveHiding_0 : decode cX5_liveHiding 0 = .ok (.aload_n 0, 1) := by decide +kernel
theorem dX5_liveHiding_1 : decode cX5_liveHiding 1 = .ok (.iload_n 1, 1) := by decide +kernel
theorem dX5_liveHiding_2 : decode cX5_liveHiding 2 = .ok (.invokevirtual 157, 3) := by decide +kernel
theorem dX5_liveHiding_5 : decode cX5_liveHiding 5 = .ok (.istore_n 2, 1) := by decide +kernel
theorem dX5_liveHiding_6 : decode cX5_liveHiding 6 = .ok (.iload_n 2, 1) := by decide +kernel
theorem dX5_liveHiding_7 : decode cX5_liveHiding 7 = .ok (.ifCond .ne 15, 3) := by decide +kernel
theorem dX5_liveHiding_10 : decode cX5_liveHiding 10 = .ok (.aload_n 0, 1) := by decide +kernel
theorem dX5_liveHiding_11 : decode cX5_liveHiding 11 = .ok (.dup, 1) := by decide +kernel
theorem dX5_liveHiding_12 : decode cX5_liveHiding 12 = .ok (.getfield 160, 3) := by decide +kernel
theorem dX5_liveHiding_15 : decode cX5_liveHiding 15 = .ok (.iconst 1, 1) := by decide +kernel
theorem dX5_liveHiding_16 : decode cX5_liveHiding 16 = .ok (.iload_n 1, 1) := by decide +kernel
theorem dX5_liveHiding_17 : decode cX5_liveHiding 17 = .ok (.ishl, 1) := by decide +kernel
theorem dX5_liveHiding_18 : decode cX5_liveHiding 18 = .ok (.ior, 1) := by decide +kernel
theorem dX5_liveHiding_19 : decode cX5_liveHiding 19 = .ok (.putfield 160, 3) := by decide +kernel
theorem dX5_liveHiding_22 : decode cX5_liveHiding 22 = .ok (.iload_n 2, 1) := by decide +kernel
theorem dX5_liveHiding_23 : decode cX5_liveHiding 23 = .ok (.ifCond .ne 7, 3) := by decide +kernel
theorem dX5_liveHiding_26 : decode cX5_liveHiding 26 = .ok (.iconst 0, 1) := by decide +kernel
theorem dX5_liveHiding_27 : decode cX5_liveHiding 27 = .ok (.goto 7, 3) := by decide +kernel
theorem dX5_liveHiding_30 : decode cX5_liveHiding 30 = .ok (.bipush 30, 2) := by decide +kernel
theorem dX5_liveHiding_32 : decode cX5_liveHiding 32 = .ok (.iload_n 2, 1) := by decide +kernel
theorem dX5_liveHiding_33 : decode cX5_liveHiding 33 = .ok (.iadd, 1) := by decide +kernel
theorem dX5_liveHiding_34 : decode cX5_liveHiding 34 = .ok (.ireturn, 1) := by decide +kernel
set_option maxRecDepth 20000 in
theorem ggX5_liveShowing_X1_whyNotShow : GoodIn wsX5_liveShowing wsX1_whyNotShow := goodIn_r _ [6, 7, 8, 9, 10, 11, 12, 13, 14, 15, 16, 17, 18, 19, 20, 21, 22, 23, 24, 25, 26, 27, 28, 29, 30, 31, 32, 33, 34, 35, 36, 37, 38, 39, 40, 41] (by decide +kernel) (by decide +kernel)
set_option maxRecDepth 20000 in
theorem gX5_liveShowing_X1_whyNotShow : GoodIn wsX5_liveShowing (wsV RX5 163 RX1 yX1_whyNotShow wsX1_whyNotShow) := goodIn_app (goodIn_of _ (by decide +kernel)) ggX5_liveShowing_X1_whyNotShow
theorem dX5_liveShowing_0 : decode cX5_liveShowing 0 = .ok (.aload_n 0, 1) := by decide +kernel
theorem dX5_liveShowing_1 : decode cX5_liveShowing 1 = .ok (.iload_n 1, 1) := by decide +kernel
theorem dX5_liveShowing_2 : decode cX5_liveShowing 2 = .ok (.invokevirtual 163, 3) := by decide +kernel
theorem dX5_liveShowing_5 : decode cX5_liveShowing 5 = .ok (.istore_n 2, 1) := by decide +kernel
theorem dX5_liveShowing_6 : decode cX5_liveShowing 6 = .ok (.iload_n 2, 1) := by decide +kernel
theorem dX5_liveShowing_7 : decode cX5_liveShowing 7 = .ok (.ifCond .ne 17, 3) := by decide +kernel
theorem dX5_liveShowing_10 : decode cX5_liveShowing 10 = .ok (.aload_n 0, 1) := by decide +kernel
theorem dX5_liveShowing_11 : decode cX5_liveShowing 11 = .ok (.dup, 1) := by decide +kernel
theorem dX5_liveShowing_12 : decode cX5_liveShowing 12 = .ok (.getfield 160, 3) := by decide +kernel
theorem dX5_liveShowing_15 : decode cX5_liveShowing 15 = .ok (.iconst 1, 1) := by decide +kernel
theorem dX5_liveShowing_16 : decode cX5_liveShowing 16 = .ok (.iload_n 1, 1) := by decide +kernel
theorem dX5_liveShowing_17 : decode cX5_liveShowing 17 = .ok (.ishl, 1) := by decide +kernel
theorem dX5_liveShowing_18 : decode cX5_liveShowing 18 = .ok (.iconst (-1), 1) := by decide +kernel
theorem dX5_liveShowing_19 : decode cX5_liveShowing 19 = .ok (.ixor, 1) := by decide +kernel
theorem dX5_liveShowing_20 : decode cX5_liveShowing 20 = .ok (.iand, 1) := by decide +kernel
theorem dX5_liveShowing_21 : decode cX5_liveShowing 21 = .ok (.putfield 160, 3) := by decide +kernel
theorem dX5_liveShowing_24 : decode cX5_liveShowing 24 = .ok (.iload_n 2, 1) := by decide +kernel
theorem dX5_liveShowing_25 : decode cX5_liveShowing 25 = .ok (.ifCond .ne 7, 3) := by decide +kernel
theorem dX5_liveShowing_28 : decode cX5_liveShowing 28 = .ok (.iconst 0, 1) := by decide +kernel
theorem dX5_liveShowing_29 : decode cX5_liveShowing 29 = .ok (.goto 7, 3) := by decide +kernel
theorem dX5_liveShowing_32 : decode cX5_liveShowing 32 = .ok (.bipush 40, 2) := by decide +kernel
theorem dX5_liveShowing_34 : decode cX5_liveShowing 34 = .ok (.iload_n 2, 1) := by decide +kernel
theorem dX5_liveShowing_35 : decode cX5_liveShowing 35 = .ok (.iadd, 1) := by decide +kernel
theorem dX5_liveShowing_36 : decode cX5_liveShowing 36 = .ok (.ireturn, 1) := by decide +kernel
set_option maxRecDepth 20000 in
theorem ggX5_liveRounds_X1_goRound : GoodIn wsX5_liveRounds wsX1_goRound := goodIn_r _ [6, 7, 8, 9, 10, 11, 12, 13, 14, 15, 16, 17, 18, 19, 20, 5, 21, 22, 23, 24, 25, 26, 27, 28, 29, 30, 31, 32, 33, 34, 35, 36, 37, 38, 39, 40, 41, 42, 43, 44, 45, 46, 47, 48, 49, 50, 51, 52, 53, 54, 55, 56, 57, 58, 59, 60, 61, 62, 63, 64, 65, 66, 67, 68, 69, 70, 71, 72, 73, 74, 75, 76, 77, 78, 79, 80, 81, 82, 83, 84, 85, 86, 87, 88, 89, 90, 91, 92, 93, 94, 95, 96] (by decide +kernel) (by decide +kernel)
set_option maxRecDepth 20000 in
theorem gX5_liveRounds_X1_goRound : GoodIn wsX5_liveRounds (wsV RX5 166 RX1 yX1_goRound wsX1_goRound) := goodIn_app (goodIn_of _ (by decide +kernel)) ggX5_liveRounds_X1_goRound
theorem dX5_liveRounds_0 : decode cX5_liveRounds 0 = .ok (.iload_n 1, 1) := by decide +kernel
theorem dX5_liveRounds_1 : decode cX5_liveRounds 1 = .ok (.sipush 400, 3) := by decide +kernel
theorem dX5_liveRounds_4 : decode cX5_liveRounds 4 = .ok (.aload_n 0, 1) := by decide +kernel
theorem dX5_liveRounds_5 : decode cX5_liveRounds 5 = .ok (.getfield 105, 3) := by decide +kernel
theorem dX5_liveRounds_8 : decode cX5_liveRounds 8 = .ok (.isub, 1) := by decide +kernel
theorem dX5_liveRounds_9 : decode cX5_liveRounds 9 = .ok (.if_icmp .le 6, 3) := by decide +kernel
theorem dX5_liveRounds_12 : decode cX5_liveRounds 12 = .ok (.bipush 51, 2) := by decide +kernel
theorem dX5_liveRounds_14 : decode cX5_liveRounds 14 = .ok (.ireturn, 1) := by decide +kernel
theorem dX5_liveRounds_15 : decode cX5_liveRounds 15 = .ok (.iconst 0, 1) := by decide +kernel
theorem dX5_liveRounds_16 : decode cX5_liveRounds 16 = .ok (.istore_n 2, 1) := by decide +kernel
theorem dX5_liveRounds_17 : decode cX5_liveRounds 17 = .ok (.iload_n 2, 1) := by decide +kernel
theorem dX5_liveRounds_18 : decode cX5_liveRounds 18 = .ok (.iload_n 1, 1) := by decide +kernel
theorem dX5_liveRounds_19 : decode cX5_liveRounds 19 = .ok (.if_icmp .ge 15, 3) := by decide +kernel
theorem dX5_liveRounds_22 : decode cX5_liveRounds 22 = .ok (.aload_n 0, 1) := by decide +kernel
theorem dX5_liveRounds_23 : decode cX5_liveRounds 23 = .ok (.iconst (-1), 1) := by decide +kernel
theorem dX5_liveRounds_24 : decode cX5_liveRounds 24 = .ok (.invokevirtual 166, 3) := by decide +kernel
theorem dX5_liveRounds_27 : decode cX5_liveRounds 27 = .ok (.pop, 1) := by decide +kernel
theorem dX5_liveRounds_28 : decode cX5_liveRounds 28 = .ok (.iinc 2 1, 3) := by decide +kernel
theorem dX5_liveRounds_31 : decode cX5_liveRounds 31 = .ok (.goto (-14), 3) := by decide +kernel
theorem dX5_liveRounds_34 : decode cX5_liveRounds 34 = .ok (.iconst 0, 1) := by decide +kernel
theorem dX5_liveRounds_35 : decode cX5_liveRounds 35 = .ok (.ireturn, 1) := by decide +kernel
