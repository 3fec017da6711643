theorem dX0_init_0 : decode cX0_init 0 = .ok (.aload_n 0, 1) := by decide +kernel
theorem dX0_init_1 : decode cX0_init 1 = .ok (.invokespecial 3, 3) := by decide +kernel
theorem dX0_init_4 : decode cX0_init 4 = .ok (.aload_n 0, 1) := by decide +kernel
theorem dX0_init_5 : decode cX0_init 5 = .ok (.bipush 8, 2) := by decide +kernel
theorem dX0_init_7 : decode cX0_init 7 = .ok (.anewarray 11, 3) := by decide +kernel
theorem dX0_init_10 : decode cX0_init 10 = .ok (.putfield 13, 3) := by decide +kernel
theorem dX0_init_13 : decode cX0_init 13 = .ok (.iconst 0, 1) := by decide +kernel
theorem dX0_init_14 : decode cX0_init 14 = .ok (.istore_n 2, 1) := by decide +kernel
theorem dX0_init_15 : decode cX0_init 15 = .ok (.iload_n 2, 1) := by decide +kernel
theorem dX0_init_16 : decode cX0_init 16 = .ok (.bipush 8, 2) := by decide +kernel
theorem dX0_init_18 : decode cX0_init 18 = .ok (.if_icmp .ge 23, 3) := by decide +kernel
theorem dX0_init_21 : decode cX0_init 21 = .ok (.aload_n 0, 1) := by decide +kernel
theorem dX0_init_22 : decode cX0_init 22 = .ok (.getfield 13, 3) := by decide +kernel
theorem dX0_init_25 : decode cX0_init 25 = .ok (.iload_n 2, 1) := by decide +kernel
theorem dX0_init_26 : decode cX0_init 26 = .ok (.new 11, 3) := by decide +kernel
theorem dX0_init_29 : decode cX0_init 29 = .ok (.dup, 1) := by decide +kernel
theorem dX0_init_30 : decode cX0_init 30 = .ok (.aload_n 1, 1) := by decide +kernel
theorem dX0_init_31 : decode cX0_init 31 = .ok (.invokespecial 17, 3) := by decide +kernel
theorem dX0_init_34 : decode cX0_init 34 = .ok (.aastore, 1) := by decide +kernel
theorem dX0_init_35 : decode cX0_init 35 = .ok (.iinc 2 1, 3) := by decide +kernel
theorem dX0_init_38 : decode cX0_init 38 = .ok (.goto (-23), 3) := by decide +kernel
theorem dX0_init_41 : decode cX0_init 41 = .ok (.return_, 1) := by decide +kernel
theorem dX0_keep_0 : decode cX0_keep 0 = .ok (.aload_n 0, 1) := by decide +kernel
theorem dX0_keep_1 : decode cX0_keep 1 = .ok (.aload_n 0, 1) := by decide +kernel
theorem dX0_keep_2 : decode cX0_keep 2 = .ok (.getfield 20, 3) := by decide +kernel
theorem dX0_keep_5 : decode cX0_keep 5 = .ok (.iconst 1, 1) := by decide +kernel
theorem dX0_keep_6 : decode cX0_keep 6 = .ok (.iadd, 1) := by decide +kernel
theorem dX0_keep_7 : decode cX0_keep 7 = .ok (.bipush 7, 2) := by decide +kernel
theorem dX0_keep_9 : decode cX0_keep 9 = .ok (.iand, 1) := by decide +kernel
theorem dX0_keep_10 : decode cX0_keep 10 = .ok (.putfield 20, 3) := by decide +kernel
theorem dX0_keep_13 : decode cX0_keep 13 = .ok (.aload_n 0, 1) := by decide +kernel
theorem dX0_keep_14 : decode cX0_keep 14 = .ok (.getfield 13, 3) := by decide +kernel
theorem dX0_keep_17 : decode cX0_keep 17 = .ok (.aload_n 0, 1) := by decide +kernel
theorem dX0_keep_18 : decode cX0_keep 18 = .ok (.getfield 20, 3) := by decide +kernel
theorem dX0_keep_21 : decode cX0_keep 21 = .ok (.aaload, 1) := by decide +kernel
theorem dX0_keep_22 : decode cX0_keep 22 = .ok (.aload_n 1, 1) := by decide +kernel
theorem dX0_keep_23 : decode cX0_keep 23 = .ok (.invokevirtual 24, 3) := by decide +kernel
theorem dX0_keep_26 : decode cX0_keep 26 = .ok (.aload_n 0, 1) := by decide +kernel
theorem dX0_keep_27 : decode cX0_keep 27 = .ok (.bipush 8, 2) := by decide +kernel
theorem dX0_keep_29 : decode cX0_keep 29 = .ok (.aload_n 0, 1) := by decide +kernel
theorem dX0_keep_30 : decode cX0_keep 30 = .ok (.getfield 28, 3) := by decide +kernel
theorem dX0_keep_33 : decode cX0_keep 33 = .ok (.iconst 1, 1) := by decide +kernel
theorem dX0_keep_34 : decode cX0_keep 34 = .ok (.iadd, 1) := by decide +kernel
theorem dX0_keep_35 : decode cX0_keep 35 = .ok (.invokestatic 31, 3) := by decide +kernel
theorem dX0_keep_38 : decode cX0_keep 38 = .ok (.putfield 28, 3) := by decide +kernel
theorem dX0_keep_41 : decode cX0_keep 41 = .ok (.return_, 1) := by decide +kernel
theorem dX0_takeBack_0 : decode cX0_takeBack 0 = .ok (.aload_n 0, 1) := by decide +kernel
theorem dX0_takeBack_1 : decode cX0_takeBack 1 = .ok (.getfield 28, 3) := by decide +kernel
theorem dX0_takeBack_4 : decode cX0_takeBack 4 = .ok (.iconst 1, 1) := by decide +kernel
theorem dX0_takeBack_5 : decode cX0_takeBack 5 = .ok (.if_icmp .ge 5, 3) := by decide +kernel
theorem dX0_takeBack_8 : decode cX0_takeBack 8 = .ok (.iconst (-1), 1) := by decide +kernel
theorem dX0_takeBack_9 : decode cX0_takeBack 9 = .ok (.ireturn, 1) := by decide +kernel
theorem dX0_takeBack_10 : decode cX0_takeBack 10 = .ok (.aload_n 1, 1) := by decide +kernel
theorem dX0_takeBack_11 : decode cX0_takeBack 11 = .ok (.aload_n 0, 1) := by decide +kernel
theorem dX0_takeBack_12 : decode cX0_takeBack 12 = .ok (.getfield 13, 3) := by decide +kernel
theorem dX0_takeBack_15 : decode cX0_takeBack 15 = .ok (.aload_n 0, 1) := by decide +kernel
theorem dX0_takeBack_16 : decode cX0_takeBack 16 = .ok (.getfield 20, 3) := by decide +kernel
theorem dX0_takeBack_19 : decode cX0_takeBack 19 = .ok (.aaload, 1) := by decide +kernel
theorem dX0_takeBack_20 : decode cX0_takeBack 20 = .ok (.invokevirtual 24, 3) := by decide +kernel
theorem dX0_takeBack_23 : decode cX0_takeBack 23 = .ok (.aload_n 0, 1) := by decide +kernel
theorem dX0_takeBack_24 : decode cX0_takeBack 24 = .ok (.aload_n 0, 1) := by decide +kernel
theorem dX0_takeBack_25 : decode cX0_takeBack 25 = .ok (.getfield 20, 3) := by decide +kernel
theorem dX0_takeBack_28 : decode cX0_takeBack 28 = .ok (.iconst 1, 1) := by decide +kernel
theorem dX0_takeBack_29 : decode cX0_takeBack 29 = .ok (.isub, 1) := by decide +kernel
theorem dX0_takeBack_30 : decode cX0_takeBack 30 = .ok (.bipush 7, 2) := by decide +kernel
theorem dX0_takeBack_32 : decode cX0_takeBack 32 = .ok (.iand, 1) := by decide +kernel
theorem dX0_takeBack_33 : decode cX0_takeBack 33 = .ok (.putfield 20, 3) := by decide +kernel
theorem dX0_takeBack_36 : decode cX0_takeBack 36 = .ok (.aload_n 0, 1) := by decide +kernel
theorem dX0_takeBack_37 : decode cX0_takeBack 37 = .ok (.dup, 1) := by decide +kernel
theorem dX0_takeBack_38 : decode cX0_takeBack 38 = .ok (.getfield 28, 3) := by decide +kernel
theorem dX0_takeBack_41 : decode cX0_takeBack 41 = .ok (.iconst 1, 1) := by decide +kernel
theorem dX0_takeBack_42 : decode cX0_takeBack 42 = .ok (.isub, 1) := by decide +kernel
theorem dX0_takeBack_43 : decode cX0_takeBack 43 = .ok (.putfield 28, 3) := by decide +kernel
theorem dX0_takeBack_46 : decode cX0_takeBack 46 = .ok (.aload_n 0, 1) := by decide +kernel
theorem dX0_takeBack_47 : decode cX0_takeBack 47 = .ok (.getfield 28, 3) := by decide +kernel
theorem dX0_takeBack_50 : decode cX0_takeBack 50 = .ok (.ireturn, 1) := by decide +kernel
theorem dX3_init_0 : decode cX3_init 0 = .ok (.aload_n 0, 1) := by decide +kernel
theorem dX3_init_1 : decode cX3_init 1 = .ok (.invokespecial 3, 3) := by decide +kernel
theorem dX3_init_4 : decode cX3_init 4 = .ok (.aload_n 0, 1) := by decide +kernel
theorem dX3_init_5 : decode cX3_init 5 = .ok (.aload_n 1, 1) := by decide +kernel
theorem dX3_init_6 : decode cX3_init 6 = .ok (.putfield 9, 3) := by decide +kernel
theorem dX3_init_9 : decode cX3_init 9 = .ok (.aload_n 0, 1) := by decide +kernel
theorem dX3_init_10 : decode cX3_init 10 = .ok (.new 15, 3) := by decide +kernel
theorem dX3_init_13 : decode cX3_init 13 = .ok (.dup, 1) := by decide +kernel
theorem dX3_init_14 : decode cX3_init 14 = .ok (.invokespecial 17, 3) := by decide +kernel
theorem dX3_init_17 : decode cX3_init 17 = .ok (.putfield 18, 3) := by decide +kernel
theorem dX3_init_20 : decode cX3_init 20 = .ok (.return_, 1) := by decide +kernel
theorem dX3_read_0 : decode cX3_read 0 = .ok (.aload_n 0, 1) := by decide +kernel
theorem dX3_read_1 : decode cX3_read 1 = .ok (.getfield 9, 3) := by decide +kernel
theorem dX3_read_4 : decode cX3_read 4 = .ok (.sipush 900, 3) := by decide +kernel
theorem dX3_read_7 : decode cX3_read 7 = .ok (.invokevirtual 22, 3) := by decide +kernel
theorem dX3_read_10 : decode cX3_read 10 = .ok (.aload_n 0, 1) := by decide +kernel
theorem dX3_read_11 : decode cX3_read 11 = .ok (.getfield 18, 3) := by decide +kernel
theorem dX3_read_14 : decode cX3_read 14 = .ok (.invokevirtual 28, 3) := by decide +kernel
theorem dX3_read_17 : decode cX3_read 17 = .ok (.aload_n 0, 1) := by decide +kernel
theorem dX3_read_18 : decode cX3_read 18 = .ok (.iconst 0, 1) := by decide +kernel
theorem dX3_read_19 : decode cX3_read 19 = .ok (.putfield 31, 3) := by decide +kernel
theorem dX3_read_22 : decode cX3_read 22 = .ok (.iconst 0, 1) := by decide +kernel
theorem dX3_read_23 : decode cX3_read 23 = .ok (.istore_n 1, 1) := by decide +kernel
theorem dX3_read_24 : decode cX3_read 24 = .ok (.iload_n 1, 1) := by decide +kernel
theorem dX3_read_25 : decode cX3_read 25 = .ok (.sipush 940, 3) := by decide +kernel
theorem dX3_read_28 : decode cX3_read 28 = .ok (.if_icmp .ge 30, 3) := by decide +kernel
theorem dX3_read_31 : decode cX3_read 31 = .ok (.aload_n 0, 1) := by decide +kernel
theorem dX3_read_32 : decode cX3_read 32 = .ok (.getfield 9, 3) := by decide +kernel
theorem dX3_read_35 : decode cX3_read 35 = .ok (.getfield 35, 3) := by decide +kernel
theorem dX3_read_38 : decode cX3_read 38 = .ok (.ifCond .ne 5, 3) := by decide +kernel
theorem dX3_read_41 : decode cX3_read 41 = .ok (.iload_n 1, 1) := by decide +kernel
theorem dX3_read_42 : decode cX3_read 42 = .ok (.ireturn, 1) := by decide +kernel
theorem dX3_read_43 : decode cX3_read 43 = .ok (.aload_n 0, 1) := by decide +kernel
theorem dX3_read_44 : decode cX3_read 44 = .ok (.invokevirtual 39, 3) := by decide +kernel
theorem dX3_read_47 : decode cX3_read 47 = .ok (.ifCond .ne 5, 3) := by decide +kernel
theorem dX3_read_50 : decode cX3_read 50 = .ok (.iconst (-1), 1) := by decide +kernel
theorem dX3_read_51 : decode cX3_read 51 = .ok (.ireturn, 1) := by decide +kernel
theorem dX3_read_52 : decode cX3_read 52 = .ok (.iinc 1 1, 3) := by decide +kernel
theorem dX3_read_55 : decode cX3_read 55 = .ok (.goto (-31), 3) := by decide +kernel
theorem dX3_read_58 : decode cX3_read 58 = .ok (.iconst (-1), 1) := by decide +kernel
theorem dX3_read_59 : decode cX3_read 59 = .ok (.ireturn, 1) := by decide +kernel
theorem dX3_readLine_0 : decode cX3_readLine 0 = .ok (.aload_n 0, 1) := by decide +kernel
theorem dX3_readLine_1 : decode cX3_readLine 1 = .ok (.getfield 9, 3) := by decide +kernel
theorem dX3_readLine_4 : decode cX3_readLine 4 = .ok (.getfield 43, 3) := by decide +kernel
theorem dX3_readLine_7 : decode cX3_readLine 7 = .ok (.tableswitch 61 0 3 #[29, 37, 45, 53], 29) := by decide +kernel
theorem dX3_readLine_36 : decode cX3_readLine 36 = .ok (.aload_n 0, 1) := by decide +kernel
theorem dX3_readLine_37 : decode cX3_readLine 37 = .ok (.invokevirtual 46, 3) := by decide +kernel
theorem dX3_readLine_40 : decode cX3_readLine 40 = .ok (.istore_n 1, 1) := by decide +kernel
theorem dX3_readLine_41 : decode cX3_readLine 41 = .ok (.goto 36, 3) := by decide +kernel
theorem dX3_readLine_44 : decode cX3_readLine 44 = .ok (.aload_n 0, 1) := by decide +kernel
theorem dX3_readLine_45 : decode cX3_readLine 45 = .ok (.invokevirtual 49, 3) := by decide +kernel
theorem dX3_readLine_48 : decode cX3_readLine 48 = .ok (.istore_n 1, 1) := by decide +kernel
theorem dX3_readLine_49 : decode cX3_readLine 49 = .ok (.goto 28, 3) := by decide +kernel
theorem dX3_readLine_52 : decode cX3_readLine 52 = .ok (.aload_n 0, 1) := by decide +kernel
theorem dX3_readLine_53 : decode cX3_readLine 53 = .ok (.invokevirtual 52, 3) := by decide +kernel
theorem dX3_readLine_56 : decode cX3_readLine 56 = .ok (.istore_n 1, 1) := by decide +kernel
theorem dX3_readLine_57 : decode cX3_readLine 57 = .ok (.goto 20, 3) := by decide +kernel
theorem dX3_readLine_60 : decode cX3_readLine 60 = .ok (.aload_n 0, 1) := by decide +kernel
theorem dX3_readLine_61 : decode cX3_readLine 61 = .ok (.invokevirtual 55, 3) := by decide +kernel
theorem dX3_readLine_64 : decode cX3_readLine 64 = .ok (.istore_n 1, 1) := by decide +kernel
theorem dX3_readLine_65 : decode cX3_readLine 65 = .ok (.goto 12, 3) := by decide +kernel
theorem dX3_readLine_68 : decode cX3_readLine 68 = .ok (.aload_n 0, 1) := by decide +kernel
theorem dX3_readLine_69 : decode cX3_readLine 69 = .ok (.getfield 9, 3) := by decide +kernel
theorem dX3_readLine_72 : decode cX3_readLine 72 = .ok (.iconst 1, 1) := by decide +kernel
theorem dX3_readLine_73 : decode cX3_readLine 73 = .ok (.invokevirtual 58, 3) := by decide +kernel
theorem dX3_readLine_76 : decode cX3_readLine 76 = .ok (.istore_n 1, 1) := by decide +kernel
theorem dX3_readLine_77 : decode cX3_readLine 77 = .ok (.iload_n 1, 1) := by decide +kernel
theorem dX3_readLine_78 : decode cX3_readLine 78 = .ok (.ifCond .eq 19, 3) := by decide +kernel
theorem dX3_readLine_81 : decode cX3_readLine 81 = .ok (.aload_n 0, 1) := by decide +kernel
theorem dX3_readLine_82 : decode cX3_readLine 82 = .ok (.getfield 9, 3) := by decide +kernel
theorem dX3_readLine_85 : decode cX3_readLine 85 = .ok (.bipush 59, 2) := by decide +kernel
theorem dX3_readLine_87 : decode cX3_readLine 87 = .ok (.invokevirtual 62, 3) := by decide +kernel
theorem dX3_readLine_90 : decode cX3_readLine 90 = .ok (.ifCond .eq 7, 3) := by decide +kernel
theorem dX3_readLine_93 : decode cX3_readLine 93 = .ok (.iconst 1, 1) := by decide +kernel
theorem dX3_readLine_94 : decode cX3_readLine 94 = .ok (.goto 4, 3) := by decide +kernel
theorem dX3_readLine_97 : decode cX3_readLine 97 = .ok (.iconst 0, 1) := by decide +kernel
theorem dX3_readLine_98 : decode cX3_readLine 98 = .ok (.ireturn, 1) := by decide +kernel
theorem dX3_readChairs_0 : decode cX3_readChairs 0 = .ok (.aload_n 0, 1) := by decide +kernel
theorem dX3_readChairs_1 : decode cX3_readChairs 1 = .ok (.getfield 31, 3) := by decide +kernel
theorem dX3_readChairs_4 : decode cX3_readChairs 4 = .ok (.ifCond .ne 13, 3) := by decide +kernel
theorem dX3_readChairs_7 : decode cX3_readChairs 7 = .ok (.aload_n 0, 1) := by decide +kernel
theorem dX3_readChairs_8 : decode cX3_readChairs 8 = .ok (.getfield 18, 3) := by decide +kernel
theorem dX3_readChairs_11 : decode cX3_readChairs 11 = .ok (.getfield 65, 3) := by decide +kernel
theorem dX3_readChairs_14 : decode cX3_readChairs 14 = .ok (.ifCond .le 12, 3) := by decide +kernel
theorem dX3_readChairs_17 : decode cX3_readChairs 17 = .ok (.aload_n 0, 1) := by decide +kernel
theorem dX3_readChairs_18 : decode cX3_readChairs 18 = .ok (.getfield 9, 3) := by decide +kernel
theorem dX3_readChairs_21 : decode cX3_readChairs 21 = .ok (.iconst 3, 1) := by decide +kernel
theorem dX3_readChairs_22 : decode cX3_readChairs 22 = .ok (.invokevirtual 58, 3) := by decide +kernel
theorem dX3_readChairs_25 : decode cX3_readChairs 25 = .ok (.ireturn, 1) := by decide +kernel
theorem dX3_readChairs_26 : decode cX3_readChairs 26 = .ok (.aload_n 0, 1) := by decide +kernel
theorem dX3_readChairs_27 : decode cX3_readChairs 27 = .ok (.getfield 9, 3) := by decide +kernel
theorem dX3_readChairs_30 : decode cX3_readChairs 30 = .ok (.invokevirtual 68, 3) := by decide +kernel
theorem dX3_readChairs_33 : decode cX3_readChairs 33 = .ok (.aload_n 0, 1) := by decide +kernel
theorem dX3_readChairs_34 : decode cX3_readChairs 34 = .ok (.getfield 9, 3) := by decide +kernel
theorem dX3_readChairs_37 : decode cX3_readChairs 37 = .ok (.iconst 2, 1) := by decide +kernel
theorem dX3_readChairs_38 : decode cX3_readChairs 38 = .ok (.bipush 9, 2) := by decide +kernel
theorem dX3_readChairs_40 : decode cX3_readChairs 40 = .ok (.invokevirtual 71, 3) := by decide +kernel
theorem dX3_readChairs_43 : decode cX3_readChairs 43 = .ok (.ifCond .ne 5, 3) := by decide +kernel
theorem dX3_readChairs_46 : decode cX3_readChairs 46 = .ok (.iconst 0, 1) := by decide +kernel
theorem dX3_readChairs_47 : decode cX3_readChairs 47 = .ok (.ireturn, 1) := by decide +kernel
theorem dX3_readChairs_48 : decode cX3_readChairs 48 = .ok (.aload_n 0, 1) := by decide +kernel
theorem dX3_readChairs_49 : decode cX3_readChairs 49 = .ok (.getfield 18, 3) := by decide +kernel
theorem dX3_readChairs_52 : decode cX3_readChairs 52 = .ok (.aload_n 0, 1) := by decide +kernel
theorem dX3_readChairs_53 : decode cX3_readChairs 53 = .ok (.getfield 9, 3) := by decide +kernel
theorem dX3_readChairs_56 : decode cX3_readChairs 56 = .ok (.getfield 75, 3) := by decide +kernel
theorem dX3_readChairs_59 : decode cX3_readChairs 59 = .ok (.putfield 78, 3) := by decide +kernel
theorem dX3_readChairs_62 : decode cX3_readChairs 62 = .ok (.aload_n 0, 1) := by decide +kernel
theorem dX3_readChairs_63 : decode cX3_readChairs 63 = .ok (.iconst 1, 1) := by decide +kernel
theorem dX3_readChairs_64 : decode cX3_readChairs 64 = .ok (.putfield 31, 3) := by decide +kernel
theorem dX3_readChairs_67 : decode cX3_readChairs 67 = .ok (.iconst 1, 1) := by decide +kernel
theorem dX3_readChairs_68 : decode cX3_readChairs 68 = .ok (.ireturn, 1) := by decide +kernel
theorem dX3_readGuest_0 : decode cX3_readGuest 0 = .ok (.aload_n 0, 1) := by decide +kernel
theorem dX3_readGuest_1 : decode cX3_readGuest 1 = .ok (.getfield 18, 3) := by decide +kernel
theorem dX3_readGuest_4 : decode cX3_readGuest 4 = .ok (.getfield 65, 3) := by decide +kernel
theorem dX3_readGuest_7 : decode cX3_readGuest 7 = .ok (.istore_n 1, 1) := by decide +kernel
theorem dX3_readGuest_8 : decode cX3_readGuest 8 = .ok (.iload_n 1, 1) := by decide +kernel
theorem dX3_readGuest_9 : decode cX3_readGuest 9 = .ok (.bipush 7, 2) := by decide +kernel
theorem dX3_readGuest_11 : decode cX3_readGuest 11 = .ok (.if_icmp .ge 14, 3) := by decide +kernel
theorem dX3_readGuest_14 : decode cX3_readGuest 14 = .ok (.iload_n 1, 1) := by decide +kernel
theorem dX3_readGuest_15 : decode cX3_readGuest 15 = .ok (.aload_n 0, 1) := by decide +kernel
theorem dX3_readGuest_16 : decode cX3_readGuest 16 = .ok (.getfield 18, 3) := by decide +kernel
theorem dX3_readGuest_19 : decode cX3_readGuest 19 = .ok (.getfield 78, 3) := by decide +kernel
theorem dX3_readGuest_22 : decode cX3_readGuest 22 = .ok (.if_icmp .lt 12, 3) := by decide +kernel
theorem dX3_readGuest_25 : decode cX3_readGuest 25 = .ok (.aload_n 0, 1) := by decide +kernel
theorem dX3_readGuest_26 : decode cX3_readGuest 26 = .ok (.getfield 9, 3) := by decide +kernel
theorem dX3_readGuest_29 : decode cX3_readGuest 29 = .ok (.iconst 4, 1) := by decide +kernel
theorem dX3_readGuest_30 : decode cX3_readGuest 30 = .ok (.invokevirtual 58, 3) := by decide +kernel
theorem dX3_readGuest_33 : decode cX3_readGuest 33 = .ok (.ireturn, 1) := by decide +kernel
theorem dX3_readGuest_34 : decode cX3_readGuest 34 = .ok (.aload_n 0, 1) := by decide +kernel
theorem dX3_readGuest_35 : decode cX3_readGuest 35 = .ok (.getfield 9, 3) := by decide +kernel
theorem dX3_readGuest_38 : decode cX3_readGuest 38 = .ok (.invokevirtual 68, 3) := by decide +kernel
theorem dX3_readGuest_41 : decode cX3_readGuest 41 = .ok (.aload_n 0, 1) := by decide +kernel
theorem dX3_readGuest_42 : decode cX3_readGuest 42 = .ok (.invokevirtual 81, 3) := by decide +kernel
theorem dX3_readGuest_45 : decode cX3_readGuest 45 = .ok (.ifCond .ne 5, 3) := by decide +kernel
theorem dX3_readGuest_48 : decode cX3_readGuest 48 = .ok (.iconst 0, 1) := by decide +kernel
theorem dX3_readGuest_49 : decode cX3_readGuest 49 = .ok (.ireturn, 1) := by decide +kernel
theorem dX3_readGuest_50 : decode cX3_readGuest 50 = .ok (.aload_n 0, 1) := by decide +kernel
theorem dX3_readGuest_51 : decode cX3_readGuest 51 = .ok (.getfield 18, 3) := by decide +kernel
theorem dX3_readGuest_54 : decode cX3_readGuest 54 = .ok (.getfield 84, 3) := by decide +kernel
theorem dX3_readGuest_57 : decode cX3_readGuest 57 = .ok (.iload_n 1, 1) := by decide +kernel
theorem dX3_readGuest_58 : decode cX3_readGuest 58 = .ok (.aload_n 0, 1) := by decide +kernel
theorem dX3_readGuest_59 : decode cX3_readGuest 59 = .ok (.getfield 9, 3) := by decide +kernel
theorem dX3_readGuest_62 : decode cX3_readGuest 62 = .ok (.getfield 88, 3) := by decide +kernel
theorem dX3_readGuest_65 : decode cX3_readGuest 65 = .ok (.lastore, 1) := by decide +kernel
theorem dX3_readGuest_66 : decode cX3_readGuest 66 = .ok (.aload_n 0, 1) := by decide +kernel
theorem dX3_readGuest_67 : decode cX3_readGuest 67 = .ok (.getfield 9, 3) := by decide +kernel
theorem dX3_readGuest_70 : decode cX3_readGuest 70 = .ok (.invokevirtual 68, 3) := by decide +kernel
theorem dX3_readGuest_73 : decode cX3_readGuest 73 = .ok (.aload_n 0, 1) := by decide +kernel
theorem dX3_readGuest_74 : decode cX3_readGuest 74 = .ok (.getfield 9, 3) := by decide +kernel
theorem dX3_readGuest_77 : decode cX3_readGuest 77 = .ok (.iconst 0, 1) := by decide +kernel
theorem dX3_readGuest_78 : decode cX3_readGuest 78 = .ok (.sipush 999, 3) := by decide +kernel
theorem dX3_readGuest_81 : decode cX3_readGuest 81 = .ok (.invokevirtual 71, 3) := by decide +kernel
theorem dX3_readGuest_84 : decode cX3_readGuest 84 = .ok (.ifCond .ne 5, 3) := by decide +kernel
theorem dX3_readGuest_87 : decode cX3_readGuest 87 = .ok (.iconst 0, 1) := by decide +kernel
theorem dX3_readGuest_88 : decode cX3_readGuest 88 = .ok (.ireturn, 1) := by decide +kernel
theorem dX3_readGuest_89 : decode cX3_readGuest 89 = .ok (.aload_n 0, 1) := by decide +kernel
theorem dX3_readGuest_90 : decode cX3_readGuest 90 = .ok (.getfield 18, 3) := by decide +kernel
theorem dX3_readGuest_93 : decode cX3_readGuest 93 = .ok (.getfield 92, 3) := by decide +kernel
theorem dX3_readGuest_96 : decode cX3_readGuest 96 = .ok (.iload_n 1, 1) := by decide +kernel
theorem dX3_readGuest_97 : decode cX3_readGuest 97 = .ok (.aload_n 0, 1) := by decide +kernel
theorem dX3_readGuest_98 : decode cX3_readGuest 98 = .ok (.getfield 9, 3) := by decide +kernel
theorem dX3_readGuest_101 : decode cX3_readGuest 101 = .ok (.getfield 75, 3) := by decide +kernel
theorem dX3_readGuest_104 : decode cX3_readGuest 104 = .ok (.iastore, 1) := by decide +kernel
theorem dX3_readGuest_105 : decode cX3_readGuest 105 = .ok (.aload_n 0, 1) := by decide +kernel
theorem dX3_readGuest_106 : decode cX3_readGuest 106 = .ok (.getfield 9, 3) := by decide +kernel
theorem dX3_readGuest_109 : decode cX3_readGuest 109 = .ok (.iconst 0, 1) := by decide +kernel
theorem dX3_readGuest_110 : decode cX3_readGuest 110 = .ok (.bipush 9, 2) := by decide +kernel
theorem dX3_readGuest_112 : decode cX3_readGuest 112 = .ok (.invokevirtual 71, 3) := by decide +kernel
theorem dX3_readGuest_115 : decode cX3_readGuest 115 = .ok (.ifCond .ne 5, 3) := by decide +kernel
theorem dX3_readGuest_118 : decode cX3_readGuest 118 = .ok (.iconst 0, 1) := by decide +kernel
theorem dX3_readGuest_119 : decode cX3_readGuest 119 = .ok (.ireturn, 1) := by decide +kernel
theorem dX3_readGuest_120 : decode cX3_readGuest 120 = .ok (.aload_n 0, 1) := by decide +kernel
theorem dX3_readGuest_121 : decode cX3_readGuest 121 = .ok (.getfield 18, 3) := by decide +kernel
theorem dX3_readGuest_124 : decode cX3_readGuest 124 = .ok (.getfield 96, 3) := by decide +kernel
theorem dX3_readGuest_127 : decode cX3_readGuest 127 = .ok (.iload_n 1, 1) := by decide +kernel
theorem dX3_readGuest_128 : decode cX3_readGuest 128 = .ok (.aload_n 0, 1) := by decide +kernel
theorem dX3_readGuest_129 : decode cX3_readGuest 129 = .ok (.getfield 9, 3) := by decide +kernel
theorem dX3_readGuest_132 : decode cX3_readGuest 132 = .ok (.getfield 75, 3) := by decide +kernel
theorem dX3_readGuest_135 : decode cX3_readGuest 135 = .ok (.iastore, 1) := by decide +kernel
theorem dX3_readGuest_136 : decode cX3_readGuest 136 = .ok (.aload_n 0, 1) := by decide +kernel
theorem dX3_readGuest_137 : decode cX3_readGuest 137 = .ok (.getfield 9, 3) := by decide +kernel
theorem dX3_readGuest_140 : decode cX3_readGuest 140 = .ok (.iconst 0, 1) := by decide +kernel
theorem dX3_readGuest_141 : decode cX3_readGuest 141 = .ok (.bipush 9, 2) := by decide +kernel
theorem dX3_readGuest_143 : decode cX3_readGuest 143 = .ok (.invokevirtual 71, 3) := by decide +kernel
theorem dX3_readGuest_146 : decode cX3_readGuest 146 = .ok (.ifCond .ne 5, 3) := by decide +kernel
theorem dX3_readGuest_149 : decode cX3_readGuest 149 = .ok (.iconst 0, 1) := by decide +kernel
theorem dX3_readGuest_150 : decode cX3_readGuest 150 = .ok (.ireturn, 1) := by decide +kernel
theorem dX3_readGuest_151 : decode cX3_readGuest 151 = .ok (.aload_n 0, 1) := by decide +kernel
theorem dX3_readGuest_152 : decode cX3_readGuest 152 = .ok (.getfield 18, 3) := by decide +kernel
theorem dX3_readGuest_155 : decode cX3_readGuest 155 = .ok (.getfield 99, 3) := by decide +kernel
theorem dX3_readGuest_158 : decode cX3_readGuest 158 = .ok (.iload_n 1, 1) := by decide +kernel
theorem dX3_readGuest_159 : decode cX3_readGuest 159 = .ok (.aload_n 0, 1) := by decide +kernel
theorem dX3_readGuest_160 : decode cX3_readGuest 160 = .ok (.getfield 9, 3) := by decide +kernel
theorem dX3_readGuest_163 : decode cX3_readGuest 163 = .ok (.getfield 75, 3) := by decide +kernel
theorem dX3_readGuest_166 : decode cX3_readGuest 166 = .ok (.iastore, 1) := by decide +kernel
theorem dX3_readGuest_167 : decode cX3_readGuest 167 = .ok (.aload_n 0, 1) := by decide +kernel
theorem dX3_readGuest_168 : decode cX3_readGuest 168 = .ok (.getfield 9, 3) := by decide +kernel
theorem dX3_readGuest_171 : decode cX3_readGuest 171 = .ok (.iconst 0, 1) := by decide +kernel
theorem dX3_readGuest_172 : decode cX3_readGuest 172 = .ok (.aload_n 0, 1) := by decide +kernel
theorem dX3_readGuest_173 : decode cX3_readGuest 173 = .ok (.getfield 18, 3) := by decide +kernel
theorem dX3_readGuest_176 : decode cX3_readGuest 176 = .ok (.getfield 78, 3) := by decide +kernel
theorem dX3_readGuest_179 : decode cX3_readGuest 179 = .ok (.iconst 1, 1) := by decide +kernel
theorem dX3_readGuest_180 : decode cX3_readGuest 180 = .ok (.isub, 1) := by decide +kernel
theorem dX3_readGuest_181 : decode cX3_readGuest 181 = .ok (.invokevirtual 71, 3) := by decide +kernel
theorem dX3_readGuest_184 : decode cX3_readGuest 184 = .ok (.ifCond .ne 5, 3) := by decide +kernel
theorem dX3_readGuest_187 : decode cX3_readGuest 187 = .ok (.iconst 0, 1) := by decide +kernel
theorem dX3_readGuest_188 : decode cX3_readGuest 188 = .ok (.ireturn, 1) := by decide +kernel
theorem dX3_readGuest_189 : decode cX3_readGuest 189 = .ok (.aload_n 0, 1) := by decide +kernel
theorem dX3_readGuest_190 : decode cX3_readGuest 190 = .ok (.getfield 18, 3) := by decide +kernel
theorem dX3_readGuest_193 : decode cX3_readGuest 193 = .ok (.getfield 102, 3) := by decide +kernel
theorem dX3_readGuest_196 : decode cX3_readGuest 196 = .ok (.iload_n 1, 1) := by decide +kernel
theorem dX3_readGuest_197 : decode cX3_readGuest 197 = .ok (.aload_n 0, 1) := by decide +kernel
theorem dX3_readGuest_198 : decode cX3_readGuest 198 = .ok (.getfield 9, 3) := by decide +kernel
theorem dX3_readGuest_201 : decode cX3_readGuest 201 = .ok (.getfield 75, 3) := by decide +kernel
theorem dX3_readGuest_204 : decode cX3_readGuest 204 = .ok (.iastore, 1) := by decide +kernel
theorem dX3_readGuest_205 : decode cX3_readGuest 205 = .ok (.aload_n 0, 1) := by decide +kernel
theorem dX3_readGuest_206 : decode cX3_readGuest 206 = .ok (.getfield 18, 3) := by decide +kernel
theorem dX3_readGuest_209 : decode cX3_readGuest 209 = .ok (.getfield 105, 3) := by decide +kernel
theorem dX3_readGuest_212 : decode cX3_readGuest 212 = .ok (.iload_n 1, 1) := by decide +kernel
theorem dX3_readGuest_213 : decode cX3_readGuest 213 = .ok (.iload_n 1, 1) := by decide +kernel
theorem dX3_readGuest_214 : decode cX3_readGuest 214 = .ok (.iastore, 1) := by decide +kernel
theorem dX3_readGuest_215 : decode cX3_readGuest 215 = .ok (.aload_n 0, 1) := by decide +kernel
theorem dX3_readGuest_216 : decode cX3_readGuest 216 = .ok (.getfield 18, 3) := by decide +kernel
theorem dX3_readGuest_219 : decode cX3_readGuest 219 = .ok (.dup, 1) := by decide +kernel
theorem dX3_readGuest_220 : decode cX3_readGuest 220 = .ok (.getfield 65, 3) := by decide +kernel
theorem dX3_readGuest_223 : decode cX3_readGuest 223 = .ok (.iconst 1, 1) := by decide +kernel
theorem dX3_readGuest_224 : decode cX3_readGuest 224 = .ok (.iadd, 1) := by decide +kernel
theorem dX3_readGuest_225 : decode cX3_readGuest 225 = .ok (.putfield 65, 3) := by decide +kernel
theorem dX3_readGuest_228 : decode cX3_readGuest 228 = .ok (.iconst 1, 1) := by decide +kernel
theorem dX3_readGuest_229 : decode cX3_readGuest 229 = .ok (.ireturn, 1) := by decide +kernel
theorem dX3_readDish_0 : decode cX3_readDish 0 = .ok (.aload_n 0, 1) := by decide +kernel
theorem dX3_readDish_1 : decode cX3_readDish 1 = .ok (.getfield 18, 3) := by decide +kernel
theorem dX3_readDish_4 : decode cX3_readDish 4 = .ok (.getfield 108, 3) := by decide +kernel
theorem dX3_readDish_7 : decode cX3_readDish 7 = .ok (.istore_n 1, 1) := by decide +kernel
theorem dX3_readDish_8 : decode cX3_readDish 8 = .ok (.iload_n 1, 1) := by decide +kernel
theorem dX3_readDish_9 : decode cX3_readDish 9 = .ok (.bipush 6, 2) := by decide +kernel
theorem dX3_readDish_11 : decode cX3_readDish 11 = .ok (.if_icmp .lt 12, 3) := by decide +kernel
theorem dX3_readDish_14 : decode cX3_readDish 14 = .ok (.aload_n 0, 1) := by decide +kernel
theorem dX3_readDish_15 : decode cX3_readDish 15 = .ok (.getfield 9, 3) := by decide +kernel
theorem dX3_readDish_18 : decode cX3_readDish 18 = .ok (.iconst 4, 1) := by decide +kernel
theorem dX3_readDish_19 : decode cX3_readDish 19 = .ok (.invokevirtual 58, 3) := by decide +kernel
theorem dX3_readDish_22 : decode cX3_readDish 22 = .ok (.ireturn, 1) := by decide +kernel
theorem dX3_readDish_23 : decode cX3_readDish 23 = .ok (.aload_n 0, 1) := by decide +kernel
theorem dX3_readDish_24 : decode cX3_readDish 24 = .ok (.getfield 9, 3) := by decide +kernel
theorem dX3_readDish_27 : decode cX3_readDish 27 = .ok (.invokevirtual 68, 3) := by decide +kernel
theorem dX3_readDish_30 : decode cX3_readDish 30 = .ok (.aload_n 0, 1) := by decide +kernel
theorem dX3_readDish_31 : decode cX3_readDish 31 = .ok (.invokevirtual 81, 3) := by decide +kernel
theorem dX3_readDish_34 : decode cX3_readDish 34 = .ok (.ifCond .ne 5, 3) := by decide +kernel
theorem dX3_readDish_37 : decode cX3_readDish 37 = .ok (.iconst 0, 1) := by decide +kernel
theorem dX3_readDish_38 : decode cX3_readDish 38 = .ok (.ireturn, 1) := by decide +kernel
theorem dX3_readDish_39 : decode cX3_readDish 39 = .ok (.aload_n 0, 1) := by decide +kernel
theorem dX3_readDish_40 : decode cX3_readDish 40 = .ok (.getfield 18, 3) := by decide +kernel
theorem dX3_readDish_43 : decode cX3_readDish 43 = .ok (.getfield 111, 3) := by decide +kernel
theorem dX3_readDish_46 : decode cX3_readDish 46 = .ok (.iload_n 1, 1) := by decide +kernel
theorem dX3_readDish_47 : decode cX3_readDish 47 = .ok (.aload_n 0, 1) := by decide +kernel
theorem dX3_readDish_48 : decode cX3_readDish 48 = .ok (.getfield 9, 3) := by decide +kernel
theorem dX3_readDish_51 : decode cX3_readDish 51 = .ok (.getfield 88, 3) := by decide +kernel
theorem dX3_readDish_54 : decode cX3_readDish 54 = .ok (.lastore, 1) := by decide +kernel
theorem dX3_readDish_55 : decode cX3_readDish 55 = .ok (.aload_n 0, 1) := by decide +kernel
theorem dX3_readDish_56 : decode cX3_readDish 56 = .ok (.getfield 9, 3) := by decide +kernel
theorem dX3_readDish_59 : decode cX3_readDish 59 = .ok (.invokevirtual 68, 3) := by decide +kernel
theorem dX3_readDish_62 : decode cX3_readDish 62 = .ok (.aload_n 0, 1) := by decide +kernel
theorem dX3_readDish_63 : decode cX3_readDish 63 = .ok (.getfield 9, 3) := by decide +kernel
theorem dX3_readDish_66 : decode cX3_readDish 66 = .ok (.iconst 1, 1) := by decide +kernel
theorem dX3_readDish_67 : decode cX3_readDish 67 = .ok (.bipush 99, 2) := by decide +kernel
theorem dX3_readDish_69 : decode cX3_readDish 69 = .ok (.invokevirtual 71, 3) := by decide +kernel
theorem dX3_readDish_72 : decode cX3_readDish 72 = .ok (.ifCond .ne 5, 3) := by decide +kernel
theorem dX3_readDish_75 : decode cX3_readDish 75 = .ok (.iconst 0, 1) := by decide +kernel
theorem dX3_readDish_76 : decode cX3_readDish 76 = .ok (.ireturn, 1) := by decide +kernel
theorem dX3_readDish_77 : decode cX3_readDish 77 = .ok (.aload_n 0, 1) := by decide +kernel
theorem dX3_readDish_78 : decode cX3_readDish 78 = .ok (.getfield 18, 3) := by decide +kernel
theorem dX3_readDish_81 : decode cX3_readDish 81 = .ok (.getfield 114, 3) := by decide +kernel
theorem dX3_readDish_84 : decode cX3_readDish 84 = .ok (.iload_n 1, 1) := by decide +kernel
theorem dX3_readDish_85 : decode cX3_readDish 85 = .ok (.aload_n 0, 1) := by decide +kernel
theorem dX3_readDish_86 : decode cX3_readDish 86 = .ok (.getfield 9, 3) := by decide +kernel
theorem dX3_readDish_89 : decode cX3_readDish 89 = .ok (.getfield 75, 3) := by decide +kernel
theorem dX3_readDish_92 : decode cX3_readDish 92 = .ok (.iastore, 1) := by decide +kernel
theorem dX3_readDish_93 : decode cX3_readDish 93 = .ok (.aload_n 0, 1) := by decide +kernel
theorem dX3_readDish_94 : decode cX3_readDish 94 = .ok (.getfield 18, 3) := by decide +kernel
theorem dX3_readDish_97 : decode cX3_readDish 97 = .ok (.dup, 1) := by decide +kernel
theorem dX3_readDish_98 : decode cX3_readDish 98 = .ok (.getfield 108, 3) := by decide +kernel
theorem dX3_readDish_101 : decode cX3_readDish 101 = .ok (.iconst 1, 1) := by decide +kernel
theorem dX3_readDish_102 : decode cX3_readDish 102 = .ok (.iadd, 1) := by decide +kernel
theorem dX3_readDish_103 : decode cX3_readDish 103 = .ok (.putfield 108, 3) := by decide +kernel
theorem dX3_readDish_106 : decode cX3_readDish 106 = .ok (.iconst 1, 1) := by decide +kernel
theorem dX3_readDish_107 : decode cX3_readDish 107 = .ok (.ireturn, 1) := by decide +kernel
theorem dX3_readPays_0 : decode cX3_readPays 0 = .ok (.aload_n 0, 1) := by decide +kernel
theorem dX3_readPays_1 : decode cX3_readPays 1 = .ok (.getfield 9, 3) := by decide +kernel
theorem dX3_readPays_4 : decode cX3_readPays 4 = .ok (.invokevirtual 68, 3) := by decide +kernel
theorem dX3_readPays_7 : decode cX3_readPays 7 = .ok (.aload_n 0, 1) := by decide +kernel
theorem dX3_readPays_8 : decode cX3_readPays 8 = .ok (.getfield 9, 3) := by decide +kernel
theorem dX3_readPays_11 : decode cX3_readPays 11 = .ok (.aload_n 0, 1) := by decide +kernel
theorem dX3_readPays_12 : decode cX3_readPays 12 = .ok (.getfield 18, 3) := by decide +kernel
theorem dX3_readPays_15 : decode cX3_readPays 15 = .ok (.aload_n 0, 1) := by decide +kernel
theorem dX3_readPays_16 : decode cX3_readPays 16 = .ok (.getfield 9, 3) := by decide +kernel
theorem dX3_readPays_19 : decode cX3_readPays 19 = .ok (.getfield 88, 3) := by decide +kernel
theorem dX3_readPays_22 : decode cX3_readPays 22 = .ok (.invokevirtual 117, 3) := by decide +kernel
theorem dX3_readPays_25 : decode cX3_readPays 25 = .ok (.invokevirtual 121, 3) := by decide +kernel
theorem dX3_readPays_28 : decode cX3_readPays 28 = .ok (.ifCond .ne 5, 3) := by decide +kernel
theorem dX3_readPays_31 : decode cX3_readPays 31 = .ok (.iconst 0, 1) := by decide +kernel
theorem dX3_readPays_32 : decode cX3_readPays 32 = .ok (.ireturn, 1) := by decide +kernel
theorem dX3_readPays_33 : decode cX3_readPays 33 = .ok (.aload_n 0, 1) := by decide +kernel
theorem dX3_readPays_34 : decode cX3_readPays 34 = .ok (.getfield 9, 3) := by decide +kernel
theorem dX3_readPays_37 : decode cX3_readPays 37 = .ok (.getfield 75, 3) := by decide +kernel
theorem dX3_readPays_40 : decode cX3_readPays 40 = .ok (.istore_n 1, 1) := by decide +kernel
theorem dX3_readPays_41 : decode cX3_readPays 41 = .ok (.aload_n 0, 1) := by decide +kernel
theorem dX3_readPays_42 : decode cX3_readPays 42 = .ok (.getfield 9, 3) := by decide +kernel
theorem dX3_readPays_45 : decode cX3_readPays 45 = .ok (.invokevirtual 124, 3) := by decide +kernel
theorem dX3_readPays_48 : decode cX3_readPays 48 = .ok (.ifCond .eq 20, 3) := by decide +kernel
theorem dX3_readPays_51 : decode cX3_readPays 51 = .ok (.aload_n 0, 1) := by decide +kernel
theorem dX3_readPays_52 : decode cX3_readPays 52 = .ok (.getfield 18, 3) := by decide +kernel
theorem dX3_readPays_55 : decode cX3_readPays 55 = .ok (.aload_n 0, 1) := by decide +kernel
theorem dX3_readPays_56 : decode cX3_readPays 56 = .ok (.getfield 9, 3) := by decide +kernel
theorem dX3_readPays_59 : decode cX3_readPays 59 = .ok (.getfield 88, 3) := by decide +kernel
theorem dX3_readPays_62 : decode cX3_readPays 62 = .ok (.invokevirtual 117, 3) := by decide +kernel
theorem dX3_readPays_65 : decode cX3_readPays 65 = .ok (.goto 4, 3) := by decide +kernel
theorem dX3_readPays_68 : decode cX3_readPays 68 = .ok (.iconst (-1), 1) := by decide +kernel
theorem dX3_readPays_69 : decode cX3_readPays 69 = .ok (.istore_n 2, 1) := by decide +kernel
theorem dX3_readPays_70 : decode cX3_readPays 70 = .ok (.iload_n 2, 1) := by decide +kernel
theorem dX3_readPays_71 : decode cX3_readPays 71 = .ok (.iconst (-1), 1) := by decide +kernel
theorem dX3_readPays_72 : decode cX3_readPays 72 = .ok (.if_icmp .eq 30, 3) := by decide +kernel
theorem dX3_readPays_75 : decode cX3_readPays 75 = .ok (.iload_n 2, 1) := by decide +kernel
theorem dX3_readPays_76 : decode cX3_readPays 76 = .ok (.iload_n 1, 1) := by decide +kernel
theorem dX3_readPays_77 : decode cX3_readPays 77 = .ok (.if_icmp .eq 16, 3) := by decide +kernel
theorem dX3_readPays_80 : decode cX3_readPays 80 = .ok (.aload_n 0, 1) := by decide +kernel
theorem dX3_readPays_81 : decode cX3_readPays 81 = .ok (.getfield 18, 3) := by decide +kernel
theorem dX3_readPays_84 : decode cX3_readPays 84 = .ok (.getfield 105, 3) := by decide +kernel
theorem dX3_readPays_87 : decode cX3_readPays 87 = .ok (.iload_n 2, 1) := by decide +kernel
theorem dX3_readPays_88 : decode cX3_readPays 88 = .ok (.iaload, 1) := by decide +kernel
theorem dX3_readPays_89 : decode cX3_readPays 89 = .ok (.iload_n 2, 1) := by decide +kernel
theorem dX3_readPays_90 : decode cX3_readPays 90 = .ok (.if_icmp .eq 12, 3) := by decide +kernel
theorem dX3_readPays_93 : decode cX3_readPays 93 = .ok (.aload_n 0, 1) := by decide +kernel
theorem dX3_readPays_94 : decode cX3_readPays 94 = .ok (.getfield 9, 3) := by decide +kernel
theorem dX3_readPays_97 : decode cX3_readPays 97 = .ok (.iconst 3, 1) := by decide +kernel
theorem dX3_readPays_98 : decode cX3_readPays 98 = .ok (.invokevirtual 58, 3) := by decide +kernel
theorem dX3_readPays_101 : decode cX3_readPays 101 = .ok (.ireturn, 1) := by decide +kernel
theorem dX3_readPays_102 : decode cX3_readPays 102 = .ok (.aload_n 0, 1) := by decide +kernel
theorem dX3_readPays_103 : decode cX3_readPays 103 = .ok (.getfield 9, 3) := by decide +kernel
theorem dX3_readPays_106 : decode cX3_readPays 106 = .ok (.aload_n 0, 1) := by decide +kernel
theorem dX3_readPays_107 : decode cX3_readPays 107 = .ok (.getfield 18, 3) := by decide +kernel
theorem dX3_readPays_110 : decode cX3_readPays 110 = .ok (.aload_n 0, 1) := by decide +kernel
theorem dX3_readPays_111 : decode cX3_readPays 111 = .ok (.getfield 9, 3) := by decide +kernel
theorem dX3_readPays_114 : decode cX3_readPays 114 = .ok (.getfield 88, 3) := by decide +kernel
theorem dX3_readPays_117 : decode cX3_readPays 117 = .ok (.invokevirtual 117, 3) := by decide +kernel
theorem dX3_readPays_120 : decode cX3_readPays 120 = .ok (.invokevirtual 121, 3) := by decide +kernel
theorem dX3_readPays_123 : decode cX3_readPays 123 = .ok (.ifCond .ne 5, 3) := by decide +kernel
theorem dX3_readPays_126 : decode cX3_readPays 126 = .ok (.iconst 0, 1) := by decide +kernel
theorem dX3_readPays_127 : decode cX3_readPays 127 = .ok (.ireturn, 1) := by decide +kernel
theorem dX3_readPays_128 : decode cX3_readPays 128 = .ok (.aload_n 0, 1) := by decide +kernel
theorem dX3_readPays_129 : decode cX3_readPays 129 = .ok (.getfield 18, 3) := by decide +kernel
theorem dX3_readPays_132 : decode cX3_readPays 132 = .ok (.getfield 105, 3) := by decide +kernel
theorem dX3_readPays_135 : decode cX3_readPays 135 = .ok (.aload_n 0, 1) := by decide +kernel
theorem dX3_readPays_136 : decode cX3_readPays 136 = .ok (.getfield 9, 3) := by decide +kernel
theorem dX3_readPays_139 : decode cX3_readPays 139 = .ok (.getfield 75, 3) := by decide +kernel
theorem dX3_readPays_142 : decode cX3_readPays 142 = .ok (.iload_n 1, 1) := by decide +kernel
theorem dX3_readPays_143 : decode cX3_readPays 143 = .ok (.iastore, 1) := by decide +kernel
theorem dX3_readPays_144 : decode cX3_readPays 144 = .ok (.iconst 1, 1) := by decide +kernel
theorem dX3_readPays_145 : decode cX3_readPays 145 = .ok (.ireturn, 1) := by decide +kernel
theorem dX3_isNewName_0 : decode cX3_isNewName 0 = .ok (.aload_n 0, 1) := by decide +kernel
theorem dX3_isNewName_1 : decode cX3_isNewName 1 = .ok (.getfield 9, 3) := by decide +kernel
theorem dX3_isNewName_4 : decode cX3_isNewName 4 = .ok (.invokevirtual 124, 3) := by decide +kernel
theorem dX3_isNewName_7 : decode cX3_isNewName 7 = .ok (.ifCond .ne 12, 3) := by decide +kernel
theorem dX3_isNewName_10 : decode cX3_isNewName 10 = .ok (.aload_n 0, 1) := by decide +kernel
theorem dX3_isNewName_11 : decode cX3_isNewName 11 = .ok (.getfield 9, 3) := by decide +kernel
theorem dX3_isNewName_14 : decode cX3_isNewName 14 = .ok (.iconst 1, 1) := by decide +kernel
theorem dX3_isNewName_15 : decode cX3_isNewName 15 = .ok (.invokevirtual 58, 3) := by decide +kernel
theorem dX3_isNewName_18 : decode cX3_isNewName 18 = .ok (.ireturn, 1) := by decide +kernel
theorem dX3_isNewName_19 : decode cX3_isNewName 19 = .ok (.aload_n 0, 1) := by decide +kernel
theorem dX3_isNewName_20 : decode cX3_isNewName 20 = .ok (.getfield 18, 3) := by decide +kernel
theorem dX3_isNewName_23 : decode cX3_isNewName 23 = .ok (.aload_n 0, 1) := by decide +kernel
theorem dX3_isNewName_24 : decode cX3_isNewName 24 = .ok (.getfield 9, 3) := by decide +kernel
theorem dX3_isNewName_27 : decode cX3_isNewName 27 = .ok (.getfield 88, 3) := by decide +kernel
theorem dX3_isNewName_30 : decode cX3_isNewName 30 = .ok (.invokevirtual 117, 3) := by decide +kernel
theorem dX3_isNewName_33 : decode cX3_isNewName 33 = .ok (.iconst (-1), 1) := by decide +kernel
theorem dX3_isNewName_34 : decode cX3_isNewName 34 = .ok (.if_icmp .ne 21, 3) := by decide +kernel
theorem dX3_isNewName_37 : decode cX3_isNewName 37 = .ok (.aload_n 0, 1) := by decide +kernel
theorem dX3_isNewName_38 : decode cX3_isNewName 38 = .ok (.getfield 18, 3) := by decide +kernel
theorem dX3_isNewName_41 : decode cX3_isNewName 41 = .ok (.aload_n 0, 1) := by decide +kernel
theorem dX3_isNewName_42 : decode cX3_isNewName 42 = .ok (.getfield 9, 3) := by decide +kernel
theorem dX3_isNewName_45 : decode cX3_isNewName 45 = .ok (.getfield 88, 3) := by decide +kernel
theorem dX3_isNewName_48 : decode cX3_isNewName 48 = .ok (.invokevirtual 127, 3) := by decide +kernel
theorem dX3_isNewName_51 : decode cX3_isNewName 51 = .ok (.iconst (-1), 1) := by decide +kernel
theorem dX3_isNewName_52 : decode cX3_isNewName 52 = .ok (.if_icmp .eq 12, 3) := by decide +kernel
theorem dX3_isNewName_55 : decode cX3_isNewName 55 = .ok (.aload_n 0, 1) := by decide +kernel
theorem dX3_isNewName_56 : decode cX3_isNewName 56 = .ok (.getfield 9, 3) := by decide +kernel
theorem dX3_isNewName_59 : decode cX3_isNewName 59 = .ok (.iconst 3, 1) := by decide +kernel
theorem dX3_isNewName_60 : decode cX3_isNewName 60 = .ok (.invokevirtual 58, 3) := by decide +kernel
theorem dX3_isNewName_63 : decode cX3_isNewName 63 = .ok (.ireturn, 1) := by decide +kernel
theorem dX3_isNewName_64 : decode cX3_isNewName 64 = .ok (.iconst 1, 1) := by decide +kernel
theorem dX3_isNewName_65 : decode cX3_isNewName 65 = .ok (.ireturn, 1) := by decide +kernel
theorem dX4_init_0 : decode cX4_init 0 = .ok (.aload_n 0, 1) := by decide +kernel
theorem dX4_init_1 : decode cX4_init 1 = .ok (.invokespecial 1, 3) := by decide +kernel
theorem dX4_init_4 : decode cX4_init 4 = .ok (.aload_n 0, 1) := by decide +kernel
theorem dX4_init_5 : decode cX4_init 5 = .ok (.new 7, 3) := by decide +kernel
theorem dX4_init_8 : decode cX4_init 8 = .ok (.dup, 1) := by decide +kernel
theorem dX4_init_9 : decode cX4_init 9 = .ok (.invokespecial 9, 3) := by decide +kernel
theorem dX4_init_12 : decode cX4_init 12 = .ok (.putfield 10, 3) := by decide +kernel
theorem dX4_init_15 : decode cX4_init 15 = .ok (.aload_n 0, 1) := by decide +kernel
theorem dX4_init_16 : decode cX4_init 16 = .ok (.new 16, 3) := by decide +kernel
theorem dX4_init_19 : decode cX4_init 19 = .ok (.dup, 1) := by decide +kernel
theorem dX4_init_20 : decode cX4_init 20 = .ok (.aload_n 0, 1) := by decide +kernel
theorem dX4_init_21 : decode cX4_init 21 = .ok (.getfield 10, 3) := by decide +kernel
theorem dX4_init_24 : decode cX4_init 24 = .ok (.invokespecial 18, 3) := by decide +kernel
theorem dX4_init_27 : decode cX4_init 27 = .ok (.putfield 21, 3) := by decide +kernel
theorem dX4_init_30 : decode cX4_init 30 = .ok (.aload_n 0, 1) := by decide +kernel
theorem dX4_init_31 : decode cX4_init 31 = .ok (.new 25, 3) := by decide +kernel
theorem dX4_init_34 : decode cX4_init 34 = .ok (.dup, 1) := by decide +kernel
theorem dX4_init_35 : decode cX4_init 35 = .ok (.invokespecial 27, 3) := by decide +kernel
theorem dX4_init_38 : decode cX4_init 38 = .ok (.putfield 28, 3) := by decide +kernel
theorem dX4_init_41 : decode cX4_init 41 = .ok (.return_, 1) := by decide +kernel
theorem dX5_init_0 : decode cX5_init 0 = .ok (.aload_n 0, 1) := by decide +kernel
theorem dX5_init_1 : decode cX5_init 1 = .ok (.invokespecial 3, 3) := by decide +kernel
theorem dX5_init_4 : decode cX5_init 4 = .ok (.aload_n 0, 1) := by decide +kernel
theorem dX5_init_5 : decode cX5_init 5 = .ok (.aload_n 1, 1) := by decide +kernel
theorem dX5_init_6 : decode cX5_init 6 = .ok (.putfield 9, 3) := by decide +kernel
theorem dX5_init_9 : decode cX5_init 9 = .ok (.aload_n 0, 1) := by decide +kernel
theorem dX5_init_10 : decode cX5_init 10 = .ok (.aload_n 2, 1) := by decide +kernel
theorem dX5_init_11 : decode cX5_init 11 = .ok (.putfield 15, 3) := by decide +kernel
theorem dX5_init_14 : decode cX5_init 14 = .ok (.aload_n 0, 1) := by decide +kernel
theorem dX5_init_15 : decode cX5_init 15 = .ok (.bipush 40, 2) := by decide +kernel
theorem dX5_init_17 : decode cX5_init 17 = .ok (.newarray .int, 2) := by decide +kernel
theorem dX5_init_19 : decode cX5_init 19 = .ok (.putfield 19, 3) := by decide +kernel
theorem dX5_init_22 : decode cX5_init 22 = .ok (.aload_n 0, 1) := by decide +kernel
theorem dX5_init_23 : decode cX5_init 23 = .ok (.bipush 40, 2) := by decide +kernel
theorem dX5_init_25 : decode cX5_init 25 = .ok (.newarray .int, 2) := by decide +kernel
theorem dX5_init_27 : decode cX5_init 27 = .ok (.putfield 23, 3) := by decide +kernel
theorem dX5_init_30 : decode cX5_init 30 = .ok (.return_, 1) := by decide +kernel
theorem dX5_read_0 : decode cX5_read 0 = .ok (.aload_n 0, 1) := by decide +kernel
theorem dX5_read_1 : decode cX5_read 1 = .ok (.getfield 9, 3) := by decide +kernel
theorem dX5_read_4 : decode cX5_read 4 = .ok (.sipush 400, 3) := by decide +kernel
theorem dX5_read_7 : decode cX5_read 7 = .ok (.invokevirtual 26, 3) := by decide +kernel
theorem dX5_read_10 : decode cX5_read 10 = .ok (.aload_n 0, 1) := by decide +kernel
theorem dX5_read_11 : decode cX5_read 11 = .ok (.iconst 0, 1) := by decide +kernel
theorem dX5_read_12 : decode cX5_read 12 = .ok (.putfield 32, 3) := by decide +kernel
theorem dX5_read_15 : decode cX5_read 15 = .ok (.iconst 0, 1) := by decide +kernel
theorem dX5_read_16 : decode cX5_read 16 = .ok (.istore_n 1, 1) := by decide +kernel
theorem dX5_read_17 : decode cX5_read 17 = .ok (.iload_n 1, 1) := by decide +kernel
theorem dX5_read_18 : decode cX5_read 18 = .ok (.bipush 40, 2) := by decide +kernel
theorem dX5_read_20 : decode cX5_read 20 = .ok (.if_icmp .gt 30, 3) := by decide +kernel
theorem dX5_read_23 : decode cX5_read 23 = .ok (.aload_n 0, 1) := by decide +kernel
theorem dX5_read_24 : decode cX5_read 24 = .ok (.getfield 9, 3) := by decide +kernel
theorem dX5_read_27 : decode cX5_read 27 = .ok (.getfield 36, 3) := by decide +kernel
theorem dX5_read_30 : decode cX5_read 30 = .ok (.ifCond .ne 5, 3) := by decide +kernel
theorem dX5_read_33 : decode cX5_read 33 = .ok (.iconst 1, 1) := by decide +kernel
theorem dX5_read_34 : decode cX5_read 34 = .ok (.ireturn, 1) := by decide +kernel
theorem dX5_read_35 : decode cX5_read 35 = .ok (.aload_n 0, 1) := by decide +kernel
theorem dX5_read_36 : decode cX5_read 36 = .ok (.invokevirtual 39, 3) := by decide +kernel
theorem dX5_read_39 : decode cX5_read 39 = .ok (.ifCond .ne 5, 3) := by decide +kernel
theorem dX5_read_42 : decode cX5_read 42 = .ok (.iconst 0, 1) := by decide +kernel
theorem dX5_read_43 : decode cX5_read 43 = .ok (.ireturn, 1) := by decide +kernel
theorem dX5_read_44 : decode cX5_read 44 = .ok (.iinc 1 1, 3) := by decide +kernel
theorem dX5_read_47 : decode cX5_read 47 = .ok (.goto (-30), 3) := by decide +kernel
theorem dX5_read_50 : decode cX5_read 50 = .ok (.iconst 0, 1) := by decide +kernel
theorem dX5_read_51 : decode cX5_read 51 = .ok (.ireturn, 1) := by decide +kernel
theorem dX5_readLine_0 : decode cX5_readLine 0 = .ok (.aload_n 0, 1) := by decide +kernel
theorem dX5_readLine_1 : decode cX5_readLine 1 = .ok (.getfield 9, 3) := by decide +kernel
theorem dX5_readLine_4 : decode cX5_readLine 4 = .ok (.getfield 43, 3) := by decide +kernel
theorem dX5_readLine_7 : decode cX5_readLine 7 = .ok (.istore_n 1, 1) := by decide +kernel
theorem dX5_readLine_8 : decode cX5_readLine 8 = .ok (.aload_n 0, 1) := by decide +kernel
theorem dX5_readLine_9 : decode cX5_readLine 9 = .ok (.getfield 9, 3) := by decide +kernel
theorem dX5_readLine_12 : decode cX5_readLine 12 = .ok (.invokevirtual 46, 3) := by decide +kernel
theorem dX5_readLine_15 : decode cX5_readLine 15 = .ok (.istore_n 2, 1) := by decide +kernel
theorem dX5_readLine_16 : decode cX5_readLine 16 = .ok (.iload_n 2, 1) := by decide +kernel
theorem dX5_readLine_17 : decode cX5_readLine 17 = .ok (.ifCond .ne 24, 3) := by decide +kernel
theorem dX5_readLine_20 : decode cX5_readLine 20 = .ok (.iload_n 1, 1) := by decide +kernel
theorem dX5_readLine_21 : decode cX5_readLine 21 = .ok (.bipush 6, 2) := by decide +kernel
theorem dX5_readLine_23 : decode cX5_readLine 23 = .ok (.if_icmp .lt 9, 3) := by decide +kernel
theorem dX5_readLine_26 : decode cX5_readLine 26 = .ok (.iload_n 1, 1) := by decide +kernel
theorem dX5_readLine_27 : decode cX5_readLine 27 = .ok (.bipush 9, 2) := by decide +kernel
theorem dX5_readLine_29 : decode cX5_readLine 29 = .ok (.if_icmp .le 12, 3) := by decide +kernel
theorem dX5_readLine_32 : decode cX5_readLine 32 = .ok (.aload_n 0, 1) := by decide +kernel
theorem dX5_readLine_33 : decode cX5_readLine 33 = .ok (.getfield 9, 3) := by decide +kernel
theorem dX5_readLine_36 : decode cX5_readLine 36 = .ok (.iconst 1, 1) := by decide +kernel
theorem dX5_readLine_37 : decode cX5_readLine 37 = .ok (.invokevirtual 49, 3) := by decide +kernel
theorem dX5_readLine_40 : decode cX5_readLine 40 = .ok (.ireturn, 1) := by decide +kernel
theorem dX5_readLine_41 : decode cX5_readLine 41 = .ok (.iload_n 2, 1) := by decide +kernel
theorem dX5_readLine_42 : decode cX5_readLine 42 = .ok (.ifCond .eq 30, 3) := by decide +kernel
theorem dX5_readLine_45 : decode cX5_readLine 45 = .ok (.aload_n 0, 1) := by decide +kernel
theorem dX5_readLine_46 : decode cX5_readLine 46 = .ok (.getfield 15, 3) := by decide +kernel
theorem dX5_readLine_49 : decode cX5_readLine 49 = .ok (.aload_n 0, 1) := by decide +kernel
theorem dX5_readLine_50 : decode cX5_readLine 50 = .ok (.getfield 9, 3) := by decide +kernel
theorem dX5_readLine_53 : decode cX5_readLine 53 = .ok (.getfield 53, 3) := by decide +kernel
theorem dX5_readLine_56 : decode cX5_readLine 56 = .ok (.invokevirtual 57, 3) := by decide +kernel
theorem dX5_readLine_59 : decode cX5_readLine 59 = .ok (.iconst (-1), 1) := by decide +kernel
theorem dX5_readLine_60 : decode cX5_readLine 60 = .ok (.if_icmp .ne 12, 3) := by decide +kernel
theorem dX5_readLine_63 : decode cX5_readLine 63 = .ok (.aload_n 0, 1) := by decide +kernel
theorem dX5_readLine_64 : decode cX5_readLine 64 = .ok (.getfield 9, 3) := by decide +kernel
theorem dX5_readLine_67 : decode cX5_readLine 67 = .ok (.iconst 3, 1) := by decide +kernel
theorem dX5_readLine_68 : decode cX5_readLine 68 = .ok (.invokevirtual 49, 3) := by decide +kernel
theorem dX5_readLine_71 : decode cX5_readLine 71 = .ok (.ireturn, 1) := by decide +kernel
theorem dX5_readLine_72 : decode cX5_readLine 72 = .ok (.aload_n 0, 1) := by decide +kernel
theorem dX5_readLine_73 : decode cX5_readLine 73 = .ok (.getfield 32, 3) := by decide +kernel
theorem dX5_readLine_76 : decode cX5_readLine 76 = .ok (.bipush 40, 2) := by decide +kernel
theorem dX5_readLine_78 : decode cX5_readLine 78 = .ok (.if_icmp .lt 12, 3) := by decide +kernel
theorem dX5_readLine_81 : decode cX5_readLine 81 = .ok (.aload_n 0, 1) := by decide +kernel
theorem dX5_readLine_82 : decode cX5_readLine 82 = .ok (.getfield 9, 3) := by decide +kernel
theorem dX5_readLine_85 : decode cX5_readLine 85 = .ok (.iconst 4, 1) := by decide +kernel
theorem dX5_readLine_86 : decode cX5_readLine 86 = .ok (.invokevirtual 49, 3) := by decide +kernel
theorem dX5_readLine_89 : decode cX5_readLine 89 = .ok (.ireturn, 1) := by decide +kernel
theorem dX5_readLine_90 : decode cX5_readLine 90 = .ok (.iload_n 2, 1) := by decide +kernel
theorem dX5_readLine_91 : decode cX5_readLine 91 = .ok (.ifCond .eq 13, 3) := by decide +kernel
theorem dX5_readLine_94 : decode cX5_readLine 94 = .ok (.aload_n 0, 1) := by decide +kernel
theorem dX5_readLine_95 : decode cX5_readLine 95 = .ok (.invokevirtual 63, 3) := by decide +kernel
theorem dX5_readLine_98 : decode cX5_readLine 98 = .ok (.ifCond .eq 14, 3) := by decide +kernel
theorem dX5_readLine_101 : decode cX5_readLine 101 = .ok (.goto 13, 3) := by decide +kernel
theorem dX5_readLine_104 : decode cX5_readLine 104 = .ok (.aload_n 0, 1) := by decide +kernel
theorem dX5_readLine_105 : decode cX5_readLine 105 = .ok (.iload_n 1, 1) := by decide +kernel
theorem dX5_readLine_106 : decode cX5_readLine 106 = .ok (.invokevirtual 66, 3) := by decide +kernel
theorem dX5_readLine_109 : decode cX5_readLine 109 = .ok (.ifCond .ne 5, 3) := by decide +kernel
theorem dX5_readLine_112 : decode cX5_readLine 112 = .ok (.iconst 0, 1) := by decide +kernel
theorem dX5_readLine_113 : decode cX5_readLine 113 = .ok (.ireturn, 1) := by decide +kernel
theorem dX5_readLine_114 : decode cX5_readLine 114 = .ok (.aload_n 0, 1) := by decide +kernel
theorem dX5_readLine_115 : decode cX5_readLine 115 = .ok (.dup, 1) := by decide +kernel
theorem dX5_readLine_116 : decode cX5_readLine 116 = .ok (.getfield 32, 3) := by decide +kernel
theorem dX5_readLine_119 : decode cX5_readLine 119 = .ok (.iconst 1, 1) := by decide +kernel
theorem dX5_readLine_120 : decode cX5_readLine 120 = .ok (.iadd, 1) := by decide +kernel
theorem dX5_readLine_121 : decode cX5_readLine 121 = .ok (.putfield 32, 3) := by decide +kernel
theorem dX5_readLine_124 : decode cX5_readLine 124 = .ok (.aload_n 0, 1) := by decide +kernel
theorem dX5_readLine_125 : decode cX5_readLine 125 = .ok (.getfield 9, 3) := by decide +kernel
theorem dX5_readLine_128 : decode cX5_readLine 128 = .ok (.bipush 59, 2) := by decide +kernel
theorem dX5_readLine_130 : decode cX5_readLine 130 = .ok (.invokevirtual 69, 3) := by decide +kernel
theorem dX5_readLine_133 : decode cX5_readLine 133 = .ok (.ireturn, 1) := by decide +kernel
theorem dX5_readGuestDeed_0 : decode cX5_readGuestDeed 0 = .ok (.aload_n 0, 1) := by decide +kernel
theorem dX5_readGuestDeed_1 : decode cX5_readGuestDeed 1 = .ok (.getfield 9, 3) := by decide +kernel
theorem dX5_readGuestDeed_4 : decode cX5_readGuestDeed 4 = .ok (.aload_n 0, 1) := by decide +kernel
theorem dX5_readGuestDeed_5 : decode cX5_readGuestDeed 5 = .ok (.getfield 15, 3) := by decide +kernel
theorem dX5_readGuestDeed_8 : decode cX5_readGuestDeed 8 = .ok (.aload_n 0, 1) := by decide +kernel
theorem dX5_readGuestDeed_9 : decode cX5_readGuestDeed 9 = .ok (.getfield 9, 3) := by decide +kernel
theorem dX5_readGuestDeed_12 : decode cX5_readGuestDeed 12 = .ok (.getfield 53, 3) := by decide +kernel
theorem dX5_readGuestDeed_15 : decode cX5_readGuestDeed 15 = .ok (.invokevirtual 57, 3) := by decide +kernel
theorem dX5_readGuestDeed_18 : decode cX5_readGuestDeed 18 = .ok (.invokevirtual 72, 3) := by decide +kernel
theorem dX5_readGuestDeed_21 : decode cX5_readGuestDeed 21 = .ok (.ifCond .ne 5, 3) := by decide +kernel
theorem dX5_readGuestDeed_24 : decode cX5_readGuestDeed 24 = .ok (.iconst 0, 1) := by decide +kernel
theorem dX5_readGuestDeed_25 : decode cX5_readGuestDeed 25 = .ok (.ireturn, 1) := by decide +kernel
theorem dX5_readGuestDeed_26 : decode cX5_readGuestDeed 26 = .ok (.aload_n 0, 1) := by decide +kernel
theorem dX5_readGuestDeed_27 : decode cX5_readGuestDeed 27 = .ok (.getfield 9, 3) := by decide +kernel
theorem dX5_readGuestDeed_30 : decode cX5_readGuestDeed 30 = .ok (.iconst 4, 1) := by decide +kernel
theorem dX5_readGuestDeed_31 : decode cX5_readGuestDeed 31 = .ok (.invokevirtual 75, 3) := by decide +kernel
theorem dX5_readGuestDeed_34 : decode cX5_readGuestDeed 34 = .ok (.ifCond .ne 23, 3) := by decide +kernel
theorem dX5_readGuestDeed_37 : decode cX5_readGuestDeed 37 = .ok (.aload_n 0, 1) := by decide +kernel
theorem dX5_readGuestDeed_38 : decode cX5_readGuestDeed 38 = .ok (.getfield 9, 3) := by decide +kernel
theorem dX5_readGuestDeed_41 : decode cX5_readGuestDeed 41 = .ok (.iconst 5, 1) := by decide +kernel
theorem dX5_readGuestDeed_42 : decode cX5_readGuestDeed 42 = .ok (.invokevirtual 75, 3) := by decide +kernel
theorem dX5_readGuestDeed_45 : decode cX5_readGuestDeed 45 = .ok (.ifCond .ne 12, 3) := by decide +kernel
theorem dX5_readGuestDeed_48 : decode cX5_readGuestDeed 48 = .ok (.aload_n 0, 1) := by decide +kernel
theorem dX5_readGuestDeed_49 : decode cX5_readGuestDeed 49 = .ok (.getfield 9, 3) := by decide +kernel
theorem dX5_readGuestDeed_52 : decode cX5_readGuestDeed 52 = .ok (.iconst 1, 1) := by decide +kernel
theorem dX5_readGuestDeed_53 : decode cX5_readGuestDeed 53 = .ok (.invokevirtual 49, 3) := by decide +kernel
theorem dX5_readGuestDeed_56 : decode cX5_readGuestDeed 56 = .ok (.ireturn, 1) := by decide +kernel
theorem dX5_readGuestDeed_57 : decode cX5_readGuestDeed 57 = .ok (.aload_n 0, 1) := by decide +kernel
theorem dX5_readGuestDeed_58 : decode cX5_readGuestDeed 58 = .ok (.getfield 19, 3) := by decide +kernel
theorem dX5_readGuestDeed_61 : decode cX5_readGuestDeed 61 = .ok (.aload_n 0, 1) := by decide +kernel
theorem dX5_readGuestDeed_62 : decode cX5_readGuestDeed 62 = .ok (.getfield 32, 3) := by decide +kernel
theorem dX5_readGuestDeed_65 : decode cX5_readGuestDeed 65 = .ok (.aload_n 0, 1) := by decide +kernel
theorem dX5_readGuestDeed_66 : decode cX5_readGuestDeed 66 = .ok (.getfield 9, 3) := by decide +kernel
theorem dX5_readGuestDeed_69 : decode cX5_readGuestDeed 69 = .ok (.getfield 43, 3) := by decide +kernel
theorem dX5_readGuestDeed_72 : decode cX5_readGuestDeed 72 = .ok (.iastore, 1) := by decide +kernel
theorem dX5_readGuestDeed_73 : decode cX5_readGuestDeed 73 = .ok (.aload_n 0, 1) := by decide +kernel
theorem dX5_readGuestDeed_74 : decode cX5_readGuestDeed 74 = .ok (.getfield 23, 3) := by decide +kernel
theorem dX5_readGuestDeed_77 : decode cX5_readGuestDeed 77 = .ok (.aload_n 0, 1) := by decide +kernel
theorem dX5_readGuestDeed_78 : decode cX5_readGuestDeed 78 = .ok (.getfield 32, 3) := by decide +kernel
theorem dX5_readGuestDeed_81 : decode cX5_readGuestDeed 81 = .ok (.aload_n 0, 1) := by decide +kernel
theorem dX5_readGuestDeed_82 : decode cX5_readGuestDeed 82 = .ok (.getfield 9, 3) := by decide +kernel
theorem dX5_readGuestDeed_85 : decode cX5_readGuestDeed 85 = .ok (.getfield 78, 3) := by decide +kernel
theorem dX5_readGuestDeed_88 : decode cX5_readGuestDeed 88 = .ok (.iastore, 1) := by decide +kernel
theorem dX5_readGuestDeed_89 : decode cX5_readGuestDeed 89 = .ok (.aload_n 0, 1) := by decide +kernel
theorem dX5_readGuestDeed_90 : decode cX5_readGuestDeed 90 = .ok (.getfield 9, 3) := by decide +kernel
theorem dX5_readGuestDeed_93 : decode cX5_readGuestDeed 93 = .ok (.invokevirtual 81, 3) := by decide +kernel
theorem dX5_readGuestDeed_96 : decode cX5_readGuestDeed 96 = .ok (.iconst 1, 1) := by decide +kernel
theorem dX5_readGuestDeed_97 : decode cX5_readGuestDeed 97 = .ok (.ireturn, 1) := by decide +kernel
theorem dX5_readOtherDeed_0 : decode cX5_readOtherDeed 0 = .ok (.aload_n 0, 1) := by decide +kernel
theorem dX5_readOtherDeed_1 : decode cX5_readOtherDeed 1 = .ok (.getfield 9, 3) := by decide +kernel
theorem dX5_readOtherDeed_4 : decode cX5_readOtherDeed 4 = .ok (.invokevirtual 81, 3) := by decide +kernel
theorem dX5_readOtherDeed_7 : decode cX5_readOtherDeed 7 = .ok (.iload_n 1, 1) := by decide +kernel
theorem dX5_readOtherDeed_8 : decode cX5_readOtherDeed 8 = .ok (.bipush 6, 2) := by decide +kernel
theorem dX5_readOtherDeed_10 : decode cX5_readOtherDeed 10 = .ok (.if_icmp .ne 28, 3) := by decide +kernel
theorem dX5_readOtherDeed_13 : decode cX5_readOtherDeed 13 = .ok (.aload_n 0, 1) := by decide +kernel
theorem dX5_readOtherDeed_14 : decode cX5_readOtherDeed 14 = .ok (.getfield 9, 3) := by decide +kernel
theorem dX5_readOtherDeed_17 : decode cX5_readOtherDeed 17 = .ok (.aload_n 0, 1) := by decide +kernel
theorem dX5_readOtherDeed_18 : decode cX5_readOtherDeed 18 = .ok (.getfield 15, 3) := by decide +kernel
theorem dX5_readOtherDeed_21 : decode cX5_readOtherDeed 21 = .ok (.aload_n 0, 1) := by decide +kernel
theorem dX5_readOtherDeed_22 : decode cX5_readOtherDeed 22 = .ok (.getfield 9, 3) := by decide +kernel
theorem dX5_readOtherDeed_25 : decode cX5_readOtherDeed 25 = .ok (.getfield 53, 3) := by decide +kernel
theorem dX5_readOtherDeed_28 : decode cX5_readOtherDeed 28 = .ok (.invokevirtual 84, 3) := by decide +kernel
theorem dX5_readOtherDeed_31 : decode cX5_readOtherDeed 31 = .ok (.invokevirtual 72, 3) := by decide +kernel
theorem dX5_readOtherDeed_34 : decode cX5_readOtherDeed 34 = .ok (.istore_n 2, 1) := by decide +kernel
theorem dX5_readOtherDeed_35 : decode cX5_readOtherDeed 35 = .ok (.goto 34, 3) := by decide +kernel
theorem dX5_readOtherDeed_38 : decode cX5_readOtherDeed 38 = .ok (.iload_n 1, 1) := by decide +kernel
theorem dX5_readOtherDeed_39 : decode cX5_readOtherDeed 39 = .ok (.bipush 9, 2) := by decide +kernel
theorem dX5_readOtherDeed_41 : decode cX5_readOtherDeed 41 = .ok (.if_icmp .ne 17, 3) := by decide +kernel
theorem dX5_readOtherDeed_44 : decode cX5_readOtherDeed 44 = .ok (.aload_n 0, 1) := by decide +kernel
theorem dX5_readOtherDeed_45 : decode cX5_readOtherDeed 45 = .ok (.getfield 9, 3) := by decide +kernel
theorem dX5_readOtherDeed_48 : decode cX5_readOtherDeed 48 = .ok (.iconst 1, 1) := by decide +kernel
theorem dX5_readOtherDeed_49 : decode cX5_readOtherDeed 49 = .ok (.bipush 60, 2) := by decide +kernel
theorem dX5_readOtherDeed_51 : decode cX5_readOtherDeed 51 = .ok (.invokevirtual 87, 3) := by decide +kernel
theorem dX5_readOtherDeed_54 : decode cX5_readOtherDeed 54 = .ok (.istore_n 2, 1) := by decide +kernel
theorem dX5_readOtherDeed_55 : decode cX5_readOtherDeed 55 = .ok (.goto 14, 3) := by decide +kernel
theorem dX5_readOtherDeed_58 : decode cX5_readOtherDeed 58 = .ok (.aload_n 0, 1) := by decide +kernel
theorem dX5_readOtherDeed_59 : decode cX5_readOtherDeed 59 = .ok (.getfield 9, 3) := by decide +kernel
theorem dX5_readOtherDeed_62 : decode cX5_readOtherDeed 62 = .ok (.iconst 0, 1) := by decide +kernel
theorem dX5_readOtherDeed_63 : decode cX5_readOtherDeed 63 = .ok (.bipush 8, 2) := by decide +kernel
theorem dX5_readOtherDeed_65 : decode cX5_readOtherDeed 65 = .ok (.invokevirtual 87, 3) := by decide +kernel
theorem dX5_readOtherDeed_68 : decode cX5_readOtherDeed 68 = .ok (.istore_n 2, 1) := by decide +kernel
theorem dX5_readOtherDeed_69 : decode cX5_readOtherDeed 69 = .ok (.aload_n 0, 1) := by decide +kernel
theorem dX5_readOtherDeed_70 : decode cX5_readOtherDeed 70 = .ok (.getfield 19, 3) := by decide +kernel
theorem dX5_readOtherDeed_73 : decode cX5_readOtherDeed 73 = .ok (.aload_n 0, 1) := by decide +kernel
theorem dX5_readOtherDeed_74 : decode cX5_readOtherDeed 74 = .ok (.getfield 32, 3) := by decide +kernel
theorem dX5_readOtherDeed_77 : decode cX5_readOtherDeed 77 = .ok (.iload_n 1, 1) := by decide +kernel
theorem dX5_readOtherDeed_78 : decode cX5_readOtherDeed 78 = .ok (.iastore, 1) := by decide +kernel
theorem dX5_readOtherDeed_79 : decode cX5_readOtherDeed 79 = .ok (.aload_n 0, 1) := by decide +kernel
theorem dX5_readOtherDeed_80 : decode cX5_readOtherDeed 80 = .ok (.getfield 23, 3) := by decide +kernel
theorem dX5_readOtherDeed_83 : decode cX5_readOtherDeed 83 = .ok (.aload_n 0, 1) := by decide +kernel
theorem dX5_readOtherDeed_84 : decode cX5_readOtherDeed 84 = .ok (.getfield 32, 3) := by decide +kernel
theorem dX5_readOtherDeed_87 : decode cX5_readOtherDeed 87 = .ok (.aload_n 0, 1) := by decide +kernel
theorem dX5_readOtherDeed_88 : decode cX5_readOtherDeed 88 = .ok (.getfield 9, 3) := by decide +kernel
theorem dX5_readOtherDeed_91 : decode cX5_readOtherDeed 91 = .ok (.getfield 78, 3) := by decide +kernel
theorem dX5_readOtherDeed_94 : decode cX5_readOtherDeed 94 = .ok (.iastore, 1) := by decide +kernel
theorem dX5_readOtherDeed_95 : decode cX5_readOtherDeed 95 = .ok (.iload_n 2, 1) := by decide +kernel
theorem dX5_readOtherDeed_96 : decode cX5_readOtherDeed 96 = .ok (.ireturn, 1) := by decide +kernel
theorem dX5_judge_0 : decode cX5_judge 0 = .ok (.aload_n 0, 1) := by decide +kernel
theorem dX5_judge_1 : decode cX5_judge 1 = .ok (.iconst 1, 1) := by decide +kernel
theorem dX5_judge_2 : decode cX5_judge 2 = .ok (.putfield 91, 3) := by decide +kernel
theorem dX5_judge_5 : decode cX5_judge 5 = .ok (.aload_n 0, 1) := by decide +kernel
theorem dX5_judge_6 : decode cX5_judge 6 = .ok (.iconst 0, 1) := by decide +kernel
theorem dX5_judge_7 : decode cX5_judge 7 = .ok (.putfield 95, 3) := by decide +kernel
theorem dX5_judge_10 : decode cX5_judge 10 = .ok (.aload_n 0, 1) := by decide +kernel
theorem dX5_judge_11 : decode cX5_judge 11 = .ok (.iconst 0, 1) := by decide +kernel
theorem dX5_judge_12 : decode cX5_judge 12 = .ok (.putfield 98, 3) := by decide +kernel
theorem dX5_judge_15 : decode cX5_judge 15 = .ok (.iconst 0, 1) := by decide +kernel
theorem dX5_judge_16 : decode cX5_judge 16 = .ok (.istore_n 2, 1) := by decide +kernel
theorem dX5_judge_17 : decode cX5_judge 17 = .ok (.iload_n 2, 1) := by decide +kernel
theorem dX5_judge_18 : decode cX5_judge 18 = .ok (.aload_n 0, 1) := by decide +kernel
theorem dX5_judge_19 : decode cX5_judge 19 = .ok (.getfield 32, 3) := by decide +kernel
theorem dX5_judge_22 : decode cX5_judge 22 = .ok (.if_icmp .ge 53, 3) := by decide +kernel
theorem dX5_judge_25 : decode cX5_judge 25 = .ok (.aload_n 0, 1) := by decide +kernel
theorem dX5_judge_26 : decode cX5_judge 26 = .ok (.getfield 95, 3) := by decide +kernel
theorem dX5_judge_29 : decode cX5_judge 29 = .ok (.ifCond .ne 46, 3) := by decide +kernel
theorem dX5_judge_32 : decode cX5_judge 32 = .ok (.aload_n 0, 1) := by decide +kernel
theorem dX5_judge_33 : decode cX5_judge 33 = .ok (.aload_n 1, 1) := by decide +kernel
theorem dX5_judge_34 : decode cX5_judge 34 = .ok (.aload_n 0, 1) := by decide +kernel
theorem dX5_judge_35 : decode cX5_judge 35 = .ok (.getfield 19, 3) := by decide +kernel
theorem dX5_judge_38 : decode cX5_judge 38 = .ok (.iload_n 2, 1) := by decide +kernel
theorem dX5_judge_39 : decode cX5_judge 39 = .ok (.iaload, 1) := by decide +kernel
theorem dX5_judge_40 : decode cX5_judge 40 = .ok (.aload_n 0, 1) := by decide +kernel
theorem dX5_judge_41 : decode cX5_judge 41 = .ok (.getfield 23, 3) := by decide +kernel
theorem dX5_judge_44 : decode cX5_judge 44 = .ok (.iload_n 2, 1) := by decide +kernel
theorem dX5_judge_45 : decode cX5_judge 45 = .ok (.iaload, 1) := by decide +kernel
theorem dX5_judge_46 : decode cX5_judge 46 = .ok (.invokestatic 101, 3) := by decide +kernel
theorem dX5_judge_49 : decode cX5_judge 49 = .ok (.putfield 95, 3) := by decide +kernel
theorem dX5_judge_52 : decode cX5_judge 52 = .ok (.aload_n 0, 1) := by decide +kernel
theorem dX5_judge_53 : decode cX5_judge 53 = .ok (.getfield 95, 3) := by decide +kernel
theorem dX5_judge_56 : decode cX5_judge 56 = .ok (.ifCond .ne 13, 3) := by decide +kernel
theorem dX5_judge_59 : decode cX5_judge 59 = .ok (.aload_n 0, 1) := by decide +kernel
theorem dX5_judge_60 : decode cX5_judge 60 = .ok (.dup, 1) := by decide +kernel
theorem dX5_judge_61 : decode cX5_judge 61 = .ok (.getfield 98, 3) := by decide +kernel
theorem dX5_judge_64 : decode cX5_judge 64 = .ok (.iconst 1, 1) := by decide +kernel
theorem dX5_judge_65 : decode cX5_judge 65 = .ok (.iadd, 1) := by decide +kernel
theorem dX5_judge_66 : decode cX5_judge 66 = .ok (.putfield 98, 3) := by decide +kernel
theorem dX5_judge_69 : decode cX5_judge 69 = .ok (.iinc 2 1, 3) := by decide +kernel
theorem dX5_judge_72 : decode cX5_judge 72 = .ok (.goto (-55), 3) := by decide +kernel
theorem dX5_judge_75 : decode cX5_judge 75 = .ok (.aload_n 0, 1) := by decide +kernel
theorem dX5_judge_76 : decode cX5_judge 76 = .ok (.aload_n 1, 1) := by decide +kernel
theorem dX5_judge_77 : decode cX5_judge 77 = .ok (.getfield 105, 3) := by decide +kernel
theorem dX5_judge_80 : decode cX5_judge 80 = .ok (.putfield 110, 3) := by decide +kernel
theorem dX5_judge_83 : decode cX5_judge 83 = .ok (.aload_n 0, 1) := by decide +kernel
theorem dX5_judge_84 : decode cX5_judge 84 = .ok (.aload_n 1, 1) := by decide +kernel
theorem dX5_judge_85 : decode cX5_judge 85 = .ok (.getfield 113, 3) := by decide +kernel
theorem dX5_judge_88 : decode cX5_judge 88 = .ok (.putfield 116, 3) := by decide +kernel
theorem dX5_judge_91 : decode cX5_judge 91 = .ok (.return_, 1) := by decide +kernel
theorem dX5_liveLine_0 : decode cX5_liveLine 0 = .ok (.iload_n 1, 1) := by decide +kernel
theorem dX5_liveLine_1 : decode cX5_liveLine 1 = .ok (.tableswitch 65 4 8 #[35, 41, 47, 53, 59], 35) := by decide +kernel
theorem dX5_liveLine_36 : decode cX5_liveLine 36 = .ok (.aload_n 0, 1) := by decide +kernel
theorem dX5_liveLine_37 : decode cX5_liveLine 37 = .ok (.iload_n 2, 1) := by decide +kernel
theorem dX5_liveLine_38 : decode cX5_liveLine 38 = .ok (.invokestatic 119, 3) := by decide +kernel
theorem dX5_liveLine_41 : decode cX5_liveLine 41 = .ok (.ireturn, 1) := by decide +kernel
theorem dX5_liveLine_42 : decode cX5_liveLine 42 = .ok (.aload_n 0, 1) := by decide +kernel
theorem dX5_liveLine_43 : decode cX5_liveLine 43 = .ok (.iload_n 2, 1) := by decide +kernel
theorem dX5_liveLine_44 : decode cX5_liveLine 44 = .ok (.invokestatic 123, 3) := by decide +kernel
theorem dX5_liveLine_47 : decode cX5_liveLine 47 = .ok (.ireturn, 1) := by decide +kernel
theorem dX5_liveLine_48 : decode cX5_liveLine 48 = .ok (.aload_n 0, 1) := by decide +kernel
theorem dX5_liveLine_49 : decode cX5_liveLine 49 = .ok (.iload_n 2, 1) := by decide +kernel
theorem dX5_liveLine_50 : decode cX5_liveLine 50 = .ok (.invokestatic 126, 3) := by decide +kernel
theorem dX5_liveLine_53 : decode cX5_liveLine 53 = .ok (.ireturn, 1) := by decide +kernel
theorem dX5_liveLine_54 : decode cX5_liveLine 54 = .ok (.aload_n 0, 1) := by decide +kernel
theorem dX5_liveLine_55 : decode cX5_liveLine 55 = .ok (.iload_n 2, 1) := by decide +kernel
theorem dX5_liveLine_56 : decode cX5_liveLine 56 = .ok (.invokestatic 129, 3) := by decide +kernel
theorem dX5_liveLine_59 : decode cX5_liveLine 59 = .ok (.ireturn, 1) := by decide +kernel
theorem dX5_liveLine_60 : decode cX5_liveLine 60 = .ok (.aload_n 0, 1) := by decide +kernel
theorem dX5_liveLine_61 : decode cX5_liveLine 61 = .ok (.iload_n 2, 1) := by decide +kernel
theorem dX5_liveLine_62 : decode cX5_liveLine 62 = .ok (.invokestatic 132, 3) := by decide +kernel
theorem dX5_liveLine_65 : decode cX5_liveLine 65 = .ok (.ireturn, 1) := by decide +kernel
theorem dX5_liveLine_66 : decode cX5_liveLine 66 = .ok (.aload_n 0, 1) := by decide +kernel
theorem dX5_liveLine_67 : decode cX5_liveLine 67 = .ok (.iload_n 2, 1) := by decide +kernel
theorem dX5_liveLine_68 : decode cX5_liveLine 68 = .ok (.invokestatic 135, 3) := by decide +kernel
theorem dX5_liveLine_71 : decode cX5_liveLine 71 = .ok (.ireturn, 1) := by decide +kernel
theorem dX5_liveSitting_0 : decode cX5_liveSitting 0 = .ok (.aload_n 0, 1) := by decide +kernel
theorem dX5_liveSitting_1 : decode cX5_liveSitting 1 = .ok (.iload_n 1, 1) := by decide +kernel
theorem dX5_liveSitting_2 : decode cX5_liveSitting 2 = .ok (.invokevirtual 138, 3) := by decide +kernel
theorem dX5_liveSitting_5 : decode cX5_liveSitting 5 = .ok (.istore_n 2, 1) := by decide +kernel
theorem dX5_liveSitting_6 : decode cX5_liveSitting 6 = .ok (.iload_n 2, 1) := by decide +kernel
theorem dX5_liveSitting_7 : decode cX5_liveSitting 7 = .ok (.ifCond .ne 8, 3) := by decide +kernel
theorem dX5_liveSitting_10 : decode cX5_liveSitting 10 = .ok (.aload_n 0, 1) := by decide +kernel
theorem dX5_liveSitting_11 : decode cX5_liveSitting 11 = .ok (.iload_n 1, 1) := by decide +kernel
theorem dX5_liveSitting_12 : decode cX5_liveSitting 12 = .ok (.invokevirtual 142, 3) := by decide +kernel
theorem dX5_liveSitting_15 : decode cX5_liveSitting 15 = .ok (.iload_n 2, 1) := by decide +kernel
theorem dX5_liveSitting_16 : decode cX5_liveSitting 16 = .ok (.ireturn, 1) := by decide +kernel
theorem dX5_liveRising_0 : decode cX5_liveRising 0 = .ok (.aload_n 0, 1) := by decide +kernel
theorem dX5_liveRising_1 : decode cX5_liveRising 1 = .ok (.iload_n 1, 1) := by decide +kernel
theorem dX5_liveRising_2 : decode cX5_liveRising 2 = .ok (.invokevirtual 145, 3) := by decide +kernel
theorem dX5_liveRising_5 : decode cX5_liveRising 5 = .ok (.istore_n 2, 1) := by decide +kernel
theorem dX5_liveRising_6 : decode cX5_liveRising 6 = .ok (.iload_n 2, 1) := by decide +kernel
theorem dX5_liveRising_7 : decode cX5_liveRising 7 = .ok (.ifCond .ne 8, 3) := by decide +kernel
theorem dX5_liveRising_10 : decode cX5_liveRising 10 = .ok (.aload_n 0, 1) := by decide +kernel
theorem dX5_liveRising_11 : decode cX5_liveRising 11 = .ok (.iload_n 1, 1) := by decide +kernel
theorem dX5_liveRising_12 : decode cX5_liveRising 12 = .ok (.invokevirtual 148, 3) := by decide +kernel
theorem dX5_liveRising_15 : decode cX5_liveRising 15 = .ok (.iload_n 2, 1) := by decide +kernel
theorem dX5_liveRising_16 : decode cX5_liveRising 16 = .ok (.ifCond .ne 7, 3) := by decide +kernel
theorem dX5_liveRising_19 : decode cX5_liveRising 19 = .ok (.iconst 0, 1) := by decide +kernel
theorem dX5_liveRising_20 : decode cX5_liveRising 20 = .ok (.goto 7, 3) := by decide +kernel
theorem dX5_liveRising_23 : decode cX5_liveRising 23 = .ok (.bipush 10, 2) := by decide +kernel
theorem dX5_liveRising_25 : decode cX5_liveRising 25 = .ok (.iload_n 2, 1) := by decide +kernel
theorem dX5_liveRising_26 : decode cX5_liveRising 26 = .ok (.iadd, 1) := by decide +kernel
theorem dX5_liveRising_27 : decode cX5_liveRising 27 = .ok (.ireturn, 1) := by decide +kernel
theorem dX5_liveServing_0 : decode cX5_liveServing 0 = .ok (.aload_n 0, 1) := by decide +kernel
theorem dX5_liveServing_1 : decode cX5_liveServing 1 = .ok (.iload_n 1, 1) := by decide +kernel
theorem dX5_liveServing_2 : decode cX5_liveServing 2 = .ok (.invokevirtual 151, 3) := by decide +kernel
theorem dX5_liveServing_5 : decode cX5_liveServing 5 = .ok (.istore_n 2, 1) := by decide +kernel
theorem dX5_liveServing_6 : decode cX5_liveServing 6 = .ok (.iload_n 2, 1) := by decide +kernel
theorem dX5_liveServing_7 : decode cX5_liveServing 7 = .ok (.ifCond .ne 8, 3) := by decide +kernel
theorem dX5_liveServing_10 : decode cX5_liveServing 10 = .ok (.aload_n 0, 1) := by decide +kernel
theorem dX5_liveServing_11 : decode cX5_liveServing 11 = .ok (.iload_n 1, 1) := by decide +kernel
theorem dX5_liveServing_12 : decode cX5_liveServing 12 = .ok (.invokevirtual 154, 3) := by decide +kernel
theorem dX5_liveServing_15 : decode cX5_liveServing 15 = .ok (.iload_n 2, 1) := by decide +kernel
theorem dX5_liveServing_16 : decode cX5_liveServing 16 = .ok (.ifCond .ne 7, 3) := by decide +kernel
theorem dX5_liveServing_19 : decode cX5_liveServing 19 = .ok (.iconst 0, 1) := by decide +kernel
theorem dX5_liveServing_20 : decode cX5_liveServing 20 = .ok (.goto 7, 3) := by decide +kernel
theorem dX5_liveServing_23 : decode cX5_liveServing 23 = .ok (.bipush 20, 2) := by decide +kernel
theorem dX5_liveServing_25 : decode cX5_liveServing 25 = .ok (.iload_n 2, 1) := by decide +kernel
theorem dX5_liveServing_26 : decode cX5_liveServing 26 = .ok (.iadd, 1) := by decide +kernel
theorem dX5_liveServing_27 : decode cX5_liveServing 27 = .ok (.ireturn, 1) := by decide +kernel
theorem dX5_liveHiding_0 : decode cX5_liveHiding 0 = .ok (.aload_n 0, 1) := by decide +kernel
theorem dX5_liveHiding_1 : decode cX5_liveHiding 1 = .ok (.iload_n 1, 1) := by decide +kernel
theorem dX5_liveHiding_2 : decode cX5_liveHiding 2 = .ok (.invokevirtual 157, 3) := by decide +kernel
theorem dX5_liveHiding_5 : decode cX5_liveHiding 5 = .ok (.istore_n 2, 1) := by decide +kernel
theorem dX5_liveHiding_6 : decode cX5_liveHiding 6 = .ok (.iload_n 2, 1) := by decide +kernel
theorem dX5_liveHiding_7 : decode cX5_liveHiding 7 = .ok (.ifCond .ne 15, 3) := by decide +kernel
theorem dX5_liveHiding_10 : decode cX5_liveHiding 10 = .ok (.aload_n 0, 1) := by decide +kernel
theorem dX5_liveHiding_11 : decode cX5_liveHiding 11 = .ok (.dup, 1) := by decide +kernel
theorem dX5_liveHiding_12 : decode cX5_liveHiding 12 = .ok (.getfield 160, 3) := by decide +kernel
theorem dX5_liveHiding_15 : decode cX5_liveHiding 15 = .ok (.iconst 1, 1) := by decide +kernel
theorem dX5_liveHiding_16 : decode cX5_liveHiding 16 = .ok (.iload_n 1, 1) := by decide +kernel
theorem dX5_liveHiding_17 : decode cX5_liveHiding 17 = .ok (.ishl, 1) := by decide +kernel
theorem dX5_liveHiding_18 : decode cX5_liveHiding 18 = .ok (.ior, 1) := by decide +kernel
theorem dX5_liveHiding_19 : decode cX5_liveHiding 19 = .ok (.putfield 160, 3) := by decide +kernel
theorem dX5_liveHiding_22 : decode cX5_liveHiding 22 = .ok (.iload_n 2, 1) := by decide +kernel
theorem dX5_liveHiding_23 : decode cX5_liveHiding 23 = .ok (.ifCond .ne 7, 3) := by decide +kernel
theorem dX5_liveHiding_26 : decode cX5_liveHiding 26 = .ok (.iconst 0, 1) := by decide +kernel
theorem dX5_liveHiding_27 : decode cX5_liveHiding 27 = .ok (.goto 7, 3) := by decide +kernel
theorem dX5_liveHiding_30 : decode cX5_liveHiding 30 = .ok (.bipush 30, 2) := by decide +kernel
theorem dX5_liveHiding_32 : decode cX5_liveHiding 32 = .ok (.iload_n 2, 1) := by decide +kernel
theorem dX5_liveHiding_33 : decode cX5_liveHiding 33 = .ok (.iadd, 1) := by decide +kernel
theorem dX5_liveHiding_34 : decode cX5_liveHiding 34 = .ok (.ireturn, 1) := by decide +kernel
theorem dX5_liveShowing_0 : decode cX5_liveShowing 0 = .ok (.aload_n 0, 1) := by decide +kernel
theorem dX5_liveShowing_1 : decode cX5_liveShowing 1 = .ok (.iload_n 1, 1) := by decide +kernel
theorem dX5_liveShowing_2 : decode cX5_liveShowing 2 = .ok (.invokevirtual 163, 3) := by decide +kernel
theorem dX5_liveShowing_5 : decode cX5_liveShowing 5 = .ok (.istore_n 2, 1) := by decide +kernel
theorem dX5_liveShowing_6 : decode cX5_liveShowing 6 = .ok (.iload_n 2, 1) := by decide +kernel
theorem dX5_liveShowing_7 : decode cX5_liveShowing 7 = .ok (.ifCond .ne 17, 3) := by decide +kernel
theorem dX5_liveShowing_10 : decode cX5_liveShowing 10 = .ok (.aload_n 0, 1) := by decide +kernel
theorem dX5_liveShowing_11 : decode cX5_liveShowing 11 = .ok (.dup, 1) := by decide +kernel
theorem dX5_liveShowing_12 : decode cX5_liveShowing 12 = .ok (.getfield 160, 3) := by decide +kernel
theorem dX5_liveShowing_15 : decode cX5_liveShowing 15 = .ok (.iconst 1, 1) := by decide +kernel
theorem dX5_liveShowing_16 : decode cX5_liveShowing 16 = .ok (.iload_n 1, 1) := by decide +kernel
theorem dX5_liveShowing_17 : decode cX5_liveShowing 17 = .ok (.ishl, 1) := by decide +kernel
theorem dX5_liveShowing_18 : decode cX5_liveShowing 18 = .ok (.iconst (-1), 1) := by decide +kernel
theorem dX5_liveShowing_19 : decode cX5_liveShowing 19 = .ok (.ixor, 1) := by decide +kernel
theorem dX5_liveShowing_20 : decode cX5_liveShowing 20 = .ok (.iand, 1) := by decide +kernel
theorem dX5_liveShowing_21 : decode cX5_liveShowing 21 = .ok (.putfield 160, 3) := by decide +kernel
theorem dX5_liveShowing_24 : decode cX5_liveShowing 24 = .ok (.iload_n 2, 1) := by decide +kernel
theorem dX5_liveShowing_25 : decode cX5_liveShowing 25 = .ok (.ifCond .ne 7, 3) := by decide +kernel
theorem dX5_liveShowing_28 : decode cX5_liveShowing 28 = .ok (.iconst 0, 1) := by decide +kernel
theorem dX5_liveShowing_29 : decode cX5_liveShowing 29 = .ok (.goto 7, 3) := by decide +kernel
theorem dX5_liveShowing_32 : decode cX5_liveShowing 32 = .ok (.bipush 40, 2) := by decide +kernel
theorem dX5_liveShowing_34 : decode cX5_liveShowing 34 = .ok (.iload_n 2, 1) := by decide +kernel
theorem dX5_liveShowing_35 : decode cX5_liveShowing 35 = .ok (.iadd, 1) := by decide +kernel
theorem dX5_liveShowing_36 : decode cX5_liveShowing 36 = .ok (.ireturn, 1) := by decide +kernel
theorem dX5_liveRounds_0 : decode cX5_liveRounds 0 = .ok (.iload_n 1, 1) := by decide +kernel
theorem dX5_liveRounds_1 : decode cX5_liveRounds 1 = .ok (.sipush 400, 3) := by decide +kernel
theorem dX5_liveRounds_4 : decode cX5_liveRounds 4 = .ok (.aload_n 0, 1) := by decide +kernel
theorem dX5_liveRounds_5 : decode cX5_liveRounds 5 = .ok (.getfield 105, 3) := by decide +kernel
theorem dX5_liveRounds_8 : decode cX5_liveRounds 8 = .ok (.isub, 1) := by decide +kernel
theorem dX5_liveRounds_9 : decode cX5_liveRounds 9 = .ok (.if_icmp .le 6, 3) := by decide +kernel
theorem dX5_liveRounds_12 : decode cX5_liveRounds 12 = .ok (.bipush 51, 2) := by decide +kernel
theorem dX5_liveRounds_14 : decode cX5_liveRounds 14 = .ok (.ireturn, 1) := by decide +kernel
theorem dX5_liveRounds_15 : decode cX5_liveRounds 15 = .ok (.iconst 0, 1) := by decide +kernel
theorem dX5_liveRounds_16 : decode cX5_liveRounds 16 = .ok (.istore_n 2, 1) := by decide +kernel
theorem dX5_liveRounds_17 : decode cX5_liveRounds 17 = .ok (.iload_n 2, 1) := by decide +kernel
theorem dX5_liveRounds_18 : decode cX5_liveRounds 18 = .ok (.iload_n 1, 1) := by decide +kernel
theorem dX5_liveRounds_19 : decode cX5_liveRounds 19 = .ok (.if_icmp .ge 15, 3) := by decide +kernel
theorem dX5_liveRounds_22 : decode cX5_liveRounds 22 = .ok (.aload_n 0, 1) := by decide +kernel
theorem dX5_liveRounds_23 : decode cX5_liveRounds 23 = .ok (.iconst (-1), 1) := by decide +kernel
theorem dX5_liveRounds_24 : decode cX5_liveRounds 24 = .ok (.invokevirtual 166, 3) := by decide +kernel
theorem dX5_liveRounds_27 : decode cX5_liveRounds 27 = .ok (.pop, 1) := by decide +kernel
theorem dX5_liveRounds_28 : decode cX5_liveRounds 28 = .ok (.iinc 2 1, 3) := by decide +kernel
theorem dX5_liveRounds_31 : decode cX5_liveRounds 31 = .ok (.goto (-14), 3) := by decide +kernel
theorem dX5_liveRounds_34 : decode cX5_liveRounds 34 = .ok (.iconst 0, 1) := by decide +kernel
theorem dX5_liveRounds_35 : decode cX5_liveRounds 35 = .ok (.ireturn, 1) := by decide +kernel
theorem dX7_init_0 : decode cX7_init 0 = .ok (.aload_n 0, 1) := by decide +kernel
theorem dX7_init_1 : decode cX7_init 1 = .ok (.invokespecial 5, 3) := by decide +kernel
theorem dX7_init_4 : decode cX7_init 4 = .ok (.aload_n 0, 1) := by decide +kernel
theorem dX7_init_5 : decode cX7_init 5 = .ok (.bipush 40, 2) := by decide +kernel
theorem dX7_init_7 : decode cX7_init 7 = .ok (.newarray .int, 2) := by decide +kernel
theorem dX7_init_9 : decode cX7_init 9 = .ok (.putfield 11, 3) := by decide +kernel
theorem dX7_init_12 : decode cX7_init 12 = .ok (.aload_n 0, 1) := by decide +kernel
theorem dX7_init_13 : decode cX7_init 13 = .ok (.bipush 40, 2) := by decide +kernel
theorem dX7_init_15 : decode cX7_init 15 = .ok (.newarray .int, 2) := by decide +kernel
theorem dX7_init_17 : decode cX7_init 17 = .ok (.putfield 15, 3) := by decide +kernel
theorem dX7_init_20 : decode cX7_init 20 = .ok (.aload_n 0, 1) := by decide +kernel
theorem dX7_init_21 : decode cX7_init 21 = .ok (.bipush 40, 2) := by decide +kernel
theorem dX7_init_23 : decode cX7_init 23 = .ok (.newarray .int, 2) := by decide +kernel
theorem dX7_init_25 : decode cX7_init 25 = .ok (.putfield 18, 3) := by decide +kernel
theorem dX7_init_28 : decode cX7_init 28 = .ok (.aload_n 0, 1) := by decide +kernel
theorem dX7_init_29 : decode cX7_init 29 = .ok (.bipush 20, 2) := by decide +kernel
theorem dX7_init_31 : decode cX7_init 31 = .ok (.newarray .int, 2) := by decide +kernel
theorem dX7_init_33 : decode cX7_init 33 = .ok (.putfield 21, 3) := by decide +kernel
theorem dX7_init_36 : decode cX7_init 36 = .ok (.return_, 1) := by decide +kernel
theorem dX7_clear_0 : decode cX7_clear 0 = .ok (.aload_n 0, 1) := by decide +kernel
theorem dX7_clear_1 : decode cX7_clear 1 = .ok (.iconst 0, 1) := by decide +kernel
theorem dX7_clear_2 : decode cX7_clear 2 = .ok (.putfield 24, 3) := by decide +kernel
theorem dX7_clear_5 : decode cX7_clear 5 = .ok (.aload_n 0, 1) := by decide +kernel
theorem dX7_clear_6 : decode cX7_clear 6 = .ok (.iconst 0, 1) := by decide +kernel
theorem dX7_clear_7 : decode cX7_clear 7 = .ok (.putfield 28, 3) := by decide +kernel
theorem dX7_clear_10 : decode cX7_clear 10 = .ok (.return_, 1) := by decide +kernel
theorem dX7_copyFrom_0 : decode cX7_copyFrom 0 = .ok (.aload_n 1, 1) := by decide +kernel
theorem dX7_copyFrom_1 : decode cX7_copyFrom 1 = .ok (.getfield 11, 3) := by decide +kernel
theorem dX7_copyFrom_4 : decode cX7_copyFrom 4 = .ok (.iconst 0, 1) := by decide +kernel
theorem dX7_copyFrom_5 : decode cX7_copyFrom 5 = .ok (.aload_n 0, 1) := by decide +kernel
theorem dX7_copyFrom_6 : decode cX7_copyFrom 6 = .ok (.getfield 11, 3) := by decide +kernel
theorem dX7_copyFrom_9 : decode cX7_copyFrom 9 = .ok (.iconst 0, 1) := by decide +kernel
theorem dX7_copyFrom_10 : decode cX7_copyFrom 10 = .ok (.bipush 40, 2) := by decide +kernel
theorem dX7_copyFrom_12 : decode cX7_copyFrom 12 = .ok (.invokestatic 31, 3) := by decide +kernel
theorem dX7_copyFrom_15 : decode cX7_copyFrom 15 = .ok (.aload_n 1, 1) := by decide +kernel
theorem dX7_copyFrom_16 : decode cX7_copyFrom 16 = .ok (.getfield 15, 3) := by decide +kernel
theorem dX7_copyFrom_19 : decode cX7_copyFrom 19 = .ok (.iconst 0, 1) := by decide +kernel
theorem dX7_copyFrom_20 : decode cX7_copyFrom 20 = .ok (.aload_n 0, 1) := by decide +kernel
theorem dX7_copyFrom_21 : decode cX7_copyFrom 21 = .ok (.getfield 15, 3) := by decide +kernel
theorem dX7_copyFrom_24 : decode cX7_copyFrom 24 = .ok (.iconst 0, 1) := by decide +kernel
theorem dX7_copyFrom_25 : decode cX7_copyFrom 25 = .ok (.bipush 40, 2) := by decide +kernel
theorem dX7_copyFrom_27 : decode cX7_copyFrom 27 = .ok (.invokestatic 31, 3) := by decide +kernel
theorem dX7_copyFrom_30 : decode cX7_copyFrom 30 = .ok (.aload_n 1, 1) := by decide +kernel
theorem dX7_copyFrom_31 : decode cX7_copyFrom 31 = .ok (.getfield 18, 3) := by decide +kernel
theorem dX7_copyFrom_34 : decode cX7_copyFrom 34 = .ok (.iconst 0, 1) := by decide +kernel
theorem dX7_copyFrom_35 : decode cX7_copyFrom 35 = .ok (.aload_n 0, 1) := by decide +kernel
theorem dX7_copyFrom_36 : decode cX7_copyFrom 36 = .ok (.getfield 18, 3) := by decide +kernel
theorem dX7_copyFrom_39 : decode cX7_copyFrom 39 = .ok (.iconst 0, 1) := by decide +kernel
theorem dX7_copyFrom_40 : decode cX7_copyFrom 40 = .ok (.bipush 40, 2) := by decide +kernel
theorem dX7_copyFrom_42 : decode cX7_copyFrom 42 = .ok (.invokestatic 31, 3) := by decide +kernel
theorem dX7_copyFrom_45 : decode cX7_copyFrom 45 = .ok (.aload_n 0, 1) := by decide +kernel
theorem dX7_copyFrom_46 : decode cX7_copyFrom 46 = .ok (.aload_n 1, 1) := by decide +kernel
theorem dX7_copyFrom_47 : decode cX7_copyFrom 47 = .ok (.getfield 24, 3) := by decide +kernel
theorem dX7_copyFrom_50 : decode cX7_copyFrom 50 = .ok (.putfield 24, 3) := by decide +kernel
theorem dX7_copyFrom_53 : decode cX7_copyFrom 53 = .ok (.aload_n 0, 1) := by decide +kernel
theorem dX7_copyFrom_54 : decode cX7_copyFrom 54 = .ok (.aload_n 1, 1) := by decide +kernel
theorem dX7_copyFrom_55 : decode cX7_copyFrom 55 = .ok (.getfield 28, 3) := by decide +kernel
theorem dX7_copyFrom_58 : decode cX7_copyFrom 58 = .ok (.putfield 28, 3) := by decide +kernel
theorem dX7_copyFrom_61 : decode cX7_copyFrom 61 = .ok (.return_, 1) := by decide +kernel
theorem dX7_add_0 : decode cX7_add 0 = .ok (.aload_n 0, 1) := by decide +kernel
theorem dX7_add_1 : decode cX7_add 1 = .ok (.getfield 24, 3) := by decide +kernel
theorem dX7_add_4 : decode cX7_add 4 = .ok (.bipush 40, 2) := by decide +kernel
theorem dX7_add_6 : decode cX7_add 6 = .ok (.if_icmp .lt 5, 3) := by decide +kernel
theorem dX7_add_9 : decode cX7_add 9 = .ok (.iconst 0, 1) := by decide +kernel
theorem dX7_add_10 : decode cX7_add 10 = .ok (.ireturn, 1) := by decide +kernel
theorem dX7_add_11 : decode cX7_add 11 = .ok (.aload_n 0, 1) := by decide +kernel
theorem dX7_add_12 : decode cX7_add 12 = .ok (.getfield 11, 3) := by decide +kernel
theorem dX7_add_15 : decode cX7_add 15 = .ok (.aload_n 0, 1) := by decide +kernel
theorem dX7_add_16 : decode cX7_add 16 = .ok (.getfield 24, 3) := by decide +kernel
theorem dX7_add_19 : decode cX7_add 19 = .ok (.iload_n 1, 1) := by decide +kernel
theorem dX7_add_20 : decode cX7_add 20 = .ok (.iastore, 1) := by decide +kernel
theorem dX7_add_21 : decode cX7_add 21 = .ok (.aload_n 0, 1) := by decide +kernel
theorem dX7_add_22 : decode cX7_add 22 = .ok (.getfield 15, 3) := by decide +kernel
theorem dX7_add_25 : decode cX7_add 25 = .ok (.aload_n 0, 1) := by decide +kernel
theorem dX7_add_26 : decode cX7_add 26 = .ok (.getfield 24, 3) := by decide +kernel
theorem dX7_add_29 : decode cX7_add 29 = .ok (.iload_n 2, 1) := by decide +kernel
theorem dX7_add_30 : decode cX7_add 30 = .ok (.iastore, 1) := by decide +kernel
theorem dX7_add_31 : decode cX7_add 31 = .ok (.aload_n 0, 1) := by decide +kernel
theorem dX7_add_32 : decode cX7_add 32 = .ok (.getfield 18, 3) := by decide +kernel
theorem dX7_add_35 : decode cX7_add 35 = .ok (.aload_n 0, 1) := by decide +kernel
theorem dX7_add_36 : decode cX7_add 36 = .ok (.getfield 24, 3) := by decide +kernel
theorem dX7_add_39 : decode cX7_add 39 = .ok (.iload_n 3, 1) := by decide +kernel
theorem dX7_add_40 : decode cX7_add 40 = .ok (.iastore, 1) := by decide +kernel
theorem dX7_add_41 : decode cX7_add 41 = .ok (.aload_n 0, 1) := by decide +kernel
theorem dX7_add_42 : decode cX7_add 42 = .ok (.dup, 1) := by decide +kernel
theorem dX7_add_43 : decode cX7_add 43 = .ok (.getfield 24, 3) := by decide +kernel
theorem dX7_add_46 : decode cX7_add 46 = .ok (.iconst 1, 1) := by decide +kernel
theorem dX7_add_47 : decode cX7_add 47 = .ok (.iadd, 1) := by decide +kernel
theorem dX7_add_48 : decode cX7_add 48 = .ok (.putfield 24, 3) := by decide +kernel
theorem dX7_add_51 : decode cX7_add 51 = .ok (.iconst 1, 1) := by decide +kernel
theorem dX7_add_52 : decode cX7_add 52 = .ok (.ireturn, 1) := by decide +kernel
theorem dX7_trueOf_0 : decode cX7_trueOf 0 = .ok (.iconst 1, 1) := by decide +kernel
theorem dX7_trueOf_1 : decode cX7_trueOf 1 = .ok (.aload_n 1, 1) := by decide +kernel
theorem dX7_trueOf_2 : decode cX7_trueOf 2 = .ok (.getfield 37, 3) := by decide +kernel
theorem dX7_trueOf_5 : decode cX7_trueOf 5 = .ok (.getfield 43, 3) := by decide +kernel
theorem dX7_trueOf_8 : decode cX7_trueOf 8 = .ok (.ishl, 1) := by decide +kernel
theorem dX7_trueOf_9 : decode cX7_trueOf 9 = .ok (.iconst 1, 1) := by decide +kernel
theorem dX7_trueOf_10 : decode cX7_trueOf 10 = .ok (.isub, 1) := by decide +kernel
theorem dX7_trueOf_11 : decode cX7_trueOf 11 = .ok (.istore_n 2, 1) := by decide +kernel
theorem dX7_trueOf_12 : decode cX7_trueOf 12 = .ok (.iconst 0, 1) := by decide +kernel
theorem dX7_trueOf_13 : decode cX7_trueOf 13 = .ok (.istore_n 3, 1) := by decide +kernel
theorem dX7_trueOf_14 : decode cX7_trueOf 14 = .ok (.iconst 0, 1) := by decide +kernel
theorem dX7_trueOf_15 : decode cX7_trueOf 15 = .ok (.istore 4, 2) := by decide +kernel
theorem dX7_trueOf_17 : decode cX7_trueOf 17 = .ok (.iload 4, 2) := by decide +kernel
theorem dX7_trueOf_19 : decode cX7_trueOf 19 = .ok (.aload_n 0, 1) := by decide +kernel
theorem dX7_trueOf_20 : decode cX7_trueOf 20 = .ok (.getfield 24, 3) := by decide +kernel
theorem dX7_trueOf_23 : decode cX7_trueOf 23 = .ok (.if_icmp .ge 162, 3) := by decide +kernel
theorem dX7_trueOf_26 : decode cX7_trueOf 26 = .ok (.aload_n 0, 1) := by decide +kernel
theorem dX7_trueOf_27 : decode cX7_trueOf 27 = .ok (.getfield 11, 3) := by decide +kernel
theorem dX7_trueOf_30 : decode cX7_trueOf 30 = .ok (.iload 4, 2) := by decide +kernel
theorem dX7_trueOf_32 : decode cX7_trueOf 32 = .ok (.iaload, 1) := by decide +kernel
theorem dX7_trueOf_33 : decode cX7_trueOf 33 = .ok (.bipush 12, 2) := by decide +kernel
theorem dX7_trueOf_35 : decode cX7_trueOf 35 = .ok (.if_icmp .ne 30, 3) := by decide +kernel
theorem dX7_trueOf_38 : decode cX7_trueOf 38 = .ok (.iload_n 3, 1) := by decide +kernel
theorem dX7_trueOf_39 : decode cX7_trueOf 39 = .ok (.ifCond .le 140, 3) := by decide +kernel
theorem dX7_trueOf_42 : decode cX7_trueOf 42 = .ok (.aload_n 0, 1) := by decide +kernel
theorem dX7_trueOf_43 : decode cX7_trueOf 43 = .ok (.getfield 21, 3) := by decide +kernel
theorem dX7_trueOf_46 : decode cX7_trueOf 46 = .ok (.iload_n 3, 1) := by decide +kernel
theorem dX7_trueOf_47 : decode cX7_trueOf 47 = .ok (.iconst 1, 1) := by decide +kernel
theorem dX7_trueOf_48 : decode cX7_trueOf 48 = .ok (.isub, 1) := by decide +kernel
theorem dX7_trueOf_49 : decode cX7_trueOf 49 = .ok (.iload_n 2, 1) := by decide +kernel
theorem dX7_trueOf_50 : decode cX7_trueOf 50 = .ok (.aload_n 0, 1) := by decide +kernel
theorem dX7_trueOf_51 : decode cX7_trueOf 51 = .ok (.getfield 21, 3) := by decide +kernel
theorem dX7_trueOf_54 : decode cX7_trueOf 54 = .ok (.iload_n 3, 1) := by decide +kernel
theorem dX7_trueOf_55 : decode cX7_trueOf 55 = .ok (.iconst 1, 1) := by decide +kernel
theorem dX7_trueOf_56 : decode cX7_trueOf 56 = .ok (.isub, 1) := by decide +kernel
theorem dX7_trueOf_57 : decode cX7_trueOf 57 = .ok (.iaload, 1) := by decide +kernel
theorem dX7_trueOf_58 : decode cX7_trueOf 58 = .ok (.iconst (-1), 1) := by decide +kernel
theorem dX7_trueOf_59 : decode cX7_trueOf 59 = .ok (.ixor, 1) := by decide +kernel
theorem dX7_trueOf_60 : decode cX7_trueOf 60 = .ok (.iand, 1) := by decide +kernel
theorem dX7_trueOf_61 : decode cX7_trueOf 61 = .ok (.iastore, 1) := by decide +kernel
theorem dX7_trueOf_62 : decode cX7_trueOf 62 = .ok (.goto 117, 3) := by decide +kernel
theorem dX7_trueOf_65 : decode cX7_trueOf 65 = .ok (.aload_n 0, 1) := by decide +kernel
theorem dX7_trueOf_66 : decode cX7_trueOf 66 = .ok (.getfield 11, 3) := by decide +kernel
theorem dX7_trueOf_69 : decode cX7_trueOf 69 = .ok (.iload 4, 2) := by decide +kernel
theorem dX7_trueOf_71 : decode cX7_trueOf 71 = .ok (.iaload, 1) := by decide +kernel
theorem dX7_trueOf_72 : decode cX7_trueOf 72 = .ok (.bipush 11, 2) := by decide +kernel
theorem dX7_trueOf_74 : decode cX7_trueOf 74 = .ok (.if_icmp .eq 15, 3) := by decide +kernel
theorem dX7_trueOf_77 : decode cX7_trueOf 77 = .ok (.aload_n 0, 1) := by decide +kernel
theorem dX7_trueOf_78 : decode cX7_trueOf 78 = .ok (.getfield 11, 3) := by decide +kernel
theorem dX7_trueOf_81 : decode cX7_trueOf 81 = .ok (.iload 4, 2) := by decide +kernel
theorem dX7_trueOf_83 : decode cX7_trueOf 83 = .ok (.iaload, 1) := by decide +kernel
theorem dX7_trueOf_84 : decode cX7_trueOf 84 = .ok (.bipush 10, 2) := by decide +kernel
theorem dX7_trueOf_86 : decode cX7_trueOf 86 = .ok (.if_icmp .ne 71, 3) := by decide +kernel
theorem dX7_trueOf_89 : decode cX7_trueOf 89 = .ok (.iload_n 3, 1) := by decide +kernel
theorem dX7_trueOf_90 : decode cX7_trueOf 90 = .ok (.iconst 1, 1) := by decide +kernel
theorem dX7_trueOf_91 : decode cX7_trueOf 91 = .ok (.if_icmp .le 88, 3) := by decide +kernel
theorem dX7_trueOf_94 : decode cX7_trueOf 94 = .ok (.iinc 3 (-1), 3) := by decide +kernel
theorem dX7_trueOf_97 : decode cX7_trueOf 97 = .ok (.aload_n 0, 1) := by decide +kernel
theorem dX7_trueOf_98 : decode cX7_trueOf 98 = .ok (.getfield 21, 3) := by decide +kernel
theorem dX7_trueOf_101 : decode cX7_trueOf 101 = .ok (.iload_n 3, 1) := by decide +kernel
theorem dX7_trueOf_102 : decode cX7_trueOf 102 = .ok (.iconst 1, 1) := by decide +kernel
theorem dX7_trueOf_103 : decode cX7_trueOf 103 = .ok (.isub, 1) := by decide +kernel
theorem dX7_trueOf_104 : decode cX7_trueOf 104 = .ok (.iaload, 1) := by decide +kernel
theorem dX7_trueOf_105 : decode cX7_trueOf 105 = .ok (.aload_n 0, 1) := by decide +kernel
theorem dX7_trueOf_106 : decode cX7_trueOf 106 = .ok (.getfield 21, 3) := by decide +kernel
theorem dX7_trueOf_109 : decode cX7_trueOf 109 = .ok (.iload_n 3, 1) := by decide +kernel
theorem dX7_trueOf_110 : decode cX7_trueOf 110 = .ok (.iaload, 1) := by decide +kernel
theorem dX7_trueOf_111 : decode cX7_trueOf 111 = .ok (.iand, 1) := by decide +kernel
theorem dX7_trueOf_112 : decode cX7_trueOf 112 = .ok (.istore 5, 2) := by decide +kernel
theorem dX7_trueOf_114 : decode cX7_trueOf 114 = .ok (.aload_n 0, 1) := by decide +kernel
theorem dX7_trueOf_115 : decode cX7_trueOf 115 = .ok (.getfield 21, 3) := by decide +kernel
theorem dX7_trueOf_118 : decode cX7_trueOf 118 = .ok (.iload_n 3, 1) := by decide +kernel
theorem dX7_trueOf_119 : decode cX7_trueOf 119 = .ok (.iconst 1, 1) := by decide +kernel
theorem dX7_trueOf_120 : decode cX7_trueOf 120 = .ok (.isub, 1) := by decide +kernel
theorem dX7_trueOf_121 : decode cX7_trueOf 121 = .ok (.aload_n 0, 1) := by decide +kernel
theorem dX7_trueOf_122 : decode cX7_trueOf 122 = .ok (.getfield 11, 3) := by decide +kernel
theorem dX7_trueOf_125 : decode cX7_trueOf 125 = .ok (.iload 4, 2) := by decide +kernel
theorem dX7_trueOf_127 : decode cX7_trueOf 127 = .ok (.iaload, 1) := by decide +kernel
theorem dX7_trueOf_128 : decode cX7_trueOf 128 = .ok (.bipush 11, 2) := by decide +kernel
theorem dX7_trueOf_130 : decode cX7_trueOf 130 = .ok (.if_icmp .ne 8, 3) := by decide +kernel
theorem dX7_trueOf_133 : decode cX7_trueOf 133 = .ok (.iload 5, 2) := by decide +kernel
theorem dX7_trueOf_135 : decode cX7_trueOf 135 = .ok (.goto 18, 3) := by decide +kernel
theorem dX7_trueOf_138 : decode cX7_trueOf 138 = .ok (.aload_n 0, 1) := by decide +kernel
theorem dX7_trueOf_139 : decode cX7_trueOf 139 = .ok (.getfield 21, 3) := by decide +kernel
theorem dX7_trueOf_142 : decode cX7_trueOf 142 = .ok (.iload_n 3, 1) := by decide +kernel
theorem dX7_trueOf_143 : decode cX7_trueOf 143 = .ok (.iconst 1, 1) := by decide +kernel
theorem dX7_trueOf_144 : decode cX7_trueOf 144 = .ok (.isub, 1) := by decide +kernel
theorem dX7_trueOf_145 : decode cX7_trueOf 145 = .ok (.iaload, 1) := by decide +kernel
theorem dX7_trueOf_146 : decode cX7_trueOf 146 = .ok (.aload_n 0, 1) := by decide +kernel
theorem dX7_trueOf_147 : decode cX7_trueOf 147 = .ok (.getfield 21, 3) := by decide +kernel
theorem dX7_trueOf_150 : decode cX7_trueOf 150 = .ok (.iload_n 3, 1) := by decide +kernel
theorem dX7_trueOf_151 : decode cX7_trueOf 151 = .ok (.iaload, 1) := by decide +kernel
theorem dX7_trueOf_152 : decode cX7_trueOf 152 = .ok (.ior, 1) := by decide +kernel
theorem dX7_trueOf_153 : decode cX7_trueOf 153 = .ok (.iastore, 1) := by decide +kernel
theorem dX7_trueOf_154 : decode cX7_trueOf 154 = .ok (.goto 25, 3) := by decide +kernel
theorem dX7_trueOf_157 : decode cX7_trueOf 157 = .ok (.iload_n 3, 1) := by decide +kernel
theorem dX7_trueOf_158 : decode cX7_trueOf 158 = .ok (.bipush 20, 2) := by decide +kernel
theorem dX7_trueOf_160 : decode cX7_trueOf 160 = .ok (.if_icmp .ge 19, 3) := by decide +kernel
theorem dX7_trueOf_163 : decode cX7_trueOf 163 = .ok (.aload_n 0, 1) := by decide +kernel
theorem dX7_trueOf_164 : decode cX7_trueOf 164 = .ok (.getfield 21, 3) := by decide +kernel
theorem dX7_trueOf_167 : decode cX7_trueOf 167 = .ok (.iload_n 3, 1) := by decide +kernel
theorem dX7_trueOf_168 : decode cX7_trueOf 168 = .ok (.aload_n 0, 1) := by decide +kernel
theorem dX7_trueOf_169 : decode cX7_trueOf 169 = .ok (.aload_n 1, 1) := by decide +kernel
theorem dX7_trueOf_170 : decode cX7_trueOf 170 = .ok (.iload 4, 2) := by decide +kernel
theorem dX7_trueOf_172 : decode cX7_trueOf 172 = .ok (.invokevirtual 48, 3) := by decide +kernel
theorem dX7_trueOf_175 : decode cX7_trueOf 175 = .ok (.iastore, 1) := by decide +kernel
theorem dX7_trueOf_176 : decode cX7_trueOf 176 = .ok (.iinc 3 1, 3) := by decide +kernel
theorem dX7_trueOf_179 : decode cX7_trueOf 179 = .ok (.iinc 4 1, 3) := by decide +kernel
theorem dX7_trueOf_182 : decode cX7_trueOf 182 = .ok (.goto (-165), 3) := by decide +kernel
theorem dX7_trueOf_185 : decode cX7_trueOf 185 = .ok (.iload_n 3, 1) := by decide +kernel
theorem dX7_trueOf_186 : decode cX7_trueOf 186 = .ok (.ifCond .le 12, 3) := by decide +kernel
theorem dX7_trueOf_189 : decode cX7_trueOf 189 = .ok (.aload_n 0, 1) := by decide +kernel
theorem dX7_trueOf_190 : decode cX7_trueOf 190 = .ok (.getfield 21, 3) := by decide +kernel
theorem dX7_trueOf_193 : decode cX7_trueOf 193 = .ok (.iconst 0, 1) := by decide +kernel
theorem dX7_trueOf_194 : decode cX7_trueOf 194 = .ok (.iaload, 1) := by decide +kernel
theorem dX7_trueOf_195 : decode cX7_trueOf 195 = .ok (.goto 4, 3) := by decide +kernel
theorem dX7_trueOf_198 : decode cX7_trueOf 198 = .ok (.iconst 0, 1) := by decide +kernel
theorem dX7_trueOf_199 : decode cX7_trueOf 199 = .ok (.ireturn, 1) := by decide +kernel
theorem dX7_plainOne_0 : decode cX7_plainOne 0 = .ok (.iconst 0, 1) := by decide +kernel
theorem dX7_plainOne_1 : decode cX7_plainOne 1 = .ok (.istore_n 3, 1) := by decide +kernel
theorem dX7_plainOne_2 : decode cX7_plainOne 2 = .ok (.iconst 0, 1) := by decide +kernel
theorem dX7_plainOne_3 : decode cX7_plainOne 3 = .ok (.istore 4, 2) := by decide +kernel
theorem dX7_plainOne_5 : decode cX7_plainOne 5 = .ok (.iload 4, 2) := by decide +kernel
theorem dX7_plainOne_7 : decode cX7_plainOne 7 = .ok (.aload_n 1, 1) := by decide +kernel
theorem dX7_plainOne_8 : decode cX7_plainOne 8 = .ok (.getfield 37, 3) := by decide +kernel
theorem dX7_plainOne_11 : decode cX7_plainOne 11 = .ok (.getfield 43, 3) := by decide +kernel
theorem dX7_plainOne_14 : decode cX7_plainOne 14 = .ok (.if_icmp .ge 27, 3) := by decide +kernel
theorem dX7_plainOne_17 : decode cX7_plainOne 17 = .ok (.aload_n 0, 1) := by decide +kernel
theorem dX7_plainOne_18 : decode cX7_plainOne 18 = .ok (.aload_n 1, 1) := by decide +kernel
theorem dX7_plainOne_19 : decode cX7_plainOne 19 = .ok (.iload 4, 2) := by decide +kernel
theorem dX7_plainOne_21 : decode cX7_plainOne 21 = .ok (.iload_n 2, 1) := by decide +kernel
theorem dX7_plainOne_22 : decode cX7_plainOne 22 = .ok (.invokevirtual 52, 3) := by decide +kernel
theorem dX7_plainOne_25 : decode cX7_plainOne 25 = .ok (.ifCond .eq 10, 3) := by decide +kernel
theorem dX7_plainOne_28 : decode cX7_plainOne 28 = .ok (.iload_n 3, 1) := by decide +kernel
theorem dX7_plainOne_29 : decode cX7_plainOne 29 = .ok (.iconst 1, 1) := by decide +kernel
theorem dX7_plainOne_30 : decode cX7_plainOne 30 = .ok (.iload 4, 2) := by decide +kernel
theorem dX7_plainOne_32 : decode cX7_plainOne 32 = .ok (.ishl, 1) := by decide +kernel
theorem dX7_plainOne_33 : decode cX7_plainOne 33 = .ok (.ior, 1) := by decide +kernel
theorem dX7_plainOne_34 : decode cX7_plainOne 34 = .ok (.istore_n 3, 1) := by decide +kernel
theorem dX7_plainOne_35 : decode cX7_plainOne 35 = .ok (.iinc 4 1, 3) := by decide +kernel
theorem dX7_plainOne_38 : decode cX7_plainOne 38 = .ok (.goto (-33), 3) := by decide +kernel
theorem dX7_plainOne_41 : decode cX7_plainOne 41 = .ok (.iload_n 3, 1) := by decide +kernel
theorem dX7_plainOne_42 : decode cX7_plainOne 42 = .ok (.ireturn, 1) := by decide +kernel
theorem dX7_holds_0 : decode cX7_holds 0 = .ok (.aload_n 0, 1) := by decide +kernel
theorem dX7_holds_1 : decode cX7_holds 1 = .ok (.getfield 18, 3) := by decide +kernel
theorem dX7_holds_4 : decode cX7_holds 4 = .ok (.iload_n 3, 1) := by decide +kernel
theorem dX7_holds_5 : decode cX7_holds 5 = .ok (.iaload, 1) := by decide +kernel
theorem dX7_holds_6 : decode cX7_holds 6 = .ok (.istore 4, 2) := by decide +kernel
theorem dX7_holds_8 : decode cX7_holds 8 = .ok (.aload_n 0, 1) := by decide +kernel
theorem dX7_holds_9 : decode cX7_holds 9 = .ok (.getfield 11, 3) := by decide +kernel
theorem dX7_holds_12 : decode cX7_holds 12 = .ok (.iload_n 3, 1) := by decide +kernel
theorem dX7_holds_13 : decode cX7_holds 13 = .ok (.iaload, 1) := by decide +kernel
theorem dX7_holds_14 : decode cX7_holds 14 = .ok (.tableswitch 211 13 20 #[46, 52, 67, 91, 125, 157, 175, 193], 46) := by decide +kernel
theorem dX7_holds_60 : decode cX7_holds 60 = .ok (.aload_n 1, 1) := by decide +kernel
theorem dX7_holds_61 : decode cX7_holds 61 = .ok (.iload_n 2, 1) := by decide +kernel
theorem dX7_holds_62 : decode cX7_holds 62 = .ok (.invokevirtual 56, 3) := by decide +kernel
theorem dX7_holds_65 : decode cX7_holds 65 = .ok (.ireturn, 1) := by decide +kernel
theorem dX7_holds_66 : decode cX7_holds 66 = .ok (.aload_n 1, 1) := by decide +kernel
theorem dX7_holds_67 : decode cX7_holds 67 = .ok (.getfield 60, 3) := by decide +kernel
theorem dX7_holds_70 : decode cX7_holds 70 = .ok (.iload_n 2, 1) := by decide +kernel
theorem dX7_holds_71 : decode cX7_holds 71 = .ok (.iaload, 1) := by decide +kernel
theorem dX7_holds_72 : decode cX7_holds 72 = .ok (.ifCond .le 7, 3) := by decide +kernel
theorem dX7_holds_75 : decode cX7_holds 75 = .ok (.iconst 1, 1) := by decide +kernel
theorem dX7_holds_76 : decode cX7_holds 76 = .ok (.goto 4, 3) := by decide +kernel
theorem dX7_holds_79 : decode cX7_holds 79 = .ok (.iconst 0, 1) := by decide +kernel
theorem dX7_holds_80 : decode cX7_holds 80 = .ok (.ireturn, 1) := by decide +kernel
theorem dX7_holds_81 : decode cX7_holds 81 = .ok (.aload_n 1, 1) := by decide +kernel
theorem dX7_holds_82 : decode cX7_holds 82 = .ok (.getfield 63, 3) := by decide +kernel
theorem dX7_holds_85 : decode cX7_holds 85 = .ok (.iload_n 2, 1) := by decide +kernel
theorem dX7_holds_86 : decode cX7_holds 86 = .ok (.iaload, 1) := by decide +kernel
theorem dX7_holds_87 : decode cX7_holds 87 = .ok (.aload_n 1, 1) := by decide +kernel
theorem dX7_holds_88 : decode cX7_holds 88 = .ok (.getfield 37, 3) := by decide +kernel
theorem dX7_holds_91 : decode cX7_holds 91 = .ok (.getfield 66, 3) := by decide +kernel
theorem dX7_holds_94 : decode cX7_holds 94 = .ok (.iload_n 2, 1) := by decide +kernel
theorem dX7_holds_95 : decode cX7_holds 95 = .ok (.iaload, 1) := by decide +kernel
theorem dX7_holds_96 : decode cX7_holds 96 = .ok (.if_icmp .lt 7, 3) := by decide +kernel
theorem dX7_holds_99 : decode cX7_holds 99 = .ok (.iconst 1, 1) := by decide +kernel
theorem dX7_holds_100 : decode cX7_holds 100 = .ok (.goto 4, 3) := by decide +kernel
theorem dX7_holds_103 : decode cX7_holds 103 = .ok (.iconst 0, 1) := by decide +kernel
theorem dX7_holds_104 : decode cX7_holds 104 = .ok (.ireturn, 1) := by decide +kernel
theorem dX7_holds_105 : decode cX7_holds 105 = .ok (.aload_n 1, 1) := by decide +kernel
theorem dX7_holds_106 : decode cX7_holds 106 = .ok (.getfield 37, 3) := by decide +kernel
theorem dX7_holds_109 : decode cX7_holds 109 = .ok (.iload 4, 2) := by decide +kernel
theorem dX7_holds_111 : decode cX7_holds 111 = .ok (.invokevirtual 69, 3) := by decide +kernel
theorem dX7_holds_114 : decode cX7_holds 114 = .ok (.ifCond .eq 23, 3) := by decide +kernel
theorem dX7_holds_117 : decode cX7_holds 117 = .ok (.aload_n 1, 1) := by decide +kernel
theorem dX7_holds_118 : decode cX7_holds 118 = .ok (.getfield 72, 3) := by decide +kernel
theorem dX7_holds_121 : decode cX7_holds 121 = .ok (.iload_n 2, 1) := by decide +kernel
theorem dX7_holds_122 : decode cX7_holds 122 = .ok (.iaload, 1) := by decide +kernel
theorem dX7_holds_123 : decode cX7_holds 123 = .ok (.aload_n 1, 1) := by decide +kernel
theorem dX7_holds_124 : decode cX7_holds 124 = .ok (.getfield 72, 3) := by decide +kernel
theorem dX7_holds_127 : decode cX7_holds 127 = .ok (.iload 4, 2) := by decide +kernel
theorem dX7_holds_129 : decode cX7_holds 129 = .ok (.iaload, 1) := by decide +kernel
theorem dX7_holds_130 : decode cX7_holds 130 = .ok (.if_icmp .ne 7, 3) := by decide +kernel
theorem dX7_holds_133 : decode cX7_holds 133 = .ok (.iconst 1, 1) := by decide +kernel
theorem dX7_holds_134 : decode cX7_holds 134 = .ok (.goto 4, 3) := by decide +kernel
theorem dX7_holds_137 : decode cX7_holds 137 = .ok (.iconst 0, 1) := by decide +kernel
theorem dX7_holds_138 : decode cX7_holds 138 = .ok (.ireturn, 1) := by decide +kernel
theorem dX7_holds_139 : decode cX7_holds 139 = .ok (.aload_n 1, 1) := by decide +kernel
theorem dX7_holds_140 : decode cX7_holds 140 = .ok (.getfield 37, 3) := by decide +kernel
theorem dX7_holds_143 : decode cX7_holds 143 = .ok (.iload 4, 2) := by decide +kernel
theorem dX7_holds_145 : decode cX7_holds 145 = .ok (.invokevirtual 69, 3) := by decide +kernel
theorem dX7_holds_148 : decode cX7_holds 148 = .ok (.ifCond .eq 21, 3) := by decide +kernel
theorem dX7_holds_151 : decode cX7_holds 151 = .ok (.aload_n 1, 1) := by decide +kernel
theorem dX7_holds_152 : decode cX7_holds 152 = .ok (.getfield 37, 3) := by decide +kernel
theorem dX7_holds_155 : decode cX7_holds 155 = .ok (.getfield 75, 3) := by decide +kernel
theorem dX7_holds_158 : decode cX7_holds 158 = .ok (.iload 4, 2) := by decide +kernel
theorem dX7_holds_160 : decode cX7_holds 160 = .ok (.iaload, 1) := by decide +kernel
theorem dX7_holds_161 : decode cX7_holds 161 = .ok (.iload_n 2, 1) := by decide +kernel
theorem dX7_holds_162 : decode cX7_holds 162 = .ok (.if_icmp .ne 7, 3) := by decide +kernel
theorem dX7_holds_165 : decode cX7_holds 165 = .ok (.iconst 1, 1) := by decide +kernel
theorem dX7_holds_166 : decode cX7_holds 166 = .ok (.goto 4, 3) := by decide +kernel
theorem dX7_holds_169 : decode cX7_holds 169 = .ok (.iconst 0, 1) := by decide +kernel
theorem dX7_holds_170 : decode cX7_holds 170 = .ok (.ireturn, 1) := by decide +kernel
theorem dX7_holds_171 : decode cX7_holds 171 = .ok (.aload_n 1, 1) := by decide +kernel
theorem dX7_holds_172 : decode cX7_holds 172 = .ok (.getfield 78, 3) := by decide +kernel
theorem dX7_holds_175 : decode cX7_holds 175 = .ok (.iload_n 2, 1) := by decide +kernel
theorem dX7_holds_176 : decode cX7_holds 176 = .ok (.iaload, 1) := by decide +kernel
theorem dX7_holds_177 : decode cX7_holds 177 = .ok (.aload_n 0, 1) := by decide +kernel
theorem dX7_holds_178 : decode cX7_holds 178 = .ok (.getfield 15, 3) := by decide +kernel
theorem dX7_holds_181 : decode cX7_holds 181 = .ok (.iload_n 3, 1) := by decide +kernel
theorem dX7_holds_182 : decode cX7_holds 182 = .ok (.iaload, 1) := by decide +kernel
theorem dX7_holds_183 : decode cX7_holds 183 = .ok (.iload 4, 2) := by decide +kernel
theorem dX7_holds_185 : decode cX7_holds 185 = .ok (.invokestatic 81, 3) := by decide +kernel
theorem dX7_holds_188 : decode cX7_holds 188 = .ok (.ireturn, 1) := by decide +kernel
theorem dX7_holds_189 : decode cX7_holds 189 = .ok (.aload_n 1, 1) := by decide +kernel
theorem dX7_holds_190 : decode cX7_holds 190 = .ok (.getfield 63, 3) := by decide +kernel
theorem dX7_holds_193 : decode cX7_holds 193 = .ok (.iload_n 2, 1) := by decide +kernel
theorem dX7_holds_194 : decode cX7_holds 194 = .ok (.iaload, 1) := by decide +kernel
theorem dX7_holds_195 : decode cX7_holds 195 = .ok (.aload_n 0, 1) := by decide +kernel
theorem dX7_holds_196 : decode cX7_holds 196 = .ok (.getfield 15, 3) := by decide +kernel
theorem dX7_holds_199 : decode cX7_holds 199 = .ok (.iload_n 3, 1) := by decide +kernel
theorem dX7_holds_200 : decode cX7_holds 200 = .ok (.iaload, 1) := by decide +kernel
theorem dX7_holds_201 : decode cX7_holds 201 = .ok (.iload 4, 2) := by decide +kernel
theorem dX7_holds_203 : decode cX7_holds 203 = .ok (.invokestatic 81, 3) := by decide +kernel
theorem dX7_holds_206 : decode cX7_holds 206 = .ok (.ireturn, 1) := by decide +kernel
theorem dX7_holds_207 : decode cX7_holds 207 = .ok (.aload_n 1, 1) := by decide +kernel
theorem dX7_holds_208 : decode cX7_holds 208 = .ok (.getfield 85, 3) := by decide +kernel
theorem dX7_holds_211 : decode cX7_holds 211 = .ok (.iload_n 2, 1) := by decide +kernel
theorem dX7_holds_212 : decode cX7_holds 212 = .ok (.iaload, 1) := by decide +kernel
theorem dX7_holds_213 : decode cX7_holds 213 = .ok (.aload_n 0, 1) := by decide +kernel
theorem dX7_holds_214 : decode cX7_holds 214 = .ok (.getfield 15, 3) := by decide +kernel
theorem dX7_holds_217 : decode cX7_holds 217 = .ok (.iload_n 3, 1) := by decide +kernel
theorem dX7_holds_218 : decode cX7_holds 218 = .ok (.iaload, 1) := by decide +kernel
theorem dX7_holds_219 : decode cX7_holds 219 = .ok (.iload 4, 2) := by decide +kernel
theorem dX7_holds_221 : decode cX7_holds 221 = .ok (.invokestatic 81, 3) := by decide +kernel
theorem dX7_holds_224 : decode cX7_holds 224 = .ok (.ireturn, 1) := by decide +kernel
theorem dX7_holds_225 : decode cX7_holds 225 = .ok (.iload_n 2, 1) := by decide +kernel
theorem dX7_holds_226 : decode cX7_holds 226 = .ok (.aload_n 0, 1) := by decide +kernel
theorem dX7_holds_227 : decode cX7_holds 227 = .ok (.getfield 15, 3) := by decide +kernel
theorem dX7_holds_230 : decode cX7_holds 230 = .ok (.iload_n 3, 1) := by decide +kernel
theorem dX7_holds_231 : decode cX7_holds 231 = .ok (.iaload, 1) := by decide +kernel
theorem dX7_holds_232 : decode cX7_holds 232 = .ok (.iload 4, 2) := by decide +kernel
theorem dX7_holds_234 : decode cX7_holds 234 = .ok (.invokestatic 81, 3) := by decide +kernel
theorem dX7_holds_237 : decode cX7_holds 237 = .ok (.ireturn, 1) := by decide +kernel
theorem dX7_compares_0 : decode cX7_compares 0 = .ok (.iload_n 1, 1) := by decide +kernel
theorem dX7_compares_1 : decode cX7_compares 1 = .ok (.bipush 60, 2) := by decide +kernel
theorem dX7_compares_3 : decode cX7_compares 3 = .ok (.if_icmp .ne 16, 3) := by decide +kernel
theorem dX7_compares_6 : decode cX7_compares 6 = .ok (.iload_n 0, 1) := by decide +kernel
theorem dX7_compares_7 : decode cX7_compares 7 = .ok (.iload_n 2, 1) := by decide +kernel
theorem dX7_compares_8 : decode cX7_compares 8 = .ok (.if_icmp .ge 7, 3) := by decide +kernel
theorem dX7_compares_11 : decode cX7_compares 11 = .ok (.iconst 1, 1) := by decide +kernel
theorem dX7_compares_12 : decode cX7_compares 12 = .ok (.goto 36, 3) := by decide +kernel
theorem dX7_compares_15 : decode cX7_compares 15 = .ok (.iconst 0, 1) := by decide +kernel
theorem dX7_compares_16 : decode cX7_compares 16 = .ok (.goto 32, 3) := by decide +kernel
theorem dX7_compares_19 : decode cX7_compares 19 = .ok (.iload_n 1, 1) := by decide +kernel
theorem dX7_compares_20 : decode cX7_compares 20 = .ok (.bipush 62, 2) := by decide +kernel
theorem dX7_compares_22 : decode cX7_compares 22 = .ok (.if_icmp .ne 16, 3) := by decide +kernel
theorem dX7_compares_25 : decode cX7_compares 25 = .ok (.iload_n 0, 1) := by decide +kernel
theorem dX7_compares_26 : decode cX7_compares 26 = .ok (.iload_n 2, 1) := by decide +kernel
theorem dX7_compares_27 : decode cX7_compares 27 = .ok (.if_icmp .le 7, 3) := by decide +kernel
theorem dX7_compares_30 : decode cX7_compares 30 = .ok (.iconst 1, 1) := by decide +kernel
theorem dX7_compares_31 : decode cX7_compares 31 = .ok (.goto 17, 3) := by decide +kernel
theorem dX7_compares_34 : decode cX7_compares 34 = .ok (.iconst 0, 1) := by decide +kernel
theorem dX7_compares_35 : decode cX7_compares 35 = .ok (.goto 13, 3) := by decide +kernel
theorem dX7_compares_38 : decode cX7_compares 38 = .ok (.iload_n 0, 1) := by decide +kernel
theorem dX7_compares_39 : decode cX7_compares 39 = .ok (.iload_n 2, 1) := by decide +kernel
theorem dX7_compares_40 : decode cX7_compares 40 = .ok (.if_icmp .ne 7, 3) := by decide +kernel
theorem dX7_compares_43 : decode cX7_compares 43 = .ok (.iconst 1, 1) := by decide +kernel
theorem dX7_compares_44 : decode cX7_compares 44 = .ok (.goto 4, 3) := by decide +kernel
theorem dX7_compares_47 : decode cX7_compares 47 = .ok (.iconst 0, 1) := by decide +kernel
theorem dX7_compares_48 : decode cX7_compares 48 = .ok (.ireturn, 1) := by decide +kernel
theorem dX8_init_0 : decode cX8_init 0 = .ok (.aload_n 0, 1) := by decide +kernel
theorem dX8_init_1 : decode cX8_init 1 = .ok (.invokespecial 3, 3) := by decide +kernel
theorem dX8_init_4 : decode cX8_init 4 = .ok (.aload_n 0, 1) := by decide +kernel
theorem dX8_init_5 : decode cX8_init 5 = .ok (.aload_n 1, 1) := by decide +kernel
theorem dX8_init_6 : decode cX8_init 6 = .ok (.putfield 9, 3) := by decide +kernel
theorem dX8_init_9 : decode cX8_init 9 = .ok (.aload_n 0, 1) := by decide +kernel
theorem dX8_init_10 : decode cX8_init 10 = .ok (.aload_n 2, 1) := by decide +kernel
theorem dX8_init_11 : decode cX8_init 11 = .ok (.putfield 15, 3) := by decide +kernel
theorem dX8_init_14 : decode cX8_init 14 = .ok (.aload_n 0, 1) := by decide +kernel
theorem dX8_init_15 : decode cX8_init 15 = .ok (.new 19, 3) := by decide +kernel
theorem dX8_init_18 : decode cX8_init 18 = .ok (.dup, 1) := by decide +kernel
theorem dX8_init_19 : decode cX8_init 19 = .ok (.invokespecial 21, 3) := by decide +kernel
theorem dX8_init_22 : decode cX8_init 22 = .ok (.putfield 22, 3) := by decide +kernel
theorem dX8_init_25 : decode cX8_init 25 = .ok (.return_, 1) := by decide +kernel
theorem dX8_read_0 : decode cX8_read 0 = .ok (.aload_n 0, 1) := by decide +kernel
theorem dX8_read_1 : decode cX8_read 1 = .ok (.getfield 9, 3) := by decide +kernel
theorem dX8_read_4 : decode cX8_read 4 = .ok (.sipush 200, 3) := by decide +kernel
theorem dX8_read_7 : decode cX8_read 7 = .ok (.invokevirtual 26, 3) := by decide +kernel
theorem dX8_read_10 : decode cX8_read 10 = .ok (.aload_n 0, 1) := by decide +kernel
theorem dX8_read_11 : decode cX8_read 11 = .ok (.getfield 22, 3) := by decide +kernel
theorem dX8_read_14 : decode cX8_read 14 = .ok (.invokevirtual 32, 3) := by decide +kernel
theorem dX8_read_17 : decode cX8_read 17 = .ok (.aload_n 0, 1) := by decide +kernel
theorem dX8_read_18 : decode cX8_read 18 = .ok (.iconst 1, 1) := by decide +kernel
theorem dX8_read_19 : decode cX8_read 19 = .ok (.invokevirtual 35, 3) := by decide +kernel
theorem dX8_read_22 : decode cX8_read 22 = .ok (.ifCond .ne 5, 3) := by decide +kernel
theorem dX8_read_25 : decode cX8_read 25 = .ok (.iconst 0, 1) := by decide +kernel
theorem dX8_read_26 : decode cX8_read 26 = .ok (.ireturn, 1) := by decide +kernel
theorem dX8_read_27 : decode cX8_read 27 = .ok (.aload_n 0, 1) := by decide +kernel
theorem dX8_read_28 : decode cX8_read 28 = .ok (.getfield 9, 3) := by decide +kernel
theorem dX8_read_31 : decode cX8_read 31 = .ok (.getfield 39, 3) := by decide +kernel
theorem dX8_read_34 : decode cX8_read 34 = .ok (.ifCond .eq 14, 3) := by decide +kernel
theorem dX8_read_37 : decode cX8_read 37 = .ok (.aload_n 0, 1) := by decide +kernel
theorem dX8_read_38 : decode cX8_read 38 = .ok (.getfield 9, 3) := by decide +kernel
theorem dX8_read_41 : decode cX8_read 41 = .ok (.iconst 1, 1) := by decide +kernel
theorem dX8_read_42 : decode cX8_read 42 = .ok (.invokevirtual 43, 3) := by decide +kernel
theorem dX8_read_45 : decode cX8_read 45 = .ok (.ifCond .eq 7, 3) := by decide +kernel
theorem dX8_read_48 : decode cX8_read 48 = .ok (.iconst 1, 1) := by decide +kernel
theorem dX8_read_49 : decode cX8_read 49 = .ok (.goto 4, 3) := by decide +kernel
theorem dX8_read_52 : decode cX8_read 52 = .ok (.iconst 0, 1) := by decide +kernel
theorem dX8_read_53 : decode cX8_read 53 = .ok (.ireturn, 1) := by decide +kernel
theorem dX8_readCond_0 : decode cX8_readCond 0 = .ok (.aload_n 0, 1) := by decide +kernel
theorem dX8_readCond_1 : decode cX8_readCond 1 = .ok (.iload_n 1, 1) := by decide +kernel
theorem dX8_readCond_2 : decode cX8_readCond 2 = .ok (.invokevirtual 46, 3) := by decide +kernel
theorem dX8_readCond_5 : decode cX8_readCond 5 = .ok (.ifCond .ne 5, 3) := by decide +kernel
theorem dX8_readCond_8 : decode cX8_readCond 8 = .ok (.iconst 0, 1) := by decide +kernel
theorem dX8_readCond_9 : decode cX8_readCond 9 = .ok (.ireturn, 1) := by decide +kernel
theorem dX8_readCond_10 : decode cX8_readCond 10 = .ok (.iconst 0, 1) := by decide +kernel
theorem dX8_readCond_11 : decode cX8_readCond 11 = .ok (.istore_n 2, 1) := by decide +kernel
theorem dX8_readCond_12 : decode cX8_readCond 12 = .ok (.iload_n 2, 1) := by decide +kernel
theorem dX8_readCond_13 : decode cX8_readCond 13 = .ok (.bipush 20, 2) := by decide +kernel
theorem dX8_readCond_15 : decode cX8_readCond 15 = .ok (.if_icmp .ge 52, 3) := by decide +kernel
theorem dX8_readCond_18 : decode cX8_readCond 18 = .ok (.aload_n 0, 1) := by decide +kernel
theorem dX8_readCond_19 : decode cX8_readCond 19 = .ok (.getfield 9, 3) := by decide +kernel
theorem dX8_readCond_22 : decode cX8_readCond 22 = .ok (.bipush 10, 2) := by decide +kernel
theorem dX8_readCond_24 : decode cX8_readCond 24 = .ok (.invokevirtual 49, 3) := by decide +kernel
theorem dX8_readCond_27 : decode cX8_readCond 27 = .ok (.ifCond .eq 40, 3) := by decide +kernel
theorem dX8_readCond_30 : decode cX8_readCond 30 = .ok (.aload_n 0, 1) := by decide +kernel
theorem dX8_readCond_31 : decode cX8_readCond 31 = .ok (.getfield 9, 3) := by decide +kernel
theorem dX8_readCond_34 : decode cX8_readCond 34 = .ok (.invokevirtual 52, 3) := by decide +kernel
theorem dX8_readCond_37 : decode cX8_readCond 37 = .ok (.aload_n 0, 1) := by decide +kernel
theorem dX8_readCond_38 : decode cX8_readCond 38 = .ok (.iload_n 1, 1) := by decide +kernel
theorem dX8_readCond_39 : decode cX8_readCond 39 = .ok (.invokevirtual 46, 3) := by decide +kernel
theorem dX8_readCond_42 : decode cX8_readCond 42 = .ok (.ifCond .eq 17, 3) := by decide +kernel
theorem dX8_readCond_45 : decode cX8_readCond 45 = .ok (.aload_n 0, 1) := by decide +kernel
theorem dX8_readCond_46 : decode cX8_readCond 46 = .ok (.getfield 22, 3) := by decide +kernel
theorem dX8_readCond_49 : decode cX8_readCond 49 = .ok (.bipush 10, 2) := by decide +kernel
theorem dX8_readCond_51 : decode cX8_readCond 51 = .ok (.iconst 0, 1) := by decide +kernel
theorem dX8_readCond_52 : decode cX8_readCond 52 = .ok (.iconst 0, 1) := by decide +kernel
theorem dX8_readCond_53 : decode cX8_readCond 53 = .ok (.invokevirtual 55, 3) := by decide +kernel
theorem dX8_readCond_56 : decode cX8_readCond 56 = .ok (.ifCond .ne 5, 3) := by decide +kernel
theorem dX8_readCond_59 : decode cX8_readCond 59 = .ok (.iconst 0, 1) := by decide +kernel
theorem dX8_readCond_60 : decode cX8_readCond 60 = .ok (.ireturn, 1) := by decide +kernel
theorem dX8_readCond_61 : decode cX8_readCond 61 = .ok (.iinc 2 1, 3) := by decide +kernel
theorem dX8_readCond_64 : decode cX8_readCond 64 = .ok (.goto (-52), 3) := by decide +kernel
theorem dX8_readCond_67 : decode cX8_readCond 67 = .ok (.iconst 1, 1) := by decide +kernel
theorem dX8_readCond_68 : decode cX8_readCond 68 = .ok (.ireturn, 1) := by decide +kernel
theorem dX8_readAll_0 : decode cX8_readAll 0 = .ok (.aload_n 0, 1) := by decide +kernel
theorem dX8_readAll_1 : decode cX8_readAll 1 = .ok (.iload_n 1, 1) := by decide +kernel
theorem dX8_readAll_2 : decode cX8_readAll 2 = .ok (.invokevirtual 59, 3) := by decide +kernel
theorem dX8_readAll_5 : decode cX8_readAll 5 = .ok (.ifCond .ne 5, 3) := by decide +kernel
theorem dX8_readAll_8 : decode cX8_readAll 8 = .ok (.iconst 0, 1) := by decide +kernel
theorem dX8_readAll_9 : decode cX8_readAll 9 = .ok (.ireturn, 1) := by decide +kernel
theorem dX8_readAll_10 : decode cX8_readAll 10 = .ok (.iconst 0, 1) := by decide +kernel
theorem dX8_readAll_11 : decode cX8_readAll 11 = .ok (.istore_n 2, 1) := by decide +kernel
theorem dX8_readAll_12 : decode cX8_readAll 12 = .ok (.iload_n 2, 1) := by decide +kernel
theorem dX8_readAll_13 : decode cX8_readAll 13 = .ok (.bipush 20, 2) := by decide +kernel
theorem dX8_readAll_15 : decode cX8_readAll 15 = .ok (.if_icmp .ge 52, 3) := by decide +kernel
theorem dX8_readAll_18 : decode cX8_readAll 18 = .ok (.aload_n 0, 1) := by decide +kernel
theorem dX8_readAll_19 : decode cX8_readAll 19 = .ok (.getfield 9, 3) := by decide +kernel
theorem dX8_readAll_22 : decode cX8_readAll 22 = .ok (.bipush 11, 2) := by decide +kernel
theorem dX8_readAll_24 : decode cX8_readAll 24 = .ok (.invokevirtual 49, 3) := by decide +kernel
theorem dX8_readAll_27 : decode cX8_readAll 27 = .ok (.ifCond .eq 40, 3) := by decide +kernel
theorem dX8_readAll_30 : decode cX8_readAll 30 = .ok (.aload_n 0, 1) := by decide +kernel
theorem dX8_readAll_31 : decode cX8_readAll 31 = .ok (.getfield 9, 3) := by decide +kernel
theorem dX8_readAll_34 : decode cX8_readAll 34 = .ok (.invokevirtual 52, 3) := by decide +kernel
theorem dX8_readAll_37 : decode cX8_readAll 37 = .ok (.aload_n 0, 1) := by decide +kernel
theorem dX8_readAll_38 : decode cX8_readAll 38 = .ok (.iload_n 1, 1) := by decide +kernel
theorem dX8_readAll_39 : decode cX8_readAll 39 = .ok (.invokevirtual 59, 3) := by decide +kernel
theorem dX8_readAll_42 : decode cX8_readAll 42 = .ok (.ifCond .eq 17, 3) := by decide +kernel
theorem dX8_readAll_45 : decode cX8_readAll 45 = .ok (.aload_n 0, 1) := by decide +kernel
theorem dX8_readAll_46 : decode cX8_readAll 46 = .ok (.getfield 22, 3) := by decide +kernel
theorem dX8_readAll_49 : decode cX8_readAll 49 = .ok (.bipush 11, 2) := by decide +kernel
theorem dX8_readAll_51 : decode cX8_readAll 51 = .ok (.iconst 0, 1) := by decide +kernel
theorem dX8_readAll_52 : decode cX8_readAll 52 = .ok (.iconst 0, 1) := by decide +kernel
theorem dX8_readAll_53 : decode cX8_readAll 53 = .ok (.invokevirtual 55, 3) := by decide +kernel
theorem dX8_readAll_56 : decode cX8_readAll 56 = .ok (.ifCond .ne 5, 3) := by decide +kernel
theorem dX8_readAll_59 : decode cX8_readAll 59 = .ok (.iconst 0, 1) := by decide +kernel
theorem dX8_readAll_60 : decode cX8_readAll 60 = .ok (.ireturn, 1) := by decide +kernel
theorem dX8_readAll_61 : decode cX8_readAll 61 = .ok (.iinc 2 1, 3) := by decide +kernel
theorem dX8_readAll_64 : decode cX8_readAll 64 = .ok (.goto (-52), 3) := by decide +kernel
theorem dX8_readAll_67 : decode cX8_readAll 67 = .ok (.iconst 1, 1) := by decide +kernel
theorem dX8_readAll_68 : decode cX8_readAll 68 = .ok (.ireturn, 1) := by decide +kernel
theorem dX8_readOne_0 : decode cX8_readOne 0 = .ok (.aload_n 0, 1) := by decide +kernel
theorem dX8_readOne_1 : decode cX8_readOne 1 = .ok (.getfield 9, 3) := by decide +kernel
theorem dX8_readOne_4 : decode cX8_readOne 4 = .ok (.getfield 39, 3) := by decide +kernel
theorem dX8_readOne_7 : decode cX8_readOne 7 = .ok (.bipush 40, 2) := by decide +kernel
theorem dX8_readOne_9 : decode cX8_readOne 9 = .ok (.if_icmp .ne 7, 3) := by decide +kernel
theorem dX8_readOne_12 : decode cX8_readOne 12 = .ok (.iconst 1, 1) := by decide +kernel
theorem dX8_readOne_13 : decode cX8_readOne 13 = .ok (.goto 4, 3) := by decide +kernel
theorem dX8_readOne_16 : decode cX8_readOne 16 = .ok (.iconst 0, 1) := by decide +kernel
theorem dX8_readOne_17 : decode cX8_readOne 17 = .ok (.istore_n 2, 1) := by decide +kernel
theorem dX8_readOne_18 : decode cX8_readOne 18 = .ok (.aload_n 0, 1) := by decide +kernel
theorem dX8_readOne_19 : decode cX8_readOne 19 = .ok (.getfield 9, 3) := by decide +kernel
theorem dX8_readOne_22 : decode cX8_readOne 22 = .ok (.getfield 62, 3) := by decide +kernel
theorem dX8_readOne_25 : decode cX8_readOne 25 = .ok (.istore_n 3, 1) := by decide +kernel
theorem dX8_readOne_26 : decode cX8_readOne 26 = .ok (.iload_n 2, 1) := by decide +kernel
theorem dX8_readOne_27 : decode cX8_readOne 27 = .ok (.ifCond .ne 24, 3) := by decide +kernel
theorem dX8_readOne_30 : decode cX8_readOne 30 = .ok (.iload_n 3, 1) := by decide +kernel
theorem dX8_readOne_31 : decode cX8_readOne 31 = .ok (.bipush 12, 2) := by decide +kernel
theorem dX8_readOne_33 : decode cX8_readOne 33 = .ok (.if_icmp .lt 9, 3) := by decide +kernel
theorem dX8_readOne_36 : decode cX8_readOne 36 = .ok (.iload_n 3, 1) := by decide +kernel
theorem dX8_readOne_37 : decode cX8_readOne 37 = .ok (.bipush 21, 2) := by decide +kernel
theorem dX8_readOne_39 : decode cX8_readOne 39 = .ok (.if_icmp .le 12, 3) := by decide +kernel
theorem dX8_readOne_42 : decode cX8_readOne 42 = .ok (.aload_n 0, 1) := by decide +kernel
theorem dX8_readOne_43 : decode cX8_readOne 43 = .ok (.getfield 9, 3) := by decide +kernel
theorem dX8_readOne_46 : decode cX8_readOne 46 = .ok (.iconst 1, 1) := by decide +kernel
theorem dX8_readOne_47 : decode cX8_readOne 47 = .ok (.invokevirtual 43, 3) := by decide +kernel
theorem dX8_readOne_50 : decode cX8_readOne 50 = .ok (.ireturn, 1) := by decide +kernel
theorem dX8_readOne_51 : decode cX8_readOne 51 = .ok (.aload_n 0, 1) := by decide +kernel
theorem dX8_readOne_52 : decode cX8_readOne 52 = .ok (.getfield 22, 3) := by decide +kernel
theorem dX8_readOne_55 : decode cX8_readOne 55 = .ok (.getfield 65, 3) := by decide +kernel
theorem dX8_readOne_58 : decode cX8_readOne 58 = .ok (.bipush 20, 2) := by decide +kernel
theorem dX8_readOne_60 : decode cX8_readOne 60 = .ok (.if_icmp .ge 9, 3) := by decide +kernel
theorem dX8_readOne_63 : decode cX8_readOne 63 = .ok (.iload_n 1, 1) := by decide +kernel
theorem dX8_readOne_64 : decode cX8_readOne 64 = .ok (.bipush 8, 2) := by decide +kernel
theorem dX8_readOne_66 : decode cX8_readOne 66 = .ok (.if_icmp .le 12, 3) := by decide +kernel
theorem dX8_readOne_69 : decode cX8_readOne 69 = .ok (.aload_n 0, 1) := by decide +kernel
theorem dX8_readOne_70 : decode cX8_readOne 70 = .ok (.getfield 9, 3) := by decide +kernel
theorem dX8_readOne_73 : decode cX8_readOne 73 = .ok (.iconst 4, 1) := by decide +kernel
theorem dX8_readOne_74 : decode cX8_readOne 74 = .ok (.invokevirtual 43, 3) := by decide +kernel
theorem dX8_readOne_77 : decode cX8_readOne 77 = .ok (.ireturn, 1) := by decide +kernel
theorem dX8_readOne_78 : decode cX8_readOne 78 = .ok (.aload_n 0, 1) := by decide +kernel
theorem dX8_readOne_79 : decode cX8_readOne 79 = .ok (.getfield 22, 3) := by decide +kernel
theorem dX8_readOne_82 : decode cX8_readOne 82 = .ok (.dup, 1) := by decide +kernel
theorem dX8_readOne_83 : decode cX8_readOne 83 = .ok (.getfield 65, 3) := by decide +kernel
theorem dX8_readOne_86 : decode cX8_readOne 86 = .ok (.iconst 1, 1) := by decide +kernel
theorem dX8_readOne_87 : decode cX8_readOne 87 = .ok (.iadd, 1) := by decide +kernel
theorem dX8_readOne_88 : decode cX8_readOne 88 = .ok (.putfield 65, 3) := by decide +kernel
theorem dX8_readOne_91 : decode cX8_readOne 91 = .ok (.aload_n 0, 1) := by decide +kernel
theorem dX8_readOne_92 : decode cX8_readOne 92 = .ok (.getfield 9, 3) := by decide +kernel
theorem dX8_readOne_95 : decode cX8_readOne 95 = .ok (.invokevirtual 52, 3) := by decide +kernel
theorem dX8_readOne_98 : decode cX8_readOne 98 = .ok (.iload_n 2, 1) := by decide +kernel
theorem dX8_readOne_99 : decode cX8_readOne 99 = .ok (.ifCond .eq 31, 3) := by decide +kernel
theorem dX8_readOne_102 : decode cX8_readOne 102 = .ok (.aload_n 0, 1) := by decide +kernel
theorem dX8_readOne_103 : decode cX8_readOne 103 = .ok (.iload_n 1, 1) := by decide +kernel
theorem dX8_readOne_104 : decode cX8_readOne 104 = .ok (.iconst 1, 1) := by decide +kernel
theorem dX8_readOne_105 : decode cX8_readOne 105 = .ok (.iadd, 1) := by decide +kernel
theorem dX8_readOne_106 : decode cX8_readOne 106 = .ok (.invokevirtual 35, 3) := by decide +kernel
theorem dX8_readOne_109 : decode cX8_readOne 109 = .ok (.ifCond .eq 19, 3) := by decide +kernel
theorem dX8_readOne_112 : decode cX8_readOne 112 = .ok (.aload_n 0, 1) := by decide +kernel
theorem dX8_readOne_113 : decode cX8_readOne 113 = .ok (.getfield 9, 3) := by decide +kernel
theorem dX8_readOne_116 : decode cX8_readOne 116 = .ok (.bipush 41, 2) := by decide +kernel
theorem dX8_readOne_118 : decode cX8_readOne 118 = .ok (.invokevirtual 68, 3) := by decide +kernel
theorem dX8_readOne_121 : decode cX8_readOne 121 = .ok (.ifCond .eq 7, 3) := by decide +kernel
theorem dX8_readOne_124 : decode cX8_readOne 124 = .ok (.iconst 1, 1) := by decide +kernel
theorem dX8_readOne_125 : decode cX8_readOne 125 = .ok (.goto 4, 3) := by decide +kernel
theorem dX8_readOne_128 : decode cX8_readOne 128 = .ok (.iconst 0, 1) := by decide +kernel
theorem dX8_readOne_129 : decode cX8_readOne 129 = .ok (.ireturn, 1) := by decide +kernel
theorem dX8_readOne_130 : decode cX8_readOne 130 = .ok (.aload_n 0, 1) := by decide +kernel
theorem dX8_readOne_131 : decode cX8_readOne 131 = .ok (.getfield 9, 3) := by decide +kernel
theorem dX8_readOne_134 : decode cX8_readOne 134 = .ok (.getfield 39, 3) := by decide +kernel
theorem dX8_readOne_137 : decode cX8_readOne 137 = .ok (.bipush 60, 2) := by decide +kernel
theorem dX8_readOne_139 : decode cX8_readOne 139 = .ok (.if_icmp .eq 15, 3) := by decide +kernel
theorem dX8_readOne_142 : decode cX8_readOne 142 = .ok (.aload_n 0, 1) := by decide +kernel
theorem dX8_readOne_143 : decode cX8_readOne 143 = .ok (.getfield 9, 3) := by decide +kernel
theorem dX8_readOne_146 : decode cX8_readOne 146 = .ok (.getfield 39, 3) := by decide +kernel
theorem dX8_readOne_149 : decode cX8_readOne 149 = .ok (.bipush 62, 2) := by decide +kernel
theorem dX8_readOne_151 : decode cX8_readOne 151 = .ok (.if_icmp .ne 13, 3) := by decide +kernel
theorem dX8_readOne_154 : decode cX8_readOne 154 = .ok (.aload_n 0, 1) := by decide +kernel
theorem dX8_readOne_155 : decode cX8_readOne 155 = .ok (.getfield 9, 3) := by decide +kernel
theorem dX8_readOne_158 : decode cX8_readOne 158 = .ok (.getfield 39, 3) := by decide +kernel
theorem dX8_readOne_161 : decode cX8_readOne 161 = .ok (.goto 5, 3) := by decide +kernel
theorem dX8_readOne_164 : decode cX8_readOne 164 = .ok (.bipush 61, 2) := by decide +kernel
theorem dX8_readOne_166 : decode cX8_readOne 166 = .ok (.istore 4, 2) := by decide +kernel
theorem dX8_readOne_168 : decode cX8_readOne 168 = .ok (.iload_n 3, 1) := by decide +kernel
theorem dX8_readOne_169 : decode cX8_readOne 169 = .ok (.tableswitch 186 12 21 #[55, 186, 186, 186, 85, 85, 134, 134, 134, 134], 55) := by decide +kernel
theorem dX8_readOne_224 : decode cX8_readOne 224 = .ok (.aload_n 0, 1) := by decide +kernel
theorem dX8_readOne_225 : decode cX8_readOne 225 = .ok (.iload_n 1, 1) := by decide +kernel
theorem dX8_readOne_226 : decode cX8_readOne 226 = .ok (.iconst 1, 1) := by decide +kernel
theorem dX8_readOne_227 : decode cX8_readOne 227 = .ok (.iadd, 1) := by decide +kernel
theorem dX8_readOne_228 : decode cX8_readOne 228 = .ok (.invokevirtual 59, 3) := by decide +kernel
theorem dX8_readOne_231 : decode cX8_readOne 231 = .ok (.ifCond .eq 21, 3) := by decide +kernel
theorem dX8_readOne_234 : decode cX8_readOne 234 = .ok (.aload_n 0, 1) := by decide +kernel
theorem dX8_readOne_235 : decode cX8_readOne 235 = .ok (.getfield 22, 3) := by decide +kernel
theorem dX8_readOne_238 : decode cX8_readOne 238 = .ok (.bipush 12, 2) := by decide +kernel
theorem dX8_readOne_240 : decode cX8_readOne 240 = .ok (.iconst 0, 1) := by decide +kernel
theorem dX8_readOne_241 : decode cX8_readOne 241 = .ok (.iconst 0, 1) := by decide +kernel
theorem dX8_readOne_242 : decode cX8_readOne 242 = .ok (.invokevirtual 55, 3) := by decide +kernel
theorem dX8_readOne_245 : decode cX8_readOne 245 = .ok (.ifCond .eq 7, 3) := by decide +kernel
theorem dX8_readOne_248 : decode cX8_readOne 248 = .ok (.iconst 1, 1) := by decide +kernel
theorem dX8_readOne_249 : decode cX8_readOne 249 = .ok (.goto 4, 3) := by decide +kernel
theorem dX8_readOne_252 : decode cX8_readOne 252 = .ok (.iconst 0, 1) := by decide +kernel
theorem dX8_readOne_253 : decode cX8_readOne 253 = .ok (.ireturn, 1) := by decide +kernel
theorem dX8_readOne_254 : decode cX8_readOne 254 = .ok (.aload_n 0, 1) := by decide +kernel
theorem dX8_readOne_255 : decode cX8_readOne 255 = .ok (.getfield 9, 3) := by decide +kernel
theorem dX8_readOne_258 : decode cX8_readOne 258 = .ok (.aload_n 0, 1) := by decide +kernel
theorem dX8_readOne_259 : decode cX8_readOne 259 = .ok (.getfield 15, 3) := by decide +kernel
theorem dX8_readOne_262 : decode cX8_readOne 262 = .ok (.aload_n 0, 1) := by decide +kernel
theorem dX8_readOne_263 : decode cX8_readOne 263 = .ok (.getfield 9, 3) := by decide +kernel
theorem dX8_readOne_266 : decode cX8_readOne 266 = .ok (.getfield 71, 3) := by decide +kernel
theorem dX8_readOne_269 : decode cX8_readOne 269 = .ok (.invokevirtual 75, 3) := by decide +kernel
theorem dX8_readOne_272 : decode cX8_readOne 272 = .ok (.invokevirtual 81, 3) := by decide +kernel
theorem dX8_readOne_275 : decode cX8_readOne 275 = .ok (.ifCond .eq 26, 3) := by decide +kernel
theorem dX8_readOne_278 : decode cX8_readOne 278 = .ok (.aload_n 0, 1) := by decide +kernel
theorem dX8_readOne_279 : decode cX8_readOne 279 = .ok (.getfield 22, 3) := by decide +kernel
theorem dX8_readOne_282 : decode cX8_readOne 282 = .ok (.iload_n 3, 1) := by decide +kernel
theorem dX8_readOne_283 : decode cX8_readOne 283 = .ok (.iconst 0, 1) := by decide +kernel
theorem dX8_readOne_284 : decode cX8_readOne 284 = .ok (.aload_n 0, 1) := by decide +kernel
theorem dX8_readOne_285 : decode cX8_readOne 285 = .ok (.getfield 9, 3) := by decide +kernel
theorem dX8_readOne_288 : decode cX8_readOne 288 = .ok (.getfield 84, 3) := by decide +kernel
theorem dX8_readOne_291 : decode cX8_readOne 291 = .ok (.invokevirtual 55, 3) := by decide +kernel
theorem dX8_readOne_294 : decode cX8_readOne 294 = .ok (.ifCond .eq 7, 3) := by decide +kernel
theorem dX8_readOne_297 : decode cX8_readOne 297 = .ok (.iconst 1, 1) := by decide +kernel
theorem dX8_readOne_298 : decode cX8_readOne 298 = .ok (.goto 4, 3) := by decide +kernel
theorem dX8_readOne_301 : decode cX8_readOne 301 = .ok (.iconst 0, 1) := by decide +kernel
theorem dX8_readOne_302 : decode cX8_readOne 302 = .ok (.ireturn, 1) := by decide +kernel
theorem dX8_readOne_303 : decode cX8_readOne 303 = .ok (.aload_n 0, 1) := by decide +kernel
theorem dX8_readOne_304 : decode cX8_readOne 304 = .ok (.getfield 9, 3) := by decide +kernel
theorem dX8_readOne_307 : decode cX8_readOne 307 = .ok (.iload 4, 2) := by decide +kernel
theorem dX8_readOne_309 : decode cX8_readOne 309 = .ok (.invokevirtual 68, 3) := by decide +kernel
theorem dX8_readOne_312 : decode cX8_readOne 312 = .ok (.ifCond .eq 41, 3) := by decide +kernel
theorem dX8_readOne_315 : decode cX8_readOne 315 = .ok (.aload_n 0, 1) := by decide +kernel
theorem dX8_readOne_316 : decode cX8_readOne 316 = .ok (.getfield 9, 3) := by decide +kernel
theorem dX8_readOne_319 : decode cX8_readOne 319 = .ok (.iconst 0, 1) := by decide +kernel
theorem dX8_readOne_320 : decode cX8_readOne 320 = .ok (.sipush 999, 3) := by decide +kernel
theorem dX8_readOne_323 : decode cX8_readOne 323 = .ok (.invokevirtual 87, 3) := by decide +kernel
theorem dX8_readOne_326 : decode cX8_readOne 326 = .ok (.ifCond .eq 27, 3) := by decide +kernel
theorem dX8_readOne_329 : decode cX8_readOne 329 = .ok (.aload_n 0, 1) := by decide +kernel
theorem dX8_readOne_330 : decode cX8_readOne 330 = .ok (.getfield 22, 3) := by decide +kernel
theorem dX8_readOne_333 : decode cX8_readOne 333 = .ok (.iload_n 3, 1) := by decide +kernel
theorem dX8_readOne_334 : decode cX8_readOne 334 = .ok (.iload 4, 2) := by decide +kernel
theorem dX8_readOne_336 : decode cX8_readOne 336 = .ok (.aload_n 0, 1) := by decide +kernel
theorem dX8_readOne_337 : decode cX8_readOne 337 = .ok (.getfield 9, 3) := by decide +kernel
theorem dX8_readOne_340 : decode cX8_readOne 340 = .ok (.getfield 84, 3) := by decide +kernel
theorem dX8_readOne_343 : decode cX8_readOne 343 = .ok (.invokevirtual 55, 3) := by decide +kernel
theorem dX8_readOne_346 : decode cX8_readOne 346 = .ok (.ifCond .eq 7, 3) := by decide +kernel
theorem dX8_readOne_349 : decode cX8_readOne 349 = .ok (.iconst 1, 1) := by decide +kernel
theorem dX8_readOne_350 : decode cX8_readOne 350 = .ok (.goto 4, 3) := by decide +kernel
theorem dX8_readOne_353 : decode cX8_readOne 353 = .ok (.iconst 0, 1) := by decide +kernel
theorem dX8_readOne_354 : decode cX8_readOne 354 = .ok (.ireturn, 1) := by decide +kernel
theorem dX8_readOne_355 : decode cX8_readOne 355 = .ok (.aload_n 0, 1) := by decide +kernel
theorem dX8_readOne_356 : decode cX8_readOne 356 = .ok (.getfield 22, 3) := by decide +kernel
theorem dX8_readOne_359 : decode cX8_readOne 359 = .ok (.iload_n 3, 1) := by decide +kernel
theorem dX8_readOne_360 : decode cX8_readOne 360 = .ok (.iconst 0, 1) := by decide +kernel
theorem dX8_readOne_361 : decode cX8_readOne 361 = .ok (.iconst 0, 1) := by decide +kernel
theorem dX8_readOne_362 : decode cX8_readOne 362 = .ok (.invokevirtual 55, 3) := by decide +kernel
theorem dX8_readOne_365 : decode cX8_readOne 365 = .ok (.ireturn, 1) := by decide +kernel
theorem dX9_init_0 : decode cX9_init 0 = .ok (.aload_n 0, 1) := by decide +kernel
theorem dX9_init_1 : decode cX9_init 1 = .ok (.invokespecial 3, 3) := by decide +kernel
theorem dX9_init_4 : decode cX9_init 4 = .ok (.aload_n 0, 1) := by decide +kernel
theorem dX9_init_5 : decode cX9_init 5 = .ok (.aload_n 1, 1) := by decide +kernel
theorem dX9_init_6 : decode cX9_init 6 = .ok (.putfield 9, 3) := by decide +kernel
theorem dX9_init_9 : decode cX9_init 9 = .ok (.aload_n 0, 1) := by decide +kernel
theorem dX9_init_10 : decode cX9_init 10 = .ok (.aload_n 1, 1) := by decide +kernel
theorem dX9_init_11 : decode cX9_init 11 = .ok (.getfield 15, 3) := by decide +kernel
theorem dX9_init_14 : decode cX9_init 14 = .ok (.putfield 21, 3) := by decide +kernel
theorem dX9_init_17 : decode cX9_init 17 = .ok (.aload_n 0, 1) := by decide +kernel
theorem dX9_init_18 : decode cX9_init 18 = .ok (.new 16, 3) := by decide +kernel
theorem dX9_init_21 : decode cX9_init 21 = .ok (.dup, 1) := by decide +kernel
theorem dX9_init_22 : decode cX9_init 22 = .ok (.aload_n 1, 1) := by decide +kernel
theorem dX9_init_23 : decode cX9_init 23 = .ok (.getfield 15, 3) := by decide +kernel
theorem dX9_init_26 : decode cX9_init 26 = .ok (.invokespecial 22, 3) := by decide +kernel
theorem dX9_init_29 : decode cX9_init 29 = .ok (.putfield 25, 3) := by decide +kernel
theorem dX9_init_32 : decode cX9_init 32 = .ok (.aload_n 0, 1) := by decide +kernel
theorem dX9_init_33 : decode cX9_init 33 = .ok (.bipush 99, 2) := by decide +kernel
theorem dX9_init_35 : decode cX9_init 35 = .ok (.newarray .int, 2) := by decide +kernel
theorem dX9_init_37 : decode cX9_init 37 = .ok (.putfield 28, 3) := by decide +kernel
theorem dX9_init_40 : decode cX9_init 40 = .ok (.aload_n 0, 1) := by decide +kernel
theorem dX9_init_41 : decode cX9_init 41 = .ok (.iconst (-1), 1) := by decide +kernel
theorem dX9_init_42 : decode cX9_init 42 = .ok (.putfield 32, 3) := by decide +kernel
theorem dX9_init_45 : decode cX9_init 45 = .ok (.aload_n 0, 1) := by decide +kernel
theorem dX9_init_46 : decode cX9_init 46 = .ok (.iconst (-1), 1) := by decide +kernel
theorem dX9_init_47 : decode cX9_init 47 = .ok (.putfield 36, 3) := by decide +kernel
theorem dX9_init_50 : decode cX9_init 50 = .ok (.aload_n 0, 1) := by decide +kernel
theorem dX9_init_51 : decode cX9_init 51 = .ok (.iconst (-1), 1) := by decide +kernel
theorem dX9_init_52 : decode cX9_init 52 = .ok (.putfield 39, 3) := by decide +kernel
theorem dX9_init_55 : decode cX9_init 55 = .ok (.aload_n 0, 1) := by decide +kernel
theorem dX9_init_56 : decode cX9_init 56 = .ok (.iconst (-1), 1) := by decide +kernel
theorem dX9_init_57 : decode cX9_init 57 = .ok (.putfield 42, 3) := by decide +kernel
theorem dX9_init_60 : decode cX9_init 60 = .ok (.aload_n 0, 1) := by decide +kernel
theorem dX9_init_61 : decode cX9_init 61 = .ok (.iconst (-1), 1) := by decide +kernel
theorem dX9_init_62 : decode cX9_init 62 = .ok (.putfield 45, 3) := by decide +kernel
theorem dX9_init_65 : decode cX9_init 65 = .ok (.return_, 1) := by decide +kernel
theorem dX9_hostNext_0 : decode cX9_hostNext 0 = .ok (.aload_n 0, 1) := by decide +kernel
theorem dX9_hostNext_1 : decode cX9_hostNext 1 = .ok (.getfield 25, 3) := by decide +kernel
theorem dX9_hostNext_4 : decode cX9_hostNext 4 = .ok (.aload_n 0, 1) := by decide +kernel
theorem dX9_hostNext_5 : decode cX9_hostNext 5 = .ok (.getfield 9, 3) := by decide +kernel
theorem dX9_hostNext_8 : decode cX9_hostNext 8 = .ok (.invokevirtual 48, 3) := by decide +kernel
theorem dX9_hostNext_11 : decode cX9_hostNext 11 = .ok (.aload_n 0, 1) := by decide +kernel
theorem dX9_hostNext_12 : decode cX9_hostNext 12 = .ok (.invokevirtual 52, 3) := by decide +kernel
theorem dX9_hostNext_15 : decode cX9_hostNext 15 = .ok (.istore_n 1, 1) := by decide +kernel
theorem dX9_hostNext_16 : decode cX9_hostNext 16 = .ok (.iload_n 1, 1) := by decide +kernel
theorem dX9_hostNext_17 : decode cX9_hostNext 17 = .ok (.iconst (-1), 1) := by decide +kernel
theorem dX9_hostNext_18 : decode cX9_hostNext 18 = .ok (.if_icmp .eq 22, 3) := by decide +kernel
theorem dX9_hostNext_21 : decode cX9_hostNext 21 = .ok (.aload_n 0, 1) := by decide +kernel
theorem dX9_hostNext_22 : decode cX9_hostNext 22 = .ok (.aload_n 0, 1) := by decide +kernel
theorem dX9_hostNext_23 : decode cX9_hostNext 23 = .ok (.getfield 25, 3) := by decide +kernel
theorem dX9_hostNext_26 : decode cX9_hostNext 26 = .ok (.getfield 56, 3) := by decide +kernel
theorem dX9_hostNext_29 : decode cX9_hostNext 29 = .ok (.aload_n 0, 1) := by decide +kernel
theorem dX9_hostNext_30 : decode cX9_hostNext 30 = .ok (.getfield 9, 3) := by decide +kernel
theorem dX9_hostNext_33 : decode cX9_hostNext 33 = .ok (.getfield 56, 3) := by decide +kernel
theorem dX9_hostNext_36 : decode cX9_hostNext 36 = .ok (.isub, 1) := by decide +kernel
theorem dX9_hostNext_37 : decode cX9_hostNext 37 = .ok (.putfield 32, 3) := by decide +kernel
theorem dX9_hostNext_40 : decode cX9_hostNext 40 = .ok (.iload_n 1, 1) := by decide +kernel
theorem dX9_hostNext_41 : decode cX9_hostNext 41 = .ok (.ireturn, 1) := by decide +kernel
theorem dX9_hostOfTrial_0 : decode cX9_hostOfTrial 0 = .ok (.iconst 0, 1) := by decide +kernel
theorem dX9_hostOfTrial_1 : decode cX9_hostOfTrial 1 = .ok (.istore_n 1, 1) := by decide +kernel
theorem dX9_hostOfTrial_2 : decode cX9_hostOfTrial 2 = .ok (.iconst 0, 1) := by decide +kernel
theorem dX9_hostOfTrial_3 : decode cX9_hostOfTrial 3 = .ok (.istore_n 2, 1) := by decide +kernel
theorem dX9_hostOfTrial_4 : decode cX9_hostOfTrial 4 = .ok (.iload_n 2, 1) := by decide +kernel
theorem dX9_hostOfTrial_5 : decode cX9_hostOfTrial 5 = .ok (.bipush 99, 2) := by decide +kernel
theorem dX9_hostOfTrial_7 : decode cX9_hostOfTrial 7 = .ok (.if_icmp .ge 82, 3) := by decide +kernel
theorem dX9_hostOfTrial_10 : decode cX9_hostOfTrial 10 = .ok (.aload_n 0, 1) := by decide +kernel
theorem dX9_hostOfTrial_11 : decode cX9_hostOfTrial 11 = .ok (.getfield 25, 3) := by decide +kernel
theorem dX9_hostOfTrial_14 : decode cX9_hostOfTrial 14 = .ok (.getfield 56, 3) := by decide +kernel
theorem dX9_hostOfTrial_17 : decode cX9_hostOfTrial 17 = .ok (.sipush 400, 3) := by decide +kernel
theorem dX9_hostOfTrial_20 : decode cX9_hostOfTrial 20 = .ok (.if_icmp .ge 69, 3) := by decide +kernel
theorem dX9_hostOfTrial_23 : decode cX9_hostOfTrial 23 = .ok (.iload_n 1, 1) := by decide +kernel
theorem dX9_hostOfTrial_24 : decode cX9_hostOfTrial 24 = .ok (.bipush 9, 2) := by decide +kernel
theorem dX9_hostOfTrial_26 : decode cX9_hostOfTrial 26 = .ok (.aload_n 0, 1) := by decide +kernel
theorem dX9_hostOfTrial_27 : decode cX9_hostOfTrial 27 = .ok (.getfield 21, 3) := by decide +kernel
theorem dX9_hostOfTrial_30 : decode cX9_hostOfTrial 30 = .ok (.getfield 59, 3) := by decide +kernel
theorem dX9_hostOfTrial_33 : decode cX9_hostOfTrial 33 = .ok (.iadd, 1) := by decide +kernel
theorem dX9_hostOfTrial_34 : decode cX9_hostOfTrial 34 = .ok (.if_icmp .ge 55, 3) := by decide +kernel
theorem dX9_hostOfTrial_37 : decode cX9_hostOfTrial 37 = .ok (.aload_n 0, 1) := by decide +kernel
theorem dX9_hostOfTrial_38 : decode cX9_hostOfTrial 38 = .ok (.getfield 25, 3) := by decide +kernel
theorem dX9_hostOfTrial_41 : decode cX9_hostOfTrial 41 = .ok (.getfield 64, 3) := by decide +kernel
theorem dX9_hostOfTrial_44 : decode cX9_hostOfTrial 44 = .ok (.istore_n 3, 1) := by decide +kernel
theorem dX9_hostOfTrial_45 : decode cX9_hostOfTrial 45 = .ok (.aload_n 0, 1) := by decide +kernel
theorem dX9_hostOfTrial_46 : decode cX9_hostOfTrial 46 = .ok (.getfield 25, 3) := by decide +kernel
theorem dX9_hostOfTrial_49 : decode cX9_hostOfTrial 49 = .ok (.iconst (-1), 1) := by decide +kernel
theorem dX9_hostOfTrial_50 : decode cX9_hostOfTrial 50 = .ok (.invokevirtual 67, 3) := by decide +kernel
theorem dX9_hostOfTrial_53 : decode cX9_hostOfTrial 53 = .ok (.ifCond .eq 11, 3) := by decide +kernel
theorem dX9_hostOfTrial_56 : decode cX9_hostOfTrial 56 = .ok (.aload_n 0, 1) := by decide +kernel
theorem dX9_hostOfTrial_57 : decode cX9_hostOfTrial 57 = .ok (.getfield 25, 3) := by decide +kernel
theorem dX9_hostOfTrial_60 : decode cX9_hostOfTrial 60 = .ok (.getfield 71, 3) := by decide +kernel
theorem dX9_hostOfTrial_63 : decode cX9_hostOfTrial 63 = .ok (.ireturn, 1) := by decide +kernel
theorem dX9_hostOfTrial_64 : decode cX9_hostOfTrial 64 = .ok (.aload_n 0, 1) := by decide +kernel
theorem dX9_hostOfTrial_65 : decode cX9_hostOfTrial 65 = .ok (.getfield 25, 3) := by decide +kernel
theorem dX9_hostOfTrial_68 : decode cX9_hostOfTrial 68 = .ok (.getfield 64, 3) := by decide +kernel
theorem dX9_hostOfTrial_71 : decode cX9_hostOfTrial 71 = .ok (.iload_n 3, 1) := by decide +kernel
theorem dX9_hostOfTrial_72 : decode cX9_hostOfTrial 72 = .ok (.if_icmp .ne 9, 3) := by decide +kernel
theorem dX9_hostOfTrial_75 : decode cX9_hostOfTrial 75 = .ok (.iload_n 1, 1) := by decide +kernel
theorem dX9_hostOfTrial_76 : decode cX9_hostOfTrial 76 = .ok (.iconst 1, 1) := by decide +kernel
theorem dX9_hostOfTrial_77 : decode cX9_hostOfTrial 77 = .ok (.iadd, 1) := by decide +kernel
theorem dX9_hostOfTrial_78 : decode cX9_hostOfTrial 78 = .ok (.goto 4, 3) := by decide +kernel
theorem dX9_hostOfTrial_81 : decode cX9_hostOfTrial 81 = .ok (.iconst 0, 1) := by decide +kernel
theorem dX9_hostOfTrial_82 : decode cX9_hostOfTrial 82 = .ok (.istore_n 1, 1) := by decide +kernel
theorem dX9_hostOfTrial_83 : decode cX9_hostOfTrial 83 = .ok (.iinc 2 1, 3) := by decide +kernel
theorem dX9_hostOfTrial_86 : decode cX9_hostOfTrial 86 = .ok (.goto (-82), 3) := by decide +kernel
theorem dX9_hostOfTrial_89 : decode cX9_hostOfTrial 89 = .ok (.iconst (-1), 1) := by decide +kernel
theorem dX9_hostOfTrial_90 : decode cX9_hostOfTrial 90 = .ok (.ireturn, 1) := by decide +kernel
theorem dX9_longestLinger_0 : decode cX9_longestLinger 0 = .ok (.aload_n 0, 1) := by decide +kernel
theorem dX9_longestLinger_1 : decode cX9_longestLinger 1 = .ok (.getfield 25, 3) := by decide +kernel
theorem dX9_longestLinger_4 : decode cX9_longestLinger 4 = .ok (.aload_n 0, 1) := by decide +kernel
theorem dX9_longestLinger_5 : decode cX9_longestLinger 5 = .ok (.getfield 9, 3) := by decide +kernel
theorem dX9_longestLinger_8 : decode cX9_longestLinger 8 = .ok (.invokevirtual 48, 3) := by decide +kernel
theorem dX9_longestLinger_11 : decode cX9_longestLinger 11 = .ok (.iconst (-1), 1) := by decide +kernel
theorem dX9_longestLinger_12 : decode cX9_longestLinger 12 = .ok (.istore_n 2, 1) := by decide +kernel
theorem dX9_longestLinger_13 : decode cX9_longestLinger 13 = .ok (.iconst 0, 1) := by decide +kernel
theorem dX9_longestLinger_14 : decode cX9_longestLinger 14 = .ok (.istore_n 3, 1) := by decide +kernel
theorem dX9_longestLinger_15 : decode cX9_longestLinger 15 = .ok (.iload_n 3, 1) := by decide +kernel
theorem dX9_longestLinger_16 : decode cX9_longestLinger 16 = .ok (.bipush 20, 2) := by decide +kernel
theorem dX9_longestLinger_18 : decode cX9_longestLinger 18 = .ok (.if_icmp .gt 35, 3) := by decide +kernel
theorem dX9_longestLinger_21 : decode cX9_longestLinger 21 = .ok (.aload_n 0, 1) := by decide +kernel
theorem dX9_longestLinger_22 : decode cX9_longestLinger 22 = .ok (.getfield 25, 3) := by decide +kernel
theorem dX9_longestLinger_25 : decode cX9_longestLinger 25 = .ok (.iload_n 1, 1) := by decide +kernel
theorem dX9_longestLinger_26 : decode cX9_longestLinger 26 = .ok (.invokevirtual 74, 3) := by decide +kernel
theorem dX9_longestLinger_29 : decode cX9_longestLinger 29 = .ok (.ifCond .ne 5, 3) := by decide +kernel
theorem dX9_longestLinger_32 : decode cX9_longestLinger 32 = .ok (.iload_n 3, 1) := by decide +kernel
theorem dX9_longestLinger_33 : decode cX9_longestLinger 33 = .ok (.istore_n 2, 1) := by decide +kernel
theorem dX9_longestLinger_34 : decode cX9_longestLinger 34 = .ok (.aload_n 0, 1) := by decide +kernel
theorem dX9_longestLinger_35 : decode cX9_longestLinger 35 = .ok (.getfield 25, 3) := by decide +kernel
theorem dX9_longestLinger_38 : decode cX9_longestLinger 38 = .ok (.iload_n 1, 1) := by decide +kernel
theorem dX9_longestLinger_39 : decode cX9_longestLinger 39 = .ok (.invokevirtual 67, 3) := by decide +kernel
theorem dX9_longestLinger_42 : decode cX9_longestLinger 42 = .ok (.ifCond .eq 5, 3) := by decide +kernel
theorem dX9_longestLinger_45 : decode cX9_longestLinger 45 = .ok (.iload_n 2, 1) := by decide +kernel
theorem dX9_longestLinger_46 : decode cX9_longestLinger 46 = .ok (.ireturn, 1) := by decide +kernel
theorem dX9_longestLinger_47 : decode cX9_longestLinger 47 = .ok (.iinc 3 1, 3) := by decide +kernel
theorem dX9_longestLinger_50 : decode cX9_longestLinger 50 = .ok (.goto (-35), 3) := by decide +kernel
theorem dX9_longestLinger_53 : decode cX9_longestLinger 53 = .ok (.iload_n 2, 1) := by decide +kernel
theorem dX9_longestLinger_54 : decode cX9_longestLinger 54 = .ok (.ireturn, 1) := by decide +kernel
theorem dX9_fewestHidden_0 : decode cX9_fewestHidden 0 = .ok (.aload_n 0, 1) := by decide +kernel
theorem dX9_fewestHidden_1 : decode cX9_fewestHidden 1 = .ok (.getfield 9, 3) := by decide +kernel
theorem dX9_fewestHidden_4 : decode cX9_fewestHidden 4 = .ok (.getfield 78, 3) := by decide +kernel
theorem dX9_fewestHidden_7 : decode cX9_fewestHidden 7 = .ok (.aload_n 0, 1) := by decide +kernel
theorem dX9_fewestHidden_8 : decode cX9_fewestHidden 8 = .ok (.getfield 9, 3) := by decide +kernel
theorem dX9_fewestHidden_11 : decode cX9_fewestHidden 11 = .ok (.getfield 81, 3) := by decide +kernel
theorem dX9_fewestHidden_14 : decode cX9_fewestHidden 14 = .ok (.ior, 1) := by decide +kernel
theorem dX9_fewestHidden_15 : decode cX9_fewestHidden 15 = .ok (.istore_n 2, 1) := by decide +kernel
theorem dX9_fewestHidden_16 : decode cX9_fewestHidden 16 = .ok (.aload_n 0, 1) := by decide +kernel
theorem dX9_fewestHidden_17 : decode cX9_fewestHidden 17 = .ok (.getfield 9, 3) := by decide +kernel
theorem dX9_fewestHidden_20 : decode cX9_fewestHidden 20 = .ok (.invokevirtual 84, 3) := by decide +kernel
theorem dX9_fewestHidden_23 : decode cX9_fewestHidden 23 = .ok (.istore_n 3, 1) := by decide +kernel
theorem dX9_fewestHidden_24 : decode cX9_fewestHidden 24 = .ok (.iconst 0, 1) := by decide +kernel
theorem dX9_fewestHidden_25 : decode cX9_fewestHidden 25 = .ok (.istore 4, 2) := by decide +kernel
theorem dX9_fewestHidden_27 : decode cX9_fewestHidden 27 = .ok (.iload 4, 2) := by decide +kernel
theorem dX9_fewestHidden_29 : decode cX9_fewestHidden 29 = .ok (.iload_n 3, 1) := by decide +kernel
theorem dX9_fewestHidden_30 : decode cX9_fewestHidden 30 = .ok (.if_icmp .gt 68, 3) := by decide +kernel
theorem dX9_fewestHidden_33 : decode cX9_fewestHidden 33 = .ok (.iconst 0, 1) := by decide +kernel
theorem dX9_fewestHidden_34 : decode cX9_fewestHidden 34 = .ok (.istore 5, 2) := by decide +kernel
theorem dX9_fewestHidden_36 : decode cX9_fewestHidden 36 = .ok (.iload 5, 2) := by decide +kernel
theorem dX9_fewestHidden_38 : decode cX9_fewestHidden 38 = .ok (.iconst 1, 1) := by decide +kernel
theorem dX9_fewestHidden_39 : decode cX9_fewestHidden 39 = .ok (.aload_n 0, 1) := by decide +kernel
theorem dX9_fewestHidden_40 : decode cX9_fewestHidden 40 = .ok (.getfield 21, 3) := by decide +kernel
theorem dX9_fewestHidden_43 : decode cX9_fewestHidden 43 = .ok (.getfield 59, 3) := by decide +kernel
theorem dX9_fewestHidden_46 : decode cX9_fewestHidden 46 = .ok (.ishl, 1) := by decide +kernel
theorem dX9_fewestHidden_47 : decode cX9_fewestHidden 47 = .ok (.if_icmp .ge 45, 3) := by decide +kernel
theorem dX9_fewestHidden_50 : decode cX9_fewestHidden 50 = .ok (.iload 5, 2) := by decide +kernel
theorem dX9_fewestHidden_52 : decode cX9_fewestHidden 52 = .ok (.iload_n 2, 1) := by decide +kernel
theorem dX9_fewestHidden_53 : decode cX9_fewestHidden 53 = .ok (.iand, 1) := by decide +kernel
theorem dX9_fewestHidden_54 : decode cX9_fewestHidden 54 = .ok (.ifCond .ne 32, 3) := by decide +kernel
theorem dX9_fewestHidden_57 : decode cX9_fewestHidden 57 = .ok (.iload 5, 2) := by decide +kernel
theorem dX9_fewestHidden_59 : decode cX9_fewestHidden 59 = .ok (.invokestatic 87, 3) := by decide +kernel
theorem dX9_fewestHidden_62 : decode cX9_fewestHidden 62 = .ok (.iload 4, 2) := by decide +kernel
theorem dX9_fewestHidden_64 : decode cX9_fewestHidden 64 = .ok (.if_icmp .ne 22, 3) := by decide +kernel
theorem dX9_fewestHidden_67 : decode cX9_fewestHidden 67 = .ok (.aload_n 0, 1) := by decide +kernel
theorem dX9_fewestHidden_68 : decode cX9_fewestHidden 68 = .ok (.iload_n 1, 1) := by decide +kernel
theorem dX9_fewestHidden_69 : decode cX9_fewestHidden 69 = .ok (.iload 5, 2) := by decide +kernel
theorem dX9_fewestHidden_71 : decode cX9_fewestHidden 71 = .ok (.invokevirtual 92, 3) := by decide +kernel
theorem dX9_fewestHidden_74 : decode cX9_fewestHidden 74 = .ok (.ifCond .eq 12, 3) := by decide +kernel
theorem dX9_fewestHidden_77 : decode cX9_fewestHidden 77 = .ok (.aload_n 0, 1) := by decide +kernel
theorem dX9_fewestHidden_78 : decode cX9_fewestHidden 78 = .ok (.iload 5, 2) := by decide +kernel
theorem dX9_fewestHidden_80 : decode cX9_fewestHidden 80 = .ok (.putfield 36, 3) := by decide +kernel
theorem dX9_fewestHidden_83 : decode cX9_fewestHidden 83 = .ok (.iload 4, 2) := by decide +kernel
theorem dX9_fewestHidden_85 : decode cX9_fewestHidden 85 = .ok (.ireturn, 1) := by decide +kernel
theorem dX9_fewestHidden_86 : decode cX9_fewestHidden 86 = .ok (.iinc 5 1, 3) := by decide +kernel
theorem dX9_fewestHidden_89 : decode cX9_fewestHidden 89 = .ok (.goto (-53), 3) := by decide +kernel
theorem dX9_fewestHidden_92 : decode cX9_fewestHidden 92 = .ok (.iinc 4 1, 3) := by decide +kernel
theorem dX9_fewestHidden_95 : decode cX9_fewestHidden 95 = .ok (.goto (-68), 3) := by decide +kernel
theorem dX9_fewestHidden_98 : decode cX9_fewestHidden 98 = .ok (.iconst (-1), 1) := by decide +kernel
theorem dX9_fewestHidden_99 : decode cX9_fewestHidden 99 = .ok (.ireturn, 1) := by decide +kernel
theorem dX9_isNextBehind_0 : decode cX9_isNextBehind 0 = .ok (.aload_n 0, 1) := by decide +kernel
theorem dX9_isNextBehind_1 : decode cX9_isNextBehind 1 = .ok (.getfield 25, 3) := by decide +kernel
theorem dX9_isNextBehind_4 : decode cX9_isNextBehind 4 = .ok (.aload_n 0, 1) := by decide +kernel
theorem dX9_isNextBehind_5 : decode cX9_isNextBehind 5 = .ok (.getfield 9, 3) := by decide +kernel
theorem dX9_isNextBehind_8 : decode cX9_isNextBehind 8 = .ok (.invokevirtual 48, 3) := by decide +kernel
theorem dX9_isNextBehind_11 : decode cX9_isNextBehind 11 = .ok (.aload_n 0, 1) := by decide +kernel
theorem dX9_isNextBehind_12 : decode cX9_isNextBehind 12 = .ok (.getfield 25, 3) := by decide +kernel
theorem dX9_isNextBehind_15 : decode cX9_isNextBehind 15 = .ok (.dup, 1) := by decide +kernel
theorem dX9_isNextBehind_16 : decode cX9_isNextBehind 16 = .ok (.getfield 78, 3) := by decide +kernel
theorem dX9_isNextBehind_19 : decode cX9_isNextBehind 19 = .ok (.iload_n 2, 1) := by decide +kernel
theorem dX9_isNextBehind_20 : decode cX9_isNextBehind 20 = .ok (.ior, 1) := by decide +kernel
theorem dX9_isNextBehind_21 : decode cX9_isNextBehind 21 = .ok (.putfield 78, 3) := by decide +kernel
theorem dX9_isNextBehind_24 : decode cX9_isNextBehind 24 = .ok (.aload_n 0, 1) := by decide +kernel
theorem dX9_isNextBehind_25 : decode cX9_isNextBehind 25 = .ok (.invokevirtual 52, 3) := by decide +kernel
theorem dX9_isNextBehind_28 : decode cX9_isNextBehind 28 = .ok (.iload_n 1, 1) := by decide +kernel
theorem dX9_isNextBehind_29 : decode cX9_isNextBehind 29 = .ok (.if_icmp .ne 7, 3) := by decide +kernel
theorem dX9_isNextBehind_32 : decode cX9_isNextBehind 32 = .ok (.iconst 1, 1) := by decide +kernel
theorem dX9_isNextBehind_33 : decode cX9_isNextBehind 33 = .ok (.goto 4, 3) := by decide +kernel
theorem dX9_isNextBehind_36 : decode cX9_isNextBehind 36 = .ok (.iconst 0, 1) := by decide +kernel
theorem dX9_isNextBehind_37 : decode cX9_isNextBehind 37 = .ok (.ireturn, 1) := by decide +kernel
theorem dX9_fewestPushed_0 : decode cX9_fewestPushed 0 = .ok (.aload_n 0, 1) := by decide +kernel
theorem dX9_fewestPushed_1 : decode cX9_fewestPushed 1 = .ok (.getfield 9, 3) := by decide +kernel
theorem dX9_fewestPushed_4 : decode cX9_fewestPushed 4 = .ok (.getfield 64, 3) := by decide +kernel
theorem dX9_fewestPushed_7 : decode cX9_fewestPushed 7 = .ok (.iconst 1, 1) := by decide +kernel
theorem dX9_fewestPushed_8 : decode cX9_fewestPushed 8 = .ok (.iload_n 1, 1) := by decide +kernel
theorem dX9_fewestPushed_9 : decode cX9_fewestPushed 9 = .ok (.ishl, 1) := by decide +kernel
theorem dX9_fewestPushed_10 : decode cX9_fewestPushed 10 = .ok (.ior, 1) := by decide +kernel
theorem dX9_fewestPushed_11 : decode cX9_fewestPushed 11 = .ok (.istore_n 2, 1) := by decide +kernel
theorem dX9_fewestPushed_12 : decode cX9_fewestPushed 12 = .ok (.iconst 0, 1) := by decide +kernel
theorem dX9_fewestPushed_13 : decode cX9_fewestPushed 13 = .ok (.istore_n 3, 1) := by decide +kernel
theorem dX9_fewestPushed_14 : decode cX9_fewestPushed 14 = .ok (.iload_n 3, 1) := by decide +kernel
theorem dX9_fewestPushed_15 : decode cX9_fewestPushed 15 = .ok (.aload_n 0, 1) := by decide +kernel
theorem dX9_fewestPushed_16 : decode cX9_fewestPushed 16 = .ok (.getfield 21, 3) := by decide +kernel
theorem dX9_fewestPushed_19 : decode cX9_fewestPushed 19 = .ok (.getfield 96, 3) := by decide +kernel
theorem dX9_fewestPushed_22 : decode cX9_fewestPushed 22 = .ok (.if_icmp .ge 66, 3) := by decide +kernel
theorem dX9_fewestPushed_25 : decode cX9_fewestPushed 25 = .ok (.iconst 0, 1) := by decide +kernel
theorem dX9_fewestPushed_26 : decode cX9_fewestPushed 26 = .ok (.istore 4, 2) := by decide +kernel
theorem dX9_fewestPushed_28 : decode cX9_fewestPushed 28 = .ok (.iload 4, 2) := by decide +kernel
theorem dX9_fewestPushed_30 : decode cX9_fewestPushed 30 = .ok (.iconst 1, 1) := by decide +kernel
theorem dX9_fewestPushed_31 : decode cX9_fewestPushed 31 = .ok (.aload_n 0, 1) := by decide +kernel
theorem dX9_fewestPushed_32 : decode cX9_fewestPushed 32 = .ok (.getfield 21, 3) := by decide +kernel
theorem dX9_fewestPushed_35 : decode cX9_fewestPushed 35 = .ok (.getfield 96, 3) := by decide +kernel
theorem dX9_fewestPushed_38 : decode cX9_fewestPushed 38 = .ok (.ishl, 1) := by decide +kernel
theorem dX9_fewestPushed_39 : decode cX9_fewestPushed 39 = .ok (.if_icmp .ge 43, 3) := by decide +kernel
theorem dX9_fewestPushed_42 : decode cX9_fewestPushed 42 = .ok (.iload 4, 2) := by decide +kernel
theorem dX9_fewestPushed_44 : decode cX9_fewestPushed 44 = .ok (.iload_n 2, 1) := by decide +kernel
theorem dX9_fewestPushed_45 : decode cX9_fewestPushed 45 = .ok (.iand, 1) := by decide +kernel
theorem dX9_fewestPushed_46 : decode cX9_fewestPushed 46 = .ok (.ifCond .ne 30, 3) := by decide +kernel
theorem dX9_fewestPushed_49 : decode cX9_fewestPushed 49 = .ok (.iload 4, 2) := by decide +kernel
theorem dX9_fewestPushed_51 : decode cX9_fewestPushed 51 = .ok (.invokestatic 87, 3) := by decide +kernel
theorem dX9_fewestPushed_54 : decode cX9_fewestPushed 54 = .ok (.iload_n 3, 1) := by decide +kernel
theorem dX9_fewestPushed_55 : decode cX9_fewestPushed 55 = .ok (.if_icmp .ne 21, 3) := by decide +kernel
theorem dX9_fewestPushed_58 : decode cX9_fewestPushed 58 = .ok (.aload_n 0, 1) := by decide +kernel
theorem dX9_fewestPushed_59 : decode cX9_fewestPushed 59 = .ok (.iload_n 1, 1) := by decide +kernel
theorem dX9_fewestPushed_60 : decode cX9_fewestPushed 60 = .ok (.iload 4, 2) := by decide +kernel
theorem dX9_fewestPushed_62 : decode cX9_fewestPushed 62 = .ok (.invokevirtual 99, 3) := by decide +kernel
theorem dX9_fewestPushed_65 : decode cX9_fewestPushed 65 = .ok (.ifCond .eq 11, 3) := by decide +kernel
theorem dX9_fewestPushed_68 : decode cX9_fewestPushed 68 = .ok (.aload_n 0, 1) := by decide +kernel
theorem dX9_fewestPushed_69 : decode cX9_fewestPushed 69 = .ok (.iload 4, 2) := by decide +kernel
theorem dX9_fewestPushed_71 : decode cX9_fewestPushed 71 = .ok (.putfield 39, 3) := by decide +kernel
theorem dX9_fewestPushed_74 : decode cX9_fewestPushed 74 = .ok (.iload_n 3, 1) := by decide +kernel
theorem dX9_fewestPushed_75 : decode cX9_fewestPushed 75 = .ok (.ireturn, 1) := by decide +kernel
theorem dX9_fewestPushed_76 : decode cX9_fewestPushed 76 = .ok (.iinc 4 1, 3) := by decide +kernel
theorem dX9_fewestPushed_79 : decode cX9_fewestPushed 79 = .ok (.goto (-51), 3) := by decide +kernel
theorem dX9_fewestPushed_82 : decode cX9_fewestPushed 82 = .ok (.iinc 3 1, 3) := by decide +kernel
theorem dX9_fewestPushed_85 : decode cX9_fewestPushed 85 = .ok (.goto (-71), 3) := by decide +kernel
theorem dX9_fewestPushed_88 : decode cX9_fewestPushed 88 = .ok (.iconst (-1), 1) := by decide +kernel
theorem dX9_fewestPushed_89 : decode cX9_fewestPushed 89 = .ok (.ireturn, 1) := by decide +kernel
theorem dX9_isHostBy_0 : decode cX9_isHostBy 0 = .ok (.aload_n 0, 1) := by decide +kernel
theorem dX9_isHostBy_1 : decode cX9_isHostBy 1 = .ok (.getfield 25, 3) := by decide +kernel
theorem dX9_isHostBy_4 : decode cX9_isHostBy 4 = .ok (.aload_n 0, 1) := by decide +kernel
theorem dX9_isHostBy_5 : decode cX9_isHostBy 5 = .ok (.getfield 9, 3) := by decide +kernel
theorem dX9_isHostBy_8 : decode cX9_isHostBy 8 = .ok (.invokevirtual 48, 3) := by decide +kernel
theorem dX9_isHostBy_11 : decode cX9_isHostBy 11 = .ok (.iconst 0, 1) := by decide +kernel
theorem dX9_isHostBy_12 : decode cX9_isHostBy 12 = .ok (.istore_n 3, 1) := by decide +kernel
theorem dX9_isHostBy_13 : decode cX9_isHostBy 13 = .ok (.iload_n 3, 1) := by decide +kernel
theorem dX9_isHostBy_14 : decode cX9_isHostBy 14 = .ok (.aload_n 0, 1) := by decide +kernel
theorem dX9_isHostBy_15 : decode cX9_isHostBy 15 = .ok (.getfield 21, 3) := by decide +kernel
theorem dX9_isHostBy_18 : decode cX9_isHostBy 18 = .ok (.getfield 96, 3) := by decide +kernel
theorem dX9_isHostBy_21 : decode cX9_isHostBy 21 = .ok (.if_icmp .ge 39, 3) := by decide +kernel
theorem dX9_isHostBy_24 : decode cX9_isHostBy 24 = .ok (.iload_n 2, 1) := by decide +kernel
theorem dX9_isHostBy_25 : decode cX9_isHostBy 25 = .ok (.iload_n 3, 1) := by decide +kernel
theorem dX9_isHostBy_26 : decode cX9_isHostBy 26 = .ok (.ishr, 1) := by decide +kernel
theorem dX9_isHostBy_27 : decode cX9_isHostBy 27 = .ok (.iconst 1, 1) := by decide +kernel
theorem dX9_isHostBy_28 : decode cX9_isHostBy 28 = .ok (.iand, 1) := by decide +kernel
theorem dX9_isHostBy_29 : decode cX9_isHostBy 29 = .ok (.iconst 1, 1) := by decide +kernel
theorem dX9_isHostBy_30 : decode cX9_isHostBy 30 = .ok (.if_icmp .ne 24, 3) := by decide +kernel
theorem dX9_isHostBy_33 : decode cX9_isHostBy 33 = .ok (.aload_n 0, 1) := by decide +kernel
theorem dX9_isHostBy_34 : decode cX9_isHostBy 34 = .ok (.getfield 25, 3) := by decide +kernel
theorem dX9_isHostBy_37 : decode cX9_isHostBy 37 = .ok (.iload_n 3, 1) := by decide +kernel
theorem dX9_isHostBy_38 : decode cX9_isHostBy 38 = .ok (.invokevirtual 74, 3) := by decide +kernel
theorem dX9_isHostBy_41 : decode cX9_isHostBy 41 = .ok (.ifCond .eq 5, 3) := by decide +kernel
theorem dX9_isHostBy_44 : decode cX9_isHostBy 44 = .ok (.iconst 0, 1) := by decide +kernel
theorem dX9_isHostBy_45 : decode cX9_isHostBy 45 = .ok (.ireturn, 1) := by decide +kernel
theorem dX9_isHostBy_46 : decode cX9_isHostBy 46 = .ok (.aload_n 0, 1) := by decide +kernel
theorem dX9_isHostBy_47 : decode cX9_isHostBy 47 = .ok (.getfield 25, 3) := by decide +kernel
theorem dX9_isHostBy_50 : decode cX9_isHostBy 50 = .ok (.iload_n 3, 1) := by decide +kernel
theorem dX9_isHostBy_51 : decode cX9_isHostBy 51 = .ok (.invokevirtual 102, 3) := by decide +kernel
theorem dX9_isHostBy_54 : decode cX9_isHostBy 54 = .ok (.iinc 3 1, 3) := by decide +kernel
theorem dX9_isHostBy_57 : decode cX9_isHostBy 57 = .ok (.goto (-44), 3) := by decide +kernel
theorem dX9_isHostBy_60 : decode cX9_isHostBy 60 = .ok (.aload_n 0, 1) := by decide +kernel
theorem dX9_isHostBy_61 : decode cX9_isHostBy 61 = .ok (.getfield 25, 3) := by decide +kernel
theorem dX9_isHostBy_64 : decode cX9_isHostBy 64 = .ok (.getfield 106, 3) := by decide +kernel
theorem dX9_isHostBy_67 : decode cX9_isHostBy 67 = .ok (.aload_n 0, 1) := by decide +kernel
theorem dX9_isHostBy_68 : decode cX9_isHostBy 68 = .ok (.getfield 9, 3) := by decide +kernel
theorem dX9_isHostBy_71 : decode cX9_isHostBy 71 = .ok (.getfield 106, 3) := by decide +kernel
theorem dX9_isHostBy_74 : decode cX9_isHostBy 74 = .ok (.if_icmp .eq 13, 3) := by decide +kernel
theorem dX9_isHostBy_77 : decode cX9_isHostBy 77 = .ok (.aload_n 0, 1) := by decide +kernel
theorem dX9_isHostBy_78 : decode cX9_isHostBy 78 = .ok (.getfield 25, 3) := by decide +kernel
theorem dX9_isHostBy_81 : decode cX9_isHostBy 81 = .ok (.getfield 71, 3) := by decide +kernel
theorem dX9_isHostBy_84 : decode cX9_isHostBy 84 = .ok (.goto 7, 3) := by decide +kernel
theorem dX9_isHostBy_87 : decode cX9_isHostBy 87 = .ok (.aload_n 0, 1) := by decide +kernel
theorem dX9_isHostBy_88 : decode cX9_isHostBy 88 = .ok (.invokevirtual 52, 3) := by decide +kernel
theorem dX9_isHostBy_91 : decode cX9_isHostBy 91 = .ok (.iload_n 1, 1) := by decide +kernel
theorem dX9_isHostBy_92 : decode cX9_isHostBy 92 = .ok (.if_icmp .ne 7, 3) := by decide +kernel
theorem dX9_isHostBy_95 : decode cX9_isHostBy 95 = .ok (.iconst 1, 1) := by decide +kernel
theorem dX9_isHostBy_96 : decode cX9_isHostBy 96 = .ok (.goto 4, 3) := by decide +kernel
theorem dX9_isHostBy_99 : decode cX9_isHostBy 99 = .ok (.iconst 0, 1) := by decide +kernel
theorem dX9_isHostBy_100 : decode cX9_isHostBy 100 = .ok (.ireturn, 1) := by decide +kernel
theorem dX9_safeChairs_0 : decode cX9_safeChairs 0 = .ok (.iconst 0, 1) := by decide +kernel
theorem dX9_safeChairs_1 : decode cX9_safeChairs 1 = .ok (.istore_n 2, 1) := by decide +kernel
theorem dX9_safeChairs_2 : decode cX9_safeChairs 2 = .ok (.iconst 0, 1) := by decide +kernel
theorem dX9_safeChairs_3 : decode cX9_safeChairs 3 = .ok (.istore_n 3, 1) := by decide +kernel
theorem dX9_safeChairs_4 : decode cX9_safeChairs 4 = .ok (.iload_n 3, 1) := by decide +kernel
theorem dX9_safeChairs_5 : decode cX9_safeChairs 5 = .ok (.aload_n 0, 1) := by decide +kernel
theorem dX9_safeChairs_6 : decode cX9_safeChairs 6 = .ok (.getfield 21, 3) := by decide +kernel
theorem dX9_safeChairs_9 : decode cX9_safeChairs 9 = .ok (.getfield 59, 3) := by decide +kernel
theorem dX9_safeChairs_12 : decode cX9_safeChairs 12 = .ok (.if_icmp .ge 44, 3) := by decide +kernel
theorem dX9_safeChairs_15 : decode cX9_safeChairs 15 = .ok (.aload_n 0, 1) := by decide +kernel
theorem dX9_safeChairs_16 : decode cX9_safeChairs 16 = .ok (.getfield 25, 3) := by decide +kernel
theorem dX9_safeChairs_19 : decode cX9_safeChairs 19 = .ok (.aload_n 0, 1) := by decide +kernel
theorem dX9_safeChairs_20 : decode cX9_safeChairs 20 = .ok (.getfield 9, 3) := by decide +kernel
theorem dX9_safeChairs_23 : decode cX9_safeChairs 23 = .ok (.invokevirtual 48, 3) := by decide +kernel
theorem dX9_safeChairs_26 : decode cX9_safeChairs 26 = .ok (.aload_n 0, 1) := by decide +kernel
theorem dX9_safeChairs_27 : decode cX9_safeChairs 27 = .ok (.getfield 25, 3) := by decide +kernel
theorem dX9_safeChairs_30 : decode cX9_safeChairs 30 = .ok (.getfield 109, 3) := by decide +kernel
theorem dX9_safeChairs_33 : decode cX9_safeChairs 33 = .ok (.iload_n 1, 1) := by decide +kernel
theorem dX9_safeChairs_34 : decode cX9_safeChairs 34 = .ok (.iload_n 3, 1) := by decide +kernel
theorem dX9_safeChairs_35 : decode cX9_safeChairs 35 = .ok (.iastore, 1) := by decide +kernel
theorem dX9_safeChairs_36 : decode cX9_safeChairs 36 = .ok (.aload_n 0, 1) := by decide +kernel
theorem dX9_safeChairs_37 : decode cX9_safeChairs 37 = .ok (.invokevirtual 52, 3) := by decide +kernel
theorem dX9_safeChairs_40 : decode cX9_safeChairs 40 = .ok (.iload_n 1, 1) := by decide +kernel
theorem dX9_safeChairs_41 : decode cX9_safeChairs 41 = .ok (.if_icmp .eq 9, 3) := by decide +kernel
theorem dX9_safeChairs_44 : decode cX9_safeChairs 44 = .ok (.iload_n 2, 1) := by decide +kernel
theorem dX9_safeChairs_45 : decode cX9_safeChairs 45 = .ok (.iconst 1, 1) := by decide +kernel
theorem dX9_safeChairs_46 : decode cX9_safeChairs 46 = .ok (.iload_n 3, 1) := by decide +kernel
theorem dX9_safeChairs_47 : decode cX9_safeChairs 47 = .ok (.ishl, 1) := by decide +kernel
theorem dX9_safeChairs_48 : decode cX9_safeChairs 48 = .ok (.ior, 1) := by decide +kernel
theorem dX9_safeChairs_49 : decode cX9_safeChairs 49 = .ok (.istore_n 2, 1) := by decide +kernel
theorem dX9_safeChairs_50 : decode cX9_safeChairs 50 = .ok (.iinc 3 1, 3) := by decide +kernel
theorem dX9_safeChairs_53 : decode cX9_safeChairs 53 = .ok (.goto (-49), 3) := by decide +kernel
theorem dX9_safeChairs_56 : decode cX9_safeChairs 56 = .ok (.iload_n 2, 1) := by decide +kernel
theorem dX9_safeChairs_57 : decode cX9_safeChairs 57 = .ok (.ireturn, 1) := by decide +kernel
theorem dX9_hostList_0 : decode cX9_hostList 0 = .ok (.aload_n 0, 1) := by decide +kernel
theorem dX9_hostList_1 : decode cX9_hostList 1 = .ok (.getfield 25, 3) := by decide +kernel
theorem dX9_hostList_4 : decode cX9_hostList 4 = .ok (.aload_n 0, 1) := by decide +kernel
theorem dX9_hostList_5 : decode cX9_hostList 5 = .ok (.getfield 9, 3) := by decide +kernel
theorem dX9_hostList_8 : decode cX9_hostList 8 = .ok (.invokevirtual 48, 3) := by decide +kernel
theorem dX9_hostList_11 : decode cX9_hostList 11 = .ok (.aload_n 0, 1) := by decide +kernel
theorem dX9_hostList_12 : decode cX9_hostList 12 = .ok (.iconst 0, 1) := by decide +kernel
theorem dX9_hostList_13 : decode cX9_hostList 13 = .ok (.putfield 112, 3) := by decide +kernel
theorem dX9_hostList_16 : decode cX9_hostList 16 = .ok (.iconst 0, 1) := by decide +kernel
theorem dX9_hostList_17 : decode cX9_hostList 17 = .ok (.istore_n 2, 1) := by decide +kernel
theorem dX9_hostList_18 : decode cX9_hostList 18 = .ok (.iload_n 2, 1) := by decide +kernel
theorem dX9_hostList_19 : decode cX9_hostList 19 = .ok (.bipush 99, 2) := by decide +kernel
theorem dX9_hostList_21 : decode cX9_hostList 21 = .ok (.if_icmp .ge 83, 3) := by decide +kernel
theorem dX9_hostList_24 : decode cX9_hostList 24 = .ok (.aload_n 0, 1) := by decide +kernel
theorem dX9_hostList_25 : decode cX9_hostList 25 = .ok (.invokevirtual 115, 3) := by decide +kernel
theorem dX9_hostList_28 : decode cX9_hostList 28 = .ok (.istore_n 3, 1) := by decide +kernel
theorem dX9_hostList_29 : decode cX9_hostList 29 = .ok (.iload_n 3, 1) := by decide +kernel
theorem dX9_hostList_30 : decode cX9_hostList 30 = .ok (.iconst (-1), 1) := by decide +kernel
theorem dX9_hostList_31 : decode cX9_hostList 31 = .ok (.if_icmp .eq 24, 3) := by decide +kernel
theorem dX9_hostList_34 : decode cX9_hostList 34 = .ok (.aload_n 0, 1) := by decide +kernel
theorem dX9_hostList_35 : decode cX9_hostList 35 = .ok (.getfield 25, 3) := by decide +kernel
theorem dX9_hostList_38 : decode cX9_hostList 38 = .ok (.getfield 118, 3) := by decide +kernel
theorem dX9_hostList_41 : decode cX9_hostList 41 = .ok (.aload_n 0, 1) := by decide +kernel
theorem dX9_hostList_42 : decode cX9_hostList 42 = .ok (.getfield 21, 3) := by decide +kernel
theorem dX9_hostList_45 : decode cX9_hostList 45 = .ok (.getfield 121, 3) := by decide +kernel
theorem dX9_hostList_48 : decode cX9_hostList 48 = .ok (.iload_n 3, 1) := by decide +kernel
theorem dX9_hostList_49 : decode cX9_hostList 49 = .ok (.iaload, 1) := by decide +kernel
theorem dX9_hostList_50 : decode cX9_hostList 50 = .ok (.iaload, 1) := by decide +kernel
theorem dX9_hostList_51 : decode cX9_hostList 51 = .ok (.iload_n 1, 1) := by decide +kernel
theorem dX9_hostList_52 : decode cX9_hostList 52 = .ok (.if_icmp .ge 8, 3) := by decide +kernel
theorem dX9_hostList_55 : decode cX9_hostList 55 = .ok (.aload_n 0, 1) := by decide +kernel
theorem dX9_hostList_56 : decode cX9_hostList 56 = .ok (.getfield 112, 3) := by decide +kernel
theorem dX9_hostList_59 : decode cX9_hostList 59 = .ok (.ireturn, 1) := by decide +kernel
theorem dX9_hostList_60 : decode cX9_hostList 60 = .ok (.aload_n 0, 1) := by decide +kernel
theorem dX9_hostList_61 : decode cX9_hostList 61 = .ok (.getfield 25, 3) := by decide +kernel
theorem dX9_hostList_64 : decode cX9_hostList 64 = .ok (.getfield 118, 3) := by decide +kernel
theorem dX9_hostList_67 : decode cX9_hostList 67 = .ok (.aload_n 0, 1) := by decide +kernel
theorem dX9_hostList_68 : decode cX9_hostList 68 = .ok (.getfield 21, 3) := by decide +kernel
theorem dX9_hostList_71 : decode cX9_hostList 71 = .ok (.getfield 121, 3) := by decide +kernel
theorem dX9_hostList_74 : decode cX9_hostList 74 = .ok (.iload_n 3, 1) := by decide +kernel
theorem dX9_hostList_75 : decode cX9_hostList 75 = .ok (.iaload, 1) := by decide +kernel
theorem dX9_hostList_76 : decode cX9_hostList 76 = .ok (.dup2, 1) := by decide +kernel
theorem dX9_hostList_77 : decode cX9_hostList 77 = .ok (.iaload, 1) := by decide +kernel
theorem dX9_hostList_78 : decode cX9_hostList 78 = .ok (.iload_n 1, 1) := by decide +kernel
theorem dX9_hostList_79 : decode cX9_hostList 79 = .ok (.isub, 1) := by decide +kernel
theorem dX9_hostList_80 : decode cX9_hostList 80 = .ok (.iastore, 1) := by decide +kernel
theorem dX9_hostList_81 : decode cX9_hostList 81 = .ok (.aload_n 0, 1) := by decide +kernel
theorem dX9_hostList_82 : decode cX9_hostList 82 = .ok (.getfield 28, 3) := by decide +kernel
theorem dX9_hostList_85 : decode cX9_hostList 85 = .ok (.iload_n 2, 1) := by decide +kernel
theorem dX9_hostList_86 : decode cX9_hostList 86 = .ok (.iload_n 3, 1) := by decide +kernel
theorem dX9_hostList_87 : decode cX9_hostList 87 = .ok (.iastore, 1) := by decide +kernel
theorem dX9_hostList_88 : decode cX9_hostList 88 = .ok (.aload_n 0, 1) := by decide +kernel
theorem dX9_hostList_89 : decode cX9_hostList 89 = .ok (.dup, 1) := by decide +kernel
theorem dX9_hostList_90 : decode cX9_hostList 90 = .ok (.getfield 112, 3) := by decide +kernel
theorem dX9_hostList_93 : decode cX9_hostList 93 = .ok (.iconst 1, 1) := by decide +kernel
theorem dX9_hostList_94 : decode cX9_hostList 94 = .ok (.iadd, 1) := by decide +kernel
theorem dX9_hostList_95 : decode cX9_hostList 95 = .ok (.putfield 112, 3) := by decide +kernel
theorem dX9_hostList_98 : decode cX9_hostList 98 = .ok (.iinc 2 1, 3) := by decide +kernel
theorem dX9_hostList_101 : decode cX9_hostList 101 = .ok (.goto (-83), 3) := by decide +kernel
theorem dX9_hostList_104 : decode cX9_hostList 104 = .ok (.aload_n 0, 1) := by decide +kernel
theorem dX9_hostList_105 : decode cX9_hostList 105 = .ok (.getfield 112, 3) := by decide +kernel
theorem dX9_hostList_108 : decode cX9_hostList 108 = .ok (.ireturn, 1) := by decide +kernel
theorem dX9_richestPaidFor_0 : decode cX9_richestPaidFor 0 = .ok (.iconst (-1), 1) := by decide +kernel
theorem dX9_richestPaidFor_1 : decode cX9_richestPaidFor 1 = .ok (.istore_n 1, 1) := by decide +kernel
theorem dX9_richestPaidFor_2 : decode cX9_richestPaidFor 2 = .ok (.iconst 0, 1) := by decide +kernel
theorem dX9_richestPaidFor_3 : decode cX9_richestPaidFor 3 = .ok (.istore_n 2, 1) := by decide +kernel
theorem dX9_richestPaidFor_4 : decode cX9_richestPaidFor 4 = .ok (.iload_n 2, 1) := by decide +kernel
theorem dX9_richestPaidFor_5 : decode cX9_richestPaidFor 5 = .ok (.aload_n 0, 1) := by decide +kernel
theorem dX9_richestPaidFor_6 : decode cX9_richestPaidFor 6 = .ok (.getfield 21, 3) := by decide +kernel
theorem dX9_richestPaidFor_9 : decode cX9_richestPaidFor 9 = .ok (.getfield 96, 3) := by decide +kernel
theorem dX9_richestPaidFor_12 : decode cX9_richestPaidFor 12 = .ok (.if_icmp .ge 53, 3) := by decide +kernel
theorem dX9_richestPaidFor_15 : decode cX9_richestPaidFor 15 = .ok (.iload_n 1, 1) := by decide +kernel
theorem dX9_richestPaidFor_16 : decode cX9_richestPaidFor 16 = .ok (.iconst (-1), 1) := by decide +kernel
theorem dX9_richestPaidFor_17 : decode cX9_richestPaidFor 17 = .ok (.if_icmp .eq 40, 3) := by decide +kernel
theorem dX9_richestPaidFor_20 : decode cX9_richestPaidFor 20 = .ok (.aload_n 0, 1) := by decide +kernel
theorem dX9_richestPaidFor_21 : decode cX9_richestPaidFor 21 = .ok (.getfield 25, 3) := by decide +kernel
theorem dX9_richestPaidFor_24 : decode cX9_richestPaidFor 24 = .ok (.getfield 118, 3) := by decide +kernel
theorem dX9_richestPaidFor_27 : decode cX9_richestPaidFor 27 = .ok (.aload_n 0, 1) := by decide +kernel
theorem dX9_richestPaidFor_28 : decode cX9_richestPaidFor 28 = .ok (.getfield 21, 3) := by decide +kernel
theorem dX9_richestPaidFor_31 : decode cX9_richestPaidFor 31 = .ok (.getfield 121, 3) := by decide +kernel
theorem dX9_richestPaidFor_34 : decode cX9_richestPaidFor 34 = .ok (.iload_n 2, 1) := by decide +kernel
theorem dX9_richestPaidFor_35 : decode cX9_richestPaidFor 35 = .ok (.iaload, 1) := by decide +kernel
theorem dX9_richestPaidFor_36 : decode cX9_richestPaidFor 36 = .ok (.iaload, 1) := by decide +kernel
theorem dX9_richestPaidFor_37 : decode cX9_richestPaidFor 37 = .ok (.aload_n 0, 1) := by decide +kernel
theorem dX9_richestPaidFor_38 : decode cX9_richestPaidFor 38 = .ok (.getfield 25, 3) := by decide +kernel
theorem dX9_richestPaidFor_41 : decode cX9_richestPaidFor 41 = .ok (.getfield 118, 3) := by decide +kernel
theorem dX9_richestPaidFor_44 : decode cX9_richestPaidFor 44 = .ok (.aload_n 0, 1) := by decide +kernel
theorem dX9_richestPaidFor_45 : decode cX9_richestPaidFor 45 = .ok (.getfield 21, 3) := by decide +kernel
theorem dX9_richestPaidFor_48 : decode cX9_richestPaidFor 48 = .ok (.getfield 121, 3) := by decide +kernel
theorem dX9_richestPaidFor_51 : decode cX9_richestPaidFor 51 = .ok (.iload_n 1, 1) := by decide +kernel
theorem dX9_richestPaidFor_52 : decode cX9_richestPaidFor 52 = .ok (.iaload, 1) := by decide +kernel
theorem dX9_richestPaidFor_53 : decode cX9_richestPaidFor 53 = .ok (.iaload, 1) := by decide +kernel
theorem dX9_richestPaidFor_54 : decode cX9_richestPaidFor 54 = .ok (.if_icmp .le 5, 3) := by decide +kernel
theorem dX9_richestPaidFor_57 : decode cX9_richestPaidFor 57 = .ok (.iload_n 2, 1) := by decide +kernel
theorem dX9_richestPaidFor_58 : decode cX9_richestPaidFor 58 = .ok (.istore_n 1, 1) := by decide +kernel
theorem dX9_richestPaidFor_59 : decode cX9_richestPaidFor 59 = .ok (.iinc 2 1, 3) := by decide +kernel
theorem dX9_richestPaidFor_62 : decode cX9_richestPaidFor 62 = .ok (.goto (-58), 3) := by decide +kernel
theorem dX9_richestPaidFor_65 : decode cX9_richestPaidFor 65 = .ok (.iload_n 1, 1) := by decide +kernel
theorem dX9_richestPaidFor_66 : decode cX9_richestPaidFor 66 = .ok (.ireturn, 1) := by decide +kernel
theorem dX9_chairsGone_0 : decode cX9_chairsGone 0 = .ok (.aload_n 0, 1) := by decide +kernel
theorem dX9_chairsGone_1 : decode cX9_chairsGone 1 = .ok (.iconst 0, 1) := by decide +kernel
theorem dX9_chairsGone_2 : decode cX9_chairsGone 2 = .ok (.iload_n 1, 1) := by decide +kernel
theorem dX9_chairsGone_3 : decode cX9_chairsGone 3 = .ok (.invokevirtual 124, 3) := by decide +kernel
theorem dX9_chairsGone_6 : decode cX9_chairsGone 6 = .ok (.iload_n 2, 1) := by decide +kernel
theorem dX9_chairsGone_7 : decode cX9_chairsGone 7 = .ok (.if_icmp .ne 9, 3) := by decide +kernel
theorem dX9_chairsGone_10 : decode cX9_chairsGone 10 = .ok (.sipush 512, 3) := by decide +kernel
theorem dX9_chairsGone_13 : decode cX9_chairsGone 13 = .ok (.goto 4, 3) := by decide +kernel
theorem dX9_chairsGone_16 : decode cX9_chairsGone 16 = .ok (.iconst 0, 1) := by decide +kernel
theorem dX9_chairsGone_17 : decode cX9_chairsGone 17 = .ok (.istore_n 3, 1) := by decide +kernel
theorem dX9_chairsGone_18 : decode cX9_chairsGone 18 = .ok (.iconst 0, 1) := by decide +kernel
theorem dX9_chairsGone_19 : decode cX9_chairsGone 19 = .ok (.istore 4, 2) := by decide +kernel
theorem dX9_chairsGone_21 : decode cX9_chairsGone 21 = .ok (.iload 4, 2) := by decide +kernel
theorem dX9_chairsGone_23 : decode cX9_chairsGone 23 = .ok (.aload_n 0, 1) := by decide +kernel
theorem dX9_chairsGone_24 : decode cX9_chairsGone 24 = .ok (.getfield 21, 3) := by decide +kernel
theorem dX9_chairsGone_27 : decode cX9_chairsGone 27 = .ok (.getfield 59, 3) := by decide +kernel
theorem dX9_chairsGone_30 : decode cX9_chairsGone 30 = .ok (.if_icmp .ge 29, 3) := by decide +kernel
theorem dX9_chairsGone_33 : decode cX9_chairsGone 33 = .ok (.aload_n 0, 1) := by decide +kernel
theorem dX9_chairsGone_34 : decode cX9_chairsGone 34 = .ok (.iconst 1, 1) := by decide +kernel
theorem dX9_chairsGone_35 : decode cX9_chairsGone 35 = .ok (.iload 4, 2) := by decide +kernel
theorem dX9_chairsGone_37 : decode cX9_chairsGone 37 = .ok (.ishl, 1) := by decide +kernel
theorem dX9_chairsGone_38 : decode cX9_chairsGone 38 = .ok (.iload_n 1, 1) := by decide +kernel
theorem dX9_chairsGone_39 : decode cX9_chairsGone 39 = .ok (.invokevirtual 124, 3) := by decide +kernel
theorem dX9_chairsGone_42 : decode cX9_chairsGone 42 = .ok (.iload_n 2, 1) := by decide +kernel
theorem dX9_chairsGone_43 : decode cX9_chairsGone 43 = .ok (.if_icmp .ne 10, 3) := by decide +kernel
theorem dX9_chairsGone_46 : decode cX9_chairsGone 46 = .ok (.iload_n 3, 1) := by decide +kernel
theorem dX9_chairsGone_47 : decode cX9_chairsGone 47 = .ok (.iconst 1, 1) := by decide +kernel
theorem dX9_chairsGone_48 : decode cX9_chairsGone 48 = .ok (.iload 4, 2) := by decide +kernel
theorem dX9_chairsGone_50 : decode cX9_chairsGone 50 = .ok (.ishl, 1) := by decide +kernel
theorem dX9_chairsGone_51 : decode cX9_chairsGone 51 = .ok (.ior, 1) := by decide +kernel
theorem dX9_chairsGone_52 : decode cX9_chairsGone 52 = .ok (.istore_n 3, 1) := by decide +kernel
theorem dX9_chairsGone_53 : decode cX9_chairsGone 53 = .ok (.iinc 4 1, 3) := by decide +kernel
theorem dX9_chairsGone_56 : decode cX9_chairsGone 56 = .ok (.goto (-35), 3) := by decide +kernel
theorem dX9_chairsGone_59 : decode cX9_chairsGone 59 = .ok (.iload_n 3, 1) := by decide +kernel
theorem dX9_chairsGone_60 : decode cX9_chairsGone 60 = .ok (.ireturn, 1) := by decide +kernel
theorem dX9_sitBehind_0 : decode cX9_sitBehind 0 = .ok (.aload_n 0, 1) := by decide +kernel
theorem dX9_sitBehind_1 : decode cX9_sitBehind 1 = .ok (.getfield 25, 3) := by decide +kernel
theorem dX9_sitBehind_4 : decode cX9_sitBehind 4 = .ok (.aload_n 0, 1) := by decide +kernel
theorem dX9_sitBehind_5 : decode cX9_sitBehind 5 = .ok (.getfield 9, 3) := by decide +kernel
theorem dX9_sitBehind_8 : decode cX9_sitBehind 8 = .ok (.invokevirtual 48, 3) := by decide +kernel
theorem dX9_sitBehind_11 : decode cX9_sitBehind 11 = .ok (.aload_n 0, 1) := by decide +kernel
theorem dX9_sitBehind_12 : decode cX9_sitBehind 12 = .ok (.getfield 25, 3) := by decide +kernel
theorem dX9_sitBehind_15 : decode cX9_sitBehind 15 = .ok (.dup, 1) := by decide +kernel
theorem dX9_sitBehind_16 : decode cX9_sitBehind 16 = .ok (.getfield 78, 3) := by decide +kernel
theorem dX9_sitBehind_19 : decode cX9_sitBehind 19 = .ok (.iload_n 1, 1) := by decide +kernel
theorem dX9_sitBehind_20 : decode cX9_sitBehind 20 = .ok (.ior, 1) := by decide +kernel
theorem dX9_sitBehind_21 : decode cX9_sitBehind 21 = .ok (.putfield 78, 3) := by decide +kernel
theorem dX9_sitBehind_24 : decode cX9_sitBehind 24 = .ok (.iconst 0, 1) := by decide +kernel
theorem dX9_sitBehind_25 : decode cX9_sitBehind 25 = .ok (.istore_n 3, 1) := by decide +kernel
theorem dX9_sitBehind_26 : decode cX9_sitBehind 26 = .ok (.iload_n 3, 1) := by decide +kernel
theorem dX9_sitBehind_27 : decode cX9_sitBehind 27 = .ok (.iload_n 2, 1) := by decide +kernel
theorem dX9_sitBehind_28 : decode cX9_sitBehind 28 = .ok (.if_icmp .ge 18, 3) := by decide +kernel
theorem dX9_sitBehind_31 : decode cX9_sitBehind 31 = .ok (.aload_n 0, 1) := by decide +kernel
theorem dX9_sitBehind_32 : decode cX9_sitBehind 32 = .ok (.getfield 25, 3) := by decide +kernel
theorem dX9_sitBehind_35 : decode cX9_sitBehind 35 = .ok (.iconst (-1), 1) := by decide +kernel
theorem dX9_sitBehind_36 : decode cX9_sitBehind 36 = .ok (.invokevirtual 67, 3) := by decide +kernel
theorem dX9_sitBehind_39 : decode cX9_sitBehind 39 = .ok (.pop, 1) := by decide +kernel
theorem dX9_sitBehind_40 : decode cX9_sitBehind 40 = .ok (.iinc 3 1, 3) := by decide +kernel
theorem dX9_sitBehind_43 : decode cX9_sitBehind 43 = .ok (.goto (-17), 3) := by decide +kernel
theorem dX9_sitBehind_46 : decode cX9_sitBehind 46 = .ok (.aload_n 0, 1) := by decide +kernel
theorem dX9_sitBehind_47 : decode cX9_sitBehind 47 = .ok (.getfield 25, 3) := by decide +kernel
theorem dX9_sitBehind_50 : decode cX9_sitBehind 50 = .ok (.getfield 64, 3) := by decide +kernel
theorem dX9_sitBehind_53 : decode cX9_sitBehind 53 = .ok (.ireturn, 1) := by decide +kernel
theorem dX9_mostDishes_0 : decode cX9_mostDishes 0 = .ok (.aload_n 0, 1) := by decide +kernel
theorem dX9_mostDishes_1 : decode cX9_mostDishes 1 = .ok (.invokevirtual 128, 3) := by decide +kernel
theorem dX9_mostDishes_4 : decode cX9_mostDishes 4 = .ok (.istore_n 1, 1) := by decide +kernel
theorem dX9_mostDishes_5 : decode cX9_mostDishes 5 = .ok (.iconst 0, 1) := by decide +kernel
theorem dX9_mostDishes_6 : decode cX9_mostDishes 6 = .ok (.istore_n 2, 1) := by decide +kernel
theorem dX9_mostDishes_7 : decode cX9_mostDishes 7 = .ok (.iconst 1, 1) := by decide +kernel
theorem dX9_mostDishes_8 : decode cX9_mostDishes 8 = .ok (.istore_n 3, 1) := by decide +kernel
theorem dX9_mostDishes_9 : decode cX9_mostDishes 9 = .ok (.iload_n 3, 1) := by decide +kernel
theorem dX9_mostDishes_10 : decode cX9_mostDishes 10 = .ok (.iconst 1, 1) := by decide +kernel
theorem dX9_mostDishes_11 : decode cX9_mostDishes 11 = .ok (.aload_n 0, 1) := by decide +kernel
theorem dX9_mostDishes_12 : decode cX9_mostDishes 12 = .ok (.getfield 21, 3) := by decide +kernel
theorem dX9_mostDishes_15 : decode cX9_mostDishes 15 = .ok (.getfield 131, 3) := by decide +kernel
theorem dX9_mostDishes_18 : decode cX9_mostDishes 18 = .ok (.ishl, 1) := by decide +kernel
theorem dX9_mostDishes_19 : decode cX9_mostDishes 19 = .ok (.if_icmp .ge 61, 3) := by decide +kernel
theorem dX9_mostDishes_22 : decode cX9_mostDishes 22 = .ok (.aload_n 0, 1) := by decide +kernel
theorem dX9_mostDishes_23 : decode cX9_mostDishes 23 = .ok (.getfield 21, 3) := by decide +kernel
theorem dX9_mostDishes_26 : decode cX9_mostDishes 26 = .ok (.iload_n 3, 1) := by decide +kernel
theorem dX9_mostDishes_27 : decode cX9_mostDishes 27 = .ok (.invokevirtual 134, 3) := by decide +kernel
theorem dX9_mostDishes_30 : decode cX9_mostDishes 30 = .ok (.istore 4, 2) := by decide +kernel
theorem dX9_mostDishes_32 : decode cX9_mostDishes 32 = .ok (.iload_n 3, 1) := by decide +kernel
theorem dX9_mostDishes_33 : decode cX9_mostDishes 33 = .ok (.invokestatic 87, 3) := by decide +kernel
theorem dX9_mostDishes_36 : decode cX9_mostDishes 36 = .ok (.iload_n 2, 1) := by decide +kernel
theorem dX9_mostDishes_37 : decode cX9_mostDishes 37 = .ok (.invokestatic 87, 3) := by decide +kernel
theorem dX9_mostDishes_40 : decode cX9_mostDishes 40 = .ok (.isub, 1) := by decide +kernel
theorem dX9_mostDishes_41 : decode cX9_mostDishes 41 = .ok (.istore 5, 2) := by decide +kernel
theorem dX9_mostDishes_43 : decode cX9_mostDishes 43 = .ok (.iload 4, 2) := by decide +kernel
theorem dX9_mostDishes_45 : decode cX9_mostDishes 45 = .ok (.iload_n 1, 1) := by decide +kernel
theorem dX9_mostDishes_46 : decode cX9_mostDishes 46 = .ok (.if_icmp .gt 28, 3) := by decide +kernel
theorem dX9_mostDishes_49 : decode cX9_mostDishes 49 = .ok (.iload 5, 2) := by decide +kernel
theorem dX9_mostDishes_51 : decode cX9_mostDishes 51 = .ok (.ifCond .gt 21, 3) := by decide +kernel
theorem dX9_mostDishes_54 : decode cX9_mostDishes 54 = .ok (.iload 5, 2) := by decide +kernel
theorem dX9_mostDishes_56 : decode cX9_mostDishes 56 = .ok (.ifCond .ne 18, 3) := by decide +kernel
theorem dX9_mostDishes_59 : decode cX9_mostDishes 59 = .ok (.iload 4, 2) := by decide +kernel
theorem dX9_mostDishes_61 : decode cX9_mostDishes 61 = .ok (.aload_n 0, 1) := by decide +kernel
theorem dX9_mostDishes_62 : decode cX9_mostDishes 62 = .ok (.getfield 21, 3) := by decide +kernel
theorem dX9_mostDishes_65 : decode cX9_mostDishes 65 = .ok (.iload_n 2, 1) := by decide +kernel
theorem dX9_mostDishes_66 : decode cX9_mostDishes 66 = .ok (.invokevirtual 134, 3) := by decide +kernel
theorem dX9_mostDishes_69 : decode cX9_mostDishes 69 = .ok (.if_icmp .ge 5, 3) := by decide +kernel
theorem dX9_mostDishes_72 : decode cX9_mostDishes 72 = .ok (.iload_n 3, 1) := by decide +kernel
theorem dX9_mostDishes_73 : decode cX9_mostDishes 73 = .ok (.istore_n 2, 1) := by decide +kernel
theorem dX9_mostDishes_74 : decode cX9_mostDishes 74 = .ok (.iinc 3 1, 3) := by decide +kernel
theorem dX9_mostDishes_77 : decode cX9_mostDishes 77 = .ok (.goto (-68), 3) := by decide +kernel
theorem dX9_mostDishes_80 : decode cX9_mostDishes 80 = .ok (.aload_n 0, 1) := by decide +kernel
theorem dX9_mostDishes_81 : decode cX9_mostDishes 81 = .ok (.iload_n 2, 1) := by decide +kernel
theorem dX9_mostDishes_82 : decode cX9_mostDishes 82 = .ok (.putfield 42, 3) := by decide +kernel
theorem dX9_mostDishes_85 : decode cX9_mostDishes 85 = .ok (.iload_n 2, 1) := by decide +kernel
theorem dX9_mostDishes_86 : decode cX9_mostDishes 86 = .ok (.invokestatic 87, 3) := by decide +kernel
theorem dX9_mostDishes_89 : decode cX9_mostDishes 89 = .ok (.ireturn, 1) := by decide +kernel
theorem dX9_fewestCoinsOfPayers_0 : decode cX9_fewestCoinsOfPayers 0 = .ok (.sipush 9999, 3) := by decide +kernel
theorem dX9_fewestCoinsOfPayers_3 : decode cX9_fewestCoinsOfPayers 3 = .ok (.istore_n 1, 1) := by decide +kernel
theorem dX9_fewestCoinsOfPayers_4 : decode cX9_fewestCoinsOfPayers 4 = .ok (.iconst 0, 1) := by decide +kernel
theorem dX9_fewestCoinsOfPayers_5 : decode cX9_fewestCoinsOfPayers 5 = .ok (.istore_n 2, 1) := by decide +kernel
theorem dX9_fewestCoinsOfPayers_6 : decode cX9_fewestCoinsOfPayers 6 = .ok (.iload_n 2, 1) := by decide +kernel
theorem dX9_fewestCoinsOfPayers_7 : decode cX9_fewestCoinsOfPayers 7 = .ok (.aload_n 0, 1) := by decide +kernel
theorem dX9_fewestCoinsOfPayers_8 : decode cX9_fewestCoinsOfPayers 8 = .ok (.getfield 21, 3) := by decide +kernel
theorem dX9_fewestCoinsOfPayers_11 : decode cX9_fewestCoinsOfPayers 11 = .ok (.getfield 96, 3) := by decide +kernel
theorem dX9_fewestCoinsOfPayers_14 : decode cX9_fewestCoinsOfPayers 14 = .ok (.if_icmp .ge 31, 3) := by decide +kernel
theorem dX9_fewestCoinsOfPayers_17 : decode cX9_fewestCoinsOfPayers 17 = .ok (.iload_n 1, 1) := by decide +kernel
theorem dX9_fewestCoinsOfPayers_18 : decode cX9_fewestCoinsOfPayers 18 = .ok (.aload_n 0, 1) := by decide +kernel
theorem dX9_fewestCoinsOfPayers_19 : decode cX9_fewestCoinsOfPayers 19 = .ok (.getfield 9, 3) := by decide +kernel
theorem dX9_fewestCoinsOfPayers_22 : decode cX9_fewestCoinsOfPayers 22 = .ok (.getfield 118, 3) := by decide +kernel
theorem dX9_fewestCoinsOfPayers_25 : decode cX9_fewestCoinsOfPayers 25 = .ok (.aload_n 0, 1) := by decide +kernel
theorem dX9_fewestCoinsOfPayers_26 : decode cX9_fewestCoinsOfPayers 26 = .ok (.getfield 21, 3) := by decide +kernel
theorem dX9_fewestCoinsOfPayers_29 : decode cX9_fewestCoinsOfPayers 29 = .ok (.getfield 121, 3) := by decide +kernel
theorem dX9_fewestCoinsOfPayers_32 : decode cX9_fewestCoinsOfPayers 32 = .ok (.iload_n 2, 1) := by decide +kernel
theorem dX9_fewestCoinsOfPayers_33 : decode cX9_fewestCoinsOfPayers 33 = .ok (.iaload, 1) := by decide +kernel
theorem dX9_fewestCoinsOfPayers_34 : decode cX9_fewestCoinsOfPayers 34 = .ok (.iaload, 1) := by decide +kernel
theorem dX9_fewestCoinsOfPayers_35 : decode cX9_fewestCoinsOfPayers 35 = .ok (.invokestatic 137, 3) := by decide +kernel
theorem dX9_fewestCoinsOfPayers_38 : decode cX9_fewestCoinsOfPayers 38 = .ok (.istore_n 1, 1) := by decide +kernel
theorem dX9_fewestCoinsOfPayers_39 : decode cX9_fewestCoinsOfPayers 39 = .ok (.iinc 2 1, 3) := by decide +kernel
theorem dX9_fewestCoinsOfPayers_42 : decode cX9_fewestCoinsOfPayers 42 = .ok (.goto (-36), 3) := by decide +kernel
theorem dX9_fewestCoinsOfPayers_45 : decode cX9_fewestCoinsOfPayers 45 = .ok (.iload_n 1, 1) := by decide +kernel
theorem dX9_fewestCoinsOfPayers_46 : decode cX9_fewestCoinsOfPayers 46 = .ok (.ireturn, 1) := by decide +kernel
theorem dX9_pridesBy_0 : decode cX9_pridesBy 0 = .ok (.aload_n 1, 1) := by decide +kernel
theorem dX9_pridesBy_1 : decode cX9_pridesBy 1 = .ok (.getfield 142, 3) := by decide +kernel
theorem dX9_pridesBy_4 : decode cX9_pridesBy 4 = .ok (.iconst 2, 1) := by decide +kernel
theorem dX9_pridesBy_5 : decode cX9_pridesBy 5 = .ok (.idiv, 1) := by decide +kernel
theorem dX9_pridesBy_6 : decode cX9_pridesBy 6 = .ok (.istore_n 2, 1) := by decide +kernel
theorem dX9_pridesBy_7 : decode cX9_pridesBy 7 = .ok (.aload_n 1, 1) := by decide +kernel
theorem dX9_pridesBy_8 : decode cX9_pridesBy 8 = .ok (.getfield 142, 3) := by decide +kernel
theorem dX9_pridesBy_11 : decode cX9_pridesBy 11 = .ok (.iconst 2, 1) := by decide +kernel
theorem dX9_pridesBy_12 : decode cX9_pridesBy 12 = .ok (.irem, 1) := by decide +kernel
theorem dX9_pridesBy_13 : decode cX9_pridesBy 13 = .ok (.ifCond .ne 14, 3) := by decide +kernel
theorem dX9_pridesBy_16 : decode cX9_pridesBy 16 = .ok (.iload_n 2, 1) := by decide +kernel
theorem dX9_pridesBy_17 : decode cX9_pridesBy 17 = .ok (.iconst 1, 1) := by decide +kernel
theorem dX9_pridesBy_18 : decode cX9_pridesBy 18 = .ok (.if_icmp .lt 9, 3) := by decide +kernel
theorem dX9_pridesBy_21 : decode cX9_pridesBy 21 = .ok (.iload_n 2, 1) := by decide +kernel
theorem dX9_pridesBy_22 : decode cX9_pridesBy 22 = .ok (.bipush 8, 2) := by decide +kernel
theorem dX9_pridesBy_24 : decode cX9_pridesBy 24 = .ok (.if_icmp .le 5, 3) := by decide +kernel
theorem dX9_pridesBy_27 : decode cX9_pridesBy 27 = .ok (.iconst (-1), 1) := by decide +kernel
theorem dX9_pridesBy_28 : decode cX9_pridesBy 28 = .ok (.ireturn, 1) := by decide +kernel
theorem dX9_pridesBy_29 : decode cX9_pridesBy 29 = .ok (.sipush 1023, 3) := by decide +kernel
theorem dX9_pridesBy_32 : decode cX9_pridesBy 32 = .ok (.istore_n 3, 1) := by decide +kernel
theorem dX9_pridesBy_33 : decode cX9_pridesBy 33 = .ok (.iconst 0, 1) := by decide +kernel
theorem dX9_pridesBy_34 : decode cX9_pridesBy 34 = .ok (.istore 4, 2) := by decide +kernel
theorem dX9_pridesBy_36 : decode cX9_pridesBy 36 = .ok (.iload 4, 2) := by decide +kernel
theorem dX9_pridesBy_38 : decode cX9_pridesBy 38 = .ok (.iload_n 2, 1) := by decide +kernel
theorem dX9_pridesBy_39 : decode cX9_pridesBy 39 = .ok (.if_icmp .ge 60, 3) := by decide +kernel
theorem dX9_pridesBy_42 : decode cX9_pridesBy 42 = .ok (.aload_n 1, 1) := by decide +kernel
theorem dX9_pridesBy_43 : decode cX9_pridesBy 43 = .ok (.iconst 2, 1) := by decide +kernel
theorem dX9_pridesBy_44 : decode cX9_pridesBy 44 = .ok (.iload 4, 2) := by decide +kernel
theorem dX9_pridesBy_46 : decode cX9_pridesBy 46 = .ok (.imul, 1) := by decide +kernel
theorem dX9_pridesBy_47 : decode cX9_pridesBy 47 = .ok (.iconst 1, 1) := by decide +kernel
theorem dX9_pridesBy_48 : decode cX9_pridesBy 48 = .ok (.iadd, 1) := by decide +kernel
theorem dX9_pridesBy_49 : decode cX9_pridesBy 49 = .ok (.invokevirtual 147, 3) := by decide +kernel
theorem dX9_pridesBy_52 : decode cX9_pridesBy 52 = .ok (.istore 5, 2) := by decide +kernel
theorem dX9_pridesBy_54 : decode cX9_pridesBy 54 = .ok (.iload 5, 2) := by decide +kernel
theorem dX9_pridesBy_56 : decode cX9_pridesBy 56 = .ok (.iconst 1, 1) := by decide +kernel
theorem dX9_pridesBy_57 : decode cX9_pridesBy 57 = .ok (.if_icmp .le 5, 3) := by decide +kernel
theorem dX9_pridesBy_60 : decode cX9_pridesBy 60 = .ok (.iconst (-1), 1) := by decide +kernel
theorem dX9_pridesBy_61 : decode cX9_pridesBy 61 = .ok (.ireturn, 1) := by decide +kernel
theorem dX9_pridesBy_62 : decode cX9_pridesBy 62 = .ok (.aload_n 1, 1) := by decide +kernel
theorem dX9_pridesBy_63 : decode cX9_pridesBy 63 = .ok (.iconst 2, 1) := by decide +kernel
theorem dX9_pridesBy_64 : decode cX9_pridesBy 64 = .ok (.iload 4, 2) := by decide +kernel
theorem dX9_pridesBy_66 : decode cX9_pridesBy 66 = .ok (.imul, 1) := by decide +kernel
theorem dX9_pridesBy_67 : decode cX9_pridesBy 67 = .ok (.invokevirtual 147, 3) := by decide +kernel
theorem dX9_pridesBy_70 : decode cX9_pridesBy 70 = .ok (.invokestatic 150, 3) := by decide +kernel
theorem dX9_pridesBy_73 : decode cX9_pridesBy 73 = .ok (.istore 6, 2) := by decide +kernel
theorem dX9_pridesBy_75 : decode cX9_pridesBy 75 = .ok (.iload_n 3, 1) := by decide +kernel
theorem dX9_pridesBy_76 : decode cX9_pridesBy 76 = .ok (.iload 5, 2) := by decide +kernel
theorem dX9_pridesBy_78 : decode cX9_pridesBy 78 = .ok (.iconst 1, 1) := by decide +kernel
theorem dX9_pridesBy_79 : decode cX9_pridesBy 79 = .ok (.if_icmp .ne 8, 3) := by decide +kernel
theorem dX9_pridesBy_82 : decode cX9_pridesBy 82 = .ok (.iload 6, 2) := by decide +kernel
theorem dX9_pridesBy_84 : decode cX9_pridesBy 84 = .ok (.goto 7, 3) := by decide +kernel
theorem dX9_pridesBy_87 : decode cX9_pridesBy 87 = .ok (.iload 6, 2) := by decide +kernel
theorem dX9_pridesBy_89 : decode cX9_pridesBy 89 = .ok (.iconst (-1), 1) := by decide +kernel
theorem dX9_pridesBy_90 : decode cX9_pridesBy 90 = .ok (.ixor, 1) := by decide +kernel
theorem dX9_pridesBy_91 : decode cX9_pridesBy 91 = .ok (.iand, 1) := by decide +kernel
theorem dX9_pridesBy_92 : decode cX9_pridesBy 92 = .ok (.istore_n 3, 1) := by decide +kernel
theorem dX9_pridesBy_93 : decode cX9_pridesBy 93 = .ok (.iinc 4 1, 3) := by decide +kernel
theorem dX9_pridesBy_96 : decode cX9_pridesBy 96 = .ok (.goto (-60), 3) := by decide +kernel
theorem dX9_pridesBy_99 : decode cX9_pridesBy 99 = .ok (.iload_n 3, 1) := by decide +kernel
theorem dX9_pridesBy_100 : decode cX9_pridesBy 100 = .ok (.ifCond .le 11, 3) := by decide +kernel
theorem dX9_pridesBy_103 : decode cX9_pridesBy 103 = .ok (.aload_n 0, 1) := by decide +kernel
theorem dX9_pridesBy_104 : decode cX9_pridesBy 104 = .ok (.iload_n 3, 1) := by decide +kernel
theorem dX9_pridesBy_105 : decode cX9_pridesBy 105 = .ok (.invokestatic 153, 3) := by decide +kernel
theorem dX9_pridesBy_108 : decode cX9_pridesBy 108 = .ok (.putfield 45, 3) := by decide +kernel
theorem dX9_pridesBy_111 : decode cX9_pridesBy 111 = .ok (.iload_n 3, 1) := by decide +kernel
theorem dX9_pridesBy_112 : decode cX9_pridesBy 112 = .ok (.ireturn, 1) := by decide +kernel
theorem dX9_pridesUpTo_0 : decode cX9_pridesUpTo 0 = .ok (.iconst 1, 1) := by decide +kernel
theorem dX9_pridesUpTo_1 : decode cX9_pridesUpTo 1 = .ok (.iload_n 0, 1) := by decide +kernel
theorem dX9_pridesUpTo_2 : decode cX9_pridesUpTo 2 = .ok (.bipush 9, 2) := by decide +kernel
theorem dX9_pridesUpTo_4 : decode cX9_pridesUpTo 4 = .ok (.invokestatic 137, 3) := by decide +kernel
theorem dX9_pridesUpTo_7 : decode cX9_pridesUpTo 7 = .ok (.iconst 1, 1) := by decide +kernel
theorem dX9_pridesUpTo_8 : decode cX9_pridesUpTo 8 = .ok (.iadd, 1) := by decide +kernel
theorem dX9_pridesUpTo_9 : decode cX9_pridesUpTo 9 = .ok (.ishl, 1) := by decide +kernel
theorem dX9_pridesUpTo_10 : decode cX9_pridesUpTo 10 = .ok (.iconst 1, 1) := by decide +kernel
theorem dX9_pridesUpTo_11 : decode cX9_pridesUpTo 11 = .ok (.isub, 1) := by decide +kernel
theorem dX9_pridesUpTo_12 : decode cX9_pridesUpTo 12 = .ok (.ireturn, 1) := by decide +kernel
theorem dX9_bestWatch_0 : decode cX9_bestWatch 0 = .ok (.iconst 0, 1) := by decide +kernel
theorem dX9_bestWatch_1 : decode cX9_bestWatch 1 = .ok (.istore_n 1, 1) := by decide +kernel
theorem dX9_bestWatch_2 : decode cX9_bestWatch 2 = .ok (.bipush 11, 2) := by decide +kernel
theorem dX9_bestWatch_4 : decode cX9_bestWatch 4 = .ok (.istore_n 2, 1) := by decide +kernel
theorem dX9_bestWatch_5 : decode cX9_bestWatch 5 = .ok (.iconst 0, 1) := by decide +kernel
theorem dX9_bestWatch_6 : decode cX9_bestWatch 6 = .ok (.istore_n 3, 1) := by decide +kernel
theorem dX9_bestWatch_7 : decode cX9_bestWatch 7 = .ok (.iload_n 3, 1) := by decide +kernel
theorem dX9_bestWatch_8 : decode cX9_bestWatch 8 = .ok (.bipush 9, 2) := by decide +kernel
theorem dX9_bestWatch_10 : decode cX9_bestWatch 10 = .ok (.if_icmp .gt 45, 3) := by decide +kernel
theorem dX9_bestWatch_13 : decode cX9_bestWatch 13 = .ok (.iload_n 0, 1) := by decide +kernel
theorem dX9_bestWatch_14 : decode cX9_bestWatch 14 = .ok (.iload_n 3, 1) := by decide +kernel
theorem dX9_bestWatch_15 : decode cX9_bestWatch 15 = .ok (.invokestatic 150, 3) := by decide +kernel
theorem dX9_bestWatch_18 : decode cX9_bestWatch 18 = .ok (.iand, 1) := by decide +kernel
theorem dX9_bestWatch_19 : decode cX9_bestWatch 19 = .ok (.invokestatic 87, 3) := by decide +kernel
theorem dX9_bestWatch_22 : decode cX9_bestWatch 22 = .ok (.istore 4, 2) := by decide +kernel
theorem dX9_bestWatch_24 : decode cX9_bestWatch 24 = .ok (.iload 4, 2) := by decide +kernel
theorem dX9_bestWatch_26 : decode cX9_bestWatch 26 = .ok (.iload_n 0, 1) := by decide +kernel
theorem dX9_bestWatch_27 : decode cX9_bestWatch 27 = .ok (.invokestatic 87, 3) := by decide +kernel
theorem dX9_bestWatch_30 : decode cX9_bestWatch 30 = .ok (.iload 4, 2) := by decide +kernel
theorem dX9_bestWatch_32 : decode cX9_bestWatch 32 = .ok (.isub, 1) := by decide +kernel
theorem dX9_bestWatch_33 : decode cX9_bestWatch 33 = .ok (.invokestatic 156, 3) := by decide +kernel
theorem dX9_bestWatch_36 : decode cX9_bestWatch 36 = .ok (.istore 5, 2) := by decide +kernel
theorem dX9_bestWatch_38 : decode cX9_bestWatch 38 = .ok (.iload 5, 2) := by decide +kernel
theorem dX9_bestWatch_40 : decode cX9_bestWatch 40 = .ok (.iload_n 2, 1) := by decide +kernel
theorem dX9_bestWatch_41 : decode cX9_bestWatch 41 = .ok (.if_icmp .ge 8, 3) := by decide +kernel
theorem dX9_bestWatch_44 : decode cX9_bestWatch 44 = .ok (.iload 5, 2) := by decide +kernel
theorem dX9_bestWatch_46 : decode cX9_bestWatch 46 = .ok (.istore_n 2, 1) := by decide +kernel
theorem dX9_bestWatch_47 : decode cX9_bestWatch 47 = .ok (.iload_n 3, 1) := by decide +kernel
theorem dX9_bestWatch_48 : decode cX9_bestWatch 48 = .ok (.istore_n 1, 1) := by decide +kernel
theorem dX9_bestWatch_49 : decode cX9_bestWatch 49 = .ok (.iinc 3 1, 3) := by decide +kernel
theorem dX9_bestWatch_52 : decode cX9_bestWatch 52 = .ok (.goto (-45), 3) := by decide +kernel
theorem dX9_bestWatch_55 : decode cX9_bestWatch 55 = .ok (.iload_n 1, 1) := by decide +kernel
theorem dX9_bestWatch_56 : decode cX9_bestWatch 56 = .ok (.ireturn, 1) := by decide +kernel
theorem dX9_seedsThatMakeHost_0 : decode cX9_seedsThatMakeHost 0 = .ok (.iconst 0, 1) := by decide +kernel
theorem dX9_seedsThatMakeHost_1 : decode cX9_seedsThatMakeHost 1 = .ok (.istore 4, 2) := by decide +kernel
theorem dX9_seedsThatMakeHost_3 : decode cX9_seedsThatMakeHost 3 = .ok (.iconst 0, 1) := by decide +kernel
theorem dX9_seedsThatMakeHost_4 : decode cX9_seedsThatMakeHost 4 = .ok (.istore 5, 2) := by decide +kernel
theorem dX9_seedsThatMakeHost_6 : decode cX9_seedsThatMakeHost 6 = .ok (.iload 5, 2) := by decide +kernel
theorem dX9_seedsThatMakeHost_8 : decode cX9_seedsThatMakeHost 8 = .ok (.iload_n 2, 1) := by decide +kernel
theorem dX9_seedsThatMakeHost_9 : decode cX9_seedsThatMakeHost 9 = .ok (.if_icmp .ge 58, 3) := by decide +kernel
theorem dX9_seedsThatMakeHost_12 : decode cX9_seedsThatMakeHost 12 = .ok (.aload_n 0, 1) := by decide +kernel
theorem dX9_seedsThatMakeHost_13 : decode cX9_seedsThatMakeHost 13 = .ok (.getfield 25, 3) := by decide +kernel
theorem dX9_seedsThatMakeHost_16 : decode cX9_seedsThatMakeHost 16 = .ok (.aload_n 0, 1) := by decide +kernel
theorem dX9_seedsThatMakeHost_17 : decode cX9_seedsThatMakeHost 17 = .ok (.getfield 9, 3) := by decide +kernel
theorem dX9_seedsThatMakeHost_20 : decode cX9_seedsThatMakeHost 20 = .ok (.invokevirtual 48, 3) := by decide +kernel
theorem dX9_seedsThatMakeHost_23 : decode cX9_seedsThatMakeHost 23 = .ok (.aload_n 0, 1) := by decide +kernel
theorem dX9_seedsThatMakeHost_24 : decode cX9_seedsThatMakeHost 24 = .ok (.getfield 25, 3) := by decide +kernel
theorem dX9_seedsThatMakeHost_27 : decode cX9_seedsThatMakeHost 27 = .ok (.bipush 20, 2) := by decide +kernel
theorem dX9_seedsThatMakeHost_29 : decode cX9_seedsThatMakeHost 29 = .ok (.iload_n 3, 1) := by decide +kernel
theorem dX9_seedsThatMakeHost_30 : decode cX9_seedsThatMakeHost 30 = .ok (.iload 5, 2) := by decide +kernel
theorem dX9_seedsThatMakeHost_32 : decode cX9_seedsThatMakeHost 32 = .ok (.iadd, 1) := by decide +kernel
theorem dX9_seedsThatMakeHost_33 : decode cX9_seedsThatMakeHost 33 = .ok (.invokevirtual 159, 3) := by decide +kernel
theorem dX9_seedsThatMakeHost_36 : decode cX9_seedsThatMakeHost 36 = .ok (.pop, 1) := by decide +kernel
theorem dX9_seedsThatMakeHost_37 : decode cX9_seedsThatMakeHost 37 = .ok (.aload_n 0, 1) := by decide +kernel
theorem dX9_seedsThatMakeHost_38 : decode cX9_seedsThatMakeHost 38 = .ok (.getfield 25, 3) := by decide +kernel
theorem dX9_seedsThatMakeHost_41 : decode cX9_seedsThatMakeHost 41 = .ok (.getfield 162, 3) := by decide +kernel
theorem dX9_seedsThatMakeHost_44 : decode cX9_seedsThatMakeHost 44 = .ok (.iload_n 1, 1) := by decide +kernel
theorem dX9_seedsThatMakeHost_45 : decode cX9_seedsThatMakeHost 45 = .ok (.iaload, 1) := by decide +kernel
theorem dX9_seedsThatMakeHost_46 : decode cX9_seedsThatMakeHost 46 = .ok (.aload_n 0, 1) := by decide +kernel
theorem dX9_seedsThatMakeHost_47 : decode cX9_seedsThatMakeHost 47 = .ok (.getfield 9, 3) := by decide +kernel
theorem dX9_seedsThatMakeHost_50 : decode cX9_seedsThatMakeHost 50 = .ok (.getfield 162, 3) := by decide +kernel
theorem dX9_seedsThatMakeHost_53 : decode cX9_seedsThatMakeHost 53 = .ok (.iload_n 1, 1) := by decide +kernel
theorem dX9_seedsThatMakeHost_54 : decode cX9_seedsThatMakeHost 54 = .ok (.iaload, 1) := by decide +kernel
theorem dX9_seedsThatMakeHost_55 : decode cX9_seedsThatMakeHost 55 = .ok (.if_icmp .le 6, 3) := by decide +kernel
theorem dX9_seedsThatMakeHost_58 : decode cX9_seedsThatMakeHost 58 = .ok (.iinc 4 1, 3) := by decide +kernel
theorem dX9_seedsThatMakeHost_61 : decode cX9_seedsThatMakeHost 61 = .ok (.iinc 5 1, 3) := by decide +kernel
theorem dX9_seedsThatMakeHost_64 : decode cX9_seedsThatMakeHost 64 = .ok (.goto (-58), 3) := by decide +kernel
theorem dX9_seedsThatMakeHost_67 : decode cX9_seedsThatMakeHost 67 = .ok (.iload 4, 2) := by decide +kernel
theorem dX9_seedsThatMakeHost_69 : decode cX9_seedsThatMakeHost 69 = .ok (.ireturn, 1) := by decide +kernel
