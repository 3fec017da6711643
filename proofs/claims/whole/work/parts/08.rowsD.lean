theorem dX12_thrown_0 : decode cX12_thrown 0 = .ok (.aload_n 0, 1) := by decide +kernel
theorem dX12_thrown_1 : decode cX12_thrown 1 = .ok (.getfield 1, 3) := by decide +kernel
theorem dX12_thrown_4 : decode cX12_thrown 4 = .ok (.ireturn, 1) := by decide +kernel
theorem dX12_throwsIf_0 : decode cX12_throwsIf 0 = .ok (.aload_n 0, 1) := by decide +kernel
theorem dX12_throwsIf_1 : decode cX12_throwsIf 1 = .ok (.iload_n 1, 1) := by decide +kernel
theorem dX12_throwsIf_2 : decode cX12_throwsIf 2 = .ok (.ifCond .eq 7, 3) := by decide +kernel
theorem dX12_throwsIf_5 : decode cX12_throwsIf 5 = .ok (.iconst 1, 1) := by decide +kernel
theorem dX12_throwsIf_6 : decode cX12_throwsIf 6 = .ok (.goto 4, 3) := by decide +kernel
theorem dX12_throwsIf_9 : decode cX12_throwsIf 9 = .ok (.iconst 0, 1) := by decide +kernel
theorem dX12_throwsIf_10 : decode cX12_throwsIf 10 = .ok (.putfield 1, 3) := by decide +kernel
theorem dX12_throwsIf_13 : decode cX12_throwsIf 13 = .ok (.iload_n 1, 1) := by decide +kernel
theorem dX12_throwsIf_14 : decode cX12_throwsIf 14 = .ok (.ireturn, 1) := by decide +kernel
theorem dX12_feed_0 : decode cX12_feed 0 = .ok (.aload_n 0, 1) := by decide +kernel
theorem dX12_feed_1 : decode cX12_feed 1 = .ok (.iconst 0, 1) := by decide +kernel
theorem dX12_feed_2 : decode cX12_feed 2 = .ok (.putfield 1, 3) := by decide +kernel
theorem dX12_feed_5 : decode cX12_feed 5 = .ok (.aload_n 0, 1) := by decide +kernel
theorem dX12_feed_6 : decode cX12_feed 6 = .ok (.getfield 7, 3) := by decide +kernel
theorem dX12_feed_9 : decode cX12_feed 9 = .ok (.bipush 20, 2) := by decide +kernel
theorem dX12_feed_11 : decode cX12_feed 11 = .ok (.iadd, 1) := by decide +kernel
theorem dX12_feed_12 : decode cX12_feed 12 = .ok (.sipush 940, 3) := by decide +kernel
theorem dX12_feed_15 : decode cX12_feed 15 = .ok (.if_icmp .le 5, 3) := by decide +kernel
theorem dX12_feed_18 : decode cX12_feed 18 = .ok (.iconst (-1), 1) := by decide +kernel
theorem dX12_feed_19 : decode cX12_feed 19 = .ok (.ireturn, 1) := by decide +kernel
theorem dX12_feed_20 : decode cX12_feed 20 = .ok (.aload_n 0, 1) := by decide +kernel
theorem dX12_feed_21 : decode cX12_feed 21 = .ok (.iload_n 1, 1) := by decide +kernel
theorem dX12_feed_22 : decode cX12_feed 22 = .ok (.invokevirtual 10, 3) := by decide +kernel
theorem dX12_feed_25 : decode cX12_feed 25 = .ok (.aload_n 0, 1) := by decide +kernel
theorem dX12_feed_26 : decode cX12_feed 26 = .ok (.iload_n 2, 1) := by decide +kernel
theorem dX12_feed_27 : decode cX12_feed 27 = .ok (.invokevirtual 10, 3) := by decide +kernel
theorem dX12_feed_30 : decode cX12_feed 30 = .ok (.aload_n 0, 1) := by decide +kernel
theorem dX12_feed_31 : decode cX12_feed 31 = .ok (.iload_n 3, 1) := by decide +kernel
theorem dX12_feed_32 : decode cX12_feed 32 = .ok (.invokevirtual 10, 3) := by decide +kernel
theorem dX12_feed_35 : decode cX12_feed 35 = .ok (.aload_n 0, 1) := by decide +kernel
theorem dX12_feed_36 : decode cX12_feed 36 = .ok (.iload 4, 2) := by decide +kernel
theorem dX12_feed_38 : decode cX12_feed 38 = .ok (.invokevirtual 10, 3) := by decide +kernel
theorem dX12_feed_41 : decode cX12_feed 41 = .ok (.aload_n 0, 1) := by decide +kernel
theorem dX12_feed_42 : decode cX12_feed 42 = .ok (.iload 5, 2) := by decide +kernel
theorem dX12_feed_44 : decode cX12_feed 44 = .ok (.invokevirtual 10, 3) := by decide +kernel
theorem dX12_feed_47 : decode cX12_feed 47 = .ok (.aload_n 0, 1) := by decide +kernel
theorem dX12_feed_48 : decode cX12_feed 48 = .ok (.getfield 7, 3) := by decide +kernel
theorem dX12_feed_51 : decode cX12_feed 51 = .ok (.ireturn, 1) := by decide +kernel
theorem dX12_four_0 : decode cX12_four 0 = .ok (.bipush 24, 2) := by decide +kernel
theorem dX12_four_2 : decode cX12_four 2 = .ok (.istore_n 2, 1) := by decide +kernel
theorem dX12_four_3 : decode cX12_four 3 = .ok (.iload_n 2, 1) := by decide +kernel
theorem dX12_four_4 : decode cX12_four 4 = .ok (.ifCond .lt 32, 3) := by decide +kernel
theorem dX12_four_7 : decode cX12_four 7 = .ok (.aload_n 0, 1) := by decide +kernel
theorem dX12_four_8 : decode cX12_four 8 = .ok (.getfield 14, 3) := by decide +kernel
theorem dX12_four_11 : decode cX12_four 11 = .ok (.aload_n 0, 1) := by decide +kernel
theorem dX12_four_12 : decode cX12_four 12 = .ok (.getfield 7, 3) := by decide +kernel
theorem dX12_four_15 : decode cX12_four 15 = .ok (.iload_n 1, 1) := by decide +kernel
theorem dX12_four_16 : decode cX12_four 16 = .ok (.iload_n 2, 1) := by decide +kernel
theorem dX12_four_17 : decode cX12_four 17 = .ok (.ishr, 1) := by decide +kernel
theorem dX12_four_18 : decode cX12_four 18 = .ok (.i2b, 1) := by decide +kernel
theorem dX12_four_19 : decode cX12_four 19 = .ok (.bastore, 1) := by decide +kernel
theorem dX12_four_20 : decode cX12_four 20 = .ok (.aload_n 0, 1) := by decide +kernel
theorem dX12_four_21 : decode cX12_four 21 = .ok (.dup, 1) := by decide +kernel
theorem dX12_four_22 : decode cX12_four 22 = .ok (.getfield 7, 3) := by decide +kernel
theorem dX12_four_25 : decode cX12_four 25 = .ok (.iconst 1, 1) := by decide +kernel
theorem dX12_four_26 : decode cX12_four 26 = .ok (.iadd, 1) := by decide +kernel
theorem dX12_four_27 : decode cX12_four 27 = .ok (.putfield 7, 3) := by decide +kernel
theorem dX12_four_30 : decode cX12_four 30 = .ok (.iinc 2 (-8), 3) := by decide +kernel
theorem dX12_four_33 : decode cX12_four 33 = .ok (.goto (-30), 3) := by decide +kernel
theorem dX12_four_36 : decode cX12_four 36 = .ok (.return_, 1) := by decide +kernel
theorem dX12_end_0 : decode cX12_end 0 = .ok (.aload_n 0, 1) := by decide +kernel
theorem dX12_end_1 : decode cX12_end 1 = .ok (.iconst 0, 1) := by decide +kernel
theorem dX12_end_2 : decode cX12_end 2 = .ok (.putfield 1, 3) := by decide +kernel
theorem dX12_end_5 : decode cX12_end 5 = .ok (.iload_n 1, 1) := by decide +kernel
theorem dX12_end_6 : decode cX12_end 6 = .ok (.ifCond .lt 11, 3) := by decide +kernel
theorem dX12_end_9 : decode cX12_end 9 = .ok (.iload_n 1, 1) := by decide +kernel
theorem dX12_end_10 : decode cX12_end 10 = .ok (.aload_n 0, 1) := by decide +kernel
theorem dX12_end_11 : decode cX12_end 11 = .ok (.getfield 7, 3) := by decide +kernel
theorem dX12_end_14 : decode cX12_end 14 = .ok (.if_icmp .le 5, 3) := by decide +kernel
theorem dX12_end_17 : decode cX12_end 17 = .ok (.iconst 0, 1) := by decide +kernel
theorem dX12_end_18 : decode cX12_end 18 = .ok (.ireturn, 1) := by decide +kernel
theorem dX12_end_19 : decode cX12_end 19 = .ok (.aload_n 0, 1) := by decide +kernel
theorem dX12_end_20 : decode cX12_end 20 = .ok (.iload_n 1, 1) := by decide +kernel
theorem dX12_end_21 : decode cX12_end 21 = .ok (.putfield 7, 3) := by decide +kernel
theorem dX12_end_24 : decode cX12_end 24 = .ok (.iconst 1, 1) := by decide +kernel
theorem dX12_end_25 : decode cX12_end 25 = .ok (.ireturn, 1) := by decide +kernel
theorem dX12_taken_0 : decode cX12_taken 0 = .ok (.aload_n 0, 1) := by decide +kernel
theorem dX12_taken_1 : decode cX12_taken 1 = .ok (.aload_n 0, 1) := by decide +kernel
theorem dX12_taken_2 : decode cX12_taken 2 = .ok (.getfield 7, 3) := by decide +kernel
theorem dX12_taken_5 : decode cX12_taken 5 = .ok (.putfield 18, 3) := by decide +kernel
theorem dX12_taken_8 : decode cX12_taken 8 = .ok (.aload_n 0, 1) := by decide +kernel
theorem dX12_taken_9 : decode cX12_taken 9 = .ok (.iconst 0, 1) := by decide +kernel
theorem dX12_taken_10 : decode cX12_taken 10 = .ok (.putfield 7, 3) := by decide +kernel
theorem dX12_taken_13 : decode cX12_taken 13 = .ok (.aload_n 0, 1) := by decide +kernel
theorem dX12_taken_14 : decode cX12_taken 14 = .ok (.iconst 0, 1) := by decide +kernel
theorem dX12_taken_15 : decode cX12_taken 15 = .ok (.putfield 21, 3) := by decide +kernel
theorem dX12_taken_18 : decode cX12_taken 18 = .ok (.aload_n 0, 1) := by decide +kernel
theorem dX12_taken_19 : decode cX12_taken 19 = .ok (.iload_n 1, 1) := by decide +kernel
theorem dX12_taken_20 : decode cX12_taken 20 = .ok (.putfield 24, 3) := by decide +kernel
theorem dX12_taken_23 : decode cX12_taken 23 = .ok (.return_, 1) := by decide +kernel
theorem dX12_isIn_0 : decode cX12_isIn 0 = .ok (.iload_n 0, 1) := by decide +kernel
theorem dX12_isIn_1 : decode cX12_isIn 1 = .ok (.iload_n 1, 1) := by decide +kernel
theorem dX12_isIn_2 : decode cX12_isIn 2 = .ok (.if_icmp .lt 12, 3) := by decide +kernel
theorem dX12_isIn_5 : decode cX12_isIn 5 = .ok (.iload_n 0, 1) := by decide +kernel
theorem dX12_isIn_6 : decode cX12_isIn 6 = .ok (.iload_n 2, 1) := by decide +kernel
theorem dX12_isIn_7 : decode cX12_isIn 7 = .ok (.if_icmp .gt 7, 3) := by decide +kernel
theorem dX12_isIn_10 : decode cX12_isIn 10 = .ok (.iconst 1, 1) := by decide +kernel
theorem dX12_isIn_11 : decode cX12_isIn 11 = .ok (.goto 4, 3) := by decide +kernel
theorem dX12_isIn_14 : decode cX12_isIn 14 = .ok (.iconst 0, 1) := by decide +kernel
theorem dX12_isIn_15 : decode cX12_isIn 15 = .ok (.ireturn, 1) := by decide +kernel
theorem dX12_bitOf_0 : decode cX12_bitOf 0 = .ok (.iload_n 0, 1) := by decide +kernel
theorem dX12_bitOf_1 : decode cX12_bitOf 1 = .ok (.iload_n 1, 1) := by decide +kernel
theorem dX12_bitOf_2 : decode cX12_bitOf 2 = .ok (.ishr, 1) := by decide +kernel
theorem dX12_bitOf_3 : decode cX12_bitOf 3 = .ok (.iconst 1, 1) := by decide +kernel
theorem dX12_bitOf_4 : decode cX12_bitOf 4 = .ok (.iand, 1) := by decide +kernel
theorem dX12_bitOf_5 : decode cX12_bitOf 5 = .ok (.iconst 1, 1) := by decide +kernel
theorem dX12_bitOf_6 : decode cX12_bitOf 6 = .ok (.if_icmp .ne 7, 3) := by decide +kernel
theorem dX12_bitOf_9 : decode cX12_bitOf 9 = .ok (.iconst 1, 1) := by decide +kernel
theorem dX12_bitOf_10 : decode cX12_bitOf 10 = .ok (.goto 4, 3) := by decide +kernel
theorem dX12_bitOf_13 : decode cX12_bitOf 13 = .ok (.iconst 0, 1) := by decide +kernel
theorem dX12_bitOf_14 : decode cX12_bitOf 14 = .ok (.ireturn, 1) := by decide +kernel
theorem dX12_lesser_0 : decode cX12_lesser 0 = .ok (.iload_n 0, 1) := by decide +kernel
theorem dX12_lesser_1 : decode cX12_lesser 1 = .ok (.iload_n 1, 1) := by decide +kernel
theorem dX12_lesser_2 : decode cX12_lesser 2 = .ok (.if_icmp .ge 7, 3) := by decide +kernel
theorem dX12_lesser_5 : decode cX12_lesser 5 = .ok (.iload_n 0, 1) := by decide +kernel
theorem dX12_lesser_6 : decode cX12_lesser 6 = .ok (.goto 4, 3) := by decide +kernel
theorem dX12_lesser_9 : decode cX12_lesser 9 = .ok (.iload_n 1, 1) := by decide +kernel
theorem dX12_lesser_10 : decode cX12_lesser 10 = .ok (.ireturn, 1) := by decide +kernel
theorem dX12_greater_0 : decode cX12_greater 0 = .ok (.iload_n 0, 1) := by decide +kernel
theorem dX12_greater_1 : decode cX12_greater 1 = .ok (.iload_n 1, 1) := by decide +kernel
theorem dX12_greater_2 : decode cX12_greater 2 = .ok (.if_icmp .le 7, 3) := by decide +kernel
theorem dX12_greater_5 : decode cX12_greater 5 = .ok (.iload_n 0, 1) := by decide +kernel
theorem dX12_greater_6 : decode cX12_greater 6 = .ok (.goto 4, 3) := by decide +kernel
theorem dX12_greater_9 : decode cX12_greater 9 = .ok (.iload_n 1, 1) := by decide +kernel
theorem dX12_greater_10 : decode cX12_greater 10 = .ok (.ireturn, 1) := by decide +kernel
theorem dX12_bits_0 : decode cX12_bits 0 = .ok (.iconst 0, 1) := by decide +kernel
theorem dX12_bits_1 : decode cX12_bits 1 = .ok (.istore_n 1, 1) := by decide +kernel
theorem dX12_bits_2 : decode cX12_bits 2 = .ok (.iload_n 0, 1) := by decide +kernel
theorem dX12_bits_3 : decode cX12_bits 3 = .ok (.istore_n 2, 1) := by decide +kernel
theorem dX12_bits_4 : decode cX12_bits 4 = .ok (.iload_n 2, 1) := by decide +kernel
theorem dX12_bits_5 : decode cX12_bits 5 = .ok (.ifCond .eq 15, 3) := by decide +kernel
theorem dX12_bits_8 : decode cX12_bits 8 = .ok (.iinc 1 1, 3) := by decide +kernel
theorem dX12_bits_11 : decode cX12_bits 11 = .ok (.iload_n 2, 1) := by decide +kernel
theorem dX12_bits_12 : decode cX12_bits 12 = .ok (.iload_n 2, 1) := by decide +kernel
theorem dX12_bits_13 : decode cX12_bits 13 = .ok (.iconst 1, 1) := by decide +kernel
theorem dX12_bits_14 : decode cX12_bits 14 = .ok (.isub, 1) := by decide +kernel
theorem dX12_bits_15 : decode cX12_bits 15 = .ok (.iand, 1) := by decide +kernel
theorem dX12_bits_16 : decode cX12_bits 16 = .ok (.istore_n 2, 1) := by decide +kernel
theorem dX12_bits_17 : decode cX12_bits 17 = .ok (.goto (-13), 3) := by decide +kernel
theorem dX12_bits_20 : decode cX12_bits 20 = .ok (.iload_n 1, 1) := by decide +kernel
theorem dX12_bits_21 : decode cX12_bits 21 = .ok (.ireturn, 1) := by decide +kernel
theorem dX12_octet_0 : decode cX12_octet 0 = .ok (.aload_n 0, 1) := by decide +kernel
theorem dX12_octet_1 : decode cX12_octet 1 = .ok (.getfield 14, 3) := by decide +kernel
theorem dX12_octet_4 : decode cX12_octet 4 = .ok (.iload_n 1, 1) := by decide +kernel
theorem dX12_octet_5 : decode cX12_octet 5 = .ok (.baload, 1) := by decide +kernel
theorem dX12_octet_6 : decode cX12_octet 6 = .ok (.sipush 255, 3) := by decide +kernel
theorem dX12_octet_9 : decode cX12_octet 9 = .ok (.iand, 1) := by decide +kernel
theorem dX12_octet_10 : decode cX12_octet 10 = .ok (.ireturn, 1) := by decide +kernel
theorem dX12_init_0 : decode cX12_init 0 = .ok (.aload_n 0, 1) := by decide +kernel
theorem dX12_init_1 : decode cX12_init 1 = .ok (.invokespecial 27, 3) := by decide +kernel
theorem dX12_init_4 : decode cX12_init 4 = .ok (.aload_n 0, 1) := by decide +kernel
theorem dX12_init_5 : decode cX12_init 5 = .ok (.sipush 940, 3) := by decide +kernel
theorem dX12_init_8 : decode cX12_init 8 = .ok (.newarray .byte, 2) := by decide +kernel
theorem dX12_init_10 : decode cX12_init 10 = .ok (.putfield 14, 3) := by decide +kernel
theorem dX12_init_13 : decode cX12_init 13 = .ok (.aload_n 0, 1) := by decide +kernel
theorem dX12_init_14 : decode cX12_init 14 = .ok (.sipush 273, 3) := by decide +kernel
theorem dX12_init_17 : decode cX12_init 17 = .ok (.newarray .int, 2) := by decide +kernel
theorem dX12_init_19 : decode cX12_init 19 = .ok (.putfield 33, 3) := by decide +kernel
theorem dX12_init_22 : decode cX12_init 22 = .ok (.aload_n 0, 1) := by decide +kernel
theorem dX12_init_23 : decode cX12_init 23 = .ok (.bipush 44, 2) := by decide +kernel
theorem dX12_init_25 : decode cX12_init 25 = .ok (.newarray .int, 2) := by decide +kernel
theorem dX12_init_27 : decode cX12_init 27 = .ok (.putfield 37, 3) := by decide +kernel
theorem dX12_init_30 : decode cX12_init 30 = .ok (.aload_n 0, 1) := by decide +kernel
theorem dX12_init_31 : decode cX12_init 31 = .ok (.sipush 135, 3) := by decide +kernel
theorem dX12_init_34 : decode cX12_init 34 = .ok (.newarray .int, 2) := by decide +kernel
theorem dX12_init_36 : decode cX12_init 36 = .ok (.putfield 40, 3) := by decide +kernel
theorem dX12_init_39 : decode cX12_init 39 = .ok (.aload_n 0, 1) := by decide +kernel
theorem dX12_init_40 : decode cX12_init 40 = .ok (.bipush 26, 2) := by decide +kernel
theorem dX12_init_42 : decode cX12_init 42 = .ok (.newarray .long, 2) := by decide +kernel
theorem dX12_init_44 : decode cX12_init 44 = .ok (.putfield 43, 3) := by decide +kernel
theorem dX12_init_47 : decode cX12_init 47 = .ok (.aload_n 0, 1) := by decide +kernel
theorem dX12_init_48 : decode cX12_init 48 = .ok (.bipush 22, 2) := by decide +kernel
theorem dX12_init_50 : decode cX12_init 50 = .ok (.newarray .long, 2) := by decide +kernel
theorem dX12_init_52 : decode cX12_init 52 = .ok (.putfield 47, 3) := by decide +kernel
theorem dX12_init_55 : decode cX12_init 55 = .ok (.aload_n 0, 1) := by decide +kernel
theorem dX12_init_56 : decode cX12_init 56 = .ok (.sipush 384, 3) := by decide +kernel
theorem dX12_init_59 : decode cX12_init 59 = .ok (.newarray .int, 2) := by decide +kernel
theorem dX12_init_61 : decode cX12_init 61 = .ok (.putfield 50, 3) := by decide +kernel
theorem dX12_init_64 : decode cX12_init 64 = .ok (.aload_n 0, 1) := by decide +kernel
theorem dX12_init_65 : decode cX12_init 65 = .ok (.bipush 48, 2) := by decide +kernel
theorem dX12_init_67 : decode cX12_init 67 = .ok (.newarray .int, 2) := by decide +kernel
theorem dX12_init_69 : decode cX12_init 69 = .ok (.putfield 53, 3) := by decide +kernel
theorem dX12_init_72 : decode cX12_init 72 = .ok (.aload_n 0, 1) := by decide +kernel
theorem dX12_init_73 : decode cX12_init 73 = .ok (.iconst (-1), 1) := by decide +kernel
theorem dX12_init_74 : decode cX12_init 74 = .ok (.putfield 56, 3) := by decide +kernel
theorem dX12_init_77 : decode cX12_init 77 = .ok (.aload_n 0, 1) := by decide +kernel
theorem dX12_init_78 : decode cX12_init 78 = .ok (.bipush 7, 2) := by decide +kernel
theorem dX12_init_80 : decode cX12_init 80 = .ok (.newarray .int, 2) := by decide +kernel
theorem dX12_init_82 : decode cX12_init 82 = .ok (.putfield 59, 3) := by decide +kernel
theorem dX12_init_85 : decode cX12_init 85 = .ok (.aload_n 0, 1) := by decide +kernel
theorem dX12_init_86 : decode cX12_init 86 = .ok (.bipush 99, 2) := by decide +kernel
theorem dX12_init_88 : decode cX12_init 88 = .ok (.newarray .int, 2) := by decide +kernel
theorem dX12_init_90 : decode cX12_init 90 = .ok (.putfield 62, 3) := by decide +kernel
theorem dX12_init_93 : decode cX12_init 93 = .ok (.aload_n 0, 1) := by decide +kernel
theorem dX12_init_94 : decode cX12_init 94 = .ok (.iconst (-1), 1) := by decide +kernel
theorem dX12_init_95 : decode cX12_init 95 = .ok (.putfield 65, 3) := by decide +kernel
theorem dX12_init_98 : decode cX12_init 98 = .ok (.aload_n 0, 1) := by decide +kernel
theorem dX12_init_99 : decode cX12_init 99 = .ok (.iconst (-1), 1) := by decide +kernel
theorem dX12_init_100 : decode cX12_init 100 = .ok (.putfield 68, 3) := by decide +kernel
theorem dX12_init_103 : decode cX12_init 103 = .ok (.aload_n 0, 1) := by decide +kernel
theorem dX12_init_104 : decode cX12_init 104 = .ok (.bipush 48, 2) := by decide +kernel
theorem dX12_init_106 : decode cX12_init 106 = .ok (.newarray .byte, 2) := by decide +kernel
theorem dX12_init_108 : decode cX12_init 108 = .ok (.putfield 71, 3) := by decide +kernel
theorem dX12_init_111 : decode cX12_init 111 = .ok (.aload_n 0, 1) := by decide +kernel
theorem dX12_init_112 : decode cX12_init 112 = .ok (.iconst 4, 1) := by decide +kernel
theorem dX12_init_113 : decode cX12_init 113 = .ok (.newarray .int, 2) := by decide +kernel
theorem dX12_init_115 : decode cX12_init 115 = .ok (.putfield 74, 3) := by decide +kernel
theorem dX12_init_118 : decode cX12_init 118 = .ok (.aload_n 0, 1) := by decide +kernel
theorem dX12_init_119 : decode cX12_init 119 = .ok (.bipush 45, 2) := by decide +kernel
theorem dX12_init_121 : decode cX12_init 121 = .ok (.newarray .int, 2) := by decide +kernel
theorem dX12_init_123 : decode cX12_init 123 = .ok (.putfield 77, 3) := by decide +kernel
theorem dX12_init_126 : decode cX12_init 126 = .ok (.aload_n 0, 1) := by decide +kernel
theorem dX12_init_127 : decode cX12_init 127 = .ok (.bipush 45, 2) := by decide +kernel
theorem dX12_init_129 : decode cX12_init 129 = .ok (.newarray .boolean, 2) := by decide +kernel
theorem dX12_init_131 : decode cX12_init 131 = .ok (.putfield 80, 3) := by decide +kernel
theorem dX12_init_134 : decode cX12_init 134 = .ok (.aload_n 0, 1) := by decide +kernel
theorem dX12_init_135 : decode cX12_init 135 = .ok (.sipush 546, 3) := by decide +kernel
theorem dX12_init_138 : decode cX12_init 138 = .ok (.newarray .int, 2) := by decide +kernel
theorem dX12_init_140 : decode cX12_init 140 = .ok (.putfield 84, 3) := by decide +kernel
theorem dX12_init_143 : decode cX12_init 143 = .ok (.aload_n 0, 1) := by decide +kernel
theorem dX12_init_144 : decode cX12_init 144 = .ok (.bipush 26, 2) := by decide +kernel
theorem dX12_init_146 : decode cX12_init 146 = .ok (.newarray .long, 2) := by decide +kernel
theorem dX12_init_148 : decode cX12_init 148 = .ok (.putfield 87, 3) := by decide +kernel
theorem dX12_init_151 : decode cX12_init 151 = .ok (.aload_n 0, 1) := by decide +kernel
theorem dX12_init_152 : decode cX12_init 152 = .ok (.iconst 2, 1) := by decide +kernel
theorem dX12_init_153 : decode cX12_init 153 = .ok (.newarray .boolean, 2) := by decide +kernel
theorem dX12_init_155 : decode cX12_init 155 = .ok (.putfield 90, 3) := by decide +kernel
theorem dX12_init_158 : decode cX12_init 158 = .ok (.aload_n 0, 1) := by decide +kernel
theorem dX12_init_159 : decode cX12_init 159 = .ok (.getfield 47, 3) := by decide +kernel
theorem dX12_init_162 : decode cX12_init 162 = .ok (.iconst 0, 1) := by decide +kernel
theorem dX12_init_163 : decode cX12_init 163 = .ok (.ldc2_w 93, 3) := by decide +kernel
theorem dX12_init_166 : decode cX12_init 166 = .ok (.lastore, 1) := by decide +kernel
theorem dX12_init_167 : decode cX12_init 167 = .ok (.aload_n 0, 1) := by decide +kernel
theorem dX12_init_168 : decode cX12_init 168 = .ok (.getfield 47, 3) := by decide +kernel
theorem dX12_init_171 : decode cX12_init 171 = .ok (.iconst 1, 1) := by decide +kernel
theorem dX12_init_172 : decode cX12_init 172 = .ok (.ldc2_w 95, 3) := by decide +kernel
theorem dX12_init_175 : decode cX12_init 175 = .ok (.lastore, 1) := by decide +kernel
theorem dX12_init_176 : decode cX12_init 176 = .ok (.aload_n 0, 1) := by decide +kernel
theorem dX12_init_177 : decode cX12_init 177 = .ok (.getfield 47, 3) := by decide +kernel
theorem dX12_init_180 : decode cX12_init 180 = .ok (.iconst 2, 1) := by decide +kernel
theorem dX12_init_181 : decode cX12_init 181 = .ok (.ldc2_w 97, 3) := by decide +kernel
theorem dX12_init_184 : decode cX12_init 184 = .ok (.lastore, 1) := by decide +kernel
theorem dX12_init_185 : decode cX12_init 185 = .ok (.aload_n 0, 1) := by decide +kernel
theorem dX12_init_186 : decode cX12_init 186 = .ok (.getfield 47, 3) := by decide +kernel
theorem dX12_init_189 : decode cX12_init 189 = .ok (.iconst 3, 1) := by decide +kernel
theorem dX12_init_190 : decode cX12_init 190 = .ok (.ldc2_w 99, 3) := by decide +kernel
theorem dX12_init_193 : decode cX12_init 193 = .ok (.lastore, 1) := by decide +kernel
theorem dX12_init_194 : decode cX12_init 194 = .ok (.aload_n 0, 1) := by decide +kernel
theorem dX12_init_195 : decode cX12_init 195 = .ok (.getfield 47, 3) := by decide +kernel
theorem dX12_init_198 : decode cX12_init 198 = .ok (.iconst 4, 1) := by decide +kernel
theorem dX12_init_199 : decode cX12_init 199 = .ok (.ldc2_w 101, 3) := by decide +kernel
theorem dX12_init_202 : decode cX12_init 202 = .ok (.lastore, 1) := by decide +kernel
theorem dX12_init_203 : decode cX12_init 203 = .ok (.aload_n 0, 1) := by decide +kernel
theorem dX12_init_204 : decode cX12_init 204 = .ok (.getfield 47, 3) := by decide +kernel
theorem dX12_init_207 : decode cX12_init 207 = .ok (.iconst 5, 1) := by decide +kernel
theorem dX12_init_208 : decode cX12_init 208 = .ok (.ldc2_w 103, 3) := by decide +kernel
theorem dX12_init_211 : decode cX12_init 211 = .ok (.lastore, 1) := by decide +kernel
theorem dX12_init_212 : decode cX12_init 212 = .ok (.aload_n 0, 1) := by decide +kernel
theorem dX12_init_213 : decode cX12_init 213 = .ok (.getfield 47, 3) := by decide +kernel
theorem dX12_init_216 : decode cX12_init 216 = .ok (.bipush 6, 2) := by decide +kernel
theorem dX12_init_218 : decode cX12_init 218 = .ok (.ldc2_w 105, 3) := by decide +kernel
theorem dX12_init_221 : decode cX12_init 221 = .ok (.lastore, 1) := by decide +kernel
theorem dX12_init_222 : decode cX12_init 222 = .ok (.aload_n 0, 1) := by decide +kernel
theorem dX12_init_223 : decode cX12_init 223 = .ok (.getfield 47, 3) := by decide +kernel
theorem dX12_init_226 : decode cX12_init 226 = .ok (.bipush 7, 2) := by decide +kernel
theorem dX12_init_228 : decode cX12_init 228 = .ok (.ldc2_w 107, 3) := by decide +kernel
theorem dX12_init_231 : decode cX12_init 231 = .ok (.lastore, 1) := by decide +kernel
theorem dX12_init_232 : decode cX12_init 232 = .ok (.aload_n 0, 1) := by decide +kernel
theorem dX12_init_233 : decode cX12_init 233 = .ok (.getfield 47, 3) := by decide +kernel
theorem dX12_init_236 : decode cX12_init 236 = .ok (.bipush 8, 2) := by decide +kernel
theorem dX12_init_238 : decode cX12_init 238 = .ok (.ldc2_w 109, 3) := by decide +kernel
theorem dX12_init_241 : decode cX12_init 241 = .ok (.lastore, 1) := by decide +kernel
theorem dX12_init_242 : decode cX12_init 242 = .ok (.aload_n 0, 1) := by decide +kernel
theorem dX12_init_243 : decode cX12_init 243 = .ok (.getfield 47, 3) := by decide +kernel
theorem dX12_init_246 : decode cX12_init 246 = .ok (.bipush 9, 2) := by decide +kernel
theorem dX12_init_248 : decode cX12_init 248 = .ok (.ldc2_w 111, 3) := by decide +kernel
theorem dX12_init_251 : decode cX12_init 251 = .ok (.lastore, 1) := by decide +kernel
theorem dX12_init_252 : decode cX12_init 252 = .ok (.aload_n 0, 1) := by decide +kernel
theorem dX12_init_253 : decode cX12_init 253 = .ok (.getfield 47, 3) := by decide +kernel
theorem dX12_init_256 : decode cX12_init 256 = .ok (.bipush 10, 2) := by decide +kernel
theorem dX12_init_258 : decode cX12_init 258 = .ok (.ldc2_w 113, 3) := by decide +kernel
theorem dX12_init_261 : decode cX12_init 261 = .ok (.lastore, 1) := by decide +kernel
theorem dX12_init_262 : decode cX12_init 262 = .ok (.aload_n 0, 1) := by decide +kernel
theorem dX12_init_263 : decode cX12_init 263 = .ok (.getfield 47, 3) := by decide +kernel
theorem dX12_init_266 : decode cX12_init 266 = .ok (.bipush 11, 2) := by decide +kernel
theorem dX12_init_268 : decode cX12_init 268 = .ok (.ldc2_w 115, 3) := by decide +kernel
theorem dX12_init_271 : decode cX12_init 271 = .ok (.lastore, 1) := by decide +kernel
theorem dX12_init_272 : decode cX12_init 272 = .ok (.aload_n 0, 1) := by decide +kernel
theorem dX12_init_273 : decode cX12_init 273 = .ok (.getfield 47, 3) := by decide +kernel
theorem dX12_init_276 : decode cX12_init 276 = .ok (.bipush 12, 2) := by decide +kernel
theorem dX12_init_278 : decode cX12_init 278 = .ok (.ldc2_w 117, 3) := by decide +kernel
theorem dX12_init_281 : decode cX12_init 281 = .ok (.lastore, 1) := by decide +kernel
theorem dX12_init_282 : decode cX12_init 282 = .ok (.aload_n 0, 1) := by decide +kernel
theorem dX12_init_283 : decode cX12_init 283 = .ok (.getfield 47, 3) := by decide +kernel
theorem dX12_init_286 : decode cX12_init 286 = .ok (.bipush 13, 2) := by decide +kernel
theorem dX12_init_288 : decode cX12_init 288 = .ok (.ldc2_w 119, 3) := by decide +kernel
theorem dX12_init_291 : decode cX12_init 291 = .ok (.lastore, 1) := by decide +kernel
theorem dX12_init_292 : decode cX12_init 292 = .ok (.aload_n 0, 1) := by decide +kernel
theorem dX12_init_293 : decode cX12_init 293 = .ok (.getfield 47, 3) := by decide +kernel
theorem dX12_init_296 : decode cX12_init 296 = .ok (.bipush 14, 2) := by decide +kernel
theorem dX12_init_298 : decode cX12_init 298 = .ok (.ldc2_w 121, 3) := by decide +kernel
theorem dX12_init_301 : decode cX12_init 301 = .ok (.lastore, 1) := by decide +kernel
theorem dX12_init_302 : decode cX12_init 302 = .ok (.aload_n 0, 1) := by decide +kernel
theorem dX12_init_303 : decode cX12_init 303 = .ok (.getfield 47, 3) := by decide +kernel
theorem dX12_init_306 : decode cX12_init 306 = .ok (.bipush 15, 2) := by decide +kernel
theorem dX12_init_308 : decode cX12_init 308 = .ok (.ldc2_w 123, 3) := by decide +kernel
theorem dX12_init_311 : decode cX12_init 311 = .ok (.lastore, 1) := by decide +kernel
theorem dX12_init_312 : decode cX12_init 312 = .ok (.aload_n 0, 1) := by decide +kernel
theorem dX12_init_313 : decode cX12_init 313 = .ok (.getfield 47, 3) := by decide +kernel
theorem dX12_init_316 : decode cX12_init 316 = .ok (.bipush 16, 2) := by decide +kernel
theorem dX12_init_318 : decode cX12_init 318 = .ok (.ldc2_w 125, 3) := by decide +kernel
theorem dX12_init_321 : decode cX12_init 321 = .ok (.lastore, 1) := by decide +kernel
theorem dX12_init_322 : decode cX12_init 322 = .ok (.aload_n 0, 1) := by decide +kernel
theorem dX12_init_323 : decode cX12_init 323 = .ok (.getfield 47, 3) := by decide +kernel
theorem dX12_init_326 : decode cX12_init 326 = .ok (.bipush 17, 2) := by decide +kernel
theorem dX12_init_328 : decode cX12_init 328 = .ok (.ldc2_w 127, 3) := by decide +kernel
theorem dX12_init_331 : decode cX12_init 331 = .ok (.lastore, 1) := by decide +kernel
theorem dX12_init_332 : decode cX12_init 332 = .ok (.aload_n 0, 1) := by decide +kernel
theorem dX12_init_333 : decode cX12_init 333 = .ok (.getfield 47, 3) := by decide +kernel
theorem dX12_init_336 : decode cX12_init 336 = .ok (.bipush 18, 2) := by decide +kernel
theorem dX12_init_338 : decode cX12_init 338 = .ok (.ldc2_w 129, 3) := by decide +kernel
theorem dX12_init_341 : decode cX12_init 341 = .ok (.lastore, 1) := by decide +kernel
theorem dX12_init_342 : decode cX12_init 342 = .ok (.aload_n 0, 1) := by decide +kernel
theorem dX12_init_343 : decode cX12_init 343 = .ok (.getfield 47, 3) := by decide +kernel
theorem dX12_init_346 : decode cX12_init 346 = .ok (.bipush 19, 2) := by decide +kernel
theorem dX12_init_348 : decode cX12_init 348 = .ok (.ldc2_w 131, 3) := by decide +kernel
theorem dX12_init_351 : decode cX12_init 351 = .ok (.lastore, 1) := by decide +kernel
theorem dX12_init_352 : decode cX12_init 352 = .ok (.aload_n 0, 1) := by decide +kernel
theorem dX12_init_353 : decode cX12_init 353 = .ok (.getfield 47, 3) := by decide +kernel
theorem dX12_init_356 : decode cX12_init 356 = .ok (.bipush 20, 2) := by decide +kernel
theorem dX12_init_358 : decode cX12_init 358 = .ok (.ldc2_w 133, 3) := by decide +kernel
theorem dX12_init_361 : decode cX12_init 361 = .ok (.lastore, 1) := by decide +kernel
theorem dX12_init_362 : decode cX12_init 362 = .ok (.aload_n 0, 1) := by decide +kernel
theorem dX12_init_363 : decode cX12_init 363 = .ok (.getfield 47, 3) := by decide +kernel
theorem dX12_init_366 : decode cX12_init 366 = .ok (.bipush 21, 2) := by decide +kernel
theorem dX12_init_368 : decode cX12_init 368 = .ok (.ldc2_w 135, 3) := by decide +kernel
theorem dX12_init_371 : decode cX12_init 371 = .ok (.lastore, 1) := by decide +kernel
theorem dX12_init_372 : decode cX12_init 372 = .ok (.aload_n 0, 1) := by decide +kernel
theorem dX12_init_373 : decode cX12_init 373 = .ok (.invokevirtual 137, 3) := by decide +kernel
theorem dX12_init_376 : decode cX12_init 376 = .ok (.iconst 0, 1) := by decide +kernel
theorem dX12_init_377 : decode cX12_init 377 = .ok (.istore_n 1, 1) := by decide +kernel
theorem dX12_init_378 : decode cX12_init 378 = .ok (.iload_n 1, 1) := by decide +kernel
theorem dX12_init_379 : decode cX12_init 379 = .ok (.bipush 44, 2) := by decide +kernel
theorem dX12_init_381 : decode cX12_init 381 = .ok (.if_icmp .ge 21, 3) := by decide +kernel
theorem dX12_init_384 : decode cX12_init 384 = .ok (.aload_n 0, 1) := by decide +kernel
theorem dX12_init_385 : decode cX12_init 385 = .ok (.getfield 33, 3) := by decide +kernel
theorem dX12_init_388 : decode cX12_init 388 = .ok (.iload_n 1, 1) := by decide +kernel
theorem dX12_init_389 : decode cX12_init 389 = .ok (.aload_n 0, 1) := by decide +kernel
theorem dX12_init_390 : decode cX12_init 390 = .ok (.getfield 37, 3) := by decide +kernel
theorem dX12_init_393 : decode cX12_init 393 = .ok (.iload_n 1, 1) := by decide +kernel
theorem dX12_init_394 : decode cX12_init 394 = .ok (.iaload, 1) := by decide +kernel
theorem dX12_init_395 : decode cX12_init 395 = .ok (.iastore, 1) := by decide +kernel
theorem dX12_init_396 : decode cX12_init 396 = .ok (.iinc 1 1, 3) := by decide +kernel
theorem dX12_init_399 : decode cX12_init 399 = .ok (.goto (-21), 3) := by decide +kernel
theorem dX12_init_402 : decode cX12_init 402 = .ok (.return_, 1) := by decide +kernel
theorem dX12_clears_0 : decode cX12_clears 0 = .ok (.iconst 0, 1) := by decide +kernel
theorem dX12_clears_1 : decode cX12_clears 1 = .ok (.istore_n 1, 1) := by decide +kernel
theorem dX12_clears_2 : decode cX12_clears 2 = .ok (.iload_n 1, 1) := by decide +kernel
theorem dX12_clears_3 : decode cX12_clears 3 = .ok (.bipush 44, 2) := by decide +kernel
theorem dX12_clears_5 : decode cX12_clears 5 = .ok (.if_icmp .ge 16, 3) := by decide +kernel
theorem dX12_clears_8 : decode cX12_clears 8 = .ok (.aload_n 0, 1) := by decide +kernel
theorem dX12_clears_9 : decode cX12_clears 9 = .ok (.getfield 37, 3) := by decide +kernel
theorem dX12_clears_12 : decode cX12_clears 12 = .ok (.iload_n 1, 1) := by decide +kernel
theorem dX12_clears_13 : decode cX12_clears 13 = .ok (.iconst 0, 1) := by decide +kernel
theorem dX12_clears_14 : decode cX12_clears 14 = .ok (.iastore, 1) := by decide +kernel
theorem dX12_clears_15 : decode cX12_clears 15 = .ok (.iinc 1 1, 3) := by decide +kernel
theorem dX12_clears_18 : decode cX12_clears 18 = .ok (.goto (-16), 3) := by decide +kernel
theorem dX12_clears_21 : decode cX12_clears 21 = .ok (.aload_n 0, 1) := by decide +kernel
theorem dX12_clears_22 : decode cX12_clears 22 = .ok (.getfield 37, 3) := by decide +kernel
theorem dX12_clears_25 : decode cX12_clears 25 = .ok (.iconst 0, 1) := by decide +kernel
theorem dX12_clears_26 : decode cX12_clears 26 = .ok (.bipush 6, 2) := by decide +kernel
theorem dX12_clears_28 : decode cX12_clears 28 = .ok (.iastore, 1) := by decide +kernel
theorem dX12_clears_29 : decode cX12_clears 29 = .ok (.return_, 1) := by decide +kernel
theorem dX12_peek_0 : decode cX12_peek 0 = .ok (.aload_n 0, 1) := by decide +kernel
theorem dX12_peek_1 : decode cX12_peek 1 = .ok (.getfield 21, 3) := by decide +kernel
theorem dX12_peek_4 : decode cX12_peek 4 = .ok (.aload_n 0, 1) := by decide +kernel
theorem dX12_peek_5 : decode cX12_peek 5 = .ok (.getfield 18, 3) := by decide +kernel
theorem dX12_peek_8 : decode cX12_peek 8 = .ok (.if_icmp .ge 19, 3) := by decide +kernel
theorem dX12_peek_11 : decode cX12_peek 11 = .ok (.aload_n 0, 1) := by decide +kernel
theorem dX12_peek_12 : decode cX12_peek 12 = .ok (.getfield 14, 3) := by decide +kernel
theorem dX12_peek_15 : decode cX12_peek 15 = .ok (.aload_n 0, 1) := by decide +kernel
theorem dX12_peek_16 : decode cX12_peek 16 = .ok (.getfield 21, 3) := by decide +kernel
theorem dX12_peek_19 : decode cX12_peek 19 = .ok (.baload, 1) := by decide +kernel
theorem dX12_peek_20 : decode cX12_peek 20 = .ok (.sipush 255, 3) := by decide +kernel
theorem dX12_peek_23 : decode cX12_peek 23 = .ok (.iand, 1) := by decide +kernel
theorem dX12_peek_24 : decode cX12_peek 24 = .ok (.goto 4, 3) := by decide +kernel
theorem dX12_peek_27 : decode cX12_peek 27 = .ok (.iconst (-1), 1) := by decide +kernel
theorem dX12_peek_28 : decode cX12_peek 28 = .ok (.ireturn, 1) := by decide +kernel
theorem dX12_isSmall_0 : decode cX12_isSmall 0 = .ok (.iload_n 0, 1) := by decide +kernel
theorem dX12_isSmall_1 : decode cX12_isSmall 1 = .ok (.bipush 97, 2) := by decide +kernel
theorem dX12_isSmall_3 : decode cX12_isSmall 3 = .ok (.if_icmp .lt 13, 3) := by decide +kernel
theorem dX12_isSmall_6 : decode cX12_isSmall 6 = .ok (.iload_n 0, 1) := by decide +kernel
theorem dX12_isSmall_7 : decode cX12_isSmall 7 = .ok (.bipush 122, 2) := by decide +kernel
theorem dX12_isSmall_9 : decode cX12_isSmall 9 = .ok (.if_icmp .gt 7, 3) := by decide +kernel
theorem dX12_isSmall_12 : decode cX12_isSmall 12 = .ok (.iconst 1, 1) := by decide +kernel
theorem dX12_isSmall_13 : decode cX12_isSmall 13 = .ok (.goto 4, 3) := by decide +kernel
theorem dX12_isSmall_16 : decode cX12_isSmall 16 = .ok (.iconst 0, 1) := by decide +kernel
theorem dX12_isSmall_17 : decode cX12_isSmall 17 = .ok (.ireturn, 1) := by decide +kernel
theorem dX12_isDigit_0 : decode cX12_isDigit 0 = .ok (.iload_n 0, 1) := by decide +kernel
theorem dX12_isDigit_1 : decode cX12_isDigit 1 = .ok (.bipush 48, 2) := by decide +kernel
theorem dX12_isDigit_3 : decode cX12_isDigit 3 = .ok (.if_icmp .lt 13, 3) := by decide +kernel
theorem dX12_isDigit_6 : decode cX12_isDigit 6 = .ok (.iload_n 0, 1) := by decide +kernel
theorem dX12_isDigit_7 : decode cX12_isDigit 7 = .ok (.bipush 57, 2) := by decide +kernel
theorem dX12_isDigit_9 : decode cX12_isDigit 9 = .ok (.if_icmp .gt 7, 3) := by decide +kernel
theorem dX12_isDigit_12 : decode cX12_isDigit 12 = .ok (.iconst 1, 1) := by decide +kernel
theorem dX12_isDigit_13 : decode cX12_isDigit 13 = .ok (.goto 4, 3) := by decide +kernel
theorem dX12_isDigit_16 : decode cX12_isDigit 16 = .ok (.iconst 0, 1) := by decide +kernel
theorem dX12_isDigit_17 : decode cX12_isDigit 17 = .ok (.ireturn, 1) := by decide +kernel
theorem dX12_step_0 : decode cX12_step 0 = .ok (.aload_n 0, 1) := by decide +kernel
theorem dX12_step_1 : decode cX12_step 1 = .ok (.invokevirtual 140, 3) := by decide +kernel
theorem dX12_step_4 : decode cX12_step 4 = .ok (.bipush 32, 2) := by decide +kernel
theorem dX12_step_6 : decode cX12_step 6 = .ok (.if_icmp .eq 12, 3) := by decide +kernel
theorem dX12_step_9 : decode cX12_step 9 = .ok (.aload_n 0, 1) := by decide +kernel
theorem dX12_step_10 : decode cX12_step 10 = .ok (.invokevirtual 140, 3) := by decide +kernel
theorem dX12_step_13 : decode cX12_step 13 = .ok (.bipush 10, 2) := by decide +kernel
theorem dX12_step_15 : decode cX12_step 15 = .ok (.if_icmp .ne 16, 3) := by decide +kernel
theorem dX12_step_18 : decode cX12_step 18 = .ok (.aload_n 0, 1) := by decide +kernel
theorem dX12_step_19 : decode cX12_step 19 = .ok (.dup, 1) := by decide +kernel
theorem dX12_step_20 : decode cX12_step 20 = .ok (.getfield 21, 3) := by decide +kernel
theorem dX12_step_23 : decode cX12_step 23 = .ok (.iconst 1, 1) := by decide +kernel
theorem dX12_step_24 : decode cX12_step 24 = .ok (.iadd, 1) := by decide +kernel
theorem dX12_step_25 : decode cX12_step 25 = .ok (.putfield 21, 3) := by decide +kernel
theorem dX12_step_28 : decode cX12_step 28 = .ok (.goto (-28), 3) := by decide +kernel
theorem dX12_step_31 : decode cX12_step 31 = .ok (.aload_n 0, 1) := by decide +kernel
theorem dX12_step_32 : decode cX12_step 32 = .ok (.aload_n 0, 1) := by decide +kernel
theorem dX12_step_33 : decode cX12_step 33 = .ok (.getfield 21, 3) := by decide +kernel
theorem dX12_step_36 : decode cX12_step 36 = .ok (.putfield 144, 3) := by decide +kernel
theorem dX12_step_39 : decode cX12_step 39 = .ok (.aload_n 0, 1) := by decide +kernel
theorem dX12_step_40 : decode cX12_step 40 = .ok (.iconst 0, 1) := by decide +kernel
theorem dX12_step_41 : decode cX12_step 41 = .ok (.putfield 147, 3) := by decide +kernel
theorem dX12_step_44 : decode cX12_step 44 = .ok (.aload_n 0, 1) := by decide +kernel
theorem dX12_step_45 : decode cX12_step 45 = .ok (.getfield 18, 3) := by decide +kernel
theorem dX12_step_48 : decode cX12_step 48 = .ok (.aload_n 0, 1) := by decide +kernel
theorem dX12_step_49 : decode cX12_step 49 = .ok (.getfield 24, 3) := by decide +kernel
theorem dX12_step_52 : decode cX12_step 52 = .ok (.if_icmp .le 28, 3) := by decide +kernel
theorem dX12_step_55 : decode cX12_step 55 = .ok (.aload_n 0, 1) := by decide +kernel
theorem dX12_step_56 : decode cX12_step 56 = .ok (.getfield 21, 3) := by decide +kernel
theorem dX12_step_59 : decode cX12_step 59 = .ok (.aload_n 0, 1) := by decide +kernel
theorem dX12_step_60 : decode cX12_step 60 = .ok (.getfield 24, 3) := by decide +kernel
theorem dX12_step_63 : decode cX12_step 63 = .ok (.if_icmp .lt 17, 3) := by decide +kernel
theorem dX12_step_66 : decode cX12_step 66 = .ok (.aload_n 0, 1) := by decide +kernel
theorem dX12_step_67 : decode cX12_step 67 = .ok (.aload_n 0, 1) := by decide +kernel
theorem dX12_step_68 : decode cX12_step 68 = .ok (.getfield 24, 3) := by decide +kernel
theorem dX12_step_71 : decode cX12_step 71 = .ok (.putfield 144, 3) := by decide +kernel
theorem dX12_step_74 : decode cX12_step 74 = .ok (.aload_n 0, 1) := by decide +kernel
theorem dX12_step_75 : decode cX12_step 75 = .ok (.iconst 4, 1) := by decide +kernel
theorem dX12_step_76 : decode cX12_step 76 = .ok (.putfield 150, 3) := by decide +kernel
theorem dX12_step_79 : decode cX12_step 79 = .ok (.return_, 1) := by decide +kernel
theorem dX12_step_80 : decode cX12_step 80 = .ok (.aload_n 0, 1) := by decide +kernel
theorem dX12_step_81 : decode cX12_step 81 = .ok (.invokevirtual 140, 3) := by decide +kernel
theorem dX12_step_84 : decode cX12_step 84 = .ok (.istore_n 1, 1) := by decide +kernel
theorem dX12_step_85 : decode cX12_step 85 = .ok (.iload_n 1, 1) := by decide +kernel
theorem dX12_step_86 : decode cX12_step 86 = .ok (.ifCond .ge 9, 3) := by decide +kernel
theorem dX12_step_89 : decode cX12_step 89 = .ok (.aload_n 0, 1) := by decide +kernel
theorem dX12_step_90 : decode cX12_step 90 = .ok (.iconst 0, 1) := by decide +kernel
theorem dX12_step_91 : decode cX12_step 91 = .ok (.putfield 150, 3) := by decide +kernel
theorem dX12_step_94 : decode cX12_step 94 = .ok (.return_, 1) := by decide +kernel
theorem dX12_step_95 : decode cX12_step 95 = .ok (.iload_n 1, 1) := by decide +kernel
theorem dX12_step_96 : decode cX12_step 96 = .ok (.invokestatic 153, 3) := by decide +kernel
theorem dX12_step_99 : decode cX12_step 99 = .ok (.ifCond .ne 65, 3) := by decide +kernel
theorem dX12_step_102 : decode cX12_step 102 = .ok (.iload_n 1, 1) := by decide +kernel
theorem dX12_step_103 : decode cX12_step 103 = .ok (.invokestatic 157, 3) := by decide +kernel
theorem dX12_step_106 : decode cX12_step 106 = .ok (.ifCond .ne 58, 3) := by decide +kernel
theorem dX12_step_109 : decode cX12_step 109 = .ok (.aload_n 0, 1) := by decide +kernel
theorem dX12_step_110 : decode cX12_step 110 = .ok (.iload_n 1, 1) := by decide +kernel
theorem dX12_step_111 : decode cX12_step 111 = .ok (.bipush 59, 2) := by decide +kernel
theorem dX12_step_113 : decode cX12_step 113 = .ok (.if_icmp .eq 27, 3) := by decide +kernel
theorem dX12_step_116 : decode cX12_step 116 = .ok (.iload_n 1, 1) := by decide +kernel
theorem dX12_step_117 : decode cX12_step 117 = .ok (.bipush 40, 2) := by decide +kernel
theorem dX12_step_119 : decode cX12_step 119 = .ok (.if_icmp .eq 21, 3) := by decide +kernel
theorem dX12_step_122 : decode cX12_step 122 = .ok (.iload_n 1, 1) := by decide +kernel
theorem dX12_step_123 : decode cX12_step 123 = .ok (.bipush 41, 2) := by decide +kernel
theorem dX12_step_125 : decode cX12_step 125 = .ok (.if_icmp .eq 15, 3) := by decide +kernel
theorem dX12_step_128 : decode cX12_step 128 = .ok (.iload_n 1, 1) := by decide +kernel
theorem dX12_step_129 : decode cX12_step 129 = .ok (.bipush 60, 2) := by decide +kernel
theorem dX12_step_131 : decode cX12_step 131 = .ok (.if_icmp .lt 13, 3) := by decide +kernel
theorem dX12_step_134 : decode cX12_step 134 = .ok (.iload_n 1, 1) := by decide +kernel
theorem dX12_step_135 : decode cX12_step 135 = .ok (.bipush 62, 2) := by decide +kernel
theorem dX12_step_137 : decode cX12_step 137 = .ok (.if_icmp .gt 7, 3) := by decide +kernel
theorem dX12_step_140 : decode cX12_step 140 = .ok (.iconst 3, 1) := by decide +kernel
theorem dX12_step_141 : decode cX12_step 141 = .ok (.goto 4, 3) := by decide +kernel
theorem dX12_step_144 : decode cX12_step 144 = .ok (.iconst 4, 1) := by decide +kernel
theorem dX12_step_145 : decode cX12_step 145 = .ok (.putfield 150, 3) := by decide +kernel
theorem dX12_step_148 : decode cX12_step 148 = .ok (.aload_n 0, 1) := by decide +kernel
theorem dX12_step_149 : decode cX12_step 149 = .ok (.iload_n 1, 1) := by decide +kernel
theorem dX12_step_150 : decode cX12_step 150 = .ok (.putfield 160, 3) := by decide +kernel
theorem dX12_step_153 : decode cX12_step 153 = .ok (.aload_n 0, 1) := by decide +kernel
theorem dX12_step_154 : decode cX12_step 154 = .ok (.dup, 1) := by decide +kernel
theorem dX12_step_155 : decode cX12_step 155 = .ok (.getfield 21, 3) := by decide +kernel
theorem dX12_step_158 : decode cX12_step 158 = .ok (.iconst 1, 1) := by decide +kernel
theorem dX12_step_159 : decode cX12_step 159 = .ok (.iadd, 1) := by decide +kernel
theorem dX12_step_160 : decode cX12_step 160 = .ok (.putfield 21, 3) := by decide +kernel
theorem dX12_step_163 : decode cX12_step 163 = .ok (.return_, 1) := by decide +kernel
theorem dX12_step_164 : decode cX12_step 164 = .ok (.iload_n 1, 1) := by decide +kernel
theorem dX12_step_165 : decode cX12_step 165 = .ok (.invokestatic 153, 3) := by decide +kernel
theorem dX12_step_168 : decode cX12_step 168 = .ok (.istore_n 2, 1) := by decide +kernel
theorem dX12_step_169 : decode cX12_step 169 = .ok (.iconst 1, 1) := by decide +kernel
theorem dX12_step_170 : decode cX12_step 170 = .ok (.istore_n 3, 1) := by decide +kernel
theorem dX12_step_171 : decode cX12_step 171 = .ok (.aload_n 0, 1) := by decide +kernel
theorem dX12_step_172 : decode cX12_step 172 = .ok (.lconst 0, 1) := by decide +kernel
theorem dX12_step_173 : decode cX12_step 173 = .ok (.putfield 163, 3) := by decide +kernel
theorem dX12_step_176 : decode cX12_step 176 = .ok (.aload_n 0, 1) := by decide +kernel
theorem dX12_step_177 : decode cX12_step 177 = .ok (.iconst 0, 1) := by decide +kernel
theorem dX12_step_178 : decode cX12_step 178 = .ok (.putfield 160, 3) := by decide +kernel
theorem dX12_step_181 : decode cX12_step 181 = .ok (.aload_n 0, 1) := by decide +kernel
theorem dX12_step_182 : decode cX12_step 182 = .ok (.invokevirtual 140, 3) := by decide +kernel
theorem dX12_step_185 : decode cX12_step 185 = .ok (.invokestatic 153, 3) := by decide +kernel
theorem dX12_step_188 : decode cX12_step 188 = .ok (.ifCond .ne 13, 3) := by decide +kernel
theorem dX12_step_191 : decode cX12_step 191 = .ok (.aload_n 0, 1) := by decide +kernel
theorem dX12_step_192 : decode cX12_step 192 = .ok (.invokevirtual 140, 3) := by decide +kernel
theorem dX12_step_195 : decode cX12_step 195 = .ok (.invokestatic 157, 3) := by decide +kernel
theorem dX12_step_198 : decode cX12_step 198 = .ok (.ifCond .eq 100, 3) := by decide +kernel
theorem dX12_step_201 : decode cX12_step 201 = .ok (.iload_n 3, 1) := by decide +kernel
theorem dX12_step_202 : decode cX12_step 202 = .ok (.ifCond .eq 18, 3) := by decide +kernel
theorem dX12_step_205 : decode cX12_step 205 = .ok (.aload_n 0, 1) := by decide +kernel
theorem dX12_step_206 : decode cX12_step 206 = .ok (.invokevirtual 140, 3) := by decide +kernel
theorem dX12_step_209 : decode cX12_step 209 = .ok (.invokestatic 153, 3) := by decide +kernel
theorem dX12_step_212 : decode cX12_step 212 = .ok (.iload_n 2, 1) := by decide +kernel
theorem dX12_step_213 : decode cX12_step 213 = .ok (.if_icmp .ne 7, 3) := by decide +kernel
theorem dX12_step_216 : decode cX12_step 216 = .ok (.iconst 1, 1) := by decide +kernel
theorem dX12_step_217 : decode cX12_step 217 = .ok (.goto 4, 3) := by decide +kernel
theorem dX12_step_220 : decode cX12_step 220 = .ok (.iconst 0, 1) := by decide +kernel
theorem dX12_step_221 : decode cX12_step 221 = .ok (.istore_n 3, 1) := by decide +kernel
theorem dX12_step_222 : decode cX12_step 222 = .ok (.aload_n 0, 1) := by decide +kernel
theorem dX12_step_223 : decode cX12_step 223 = .ok (.getfield 147, 3) := by decide +kernel
theorem dX12_step_226 : decode cX12_step 226 = .ok (.bipush 7, 2) := by decide +kernel
theorem dX12_step_228 : decode cX12_step 228 = .ok (.if_icmp .ge 20, 3) := by decide +kernel
theorem dX12_step_231 : decode cX12_step 231 = .ok (.aload_n 0, 1) := by decide +kernel
theorem dX12_step_232 : decode cX12_step 232 = .ok (.aload_n 0, 1) := by decide +kernel
theorem dX12_step_233 : decode cX12_step 233 = .ok (.getfield 163, 3) := by decide +kernel
theorem dX12_step_236 : decode cX12_step 236 = .ok (.bipush 8, 2) := by decide +kernel
theorem dX12_step_238 : decode cX12_step 238 = .ok (.lshl, 1) := by decide +kernel
theorem dX12_step_239 : decode cX12_step 239 = .ok (.aload_n 0, 1) := by decide +kernel
theorem dX12_step_240 : decode cX12_step 240 = .ok (.invokevirtual 140, 3) := by decide +kernel
theorem dX12_step_243 : decode cX12_step 243 = .ok (.i2l, 1) := by decide +kernel
theorem dX12_step_244 : decode cX12_step 244 = .ok (.lor, 1) := by decide +kernel
theorem dX12_step_245 : decode cX12_step 245 = .ok (.putfield 163, 3) := by decide +kernel
theorem dX12_step_248 : decode cX12_step 248 = .ok (.aload_n 0, 1) := by decide +kernel
theorem dX12_step_249 : decode cX12_step 249 = .ok (.getfield 147, 3) := by decide +kernel
theorem dX12_step_252 : decode cX12_step 252 = .ok (.iconst 3, 1) := by decide +kernel
theorem dX12_step_253 : decode cX12_step 253 = .ok (.if_icmp .ge 22, 3) := by decide +kernel
theorem dX12_step_256 : decode cX12_step 256 = .ok (.aload_n 0, 1) := by decide +kernel
theorem dX12_step_257 : decode cX12_step 257 = .ok (.bipush 10, 2) := by decide +kernel
theorem dX12_step_259 : decode cX12_step 259 = .ok (.aload_n 0, 1) := by decide +kernel
theorem dX12_step_260 : decode cX12_step 260 = .ok (.getfield 160, 3) := by decide +kernel
theorem dX12_step_263 : decode cX12_step 263 = .ok (.imul, 1) := by decide +kernel
theorem dX12_step_264 : decode cX12_step 264 = .ok (.aload_n 0, 1) := by decide +kernel
theorem dX12_step_265 : decode cX12_step 265 = .ok (.invokevirtual 140, 3) := by decide +kernel
theorem dX12_step_268 : decode cX12_step 268 = .ok (.iadd, 1) := by decide +kernel
theorem dX12_step_269 : decode cX12_step 269 = .ok (.bipush 48, 2) := by decide +kernel
theorem dX12_step_271 : decode cX12_step 271 = .ok (.isub, 1) := by decide +kernel
theorem dX12_step_272 : decode cX12_step 272 = .ok (.putfield 160, 3) := by decide +kernel
theorem dX12_step_275 : decode cX12_step 275 = .ok (.aload_n 0, 1) := by decide +kernel
theorem dX12_step_276 : decode cX12_step 276 = .ok (.dup, 1) := by decide +kernel
theorem dX12_step_277 : decode cX12_step 277 = .ok (.getfield 147, 3) := by decide +kernel
theorem dX12_step_280 : decode cX12_step 280 = .ok (.iconst 1, 1) := by decide +kernel
theorem dX12_step_281 : decode cX12_step 281 = .ok (.iadd, 1) := by decide +kernel
theorem dX12_step_282 : decode cX12_step 282 = .ok (.putfield 147, 3) := by decide +kernel
theorem dX12_step_285 : decode cX12_step 285 = .ok (.aload_n 0, 1) := by decide +kernel
theorem dX12_step_286 : decode cX12_step 286 = .ok (.dup, 1) := by decide +kernel
theorem dX12_step_287 : decode cX12_step 287 = .ok (.getfield 21, 3) := by decide +kernel
theorem dX12_step_290 : decode cX12_step 290 = .ok (.iconst 1, 1) := by decide +kernel
theorem dX12_step_291 : decode cX12_step 291 = .ok (.iadd, 1) := by decide +kernel
theorem dX12_step_292 : decode cX12_step 292 = .ok (.putfield 21, 3) := by decide +kernel
theorem dX12_step_295 : decode cX12_step 295 = .ok (.goto (-114), 3) := by decide +kernel
theorem dX12_step_298 : decode cX12_step 298 = .ok (.aload_n 0, 1) := by decide +kernel
theorem dX12_step_299 : decode cX12_step 299 = .ok (.iload_n 3, 1) := by decide +kernel
theorem dX12_step_300 : decode cX12_step 300 = .ok (.ifCond .eq 20, 3) := by decide +kernel
theorem dX12_step_303 : decode cX12_step 303 = .ok (.aload_n 0, 1) := by decide +kernel
theorem dX12_step_304 : decode cX12_step 304 = .ok (.getfield 147, 3) := by decide +kernel
theorem dX12_step_307 : decode cX12_step 307 = .ok (.iload_n 2, 1) := by decide +kernel
theorem dX12_step_308 : decode cX12_step 308 = .ok (.ifCond .eq 8, 3) := by decide +kernel
theorem dX12_step_311 : decode cX12_step 311 = .ok (.bipush 7, 2) := by decide +kernel
theorem dX12_step_313 : decode cX12_step 313 = .ok (.goto 4, 3) := by decide +kernel
theorem dX12_step_316 : decode cX12_step 316 = .ok (.iconst 3, 1) := by decide +kernel
theorem dX12_step_317 : decode cX12_step 317 = .ok (.if_icmp .le 7, 3) := by decide +kernel
theorem dX12_step_320 : decode cX12_step 320 = .ok (.iconst 4, 1) := by decide +kernel
theorem dX12_step_321 : decode cX12_step 321 = .ok (.goto 12, 3) := by decide +kernel
theorem dX12_step_324 : decode cX12_step 324 = .ok (.iload_n 2, 1) := by decide +kernel
theorem dX12_step_325 : decode cX12_step 325 = .ok (.ifCond .eq 7, 3) := by decide +kernel
theorem dX12_step_328 : decode cX12_step 328 = .ok (.iconst 1, 1) := by decide +kernel
theorem dX12_step_329 : decode cX12_step 329 = .ok (.goto 4, 3) := by decide +kernel
theorem dX12_step_332 : decode cX12_step 332 = .ok (.iconst 2, 1) := by decide +kernel
theorem dX12_step_333 : decode cX12_step 333 = .ok (.putfield 150, 3) := by decide +kernel
theorem dX12_step_336 : decode cX12_step 336 = .ok (.return_, 1) := by decide +kernel
theorem dX12_bad_0 : decode cX12_bad 0 = .ok (.aload_n 0, 1) := by decide +kernel
theorem dX12_bad_1 : decode cX12_bad 1 = .ok (.iload_n 1, 1) := by decide +kernel
theorem dX12_bad_2 : decode cX12_bad 2 = .ok (.putfield 167, 3) := by decide +kernel
theorem dX12_bad_5 : decode cX12_bad 5 = .ok (.aload_n 0, 1) := by decide +kernel
theorem dX12_bad_6 : decode cX12_bad 6 = .ok (.aload_n 0, 1) := by decide +kernel
theorem dX12_bad_7 : decode cX12_bad 7 = .ok (.getfield 144, 3) := by decide +kernel
theorem dX12_bad_10 : decode cX12_bad 10 = .ok (.putfield 170, 3) := by decide +kernel
theorem dX12_bad_13 : decode cX12_bad 13 = .ok (.iconst 0, 1) := by decide +kernel
theorem dX12_bad_14 : decode cX12_bad 14 = .ok (.ireturn, 1) := by decide +kernel
theorem dX12_isWord_0 : decode cX12_isWord 0 = .ok (.aload_n 0, 1) := by decide +kernel
theorem dX12_isWord_1 : decode cX12_isWord 1 = .ok (.getfield 150, 3) := by decide +kernel
theorem dX12_isWord_4 : decode cX12_isWord 4 = .ok (.iconst 1, 1) := by decide +kernel
theorem dX12_isWord_5 : decode cX12_isWord 5 = .ok (.if_icmp .ne 16, 3) := by decide +kernel
theorem dX12_isWord_8 : decode cX12_isWord 8 = .ok (.aload_n 0, 1) := by decide +kernel
theorem dX12_isWord_9 : decode cX12_isWord 9 = .ok (.getfield 163, 3) := by decide +kernel
theorem dX12_isWord_12 : decode cX12_isWord 12 = .ok (.lload_n 1, 1) := by decide +kernel
theorem dX12_isWord_13 : decode cX12_isWord 13 = .ok (.lcmp, 1) := by decide +kernel
theorem dX12_isWord_14 : decode cX12_isWord 14 = .ok (.ifCond .ne 7, 3) := by decide +kernel
theorem dX12_isWord_17 : decode cX12_isWord 17 = .ok (.iconst 1, 1) := by decide +kernel
theorem dX12_isWord_18 : decode cX12_isWord 18 = .ok (.goto 4, 3) := by decide +kernel
theorem dX12_isWord_21 : decode cX12_isWord 21 = .ok (.iconst 0, 1) := by decide +kernel
theorem dX12_isWord_22 : decode cX12_isWord 22 = .ok (.ireturn, 1) := by decide +kernel
theorem dX12_isSign_0 : decode cX12_isSign 0 = .ok (.aload_n 0, 1) := by decide +kernel
theorem dX12_isSign_1 : decode cX12_isSign 1 = .ok (.getfield 150, 3) := by decide +kernel
theorem dX12_isSign_4 : decode cX12_isSign 4 = .ok (.iconst 3, 1) := by decide +kernel
theorem dX12_isSign_5 : decode cX12_isSign 5 = .ok (.if_icmp .ne 15, 3) := by decide +kernel
theorem dX12_isSign_8 : decode cX12_isSign 8 = .ok (.aload_n 0, 1) := by decide +kernel
theorem dX12_isSign_9 : decode cX12_isSign 9 = .ok (.getfield 160, 3) := by decide +kernel
theorem dX12_isSign_12 : decode cX12_isSign 12 = .ok (.iload_n 1, 1) := by decide +kernel
theorem dX12_isSign_13 : decode cX12_isSign 13 = .ok (.if_icmp .ne 7, 3) := by decide +kernel
theorem dX12_isSign_16 : decode cX12_isSign 16 = .ok (.iconst 1, 1) := by decide +kernel
theorem dX12_isSign_17 : decode cX12_isSign 17 = .ok (.goto 4, 3) := by decide +kernel
theorem dX12_isSign_20 : decode cX12_isSign 20 = .ok (.iconst 0, 1) := by decide +kernel
theorem dX12_isSign_21 : decode cX12_isSign 21 = .ok (.ireturn, 1) := by decide +kernel
theorem dX12_sign_0 : decode cX12_sign 0 = .ok (.aload_n 0, 1) := by decide +kernel
theorem dX12_sign_1 : decode cX12_sign 1 = .ok (.iload_n 1, 1) := by decide +kernel
theorem dX12_sign_2 : decode cX12_sign 2 = .ok (.invokevirtual 173, 3) := by decide +kernel
theorem dX12_sign_5 : decode cX12_sign 5 = .ok (.ifCond .ne 9, 3) := by decide +kernel
theorem dX12_sign_8 : decode cX12_sign 8 = .ok (.aload_n 0, 1) := by decide +kernel
theorem dX12_sign_9 : decode cX12_sign 9 = .ok (.iconst 1, 1) := by decide +kernel
theorem dX12_sign_10 : decode cX12_sign 10 = .ok (.invokevirtual 176, 3) := by decide +kernel
theorem dX12_sign_13 : decode cX12_sign 13 = .ok (.ireturn, 1) := by decide +kernel
theorem dX12_sign_14 : decode cX12_sign 14 = .ok (.aload_n 0, 1) := by decide +kernel
theorem dX12_sign_15 : decode cX12_sign 15 = .ok (.invokevirtual 179, 3) := by decide +kernel
theorem dX12_sign_18 : decode cX12_sign 18 = .ok (.iconst 1, 1) := by decide +kernel
theorem dX12_sign_19 : decode cX12_sign 19 = .ok (.ireturn, 1) := by decide +kernel
theorem dX12_isName_0 : decode cX12_isName 0 = .ok (.aload_n 0, 1) := by decide +kernel
theorem dX12_isName_1 : decode cX12_isName 1 = .ok (.getfield 150, 3) := by decide +kernel
theorem dX12_isName_4 : decode cX12_isName 4 = .ok (.iconst 1, 1) := by decide +kernel
theorem dX12_isName_5 : decode cX12_isName 5 = .ok (.if_icmp .ne 7, 3) := by decide +kernel
theorem dX12_isName_8 : decode cX12_isName 8 = .ok (.iconst 1, 1) := by decide +kernel
theorem dX12_isName_9 : decode cX12_isName 9 = .ok (.goto 4, 3) := by decide +kernel
theorem dX12_isName_12 : decode cX12_isName 12 = .ok (.iconst 0, 1) := by decide +kernel
theorem dX12_isName_13 : decode cX12_isName 13 = .ok (.istore_n 1, 1) := by decide +kernel
theorem dX12_isName_14 : decode cX12_isName 14 = .ok (.iconst 0, 1) := by decide +kernel
theorem dX12_isName_15 : decode cX12_isName 15 = .ok (.istore_n 2, 1) := by decide +kernel
theorem dX12_isName_16 : decode cX12_isName 16 = .ok (.iload_n 2, 1) := by decide +kernel
theorem dX12_isName_17 : decode cX12_isName 17 = .ok (.bipush 22, 2) := by decide +kernel
theorem dX12_isName_19 : decode cX12_isName 19 = .ok (.if_icmp .ge 33, 3) := by decide +kernel
theorem dX12_isName_22 : decode cX12_isName 22 = .ok (.iload_n 1, 1) := by decide +kernel
theorem dX12_isName_23 : decode cX12_isName 23 = .ok (.ifCond .eq 21, 3) := by decide +kernel
theorem dX12_isName_26 : decode cX12_isName 26 = .ok (.aload_n 0, 1) := by decide +kernel
theorem dX12_isName_27 : decode cX12_isName 27 = .ok (.getfield 163, 3) := by decide +kernel
theorem dX12_isName_30 : decode cX12_isName 30 = .ok (.aload_n 0, 1) := by decide +kernel
theorem dX12_isName_31 : decode cX12_isName 31 = .ok (.getfield 47, 3) := by decide +kernel
theorem dX12_isName_34 : decode cX12_isName 34 = .ok (.iload_n 2, 1) := by decide +kernel
theorem dX12_isName_35 : decode cX12_isName 35 = .ok (.laload, 1) := by decide +kernel
theorem dX12_isName_36 : decode cX12_isName 36 = .ok (.lcmp, 1) := by decide +kernel
theorem dX12_isName_37 : decode cX12_isName 37 = .ok (.ifCond .eq 7, 3) := by decide +kernel
theorem dX12_isName_40 : decode cX12_isName 40 = .ok (.iconst 1, 1) := by decide +kernel
theorem dX12_isName_41 : decode cX12_isName 41 = .ok (.goto 4, 3) := by decide +kernel
theorem dX12_isName_44 : decode cX12_isName 44 = .ok (.iconst 0, 1) := by decide +kernel
theorem dX12_isName_45 : decode cX12_isName 45 = .ok (.istore_n 1, 1) := by decide +kernel
theorem dX12_isName_46 : decode cX12_isName 46 = .ok (.iinc 2 1, 3) := by decide +kernel
theorem dX12_isName_49 : decode cX12_isName 49 = .ok (.goto (-33), 3) := by decide +kernel
theorem dX12_isName_52 : decode cX12_isName 52 = .ok (.iload_n 1, 1) := by decide +kernel
theorem dX12_isName_53 : decode cX12_isName 53 = .ok (.ireturn, 1) := by decide +kernel
theorem dX12_takes_0 : decode cX12_takes 0 = .ok (.aload_n 0, 1) := by decide +kernel
theorem dX12_takes_1 : decode cX12_takes 1 = .ok (.getfield 150, 3) := by decide +kernel
theorem dX12_takes_4 : decode cX12_takes 4 = .ok (.iconst 2, 1) := by decide +kernel
theorem dX12_takes_5 : decode cX12_takes 5 = .ok (.if_icmp .eq 9, 3) := by decide +kernel
theorem dX12_takes_8 : decode cX12_takes 8 = .ok (.aload_n 0, 1) := by decide +kernel
theorem dX12_takes_9 : decode cX12_takes 9 = .ok (.iconst 1, 1) := by decide +kernel
theorem dX12_takes_10 : decode cX12_takes 10 = .ok (.invokevirtual 176, 3) := by decide +kernel
theorem dX12_takes_13 : decode cX12_takes 13 = .ok (.ireturn, 1) := by decide +kernel
theorem dX12_takes_14 : decode cX12_takes 14 = .ok (.aload_n 0, 1) := by decide +kernel
theorem dX12_takes_15 : decode cX12_takes 15 = .ok (.getfield 160, 3) := by decide +kernel
theorem dX12_takes_18 : decode cX12_takes 18 = .ok (.iload_n 1, 1) := by decide +kernel
theorem dX12_takes_19 : decode cX12_takes 19 = .ok (.iload_n 2, 1) := by decide +kernel
theorem dX12_takes_20 : decode cX12_takes 20 = .ok (.invokestatic 182, 3) := by decide +kernel
theorem dX12_takes_23 : decode cX12_takes 23 = .ok (.ifCond .ne 9, 3) := by decide +kernel
theorem dX12_takes_26 : decode cX12_takes 26 = .ok (.aload_n 0, 1) := by decide +kernel
theorem dX12_takes_27 : decode cX12_takes 27 = .ok (.iconst 2, 1) := by decide +kernel
theorem dX12_takes_28 : decode cX12_takes 28 = .ok (.invokevirtual 176, 3) := by decide +kernel
theorem dX12_takes_31 : decode cX12_takes 31 = .ok (.ireturn, 1) := by decide +kernel
theorem dX12_takes_32 : decode cX12_takes 32 = .ok (.aload_n 0, 1) := by decide +kernel
theorem dX12_takes_33 : decode cX12_takes 33 = .ok (.aload_n 0, 1) := by decide +kernel
theorem dX12_takes_34 : decode cX12_takes 34 = .ok (.getfield 160, 3) := by decide +kernel
theorem dX12_takes_37 : decode cX12_takes 37 = .ok (.putfield 186, 3) := by decide +kernel
theorem dX12_takes_40 : decode cX12_takes 40 = .ok (.aload_n 0, 1) := by decide +kernel
theorem dX12_takes_41 : decode cX12_takes 41 = .ok (.invokevirtual 179, 3) := by decide +kernel
theorem dX12_takes_44 : decode cX12_takes 44 = .ok (.iconst 1, 1) := by decide +kernel
theorem dX12_takes_45 : decode cX12_takes 45 = .ok (.ireturn, 1) := by decide +kernel
theorem dX12_puts_0 : decode cX12_puts 0 = .ok (.aload_n 0, 1) := by decide +kernel
theorem dX12_puts_1 : decode cX12_puts 1 = .ok (.iload_n 2, 1) := by decide +kernel
theorem dX12_puts_2 : decode cX12_puts 2 = .ok (.iload_n 3, 1) := by decide +kernel
theorem dX12_puts_3 : decode cX12_puts 3 = .ok (.invokevirtual 189, 3) := by decide +kernel
theorem dX12_puts_6 : decode cX12_puts 6 = .ok (.ifCond .ne 5, 3) := by decide +kernel
theorem dX12_puts_9 : decode cX12_puts 9 = .ok (.iconst 0, 1) := by decide +kernel
theorem dX12_puts_10 : decode cX12_puts 10 = .ok (.ireturn, 1) := by decide +kernel
theorem dX12_puts_11 : decode cX12_puts 11 = .ok (.aload_n 0, 1) := by decide +kernel
theorem dX12_puts_12 : decode cX12_puts 12 = .ok (.getfield 37, 3) := by decide +kernel
theorem dX12_puts_15 : decode cX12_puts 15 = .ok (.iload_n 1, 1) := by decide +kernel
theorem dX12_puts_16 : decode cX12_puts 16 = .ok (.aload_n 0, 1) := by decide +kernel
theorem dX12_puts_17 : decode cX12_puts 17 = .ok (.getfield 186, 3) := by decide +kernel
theorem dX12_puts_20 : decode cX12_puts 20 = .ok (.iastore, 1) := by decide +kernel
theorem dX12_puts_21 : decode cX12_puts 21 = .ok (.iconst 1, 1) := by decide +kernel
theorem dX12_puts_22 : decode cX12_puts 22 = .ok (.ireturn, 1) := by decide +kernel
theorem dX12_seek_0 : decode cX12_seek 0 = .ok (.iconst 0, 1) := by decide +kernel
theorem dX12_seek_1 : decode cX12_seek 1 = .ok (.istore_n 3, 1) := by decide +kernel
theorem dX12_seek_2 : decode cX12_seek 2 = .ok (.iload_n 3, 1) := by decide +kernel
theorem dX12_seek_3 : decode cX12_seek 3 = .ok (.iload_n 2, 1) := by decide +kernel
theorem dX12_seek_4 : decode cX12_seek 4 = .ok (.if_icmp .ge 27, 3) := by decide +kernel
theorem dX12_seek_7 : decode cX12_seek 7 = .ok (.aload_n 0, 1) := by decide +kernel
theorem dX12_seek_8 : decode cX12_seek 8 = .ok (.getfield 43, 3) := by decide +kernel
theorem dX12_seek_11 : decode cX12_seek 11 = .ok (.iload_n 1, 1) := by decide +kernel
theorem dX12_seek_12 : decode cX12_seek 12 = .ok (.iload_n 3, 1) := by decide +kernel
theorem dX12_seek_13 : decode cX12_seek 13 = .ok (.iadd, 1) := by decide +kernel
theorem dX12_seek_14 : decode cX12_seek 14 = .ok (.laload, 1) := by decide +kernel
theorem dX12_seek_15 : decode cX12_seek 15 = .ok (.aload_n 0, 1) := by decide +kernel
theorem dX12_seek_16 : decode cX12_seek 16 = .ok (.getfield 163, 3) := by decide +kernel
theorem dX12_seek_19 : decode cX12_seek 19 = .ok (.lcmp, 1) := by decide +kernel
theorem dX12_seek_20 : decode cX12_seek 20 = .ok (.ifCond .ne 5, 3) := by decide +kernel
theorem dX12_seek_23 : decode cX12_seek 23 = .ok (.iload_n 3, 1) := by decide +kernel
theorem dX12_seek_24 : decode cX12_seek 24 = .ok (.ireturn, 1) := by decide +kernel
theorem dX12_seek_25 : decode cX12_seek 25 = .ok (.iinc 3 1, 3) := by decide +kernel
theorem dX12_seek_28 : decode cX12_seek 28 = .ok (.goto (-26), 3) := by decide +kernel
theorem dX12_seek_31 : decode cX12_seek 31 = .ok (.iconst (-1), 1) := by decide +kernel
theorem dX12_seek_32 : decode cX12_seek 32 = .ok (.ireturn, 1) := by decide +kernel
theorem dX12_fresh_0 : decode cX12_fresh 0 = .ok (.aload_n 0, 1) := by decide +kernel
theorem dX12_fresh_1 : decode cX12_fresh 1 = .ok (.invokevirtual 193, 3) := by decide +kernel
theorem dX12_fresh_4 : decode cX12_fresh 4 = .ok (.ifCond .ne 9, 3) := by decide +kernel
theorem dX12_fresh_7 : decode cX12_fresh 7 = .ok (.aload_n 0, 1) := by decide +kernel
theorem dX12_fresh_8 : decode cX12_fresh 8 = .ok (.iconst 1, 1) := by decide +kernel
theorem dX12_fresh_9 : decode cX12_fresh 9 = .ok (.invokevirtual 176, 3) := by decide +kernel
theorem dX12_fresh_12 : decode cX12_fresh 12 = .ok (.ireturn, 1) := by decide +kernel
theorem dX12_fresh_13 : decode cX12_fresh 13 = .ok (.aload_n 0, 1) := by decide +kernel
theorem dX12_fresh_14 : decode cX12_fresh 14 = .ok (.bipush 13, 2) := by decide +kernel
theorem dX12_fresh_16 : decode cX12_fresh 16 = .ok (.aload_n 0, 1) := by decide +kernel
theorem dX12_fresh_17 : decode cX12_fresh 17 = .ok (.getfield 37, 3) := by decide +kernel
theorem dX12_fresh_20 : decode cX12_fresh 20 = .ok (.iconst 1, 1) := by decide +kernel
theorem dX12_fresh_21 : decode cX12_fresh 21 = .ok (.iaload, 1) := by decide +kernel
theorem dX12_fresh_22 : decode cX12_fresh 22 = .ok (.invokevirtual 197, 3) := by decide +kernel
theorem dX12_fresh_25 : decode cX12_fresh 25 = .ok (.ifCond .ge 18, 3) := by decide +kernel
theorem dX12_fresh_28 : decode cX12_fresh 28 = .ok (.aload_n 0, 1) := by decide +kernel
theorem dX12_fresh_29 : decode cX12_fresh 29 = .ok (.bipush 20, 2) := by decide +kernel
theorem dX12_fresh_31 : decode cX12_fresh 31 = .ok (.aload_n 0, 1) := by decide +kernel
theorem dX12_fresh_32 : decode cX12_fresh 32 = .ok (.getfield 37, 3) := by decide +kernel
theorem dX12_fresh_35 : decode cX12_fresh 35 = .ok (.iconst 2, 1) := by decide +kernel
theorem dX12_fresh_36 : decode cX12_fresh 36 = .ok (.iaload, 1) := by decide +kernel
theorem dX12_fresh_37 : decode cX12_fresh 37 = .ok (.invokevirtual 197, 3) := by decide +kernel
theorem dX12_fresh_40 : decode cX12_fresh 40 = .ok (.ifCond .lt 9, 3) := by decide +kernel
theorem dX12_fresh_43 : decode cX12_fresh 43 = .ok (.aload_n 0, 1) := by decide +kernel
theorem dX12_fresh_44 : decode cX12_fresh 44 = .ok (.iconst 3, 1) := by decide +kernel
theorem dX12_fresh_45 : decode cX12_fresh 45 = .ok (.invokevirtual 176, 3) := by decide +kernel
theorem dX12_fresh_48 : decode cX12_fresh 48 = .ok (.ireturn, 1) := by decide +kernel
theorem dX12_fresh_49 : decode cX12_fresh 49 = .ok (.aload_n 0, 1) := by decide +kernel
theorem dX12_fresh_50 : decode cX12_fresh 50 = .ok (.getfield 43, 3) := by decide +kernel
theorem dX12_fresh_53 : decode cX12_fresh 53 = .ok (.iload_n 1, 1) := by decide +kernel
theorem dX12_fresh_54 : decode cX12_fresh 54 = .ok (.aload_n 0, 1) := by decide +kernel
theorem dX12_fresh_55 : decode cX12_fresh 55 = .ok (.getfield 163, 3) := by decide +kernel
theorem dX12_fresh_58 : decode cX12_fresh 58 = .ok (.lastore, 1) := by decide +kernel
theorem dX12_fresh_59 : decode cX12_fresh 59 = .ok (.aload_n 0, 1) := by decide +kernel
theorem dX12_fresh_60 : decode cX12_fresh 60 = .ok (.invokevirtual 179, 3) := by decide +kernel
theorem dX12_fresh_63 : decode cX12_fresh 63 = .ok (.iconst 1, 1) := by decide +kernel
theorem dX12_fresh_64 : decode cX12_fresh 64 = .ok (.ireturn, 1) := by decide +kernel
theorem dX12_looksAt_0 : decode cX12_looksAt 0 = .ok (.aload_n 0, 1) := by decide +kernel
theorem dX12_looksAt_1 : decode cX12_looksAt 1 = .ok (.invokevirtual 193, 3) := by decide +kernel
theorem dX12_looksAt_4 : decode cX12_looksAt 4 = .ok (.ifCond .ne 9, 3) := by decide +kernel
theorem dX12_looksAt_7 : decode cX12_looksAt 7 = .ok (.aload_n 0, 1) := by decide +kernel
theorem dX12_looksAt_8 : decode cX12_looksAt 8 = .ok (.iconst 1, 1) := by decide +kernel
theorem dX12_looksAt_9 : decode cX12_looksAt 9 = .ok (.invokevirtual 176, 3) := by decide +kernel
theorem dX12_looksAt_12 : decode cX12_looksAt 12 = .ok (.ireturn, 1) := by decide +kernel
theorem dX12_looksAt_13 : decode cX12_looksAt 13 = .ok (.aload_n 0, 1) := by decide +kernel
theorem dX12_looksAt_14 : decode cX12_looksAt 14 = .ok (.aload_n 0, 1) := by decide +kernel
theorem dX12_looksAt_15 : decode cX12_looksAt 15 = .ok (.iload_n 1, 1) := by decide +kernel
theorem dX12_looksAt_16 : decode cX12_looksAt 16 = .ok (.iload_n 2, 1) := by decide +kernel
theorem dX12_looksAt_17 : decode cX12_looksAt 17 = .ok (.invokevirtual 197, 3) := by decide +kernel
theorem dX12_looksAt_20 : decode cX12_looksAt 20 = .ok (.putfield 186, 3) := by decide +kernel
theorem dX12_looksAt_23 : decode cX12_looksAt 23 = .ok (.aload_n 0, 1) := by decide +kernel
theorem dX12_looksAt_24 : decode cX12_looksAt 24 = .ok (.getfield 186, 3) := by decide +kernel
theorem dX12_looksAt_27 : decode cX12_looksAt 27 = .ok (.ifCond .ge 11, 3) := by decide +kernel
theorem dX12_looksAt_30 : decode cX12_looksAt 30 = .ok (.aload_n 0, 1) := by decide +kernel
theorem dX12_looksAt_31 : decode cX12_looksAt 31 = .ok (.iconst 3, 1) := by decide +kernel
theorem dX12_looksAt_32 : decode cX12_looksAt 32 = .ok (.invokevirtual 176, 3) := by decide +kernel
theorem dX12_looksAt_35 : decode cX12_looksAt 35 = .ok (.ifCond .eq 7, 3) := by decide +kernel
theorem dX12_looksAt_38 : decode cX12_looksAt 38 = .ok (.iconst 1, 1) := by decide +kernel
theorem dX12_looksAt_39 : decode cX12_looksAt 39 = .ok (.goto 4, 3) := by decide +kernel
theorem dX12_looksAt_42 : decode cX12_looksAt 42 = .ok (.iconst 0, 1) := by decide +kernel
theorem dX12_looksAt_43 : decode cX12_looksAt 43 = .ok (.ireturn, 1) := by decide +kernel
theorem dX12_takesName_0 : decode cX12_takesName 0 = .ok (.aload_n 0, 1) := by decide +kernel
theorem dX12_takesName_1 : decode cX12_takesName 1 = .ok (.iload_n 1, 1) := by decide +kernel
theorem dX12_takesName_2 : decode cX12_takesName 2 = .ok (.iload_n 2, 1) := by decide +kernel
theorem dX12_takesName_3 : decode cX12_takesName 3 = .ok (.invokevirtual 201, 3) := by decide +kernel
theorem dX12_takesName_6 : decode cX12_takesName 6 = .ok (.ifCond .ne 5, 3) := by decide +kernel
theorem dX12_takesName_9 : decode cX12_takesName 9 = .ok (.iconst 0, 1) := by decide +kernel
theorem dX12_takesName_10 : decode cX12_takesName 10 = .ok (.ireturn, 1) := by decide +kernel
theorem dX12_takesName_11 : decode cX12_takesName 11 = .ok (.aload_n 0, 1) := by decide +kernel
theorem dX12_takesName_12 : decode cX12_takesName 12 = .ok (.invokevirtual 179, 3) := by decide +kernel
theorem dX12_takesName_15 : decode cX12_takesName 15 = .ok (.iconst 1, 1) := by decide +kernel
theorem dX12_takesName_16 : decode cX12_takesName 16 = .ok (.ireturn, 1) := by decide +kernel
theorem dX12_line_0 : decode cX12_line 0 = .ok (.aload_n 0, 1) := by decide +kernel
theorem dX12_line_1 : decode cX12_line 1 = .ok (.ldc2_w 93, 3) := by decide +kernel
theorem dX12_line_4 : decode cX12_line 4 = .ok (.invokevirtual 204, 3) := by decide +kernel
theorem dX12_line_7 : decode cX12_line 7 = .ok (.ifCond .eq 8, 3) := by decide +kernel
theorem dX12_line_10 : decode cX12_line 10 = .ok (.aload_n 0, 1) := by decide +kernel
theorem dX12_line_11 : decode cX12_line 11 = .ok (.invokevirtual 208, 3) := by decide +kernel
theorem dX12_line_14 : decode cX12_line 14 = .ok (.ireturn, 1) := by decide +kernel
theorem dX12_line_15 : decode cX12_line 15 = .ok (.aload_n 0, 1) := by decide +kernel
theorem dX12_line_16 : decode cX12_line 16 = .ok (.ldc2_w 95, 3) := by decide +kernel
theorem dX12_line_19 : decode cX12_line 19 = .ok (.invokevirtual 204, 3) := by decide +kernel
theorem dX12_line_22 : decode cX12_line 22 = .ok (.ifCond .eq 8, 3) := by decide +kernel
theorem dX12_line_25 : decode cX12_line 25 = .ok (.aload_n 0, 1) := by decide +kernel
theorem dX12_line_26 : decode cX12_line 26 = .ok (.invokevirtual 211, 3) := by decide +kernel
theorem dX12_line_29 : decode cX12_line 29 = .ok (.ireturn, 1) := by decide +kernel
theorem dX12_line_30 : decode cX12_line 30 = .ok (.aload_n 0, 1) := by decide +kernel
theorem dX12_line_31 : decode cX12_line 31 = .ok (.ldc2_w 97, 3) := by decide +kernel
theorem dX12_line_34 : decode cX12_line 34 = .ok (.invokevirtual 204, 3) := by decide +kernel
theorem dX12_line_37 : decode cX12_line 37 = .ok (.ifCond .eq 8, 3) := by decide +kernel
theorem dX12_line_40 : decode cX12_line 40 = .ok (.aload_n 0, 1) := by decide +kernel
theorem dX12_line_41 : decode cX12_line 41 = .ok (.invokevirtual 214, 3) := by decide +kernel
theorem dX12_line_44 : decode cX12_line 44 = .ok (.ireturn, 1) := by decide +kernel
theorem dX12_line_45 : decode cX12_line 45 = .ok (.aload_n 0, 1) := by decide +kernel
theorem dX12_line_46 : decode cX12_line 46 = .ok (.ldc2_w 99, 3) := by decide +kernel
theorem dX12_line_49 : decode cX12_line 49 = .ok (.invokevirtual 204, 3) := by decide +kernel
theorem dX12_line_52 : decode cX12_line 52 = .ok (.ifCond .eq 10, 3) := by decide +kernel
theorem dX12_line_55 : decode cX12_line 55 = .ok (.aload_n 0, 1) := by decide +kernel
theorem dX12_line_56 : decode cX12_line 56 = .ok (.invokevirtual 217, 3) := by decide +kernel
theorem dX12_line_59 : decode cX12_line 59 = .ok (.goto 8, 3) := by decide +kernel
theorem dX12_line_62 : decode cX12_line 62 = .ok (.aload_n 0, 1) := by decide +kernel
theorem dX12_line_63 : decode cX12_line 63 = .ok (.iconst 1, 1) := by decide +kernel
theorem dX12_line_64 : decode cX12_line 64 = .ok (.invokevirtual 176, 3) := by decide +kernel
theorem dX12_line_67 : decode cX12_line 67 = .ok (.ireturn, 1) := by decide +kernel
theorem dX12_readChairs_0 : decode cX12_readChairs 0 = .ok (.aload_n 0, 1) := by decide +kernel
theorem dX12_readChairs_1 : decode cX12_readChairs 1 = .ok (.getfield 220, 3) := by decide +kernel
theorem dX12_readChairs_4 : decode cX12_readChairs 4 = .ok (.ifCond .ne 12, 3) := by decide +kernel
theorem dX12_readChairs_7 : decode cX12_readChairs 7 = .ok (.aload_n 0, 1) := by decide +kernel
theorem dX12_readChairs_8 : decode cX12_readChairs 8 = .ok (.getfield 37, 3) := by decide +kernel
theorem dX12_readChairs_11 : decode cX12_readChairs 11 = .ok (.iconst 1, 1) := by decide +kernel
theorem dX12_readChairs_12 : decode cX12_readChairs 12 = .ok (.iaload, 1) := by decide +kernel
theorem dX12_readChairs_13 : decode cX12_readChairs 13 = .ok (.ifCond .le 9, 3) := by decide +kernel
theorem dX12_readChairs_16 : decode cX12_readChairs 16 = .ok (.aload_n 0, 1) := by decide +kernel
theorem dX12_readChairs_17 : decode cX12_readChairs 17 = .ok (.iconst 3, 1) := by decide +kernel
theorem dX12_readChairs_18 : decode cX12_readChairs 18 = .ok (.invokevirtual 176, 3) := by decide +kernel
theorem dX12_readChairs_21 : decode cX12_readChairs 21 = .ok (.ireturn, 1) := by decide +kernel
theorem dX12_readChairs_22 : decode cX12_readChairs 22 = .ok (.aload_n 0, 1) := by decide +kernel
theorem dX12_readChairs_23 : decode cX12_readChairs 23 = .ok (.iconst 1, 1) := by decide +kernel
theorem dX12_readChairs_24 : decode cX12_readChairs 24 = .ok (.putfield 220, 3) := by decide +kernel
theorem dX12_readChairs_27 : decode cX12_readChairs 27 = .ok (.aload_n 0, 1) := by decide +kernel
theorem dX12_readChairs_28 : decode cX12_readChairs 28 = .ok (.invokevirtual 179, 3) := by decide +kernel
theorem dX12_readChairs_31 : decode cX12_readChairs 31 = .ok (.aload_n 0, 1) := by decide +kernel
theorem dX12_readChairs_32 : decode cX12_readChairs 32 = .ok (.iconst 0, 1) := by decide +kernel
theorem dX12_readChairs_33 : decode cX12_readChairs 33 = .ok (.iconst 2, 1) := by decide +kernel
theorem dX12_readChairs_34 : decode cX12_readChairs 34 = .ok (.bipush 9, 2) := by decide +kernel
theorem dX12_readChairs_36 : decode cX12_readChairs 36 = .ok (.invokevirtual 224, 3) := by decide +kernel
theorem dX12_readChairs_39 : decode cX12_readChairs 39 = .ok (.ireturn, 1) := by decide +kernel
theorem dX12_readGuest_0 : decode cX12_readGuest 0 = .ok (.aload_n 0, 1) := by decide +kernel
theorem dX12_readGuest_1 : decode cX12_readGuest 1 = .ok (.getfield 37, 3) := by decide +kernel
theorem dX12_readGuest_4 : decode cX12_readGuest 4 = .ok (.iconst 1, 1) := by decide +kernel
theorem dX12_readGuest_5 : decode cX12_readGuest 5 = .ok (.iaload, 1) := by decide +kernel
theorem dX12_readGuest_6 : decode cX12_readGuest 6 = .ok (.istore_n 1, 1) := by decide +kernel
theorem dX12_readGuest_7 : decode cX12_readGuest 7 = .ok (.iload_n 1, 1) := by decide +kernel
theorem dX12_readGuest_8 : decode cX12_readGuest 8 = .ok (.bipush 7, 2) := by decide +kernel
theorem dX12_readGuest_10 : decode cX12_readGuest 10 = .ok (.if_icmp .eq 13, 3) := by decide +kernel
theorem dX12_readGuest_13 : decode cX12_readGuest 13 = .ok (.iload_n 1, 1) := by decide +kernel
theorem dX12_readGuest_14 : decode cX12_readGuest 14 = .ok (.aload_n 0, 1) := by decide +kernel
theorem dX12_readGuest_15 : decode cX12_readGuest 15 = .ok (.getfield 37, 3) := by decide +kernel
theorem dX12_readGuest_18 : decode cX12_readGuest 18 = .ok (.iconst 0, 1) := by decide +kernel
theorem dX12_readGuest_19 : decode cX12_readGuest 19 = .ok (.iaload, 1) := by decide +kernel
theorem dX12_readGuest_20 : decode cX12_readGuest 20 = .ok (.if_icmp .ne 9, 3) := by decide +kernel
theorem dX12_readGuest_23 : decode cX12_readGuest 23 = .ok (.aload_n 0, 1) := by decide +kernel
theorem dX12_readGuest_24 : decode cX12_readGuest 24 = .ok (.iconst 4, 1) := by decide +kernel
theorem dX12_readGuest_25 : decode cX12_readGuest 25 = .ok (.invokevirtual 176, 3) := by decide +kernel
theorem dX12_readGuest_28 : decode cX12_readGuest 28 = .ok (.ireturn, 1) := by decide +kernel
theorem dX12_readGuest_29 : decode cX12_readGuest 29 = .ok (.aload_n 0, 1) := by decide +kernel
theorem dX12_readGuest_30 : decode cX12_readGuest 30 = .ok (.invokevirtual 179, 3) := by decide +kernel
theorem dX12_readGuest_33 : decode cX12_readGuest 33 = .ok (.aload_n 0, 1) := by decide +kernel
theorem dX12_readGuest_34 : decode cX12_readGuest 34 = .ok (.bipush 13, 2) := by decide +kernel
theorem dX12_readGuest_36 : decode cX12_readGuest 36 = .ok (.iload_n 1, 1) := by decide +kernel
theorem dX12_readGuest_37 : decode cX12_readGuest 37 = .ok (.iadd, 1) := by decide +kernel
theorem dX12_readGuest_38 : decode cX12_readGuest 38 = .ok (.invokevirtual 227, 3) := by decide +kernel
theorem dX12_readGuest_41 : decode cX12_readGuest 41 = .ok (.ifCond .eq 65, 3) := by decide +kernel
theorem dX12_readGuest_44 : decode cX12_readGuest 44 = .ok (.aload_n 0, 1) := by decide +kernel
theorem dX12_readGuest_45 : decode cX12_readGuest 45 = .ok (.iconst 3, 1) := by decide +kernel
theorem dX12_readGuest_46 : decode cX12_readGuest 46 = .ok (.iload_n 1, 1) := by decide +kernel
theorem dX12_readGuest_47 : decode cX12_readGuest 47 = .ok (.iadd, 1) := by decide +kernel
theorem dX12_readGuest_48 : decode cX12_readGuest 48 = .ok (.iconst 0, 1) := by decide +kernel
theorem dX12_readGuest_49 : decode cX12_readGuest 49 = .ok (.sipush 999, 3) := by decide +kernel
theorem dX12_readGuest_52 : decode cX12_readGuest 52 = .ok (.invokevirtual 224, 3) := by decide +kernel
theorem dX12_readGuest_55 : decode cX12_readGuest 55 = .ok (.ifCond .eq 51, 3) := by decide +kernel
theorem dX12_readGuest_58 : decode cX12_readGuest 58 = .ok (.aload_n 0, 1) := by decide +kernel
theorem dX12_readGuest_59 : decode cX12_readGuest 59 = .ok (.bipush 10, 2) := by decide +kernel
theorem dX12_readGuest_61 : decode cX12_readGuest 61 = .ok (.iload_n 1, 1) := by decide +kernel
theorem dX12_readGuest_62 : decode cX12_readGuest 62 = .ok (.iadd, 1) := by decide +kernel
theorem dX12_readGuest_63 : decode cX12_readGuest 63 = .ok (.iconst 0, 1) := by decide +kernel
theorem dX12_readGuest_64 : decode cX12_readGuest 64 = .ok (.bipush 9, 2) := by decide +kernel
theorem dX12_readGuest_66 : decode cX12_readGuest 66 = .ok (.invokevirtual 224, 3) := by decide +kernel
theorem dX12_readGuest_69 : decode cX12_readGuest 69 = .ok (.ifCond .eq 37, 3) := by decide +kernel
theorem dX12_readGuest_72 : decode cX12_readGuest 72 = .ok (.aload_n 0, 1) := by decide +kernel
theorem dX12_readGuest_73 : decode cX12_readGuest 73 = .ok (.bipush 17, 2) := by decide +kernel
theorem dX12_readGuest_75 : decode cX12_readGuest 75 = .ok (.iload_n 1, 1) := by decide +kernel
theorem dX12_readGuest_76 : decode cX12_readGuest 76 = .ok (.iadd, 1) := by decide +kernel
theorem dX12_readGuest_77 : decode cX12_readGuest 77 = .ok (.iconst 0, 1) := by decide +kernel
theorem dX12_readGuest_78 : decode cX12_readGuest 78 = .ok (.bipush 9, 2) := by decide +kernel
theorem dX12_readGuest_80 : decode cX12_readGuest 80 = .ok (.invokevirtual 224, 3) := by decide +kernel
theorem dX12_readGuest_83 : decode cX12_readGuest 83 = .ok (.ifCond .eq 23, 3) := by decide +kernel
theorem dX12_readGuest_86 : decode cX12_readGuest 86 = .ok (.aload_n 0, 1) := by decide +kernel
theorem dX12_readGuest_87 : decode cX12_readGuest 87 = .ok (.bipush 24, 2) := by decide +kernel
theorem dX12_readGuest_89 : decode cX12_readGuest 89 = .ok (.iload_n 1, 1) := by decide +kernel
theorem dX12_readGuest_90 : decode cX12_readGuest 90 = .ok (.iadd, 1) := by decide +kernel
theorem dX12_readGuest_91 : decode cX12_readGuest 91 = .ok (.iconst 0, 1) := by decide +kernel
theorem dX12_readGuest_92 : decode cX12_readGuest 92 = .ok (.aload_n 0, 1) := by decide +kernel
theorem dX12_readGuest_93 : decode cX12_readGuest 93 = .ok (.getfield 37, 3) := by decide +kernel
theorem dX12_readGuest_96 : decode cX12_readGuest 96 = .ok (.iconst 0, 1) := by decide +kernel
theorem dX12_readGuest_97 : decode cX12_readGuest 97 = .ok (.iaload, 1) := by decide +kernel
theorem dX12_readGuest_98 : decode cX12_readGuest 98 = .ok (.iconst 1, 1) := by decide +kernel
theorem dX12_readGuest_99 : decode cX12_readGuest 99 = .ok (.isub, 1) := by decide +kernel
theorem dX12_readGuest_100 : decode cX12_readGuest 100 = .ok (.invokevirtual 224, 3) := by decide +kernel
theorem dX12_readGuest_103 : decode cX12_readGuest 103 = .ok (.ifCond .ne 5, 3) := by decide +kernel
theorem dX12_readGuest_106 : decode cX12_readGuest 106 = .ok (.iconst 0, 1) := by decide +kernel
theorem dX12_readGuest_107 : decode cX12_readGuest 107 = .ok (.ireturn, 1) := by decide +kernel
theorem dX12_readGuest_108 : decode cX12_readGuest 108 = .ok (.aload_n 0, 1) := by decide +kernel
theorem dX12_readGuest_109 : decode cX12_readGuest 109 = .ok (.getfield 37, 3) := by decide +kernel
theorem dX12_readGuest_112 : decode cX12_readGuest 112 = .ok (.iconst 1, 1) := by decide +kernel
theorem dX12_readGuest_113 : decode cX12_readGuest 113 = .ok (.dup2, 1) := by decide +kernel
theorem dX12_readGuest_114 : decode cX12_readGuest 114 = .ok (.iaload, 1) := by decide +kernel
theorem dX12_readGuest_115 : decode cX12_readGuest 115 = .ok (.iconst 1, 1) := by decide +kernel
theorem dX12_readGuest_116 : decode cX12_readGuest 116 = .ok (.iadd, 1) := by decide +kernel
theorem dX12_readGuest_117 : decode cX12_readGuest 117 = .ok (.iastore, 1) := by decide +kernel
theorem dX12_readGuest_118 : decode cX12_readGuest 118 = .ok (.iconst 1, 1) := by decide +kernel
theorem dX12_readGuest_119 : decode cX12_readGuest 119 = .ok (.ireturn, 1) := by decide +kernel
theorem dX12_readDish_0 : decode cX12_readDish 0 = .ok (.aload_n 0, 1) := by decide +kernel
theorem dX12_readDish_1 : decode cX12_readDish 1 = .ok (.getfield 37, 3) := by decide +kernel
theorem dX12_readDish_4 : decode cX12_readDish 4 = .ok (.iconst 2, 1) := by decide +kernel
theorem dX12_readDish_5 : decode cX12_readDish 5 = .ok (.iaload, 1) := by decide +kernel
theorem dX12_readDish_6 : decode cX12_readDish 6 = .ok (.istore_n 1, 1) := by decide +kernel
theorem dX12_readDish_7 : decode cX12_readDish 7 = .ok (.iload_n 1, 1) := by decide +kernel
theorem dX12_readDish_8 : decode cX12_readDish 8 = .ok (.bipush 6, 2) := by decide +kernel
theorem dX12_readDish_10 : decode cX12_readDish 10 = .ok (.if_icmp .ne 9, 3) := by decide +kernel
theorem dX12_readDish_13 : decode cX12_readDish 13 = .ok (.aload_n 0, 1) := by decide +kernel
theorem dX12_readDish_14 : decode cX12_readDish 14 = .ok (.iconst 4, 1) := by decide +kernel
theorem dX12_readDish_15 : decode cX12_readDish 15 = .ok (.invokevirtual 176, 3) := by decide +kernel
theorem dX12_readDish_18 : decode cX12_readDish 18 = .ok (.ireturn, 1) := by decide +kernel
theorem dX12_readDish_19 : decode cX12_readDish 19 = .ok (.aload_n 0, 1) := by decide +kernel
theorem dX12_readDish_20 : decode cX12_readDish 20 = .ok (.invokevirtual 179, 3) := by decide +kernel
theorem dX12_readDish_23 : decode cX12_readDish 23 = .ok (.aload_n 0, 1) := by decide +kernel
theorem dX12_readDish_24 : decode cX12_readDish 24 = .ok (.bipush 20, 2) := by decide +kernel
theorem dX12_readDish_26 : decode cX12_readDish 26 = .ok (.iload_n 1, 1) := by decide +kernel
theorem dX12_readDish_27 : decode cX12_readDish 27 = .ok (.iadd, 1) := by decide +kernel
theorem dX12_readDish_28 : decode cX12_readDish 28 = .ok (.invokevirtual 227, 3) := by decide +kernel
theorem dX12_readDish_31 : decode cX12_readDish 31 = .ok (.ifCond .eq 17, 3) := by decide +kernel
theorem dX12_readDish_34 : decode cX12_readDish 34 = .ok (.aload_n 0, 1) := by decide +kernel
theorem dX12_readDish_35 : decode cX12_readDish 35 = .ok (.bipush 31, 2) := by decide +kernel
theorem dX12_readDish_37 : decode cX12_readDish 37 = .ok (.iload_n 1, 1) := by decide +kernel
theorem dX12_readDish_38 : decode cX12_readDish 38 = .ok (.iadd, 1) := by decide +kernel
theorem dX12_readDish_39 : decode cX12_readDish 39 = .ok (.iconst 1, 1) := by decide +kernel
theorem dX12_readDish_40 : decode cX12_readDish 40 = .ok (.bipush 99, 2) := by decide +kernel
theorem dX12_readDish_42 : decode cX12_readDish 42 = .ok (.invokevirtual 224, 3) := by decide +kernel
theorem dX12_readDish_45 : decode cX12_readDish 45 = .ok (.ifCond .ne 5, 3) := by decide +kernel
theorem dX12_readDish_48 : decode cX12_readDish 48 = .ok (.iconst 0, 1) := by decide +kernel
theorem dX12_readDish_49 : decode cX12_readDish 49 = .ok (.ireturn, 1) := by decide +kernel
theorem dX12_readDish_50 : decode cX12_readDish 50 = .ok (.aload_n 0, 1) := by decide +kernel
theorem dX12_readDish_51 : decode cX12_readDish 51 = .ok (.getfield 37, 3) := by decide +kernel
theorem dX12_readDish_54 : decode cX12_readDish 54 = .ok (.iconst 2, 1) := by decide +kernel
theorem dX12_readDish_55 : decode cX12_readDish 55 = .ok (.dup2, 1) := by decide +kernel
theorem dX12_readDish_56 : decode cX12_readDish 56 = .ok (.iaload, 1) := by decide +kernel
theorem dX12_readDish_57 : decode cX12_readDish 57 = .ok (.iconst 1, 1) := by decide +kernel
theorem dX12_readDish_58 : decode cX12_readDish 58 = .ok (.iadd, 1) := by decide +kernel
theorem dX12_readDish_59 : decode cX12_readDish 59 = .ok (.iastore, 1) := by decide +kernel
theorem dX12_readDish_60 : decode cX12_readDish 60 = .ok (.iconst 1, 1) := by decide +kernel
theorem dX12_readDish_61 : decode cX12_readDish 61 = .ok (.ireturn, 1) := by decide +kernel
theorem dX12_readPays_0 : decode cX12_readPays 0 = .ok (.aload_n 0, 1) := by decide +kernel
theorem dX12_readPays_1 : decode cX12_readPays 1 = .ok (.invokevirtual 179, 3) := by decide +kernel
theorem dX12_readPays_4 : decode cX12_readPays 4 = .ok (.aload_n 0, 1) := by decide +kernel
theorem dX12_readPays_5 : decode cX12_readPays 5 = .ok (.bipush 13, 2) := by decide +kernel
theorem dX12_readPays_7 : decode cX12_readPays 7 = .ok (.aload_n 0, 1) := by decide +kernel
theorem dX12_readPays_8 : decode cX12_readPays 8 = .ok (.getfield 37, 3) := by decide +kernel
theorem dX12_readPays_11 : decode cX12_readPays 11 = .ok (.iconst 1, 1) := by decide +kernel
theorem dX12_readPays_12 : decode cX12_readPays 12 = .ok (.iaload, 1) := by decide +kernel
theorem dX12_readPays_13 : decode cX12_readPays 13 = .ok (.invokevirtual 230, 3) := by decide +kernel
theorem dX12_readPays_16 : decode cX12_readPays 16 = .ok (.ifCond .ne 5, 3) := by decide +kernel
theorem dX12_readPays_19 : decode cX12_readPays 19 = .ok (.iconst 0, 1) := by decide +kernel
theorem dX12_readPays_20 : decode cX12_readPays 20 = .ok (.ireturn, 1) := by decide +kernel
theorem dX12_readPays_21 : decode cX12_readPays 21 = .ok (.aload_n 0, 1) := by decide +kernel
theorem dX12_readPays_22 : decode cX12_readPays 22 = .ok (.getfield 186, 3) := by decide +kernel
theorem dX12_readPays_25 : decode cX12_readPays 25 = .ok (.istore_n 1, 1) := by decide +kernel
theorem dX12_readPays_26 : decode cX12_readPays 26 = .ok (.aload_n 0, 1) := by decide +kernel
theorem dX12_readPays_27 : decode cX12_readPays 27 = .ok (.bipush 13, 2) := by decide +kernel
theorem dX12_readPays_29 : decode cX12_readPays 29 = .ok (.aload_n 0, 1) := by decide +kernel
theorem dX12_readPays_30 : decode cX12_readPays 30 = .ok (.getfield 37, 3) := by decide +kernel
theorem dX12_readPays_33 : decode cX12_readPays 33 = .ok (.iconst 1, 1) := by decide +kernel
theorem dX12_readPays_34 : decode cX12_readPays 34 = .ok (.iaload, 1) := by decide +kernel
theorem dX12_readPays_35 : decode cX12_readPays 35 = .ok (.invokevirtual 201, 3) := by decide +kernel
theorem dX12_readPays_38 : decode cX12_readPays 38 = .ok (.ifCond .ne 5, 3) := by decide +kernel
theorem dX12_readPays_41 : decode cX12_readPays 41 = .ok (.iconst 0, 1) := by decide +kernel
theorem dX12_readPays_42 : decode cX12_readPays 42 = .ok (.ireturn, 1) := by decide +kernel
theorem dX12_readPays_43 : decode cX12_readPays 43 = .ok (.aload_n 0, 1) := by decide +kernel
theorem dX12_readPays_44 : decode cX12_readPays 44 = .ok (.getfield 186, 3) := by decide +kernel
theorem dX12_readPays_47 : decode cX12_readPays 47 = .ok (.iload_n 1, 1) := by decide +kernel
theorem dX12_readPays_48 : decode cX12_readPays 48 = .ok (.if_icmp .eq 18, 3) := by decide +kernel
theorem dX12_readPays_51 : decode cX12_readPays 51 = .ok (.aload_n 0, 1) := by decide +kernel
theorem dX12_readPays_52 : decode cX12_readPays 52 = .ok (.getfield 37, 3) := by decide +kernel
theorem dX12_readPays_55 : decode cX12_readPays 55 = .ok (.bipush 37, 2) := by decide +kernel
theorem dX12_readPays_57 : decode cX12_readPays 57 = .ok (.aload_n 0, 1) := by decide +kernel
theorem dX12_readPays_58 : decode cX12_readPays 58 = .ok (.getfield 186, 3) := by decide +kernel
theorem dX12_readPays_61 : decode cX12_readPays 61 = .ok (.iadd, 1) := by decide +kernel
theorem dX12_readPays_62 : decode cX12_readPays 62 = .ok (.iaload, 1) := by decide +kernel
theorem dX12_readPays_63 : decode cX12_readPays 63 = .ok (.ifCond .le 9, 3) := by decide +kernel
theorem dX12_readPays_66 : decode cX12_readPays 66 = .ok (.aload_n 0, 1) := by decide +kernel
theorem dX12_readPays_67 : decode cX12_readPays 67 = .ok (.iconst 3, 1) := by decide +kernel
theorem dX12_readPays_68 : decode cX12_readPays 68 = .ok (.invokevirtual 176, 3) := by decide +kernel
theorem dX12_readPays_71 : decode cX12_readPays 71 = .ok (.ireturn, 1) := by decide +kernel
theorem dX12_readPays_72 : decode cX12_readPays 72 = .ok (.aload_n 0, 1) := by decide +kernel
theorem dX12_readPays_73 : decode cX12_readPays 73 = .ok (.getfield 37, 3) := by decide +kernel
theorem dX12_readPays_76 : decode cX12_readPays 76 = .ok (.bipush 37, 2) := by decide +kernel
theorem dX12_readPays_78 : decode cX12_readPays 78 = .ok (.aload_n 0, 1) := by decide +kernel
theorem dX12_readPays_79 : decode cX12_readPays 79 = .ok (.getfield 186, 3) := by decide +kernel
theorem dX12_readPays_82 : decode cX12_readPays 82 = .ok (.iadd, 1) := by decide +kernel
theorem dX12_readPays_83 : decode cX12_readPays 83 = .ok (.iload_n 1, 1) := by decide +kernel
theorem dX12_readPays_84 : decode cX12_readPays 84 = .ok (.iconst 1, 1) := by decide +kernel
theorem dX12_readPays_85 : decode cX12_readPays 85 = .ok (.iadd, 1) := by decide +kernel
theorem dX12_readPays_86 : decode cX12_readPays 86 = .ok (.iastore, 1) := by decide +kernel
theorem dX12_readPays_87 : decode cX12_readPays 87 = .ok (.aload_n 0, 1) := by decide +kernel
theorem dX12_readPays_88 : decode cX12_readPays 88 = .ok (.invokevirtual 179, 3) := by decide +kernel
theorem dX12_readPays_91 : decode cX12_readPays 91 = .ok (.iconst 1, 1) := by decide +kernel
theorem dX12_readPays_92 : decode cX12_readPays 92 = .ok (.ireturn, 1) := by decide +kernel
theorem dX12_hall_0 : decode cX12_hall 0 = .ok (.aload_n 0, 1) := by decide +kernel
theorem dX12_hall_1 : decode cX12_hall 1 = .ok (.iconst 0, 1) := by decide +kernel
theorem dX12_hall_2 : decode cX12_hall 2 = .ok (.putfield 1, 3) := by decide +kernel
theorem dX12_hall_5 : decode cX12_hall 5 = .ok (.aload_n 0, 1) := by decide +kernel
theorem dX12_hall_6 : decode cX12_hall 6 = .ok (.sipush 900, 3) := by decide +kernel
theorem dX12_hall_9 : decode cX12_hall 9 = .ok (.invokevirtual 233, 3) := by decide +kernel
theorem dX12_hall_12 : decode cX12_hall 12 = .ok (.aload_n 0, 1) := by decide +kernel
theorem dX12_hall_13 : decode cX12_hall 13 = .ok (.iconst 0, 1) := by decide +kernel
theorem dX12_hall_14 : decode cX12_hall 14 = .ok (.putfield 167, 3) := by decide +kernel
theorem dX12_hall_17 : decode cX12_hall 17 = .ok (.aload_n 0, 1) := by decide +kernel
theorem dX12_hall_18 : decode cX12_hall 18 = .ok (.iconst 0, 1) := by decide +kernel
theorem dX12_hall_19 : decode cX12_hall 19 = .ok (.putfield 236, 3) := by decide +kernel
theorem dX12_hall_22 : decode cX12_hall 22 = .ok (.aload_n 0, 1) := by decide +kernel
theorem dX12_hall_23 : decode cX12_hall 23 = .ok (.iconst 0, 1) := by decide +kernel
theorem dX12_hall_24 : decode cX12_hall 24 = .ok (.putfield 220, 3) := by decide +kernel
theorem dX12_hall_27 : decode cX12_hall 27 = .ok (.aload_n 0, 1) := by decide +kernel
theorem dX12_hall_28 : decode cX12_hall 28 = .ok (.invokevirtual 137, 3) := by decide +kernel
theorem dX12_hall_31 : decode cX12_hall 31 = .ok (.aload_n 0, 1) := by decide +kernel
theorem dX12_hall_32 : decode cX12_hall 32 = .ok (.invokevirtual 179, 3) := by decide +kernel
theorem dX12_hall_35 : decode cX12_hall 35 = .ok (.aload_n 0, 1) := by decide +kernel
theorem dX12_hall_36 : decode cX12_hall 36 = .ok (.getfield 150, 3) := by decide +kernel
theorem dX12_hall_39 : decode cX12_hall 39 = .ok (.ifCond .eq 39, 3) := by decide +kernel
theorem dX12_hall_42 : decode cX12_hall 42 = .ok (.aload_n 0, 1) := by decide +kernel
theorem dX12_hall_43 : decode cX12_hall 43 = .ok (.invokevirtual 239, 3) := by decide +kernel
theorem dX12_hall_46 : decode cX12_hall 46 = .ok (.ifCond .eq 12, 3) := by decide +kernel
theorem dX12_hall_49 : decode cX12_hall 49 = .ok (.aload_n 0, 1) := by decide +kernel
theorem dX12_hall_50 : decode cX12_hall 50 = .ok (.bipush 59, 2) := by decide +kernel
theorem dX12_hall_52 : decode cX12_hall 52 = .ok (.invokevirtual 242, 3) := by decide +kernel
theorem dX12_hall_55 : decode cX12_hall 55 = .ok (.ifCond .ne 10, 3) := by decide +kernel
theorem dX12_hall_58 : decode cX12_hall 58 = .ok (.iconst (-1), 1) := by decide +kernel
theorem dX12_hall_59 : decode cX12_hall 59 = .ok (.aload_n 0, 1) := by decide +kernel
theorem dX12_hall_60 : decode cX12_hall 60 = .ok (.getfield 170, 3) := by decide +kernel
theorem dX12_hall_63 : decode cX12_hall 63 = .ok (.isub, 1) := by decide +kernel
theorem dX12_hall_64 : decode cX12_hall 64 = .ok (.ireturn, 1) := by decide +kernel
theorem dX12_hall_65 : decode cX12_hall 65 = .ok (.aload_n 0, 1) := by decide +kernel
theorem dX12_hall_66 : decode cX12_hall 66 = .ok (.dup, 1) := by decide +kernel
theorem dX12_hall_67 : decode cX12_hall 67 = .ok (.getfield 236, 3) := by decide +kernel
theorem dX12_hall_70 : decode cX12_hall 70 = .ok (.iconst 1, 1) := by decide +kernel
theorem dX12_hall_71 : decode cX12_hall 71 = .ok (.iadd, 1) := by decide +kernel
theorem dX12_hall_72 : decode cX12_hall 72 = .ok (.putfield 236, 3) := by decide +kernel
theorem dX12_hall_75 : decode cX12_hall 75 = .ok (.goto (-40), 3) := by decide +kernel
theorem dX12_hall_78 : decode cX12_hall 78 = .ok (.iconst 0, 1) := by decide +kernel
theorem dX12_hall_79 : decode cX12_hall 79 = .ok (.istore_n 1, 1) := by decide +kernel
theorem dX12_hall_80 : decode cX12_hall 80 = .ok (.iload_n 1, 1) := by decide +kernel
theorem dX12_hall_81 : decode cX12_hall 81 = .ok (.sipush 273, 3) := by decide +kernel
theorem dX12_hall_84 : decode cX12_hall 84 = .ok (.if_icmp .ge 31, 3) := by decide +kernel
theorem dX12_hall_87 : decode cX12_hall 87 = .ok (.aload_n 0, 1) := by decide +kernel
theorem dX12_hall_88 : decode cX12_hall 88 = .ok (.getfield 33, 3) := by decide +kernel
theorem dX12_hall_91 : decode cX12_hall 91 = .ok (.iload_n 1, 1) := by decide +kernel
theorem dX12_hall_92 : decode cX12_hall 92 = .ok (.iload_n 1, 1) := by decide +kernel
theorem dX12_hall_93 : decode cX12_hall 93 = .ok (.bipush 44, 2) := by decide +kernel
theorem dX12_hall_95 : decode cX12_hall 95 = .ok (.if_icmp .ge 12, 3) := by decide +kernel
theorem dX12_hall_98 : decode cX12_hall 98 = .ok (.aload_n 0, 1) := by decide +kernel
theorem dX12_hall_99 : decode cX12_hall 99 = .ok (.getfield 37, 3) := by decide +kernel
theorem dX12_hall_102 : decode cX12_hall 102 = .ok (.iload_n 1, 1) := by decide +kernel
theorem dX12_hall_103 : decode cX12_hall 103 = .ok (.iaload, 1) := by decide +kernel
theorem dX12_hall_104 : decode cX12_hall 104 = .ok (.goto 4, 3) := by decide +kernel
theorem dX12_hall_107 : decode cX12_hall 107 = .ok (.iconst 0, 1) := by decide +kernel
theorem dX12_hall_108 : decode cX12_hall 108 = .ok (.iastore, 1) := by decide +kernel
theorem dX12_hall_109 : decode cX12_hall 109 = .ok (.iinc 1 1, 3) := by decide +kernel
theorem dX12_hall_112 : decode cX12_hall 112 = .ok (.goto (-32), 3) := by decide +kernel
theorem dX12_hall_115 : decode cX12_hall 115 = .ok (.iconst 0, 1) := by decide +kernel
theorem dX12_hall_116 : decode cX12_hall 116 = .ok (.istore_n 1, 1) := by decide +kernel
theorem dX12_hall_117 : decode cX12_hall 117 = .ok (.iload_n 1, 1) := by decide +kernel
theorem dX12_hall_118 : decode cX12_hall 118 = .ok (.bipush 13, 2) := by decide +kernel
theorem dX12_hall_120 : decode cX12_hall 120 = .ok (.if_icmp .ge 24, 3) := by decide +kernel
theorem dX12_hall_123 : decode cX12_hall 123 = .ok (.aload_n 0, 1) := by decide +kernel
theorem dX12_hall_124 : decode cX12_hall 124 = .ok (.getfield 43, 3) := by decide +kernel
theorem dX12_hall_127 : decode cX12_hall 127 = .ok (.iload_n 1, 1) := by decide +kernel
theorem dX12_hall_128 : decode cX12_hall 128 = .ok (.aload_n 0, 1) := by decide +kernel
theorem dX12_hall_129 : decode cX12_hall 129 = .ok (.getfield 43, 3) := by decide +kernel
theorem dX12_hall_132 : decode cX12_hall 132 = .ok (.bipush 13, 2) := by decide +kernel
theorem dX12_hall_134 : decode cX12_hall 134 = .ok (.iload_n 1, 1) := by decide +kernel
theorem dX12_hall_135 : decode cX12_hall 135 = .ok (.iadd, 1) := by decide +kernel
theorem dX12_hall_136 : decode cX12_hall 136 = .ok (.laload, 1) := by decide +kernel
theorem dX12_hall_137 : decode cX12_hall 137 = .ok (.lastore, 1) := by decide +kernel
theorem dX12_hall_138 : decode cX12_hall 138 = .ok (.iinc 1 1, 3) := by decide +kernel
theorem dX12_hall_141 : decode cX12_hall 141 = .ok (.goto (-24), 3) := by decide +kernel
theorem dX12_hall_144 : decode cX12_hall 144 = .ok (.iconst 0, 1) := by decide +kernel
theorem dX12_hall_145 : decode cX12_hall 145 = .ok (.istore_n 1, 1) := by decide +kernel
theorem dX12_hall_146 : decode cX12_hall 146 = .ok (.iload_n 1, 1) := by decide +kernel
theorem dX12_hall_147 : decode cX12_hall 147 = .ok (.bipush 7, 2) := by decide +kernel
theorem dX12_hall_149 : decode cX12_hall 149 = .ok (.if_icmp .ge 44, 3) := by decide +kernel
theorem dX12_hall_152 : decode cX12_hall 152 = .ok (.aload_n 0, 1) := by decide +kernel
theorem dX12_hall_153 : decode cX12_hall 153 = .ok (.getfield 33, 3) := by decide +kernel
theorem dX12_hall_156 : decode cX12_hall 156 = .ok (.bipush 49, 2) := by decide +kernel
theorem dX12_hall_158 : decode cX12_hall 158 = .ok (.iload_n 1, 1) := by decide +kernel
theorem dX12_hall_159 : decode cX12_hall 159 = .ok (.iadd, 1) := by decide +kernel
theorem dX12_hall_160 : decode cX12_hall 160 = .ok (.aload_n 0, 1) := by decide +kernel
theorem dX12_hall_161 : decode cX12_hall 161 = .ok (.getfield 33, 3) := by decide +kernel
theorem dX12_hall_164 : decode cX12_hall 164 = .ok (.iconst 3, 1) := by decide +kernel
theorem dX12_hall_165 : decode cX12_hall 165 = .ok (.iload_n 1, 1) := by decide +kernel
theorem dX12_hall_166 : decode cX12_hall 166 = .ok (.iadd, 1) := by decide +kernel
theorem dX12_hall_167 : decode cX12_hall 167 = .ok (.iaload, 1) := by decide +kernel
theorem dX12_hall_168 : decode cX12_hall 168 = .ok (.iastore, 1) := by decide +kernel
theorem dX12_hall_169 : decode cX12_hall 169 = .ok (.aload_n 0, 1) := by decide +kernel
theorem dX12_hall_170 : decode cX12_hall 170 = .ok (.getfield 33, 3) := by decide +kernel
theorem dX12_hall_173 : decode cX12_hall 173 = .ok (.bipush 56, 2) := by decide +kernel
theorem dX12_hall_175 : decode cX12_hall 175 = .ok (.iload_n 1, 1) := by decide +kernel
theorem dX12_hall_176 : decode cX12_hall 176 = .ok (.iadd, 1) := by decide +kernel
theorem dX12_hall_177 : decode cX12_hall 177 = .ok (.aload_n 0, 1) := by decide +kernel
theorem dX12_hall_178 : decode cX12_hall 178 = .ok (.getfield 33, 3) := by decide +kernel
theorem dX12_hall_181 : decode cX12_hall 181 = .ok (.bipush 24, 2) := by decide +kernel
theorem dX12_hall_183 : decode cX12_hall 183 = .ok (.iload_n 1, 1) := by decide +kernel
theorem dX12_hall_184 : decode cX12_hall 184 = .ok (.iadd, 1) := by decide +kernel
theorem dX12_hall_185 : decode cX12_hall 185 = .ok (.iaload, 1) := by decide +kernel
theorem dX12_hall_186 : decode cX12_hall 186 = .ok (.iastore, 1) := by decide +kernel
theorem dX12_hall_187 : decode cX12_hall 187 = .ok (.iinc 1 1, 3) := by decide +kernel
theorem dX12_hall_190 : decode cX12_hall 190 = .ok (.goto (-44), 3) := by decide +kernel
theorem dX12_hall_193 : decode cX12_hall 193 = .ok (.aload_n 0, 1) := by decide +kernel
theorem dX12_hall_194 : decode cX12_hall 194 = .ok (.iconst 0, 1) := by decide +kernel
theorem dX12_hall_195 : decode cX12_hall 195 = .ok (.putfield 245, 3) := by decide +kernel
theorem dX12_hall_198 : decode cX12_hall 198 = .ok (.aload_n 0, 1) := by decide +kernel
theorem dX12_hall_199 : decode cX12_hall 199 = .ok (.getfield 236, 3) := by decide +kernel
theorem dX12_hall_202 : decode cX12_hall 202 = .ok (.ireturn, 1) := by decide +kernel
theorem dX12_fault_0 : decode cX12_fault 0 = .ok (.aload_n 0, 1) := by decide +kernel
theorem dX12_fault_1 : decode cX12_fault 1 = .ok (.iconst 0, 1) := by decide +kernel
theorem dX12_fault_2 : decode cX12_fault 2 = .ok (.putfield 1, 3) := by decide +kernel
theorem dX12_fault_5 : decode cX12_fault 5 = .ok (.aload_n 0, 1) := by decide +kernel
theorem dX12_fault_6 : decode cX12_fault 6 = .ok (.getfield 167, 3) := by decide +kernel
theorem dX12_fault_9 : decode cX12_fault 9 = .ok (.ireturn, 1) := by decide +kernel
theorem dX12_isGuest_0 : decode cX12_isGuest 0 = .ok (.iload_n 1, 1) := by decide +kernel
theorem dX12_isGuest_1 : decode cX12_isGuest 1 = .ok (.iconst 0, 1) := by decide +kernel
theorem dX12_isGuest_2 : decode cX12_isGuest 2 = .ok (.aload_n 0, 1) := by decide +kernel
theorem dX12_isGuest_3 : decode cX12_isGuest 3 = .ok (.getfield 33, 3) := by decide +kernel
theorem dX12_isGuest_6 : decode cX12_isGuest 6 = .ok (.iconst 1, 1) := by decide +kernel
theorem dX12_isGuest_7 : decode cX12_isGuest 7 = .ok (.iaload, 1) := by decide +kernel
theorem dX12_isGuest_8 : decode cX12_isGuest 8 = .ok (.iconst 1, 1) := by decide +kernel
theorem dX12_isGuest_9 : decode cX12_isGuest 9 = .ok (.isub, 1) := by decide +kernel
theorem dX12_isGuest_10 : decode cX12_isGuest 10 = .ok (.invokestatic 182, 3) := by decide +kernel
theorem dX12_isGuest_13 : decode cX12_isGuest 13 = .ok (.ireturn, 1) := by decide +kernel
theorem dX12_isDish_0 : decode cX12_isDish 0 = .ok (.iload_n 1, 1) := by decide +kernel
theorem dX12_isDish_1 : decode cX12_isDish 1 = .ok (.iconst 0, 1) := by decide +kernel
theorem dX12_isDish_2 : decode cX12_isDish 2 = .ok (.aload_n 0, 1) := by decide +kernel
theorem dX12_isDish_3 : decode cX12_isDish 3 = .ok (.getfield 33, 3) := by decide +kernel
theorem dX12_isDish_6 : decode cX12_isDish 6 = .ok (.iconst 2, 1) := by decide +kernel
theorem dX12_isDish_7 : decode cX12_isDish 7 = .ok (.iaload, 1) := by decide +kernel
theorem dX12_isDish_8 : decode cX12_isDish 8 = .ok (.iconst 1, 1) := by decide +kernel
theorem dX12_isDish_9 : decode cX12_isDish 9 = .ok (.isub, 1) := by decide +kernel
theorem dX12_isDish_10 : decode cX12_isDish 10 = .ok (.invokestatic 182, 3) := by decide +kernel
theorem dX12_isDish_13 : decode cX12_isDish 13 = .ok (.ireturn, 1) := by decide +kernel
theorem dX12_isChair_0 : decode cX12_isChair 0 = .ok (.iload_n 1, 1) := by decide +kernel
theorem dX12_isChair_1 : decode cX12_isChair 1 = .ok (.iconst 0, 1) := by decide +kernel
theorem dX12_isChair_2 : decode cX12_isChair 2 = .ok (.aload_n 0, 1) := by decide +kernel
theorem dX12_isChair_3 : decode cX12_isChair 3 = .ok (.getfield 33, 3) := by decide +kernel
theorem dX12_isChair_6 : decode cX12_isChair 6 = .ok (.iconst 0, 1) := by decide +kernel
theorem dX12_isChair_7 : decode cX12_isChair 7 = .ok (.iaload, 1) := by decide +kernel
theorem dX12_isChair_8 : decode cX12_isChair 8 = .ok (.iconst 1, 1) := by decide +kernel
theorem dX12_isChair_9 : decode cX12_isChair 9 = .ok (.isub, 1) := by decide +kernel
theorem dX12_isChair_10 : decode cX12_isChair 10 = .ok (.invokestatic 182, 3) := by decide +kernel
theorem dX12_isChair_13 : decode cX12_isChair 13 = .ok (.ireturn, 1) := by decide +kernel
theorem dX12_doesSit_0 : decode cX12_doesSit 0 = .ok (.aload_n 0, 1) := by decide +kernel
theorem dX12_doesSit_1 : decode cX12_doesSit 1 = .ok (.getfield 33, 3) := by decide +kernel
theorem dX12_doesSit_4 : decode cX12_doesSit 4 = .ok (.bipush 63, 2) := by decide +kernel
theorem dX12_doesSit_6 : decode cX12_doesSit 6 = .ok (.iaload, 1) := by decide +kernel
theorem dX12_doesSit_7 : decode cX12_doesSit 7 = .ok (.iload_n 1, 1) := by decide +kernel
theorem dX12_doesSit_8 : decode cX12_doesSit 8 = .ok (.invokestatic 248, 3) := by decide +kernel
theorem dX12_doesSit_11 : decode cX12_doesSit 11 = .ok (.ireturn, 1) := by decide +kernel
theorem dX12_sitterAt_0 : decode cX12_sitterAt 0 = .ok (.iconst 0, 1) := by decide +kernel
theorem dX12_sitterAt_1 : decode cX12_sitterAt 1 = .ok (.istore_n 2, 1) := by decide +kernel
theorem dX12_sitterAt_2 : decode cX12_sitterAt 2 = .ok (.iload_n 2, 1) := by decide +kernel
theorem dX12_sitterAt_3 : decode cX12_sitterAt 3 = .ok (.aload_n 0, 1) := by decide +kernel
theorem dX12_sitterAt_4 : decode cX12_sitterAt 4 = .ok (.getfield 33, 3) := by decide +kernel
theorem dX12_sitterAt_7 : decode cX12_sitterAt 7 = .ok (.iconst 1, 1) := by decide +kernel
theorem dX12_sitterAt_8 : decode cX12_sitterAt 8 = .ok (.iaload, 1) := by decide +kernel
theorem dX12_sitterAt_9 : decode cX12_sitterAt 9 = .ok (.if_icmp .ge 32, 3) := by decide +kernel
theorem dX12_sitterAt_12 : decode cX12_sitterAt 12 = .ok (.aload_n 0, 1) := by decide +kernel
theorem dX12_sitterAt_13 : decode cX12_sitterAt 13 = .ok (.iload_n 2, 1) := by decide +kernel
theorem dX12_sitterAt_14 : decode cX12_sitterAt 14 = .ok (.invokevirtual 251, 3) := by decide +kernel
theorem dX12_sitterAt_17 : decode cX12_sitterAt 17 = .ok (.ifCond .eq 18, 3) := by decide +kernel
theorem dX12_sitterAt_20 : decode cX12_sitterAt 20 = .ok (.aload_n 0, 1) := by decide +kernel
theorem dX12_sitterAt_21 : decode cX12_sitterAt 21 = .ok (.getfield 33, 3) := by decide +kernel
theorem dX12_sitterAt_24 : decode cX12_sitterAt 24 = .ok (.bipush 56, 2) := by decide +kernel
theorem dX12_sitterAt_26 : decode cX12_sitterAt 26 = .ok (.iload_n 2, 1) := by decide +kernel
theorem dX12_sitterAt_27 : decode cX12_sitterAt 27 = .ok (.iadd, 1) := by decide +kernel
theorem dX12_sitterAt_28 : decode cX12_sitterAt 28 = .ok (.iaload, 1) := by decide +kernel
theorem dX12_sitterAt_29 : decode cX12_sitterAt 29 = .ok (.iload_n 1, 1) := by decide +kernel
theorem dX12_sitterAt_30 : decode cX12_sitterAt 30 = .ok (.if_icmp .ne 5, 3) := by decide +kernel
theorem dX12_sitterAt_33 : decode cX12_sitterAt 33 = .ok (.iload_n 2, 1) := by decide +kernel
theorem dX12_sitterAt_34 : decode cX12_sitterAt 34 = .ok (.ireturn, 1) := by decide +kernel
theorem dX12_sitterAt_35 : decode cX12_sitterAt 35 = .ok (.iinc 2 1, 3) := by decide +kernel
theorem dX12_sitterAt_38 : decode cX12_sitterAt 38 = .ok (.goto (-36), 3) := by decide +kernel
theorem dX12_sitterAt_41 : decode cX12_sitterAt 41 = .ok (.iconst (-1), 1) := by decide +kernel
theorem dX12_sitterAt_42 : decode cX12_sitterAt 42 = .ok (.ireturn, 1) := by decide +kernel
theorem dX12_payerOf_0 : decode cX12_payerOf 0 = .ok (.aload_n 0, 1) := by decide +kernel
theorem dX12_payerOf_1 : decode cX12_payerOf 1 = .ok (.getfield 33, 3) := by decide +kernel
theorem dX12_payerOf_4 : decode cX12_payerOf 4 = .ok (.bipush 37, 2) := by decide +kernel
theorem dX12_payerOf_6 : decode cX12_payerOf 6 = .ok (.iload_n 1, 1) := by decide +kernel
theorem dX12_payerOf_7 : decode cX12_payerOf 7 = .ok (.iadd, 1) := by decide +kernel
theorem dX12_payerOf_8 : decode cX12_payerOf 8 = .ok (.iaload, 1) := by decide +kernel
theorem dX12_payerOf_9 : decode cX12_payerOf 9 = .ok (.ifCond .le 17, 3) := by decide +kernel
theorem dX12_payerOf_12 : decode cX12_payerOf 12 = .ok (.aload_n 0, 1) := by decide +kernel
theorem dX12_payerOf_13 : decode cX12_payerOf 13 = .ok (.getfield 33, 3) := by decide +kernel
theorem dX12_payerOf_16 : decode cX12_payerOf 16 = .ok (.bipush 37, 2) := by decide +kernel
theorem dX12_payerOf_18 : decode cX12_payerOf 18 = .ok (.iload_n 1, 1) := by decide +kernel
theorem dX12_payerOf_19 : decode cX12_payerOf 19 = .ok (.iadd, 1) := by decide +kernel
theorem dX12_payerOf_20 : decode cX12_payerOf 20 = .ok (.iaload, 1) := by decide +kernel
theorem dX12_payerOf_21 : decode cX12_payerOf 21 = .ok (.iconst 1, 1) := by decide +kernel
theorem dX12_payerOf_22 : decode cX12_payerOf 22 = .ok (.isub, 1) := by decide +kernel
theorem dX12_payerOf_23 : decode cX12_payerOf 23 = .ok (.goto 4, 3) := by decide +kernel
theorem dX12_payerOf_26 : decode cX12_payerOf 26 = .ok (.iload_n 1, 1) := by decide +kernel
theorem dX12_payerOf_27 : decode cX12_payerOf 27 = .ok (.ireturn, 1) := by decide +kernel
theorem dX12_costOf_0 : decode cX12_costOf 0 = .ok (.iconst 0, 1) := by decide +kernel
theorem dX12_costOf_1 : decode cX12_costOf 1 = .ok (.istore_n 2, 1) := by decide +kernel
theorem dX12_costOf_2 : decode cX12_costOf 2 = .ok (.iconst 0, 1) := by decide +kernel
theorem dX12_costOf_3 : decode cX12_costOf 3 = .ok (.istore_n 3, 1) := by decide +kernel
theorem dX12_costOf_4 : decode cX12_costOf 4 = .ok (.iload_n 3, 1) := by decide +kernel
theorem dX12_costOf_5 : decode cX12_costOf 5 = .ok (.aload_n 0, 1) := by decide +kernel
theorem dX12_costOf_6 : decode cX12_costOf 6 = .ok (.getfield 33, 3) := by decide +kernel
theorem dX12_costOf_9 : decode cX12_costOf 9 = .ok (.iconst 2, 1) := by decide +kernel
theorem dX12_costOf_10 : decode cX12_costOf 10 = .ok (.iaload, 1) := by decide +kernel
theorem dX12_costOf_11 : decode cX12_costOf 11 = .ok (.if_icmp .ge 33, 3) := by decide +kernel
theorem dX12_costOf_14 : decode cX12_costOf 14 = .ok (.iload_n 2, 1) := by decide +kernel
theorem dX12_costOf_15 : decode cX12_costOf 15 = .ok (.iload_n 1, 1) := by decide +kernel
theorem dX12_costOf_16 : decode cX12_costOf 16 = .ok (.iload_n 3, 1) := by decide +kernel
theorem dX12_costOf_17 : decode cX12_costOf 17 = .ok (.invokestatic 248, 3) := by decide +kernel
theorem dX12_costOf_20 : decode cX12_costOf 20 = .ok (.ifCond .eq 15, 3) := by decide +kernel
theorem dX12_costOf_23 : decode cX12_costOf 23 = .ok (.aload_n 0, 1) := by decide +kernel
theorem dX12_costOf_24 : decode cX12_costOf 24 = .ok (.getfield 33, 3) := by decide +kernel
theorem dX12_costOf_27 : decode cX12_costOf 27 = .ok (.bipush 31, 2) := by decide +kernel
theorem dX12_costOf_29 : decode cX12_costOf 29 = .ok (.iload_n 3, 1) := by decide +kernel
theorem dX12_costOf_30 : decode cX12_costOf 30 = .ok (.iadd, 1) := by decide +kernel
theorem dX12_costOf_31 : decode cX12_costOf 31 = .ok (.iaload, 1) := by decide +kernel
theorem dX12_costOf_32 : decode cX12_costOf 32 = .ok (.goto 4, 3) := by decide +kernel
theorem dX12_costOf_35 : decode cX12_costOf 35 = .ok (.iconst 0, 1) := by decide +kernel
theorem dX12_costOf_36 : decode cX12_costOf 36 = .ok (.iadd, 1) := by decide +kernel
theorem dX12_costOf_37 : decode cX12_costOf 37 = .ok (.istore_n 2, 1) := by decide +kernel
theorem dX12_costOf_38 : decode cX12_costOf 38 = .ok (.iinc 3 1, 3) := by decide +kernel
theorem dX12_costOf_41 : decode cX12_costOf 41 = .ok (.goto (-37), 3) := by decide +kernel
theorem dX12_costOf_44 : decode cX12_costOf 44 = .ok (.iload_n 2, 1) := by decide +kernel
theorem dX12_costOf_45 : decode cX12_costOf 45 = .ok (.ireturn, 1) := by decide +kernel
theorem dX12_paidInAll_0 : decode cX12_paidInAll 0 = .ok (.iconst 0, 1) := by decide +kernel
theorem dX12_paidInAll_1 : decode cX12_paidInAll 1 = .ok (.istore_n 1, 1) := by decide +kernel
theorem dX12_paidInAll_2 : decode cX12_paidInAll 2 = .ok (.iconst 0, 1) := by decide +kernel
theorem dX12_paidInAll_3 : decode cX12_paidInAll 3 = .ok (.istore_n 2, 1) := by decide +kernel
theorem dX12_paidInAll_4 : decode cX12_paidInAll 4 = .ok (.iload_n 2, 1) := by decide +kernel
theorem dX12_paidInAll_5 : decode cX12_paidInAll 5 = .ok (.aload_n 0, 1) := by decide +kernel
theorem dX12_paidInAll_6 : decode cX12_paidInAll 6 = .ok (.getfield 33, 3) := by decide +kernel
theorem dX12_paidInAll_9 : decode cX12_paidInAll 9 = .ok (.iconst 1, 1) := by decide +kernel
theorem dX12_paidInAll_10 : decode cX12_paidInAll 10 = .ok (.iaload, 1) := by decide +kernel
theorem dX12_paidInAll_11 : decode cX12_paidInAll 11 = .ok (.if_icmp .ge 21, 3) := by decide +kernel
theorem dX12_paidInAll_14 : decode cX12_paidInAll 14 = .ok (.iload_n 1, 1) := by decide +kernel
theorem dX12_paidInAll_15 : decode cX12_paidInAll 15 = .ok (.aload_n 0, 1) := by decide +kernel
theorem dX12_paidInAll_16 : decode cX12_paidInAll 16 = .ok (.getfield 33, 3) := by decide +kernel
theorem dX12_paidInAll_19 : decode cX12_paidInAll 19 = .ok (.bipush 85, 2) := by decide +kernel
theorem dX12_paidInAll_21 : decode cX12_paidInAll 21 = .ok (.iload_n 2, 1) := by decide +kernel
theorem dX12_paidInAll_22 : decode cX12_paidInAll 22 = .ok (.iadd, 1) := by decide +kernel
theorem dX12_paidInAll_23 : decode cX12_paidInAll 23 = .ok (.iaload, 1) := by decide +kernel
theorem dX12_paidInAll_24 : decode cX12_paidInAll 24 = .ok (.iadd, 1) := by decide +kernel
theorem dX12_paidInAll_25 : decode cX12_paidInAll 25 = .ok (.istore_n 1, 1) := by decide +kernel
theorem dX12_paidInAll_26 : decode cX12_paidInAll 26 = .ok (.iinc 2 1, 3) := by decide +kernel
theorem dX12_paidInAll_29 : decode cX12_paidInAll 29 = .ok (.goto (-25), 3) := by decide +kernel
theorem dX12_paidInAll_32 : decode cX12_paidInAll 32 = .ok (.iload_n 1, 1) := by decide +kernel
theorem dX12_paidInAll_33 : decode cX12_paidInAll 33 = .ok (.ireturn, 1) := by decide +kernel
theorem dX12_guest_0 : decode cX12_guest 0 = .ok (.aload_n 0, 1) := by decide +kernel
theorem dX12_guest_1 : decode cX12_guest 1 = .ok (.aload_n 0, 1) := by decide +kernel
theorem dX12_guest_2 : decode cX12_guest 2 = .ok (.iload_n 1, 1) := by decide +kernel
theorem dX12_guest_3 : decode cX12_guest 3 = .ok (.invokevirtual 254, 3) := by decide +kernel
theorem dX12_guest_6 : decode cX12_guest 6 = .ok (.ifCond .eq 13, 3) := by decide +kernel
theorem dX12_guest_9 : decode cX12_guest 9 = .ok (.iload_n 2, 1) := by decide +kernel
theorem dX12_guest_10 : decode cX12_guest 10 = .ok (.iconst 0, 1) := by decide +kernel
theorem dX12_guest_11 : decode cX12_guest 11 = .ok (.bipush 9, 2) := by decide +kernel
theorem dX12_guest_13 : decode cX12_guest 13 = .ok (.invokestatic 182, 3) := by decide +kernel
theorem dX12_guest_16 : decode cX12_guest 16 = .ok (.ifCond .ne 7, 3) := by decide +kernel
theorem dX12_guest_19 : decode cX12_guest 19 = .ok (.iconst 1, 1) := by decide +kernel
theorem dX12_guest_20 : decode cX12_guest 20 = .ok (.goto 4, 3) := by decide +kernel
theorem dX12_guest_23 : decode cX12_guest 23 = .ok (.iconst 0, 1) := by decide +kernel
theorem dX12_guest_24 : decode cX12_guest 24 = .ok (.invokevirtual 257, 3) := by decide +kernel
theorem dX12_guest_27 : decode cX12_guest 27 = .ok (.ifCond .eq 5, 3) := by decide +kernel
theorem dX12_guest_30 : decode cX12_guest 30 = .ok (.iconst 0, 1) := by decide +kernel
theorem dX12_guest_31 : decode cX12_guest 31 = .ok (.ireturn, 1) := by decide +kernel
theorem dX12_guest_32 : decode cX12_guest 32 = .ok (.iload_n 2, 1) := by decide +kernel
theorem dX12_guest_33 : decode cX12_guest 33 = .ok (.tableswitch 143 0 8 #[51, 61, 71, 81, 91, 103, 113, 123, 133], 51) := by decide +kernel
theorem dX12_guest_84 : decode cX12_guest 84 = .ok (.aload_n 0, 1) := by decide +kernel
theorem dX12_guest_85 : decode cX12_guest 85 = .ok (.getfield 33, 3) := by decide +kernel
theorem dX12_guest_88 : decode cX12_guest 88 = .ok (.bipush 49, 2) := by decide +kernel
theorem dX12_guest_90 : decode cX12_guest 90 = .ok (.iload_n 1, 1) := by decide +kernel
theorem dX12_guest_91 : decode cX12_guest 91 = .ok (.iadd, 1) := by decide +kernel
theorem dX12_guest_92 : decode cX12_guest 92 = .ok (.iaload, 1) := by decide +kernel
theorem dX12_guest_93 : decode cX12_guest 93 = .ok (.ireturn, 1) := by decide +kernel
theorem dX12_guest_94 : decode cX12_guest 94 = .ok (.aload_n 0, 1) := by decide +kernel
theorem dX12_guest_95 : decode cX12_guest 95 = .ok (.getfield 33, 3) := by decide +kernel
theorem dX12_guest_98 : decode cX12_guest 98 = .ok (.bipush 10, 2) := by decide +kernel
theorem dX12_guest_100 : decode cX12_guest 100 = .ok (.iload_n 1, 1) := by decide +kernel
theorem dX12_guest_101 : decode cX12_guest 101 = .ok (.iadd, 1) := by decide +kernel
theorem dX12_guest_102 : decode cX12_guest 102 = .ok (.iaload, 1) := by decide +kernel
theorem dX12_guest_103 : decode cX12_guest 103 = .ok (.ireturn, 1) := by decide +kernel
theorem dX12_guest_104 : decode cX12_guest 104 = .ok (.aload_n 0, 1) := by decide +kernel
theorem dX12_guest_105 : decode cX12_guest 105 = .ok (.getfield 33, 3) := by decide +kernel
theorem dX12_guest_108 : decode cX12_guest 108 = .ok (.bipush 17, 2) := by decide +kernel
theorem dX12_guest_110 : decode cX12_guest 110 = .ok (.iload_n 1, 1) := by decide +kernel
theorem dX12_guest_111 : decode cX12_guest 111 = .ok (.iadd, 1) := by decide +kernel
theorem dX12_guest_112 : decode cX12_guest 112 = .ok (.iaload, 1) := by decide +kernel
theorem dX12_guest_113 : decode cX12_guest 113 = .ok (.ireturn, 1) := by decide +kernel
theorem dX12_guest_114 : decode cX12_guest 114 = .ok (.aload_n 0, 1) := by decide +kernel
theorem dX12_guest_115 : decode cX12_guest 115 = .ok (.getfield 33, 3) := by decide +kernel
theorem dX12_guest_118 : decode cX12_guest 118 = .ok (.bipush 56, 2) := by decide +kernel
theorem dX12_guest_120 : decode cX12_guest 120 = .ok (.iload_n 1, 1) := by decide +kernel
theorem dX12_guest_121 : decode cX12_guest 121 = .ok (.iadd, 1) := by decide +kernel
theorem dX12_guest_122 : decode cX12_guest 122 = .ok (.iaload, 1) := by decide +kernel
theorem dX12_guest_123 : decode cX12_guest 123 = .ok (.ireturn, 1) := by decide +kernel
theorem dX12_guest_124 : decode cX12_guest 124 = .ok (.aload_n 0, 1) := by decide +kernel
theorem dX12_guest_125 : decode cX12_guest 125 = .ok (.getfield 33, 3) := by decide +kernel
theorem dX12_guest_128 : decode cX12_guest 128 = .ok (.bipush 63, 2) := by decide +kernel
theorem dX12_guest_130 : decode cX12_guest 130 = .ok (.iaload, 1) := by decide +kernel
theorem dX12_guest_131 : decode cX12_guest 131 = .ok (.iload_n 1, 1) := by decide +kernel
theorem dX12_guest_132 : decode cX12_guest 132 = .ok (.ishr, 1) := by decide +kernel
theorem dX12_guest_133 : decode cX12_guest 133 = .ok (.iconst 1, 1) := by decide +kernel
theorem dX12_guest_134 : decode cX12_guest 134 = .ok (.iand, 1) := by decide +kernel
theorem dX12_guest_135 : decode cX12_guest 135 = .ok (.ireturn, 1) := by decide +kernel
theorem dX12_guest_136 : decode cX12_guest 136 = .ok (.aload_n 0, 1) := by decide +kernel
theorem dX12_guest_137 : decode cX12_guest 137 = .ok (.getfield 33, 3) := by decide +kernel
theorem dX12_guest_140 : decode cX12_guest 140 = .ok (.bipush 64, 2) := by decide +kernel
theorem dX12_guest_142 : decode cX12_guest 142 = .ok (.iload_n 1, 1) := by decide +kernel
theorem dX12_guest_143 : decode cX12_guest 143 = .ok (.iadd, 1) := by decide +kernel
theorem dX12_guest_144 : decode cX12_guest 144 = .ok (.iaload, 1) := by decide +kernel
theorem dX12_guest_145 : decode cX12_guest 145 = .ok (.ireturn, 1) := by decide +kernel
theorem dX12_guest_146 : decode cX12_guest 146 = .ok (.aload_n 0, 1) := by decide +kernel
theorem dX12_guest_147 : decode cX12_guest 147 = .ok (.getfield 33, 3) := by decide +kernel
theorem dX12_guest_150 : decode cX12_guest 150 = .ok (.bipush 71, 2) := by decide +kernel
theorem dX12_guest_152 : decode cX12_guest 152 = .ok (.iload_n 1, 1) := by decide +kernel
theorem dX12_guest_153 : decode cX12_guest 153 = .ok (.iadd, 1) := by decide +kernel
theorem dX12_guest_154 : decode cX12_guest 154 = .ok (.iaload, 1) := by decide +kernel
theorem dX12_guest_155 : decode cX12_guest 155 = .ok (.ireturn, 1) := by decide +kernel
theorem dX12_guest_156 : decode cX12_guest 156 = .ok (.aload_n 0, 1) := by decide +kernel
theorem dX12_guest_157 : decode cX12_guest 157 = .ok (.getfield 33, 3) := by decide +kernel
theorem dX12_guest_160 : decode cX12_guest 160 = .ok (.bipush 78, 2) := by decide +kernel
theorem dX12_guest_162 : decode cX12_guest 162 = .ok (.iload_n 1, 1) := by decide +kernel
theorem dX12_guest_163 : decode cX12_guest 163 = .ok (.iadd, 1) := by decide +kernel
theorem dX12_guest_164 : decode cX12_guest 164 = .ok (.iaload, 1) := by decide +kernel
theorem dX12_guest_165 : decode cX12_guest 165 = .ok (.ireturn, 1) := by decide +kernel
theorem dX12_guest_166 : decode cX12_guest 166 = .ok (.aload_n 0, 1) := by decide +kernel
theorem dX12_guest_167 : decode cX12_guest 167 = .ok (.getfield 33, 3) := by decide +kernel
theorem dX12_guest_170 : decode cX12_guest 170 = .ok (.bipush 85, 2) := by decide +kernel
theorem dX12_guest_172 : decode cX12_guest 172 = .ok (.iload_n 1, 1) := by decide +kernel
theorem dX12_guest_173 : decode cX12_guest 173 = .ok (.iadd, 1) := by decide +kernel
theorem dX12_guest_174 : decode cX12_guest 174 = .ok (.iaload, 1) := by decide +kernel
theorem dX12_guest_175 : decode cX12_guest 175 = .ok (.ireturn, 1) := by decide +kernel
theorem dX12_guest_176 : decode cX12_guest 176 = .ok (.aload_n 0, 1) := by decide +kernel
theorem dX12_guest_177 : decode cX12_guest 177 = .ok (.iload_n 1, 1) := by decide +kernel
theorem dX12_guest_178 : decode cX12_guest 178 = .ok (.invokevirtual 261, 3) := by decide +kernel
theorem dX12_guest_181 : decode cX12_guest 181 = .ok (.ireturn, 1) := by decide +kernel
theorem dX12_chair_0 : decode cX12_chair 0 = .ok (.aload_n 0, 1) := by decide +kernel
theorem dX12_chair_1 : decode cX12_chair 1 = .ok (.iconst 0, 1) := by decide +kernel
theorem dX12_chair_2 : decode cX12_chair 2 = .ok (.putfield 1, 3) := by decide +kernel
theorem dX12_chair_5 : decode cX12_chair 5 = .ok (.aload_n 0, 1) := by decide +kernel
theorem dX12_chair_6 : decode cX12_chair 6 = .ok (.iload_n 1, 1) := by decide +kernel
theorem dX12_chair_7 : decode cX12_chair 7 = .ok (.invokevirtual 265, 3) := by decide +kernel
theorem dX12_chair_10 : decode cX12_chair 10 = .ok (.ifCond .ne 5, 3) := by decide +kernel
theorem dX12_chair_13 : decode cX12_chair 13 = .ok (.iconst (-1), 1) := by decide +kernel
theorem dX12_chair_14 : decode cX12_chair 14 = .ok (.ireturn, 1) := by decide +kernel
theorem dX12_chair_15 : decode cX12_chair 15 = .ok (.iconst 0, 1) := by decide +kernel
theorem dX12_chair_16 : decode cX12_chair 16 = .ok (.istore_n 3, 1) := by decide +kernel
theorem dX12_chair_17 : decode cX12_chair 17 = .ok (.iconst 0, 1) := by decide +kernel
theorem dX12_chair_18 : decode cX12_chair 18 = .ok (.istore 4, 2) := by decide +kernel
theorem dX12_chair_20 : decode cX12_chair 20 = .ok (.iload 4, 2) := by decide +kernel
theorem dX12_chair_22 : decode cX12_chair 22 = .ok (.aload_n 0, 1) := by decide +kernel
theorem dX12_chair_23 : decode cX12_chair 23 = .ok (.getfield 33, 3) := by decide +kernel
theorem dX12_chair_26 : decode cX12_chair 26 = .ok (.iconst 1, 1) := by decide +kernel
theorem dX12_chair_27 : decode cX12_chair 27 = .ok (.iaload, 1) := by decide +kernel
theorem dX12_chair_28 : decode cX12_chair 28 = .ok (.if_icmp .ge 34, 3) := by decide +kernel
theorem dX12_chair_31 : decode cX12_chair 31 = .ok (.iload_n 3, 1) := by decide +kernel
theorem dX12_chair_32 : decode cX12_chair 32 = .ok (.aload_n 0, 1) := by decide +kernel
theorem dX12_chair_33 : decode cX12_chair 33 = .ok (.getfield 33, 3) := by decide +kernel
theorem dX12_chair_36 : decode cX12_chair 36 = .ok (.bipush 56, 2) := by decide +kernel
theorem dX12_chair_38 : decode cX12_chair 38 = .ok (.iload 4, 2) := by decide +kernel
theorem dX12_chair_40 : decode cX12_chair 40 = .ok (.iadd, 1) := by decide +kernel
theorem dX12_chair_41 : decode cX12_chair 41 = .ok (.iaload, 1) := by decide +kernel
theorem dX12_chair_42 : decode cX12_chair 42 = .ok (.iload_n 1, 1) := by decide +kernel
theorem dX12_chair_43 : decode cX12_chair 43 = .ok (.if_icmp .ne 10, 3) := by decide +kernel
theorem dX12_chair_46 : decode cX12_chair 46 = .ok (.iconst 1, 1) := by decide +kernel
theorem dX12_chair_47 : decode cX12_chair 47 = .ok (.iload 4, 2) := by decide +kernel
theorem dX12_chair_49 : decode cX12_chair 49 = .ok (.ishl, 1) := by decide +kernel
theorem dX12_chair_50 : decode cX12_chair 50 = .ok (.goto 4, 3) := by decide +kernel
theorem dX12_chair_53 : decode cX12_chair 53 = .ok (.iconst 0, 1) := by decide +kernel
theorem dX12_chair_54 : decode cX12_chair 54 = .ok (.ior, 1) := by decide +kernel
theorem dX12_chair_55 : decode cX12_chair 55 = .ok (.istore_n 3, 1) := by decide +kernel
theorem dX12_chair_56 : decode cX12_chair 56 = .ok (.iinc 4 1, 3) := by decide +kernel
theorem dX12_chair_59 : decode cX12_chair 59 = .ok (.goto (-39), 3) := by decide +kernel
theorem dX12_chair_62 : decode cX12_chair 62 = .ok (.iload_n 2, 1) := by decide +kernel
theorem dX12_chair_63 : decode cX12_chair 63 = .ok (.ifCond .ne 17, 3) := by decide +kernel
theorem dX12_chair_66 : decode cX12_chair 66 = .ok (.aload_n 0, 1) := by decide +kernel
theorem dX12_chair_67 : decode cX12_chair 67 = .ok (.getfield 33, 3) := by decide +kernel
theorem dX12_chair_70 : decode cX12_chair 70 = .ok (.bipush 47, 2) := by decide +kernel
theorem dX12_chair_72 : decode cX12_chair 72 = .ok (.iaload, 1) := by decide +kernel
theorem dX12_chair_73 : decode cX12_chair 73 = .ok (.iload_n 1, 1) := by decide +kernel
theorem dX12_chair_74 : decode cX12_chair 74 = .ok (.ishr, 1) := by decide +kernel
theorem dX12_chair_75 : decode cX12_chair 75 = .ok (.iconst 1, 1) := by decide +kernel
theorem dX12_chair_76 : decode cX12_chair 76 = .ok (.iand, 1) := by decide +kernel
theorem dX12_chair_77 : decode cX12_chair 77 = .ok (.goto 26, 3) := by decide +kernel
theorem dX12_chair_80 : decode cX12_chair 80 = .ok (.iload_n 2, 1) := by decide +kernel
theorem dX12_chair_81 : decode cX12_chair 81 = .ok (.iconst 1, 1) := by decide +kernel
theorem dX12_chair_82 : decode cX12_chair 82 = .ok (.if_icmp .ne 11, 3) := by decide +kernel
theorem dX12_chair_85 : decode cX12_chair 85 = .ok (.aload_n 0, 1) := by decide +kernel
theorem dX12_chair_86 : decode cX12_chair 86 = .ok (.iload_n 1, 1) := by decide +kernel
theorem dX12_chair_87 : decode cX12_chair 87 = .ok (.invokevirtual 268, 3) := by decide +kernel
theorem dX12_chair_90 : decode cX12_chair 90 = .ok (.goto 13, 3) := by decide +kernel
theorem dX12_chair_93 : decode cX12_chair 93 = .ok (.iload_n 2, 1) := by decide +kernel
theorem dX12_chair_94 : decode cX12_chair 94 = .ok (.iconst 2, 1) := by decide +kernel
theorem dX12_chair_95 : decode cX12_chair 95 = .ok (.if_icmp .ne 7, 3) := by decide +kernel
theorem dX12_chair_98 : decode cX12_chair 98 = .ok (.iload_n 3, 1) := by decide +kernel
theorem dX12_chair_99 : decode cX12_chair 99 = .ok (.goto 4, 3) := by decide +kernel
theorem dX12_chair_102 : decode cX12_chair 102 = .ok (.iconst (-1), 1) := by decide +kernel
theorem dX12_chair_103 : decode cX12_chair 103 = .ok (.ireturn, 1) := by decide +kernel
theorem dX12_now_0 : decode cX12_now 0 = .ok (.aload_n 0, 1) := by decide +kernel
theorem dX12_now_1 : decode cX12_now 1 = .ok (.iconst 0, 1) := by decide +kernel
theorem dX12_now_2 : decode cX12_now 2 = .ok (.putfield 1, 3) := by decide +kernel
theorem dX12_now_5 : decode cX12_now 5 = .ok (.iload_n 1, 1) := by decide +kernel
theorem dX12_now_6 : decode cX12_now 6 = .ok (.tableswitch 113 0 7 #[46, 54, 62, 70, 82, 90, 98, 108], 46) := by decide +kernel
theorem dX12_now_52 : decode cX12_now 52 = .ok (.aload_n 0, 1) := by decide +kernel
theorem dX12_now_53 : decode cX12_now 53 = .ok (.getfield 33, 3) := by decide +kernel
theorem dX12_now_56 : decode cX12_now 56 = .ok (.bipush 44, 2) := by decide +kernel
theorem dX12_now_58 : decode cX12_now 58 = .ok (.iaload, 1) := by decide +kernel
theorem dX12_now_59 : decode cX12_now 59 = .ok (.ireturn, 1) := by decide +kernel
theorem dX12_now_60 : decode cX12_now 60 = .ok (.aload_n 0, 1) := by decide +kernel
theorem dX12_now_61 : decode cX12_now 61 = .ok (.getfield 33, 3) := by decide +kernel
theorem dX12_now_64 : decode cX12_now 64 = .ok (.bipush 63, 2) := by decide +kernel
theorem dX12_now_66 : decode cX12_now 66 = .ok (.iaload, 1) := by decide +kernel
theorem dX12_now_67 : decode cX12_now 67 = .ok (.ireturn, 1) := by decide +kernel
theorem dX12_now_68 : decode cX12_now 68 = .ok (.aload_n 0, 1) := by decide +kernel
theorem dX12_now_69 : decode cX12_now 69 = .ok (.getfield 33, 3) := by decide +kernel
theorem dX12_now_72 : decode cX12_now 72 = .ok (.bipush 45, 2) := by decide +kernel
theorem dX12_now_74 : decode cX12_now 74 = .ok (.iaload, 1) := by decide +kernel
theorem dX12_now_75 : decode cX12_now 75 = .ok (.ireturn, 1) := by decide +kernel
theorem dX12_now_76 : decode cX12_now 76 = .ok (.aload_n 0, 1) := by decide +kernel
theorem dX12_now_77 : decode cX12_now 77 = .ok (.aload_n 0, 1) := by decide +kernel
theorem dX12_now_78 : decode cX12_now 78 = .ok (.getfield 33, 3) := by decide +kernel
theorem dX12_now_81 : decode cX12_now 81 = .ok (.bipush 45, 2) := by decide +kernel
theorem dX12_now_83 : decode cX12_now 83 = .ok (.iaload, 1) := by decide +kernel
theorem dX12_now_84 : decode cX12_now 84 = .ok (.invokevirtual 271, 3) := by decide +kernel
theorem dX12_now_87 : decode cX12_now 87 = .ok (.ireturn, 1) := by decide +kernel
theorem dX12_now_88 : decode cX12_now 88 = .ok (.aload_n 0, 1) := by decide +kernel
theorem dX12_now_89 : decode cX12_now 89 = .ok (.getfield 33, 3) := by decide +kernel
theorem dX12_now_92 : decode cX12_now 92 = .ok (.bipush 46, 2) := by decide +kernel
theorem dX12_now_94 : decode cX12_now 94 = .ok (.iaload, 1) := by decide +kernel
theorem dX12_now_95 : decode cX12_now 95 = .ok (.ireturn, 1) := by decide +kernel
theorem dX12_now_96 : decode cX12_now 96 = .ok (.aload_n 0, 1) := by decide +kernel
theorem dX12_now_97 : decode cX12_now 97 = .ok (.getfield 33, 3) := by decide +kernel
theorem dX12_now_100 : decode cX12_now 100 = .ok (.bipush 47, 2) := by decide +kernel
theorem dX12_now_102 : decode cX12_now 102 = .ok (.iaload, 1) := by decide +kernel
theorem dX12_now_103 : decode cX12_now 103 = .ok (.ireturn, 1) := by decide +kernel
theorem dX12_now_104 : decode cX12_now 104 = .ok (.aload_n 0, 1) := by decide +kernel
theorem dX12_now_105 : decode cX12_now 105 = .ok (.getfield 33, 3) := by decide +kernel
theorem dX12_now_108 : decode cX12_now 108 = .ok (.bipush 48, 2) := by decide +kernel
theorem dX12_now_110 : decode cX12_now 110 = .ok (.iaload, 1) := by decide +kernel
theorem dX12_now_111 : decode cX12_now 111 = .ok (.iconst 1, 1) := by decide +kernel
theorem dX12_now_112 : decode cX12_now 112 = .ok (.isub, 1) := by decide +kernel
theorem dX12_now_113 : decode cX12_now 113 = .ok (.ireturn, 1) := by decide +kernel
theorem dX12_now_114 : decode cX12_now 114 = .ok (.aload_n 0, 1) := by decide +kernel
theorem dX12_now_115 : decode cX12_now 115 = .ok (.invokevirtual 274, 3) := by decide +kernel
theorem dX12_now_118 : decode cX12_now 118 = .ok (.ireturn, 1) := by decide +kernel
theorem dX12_now_119 : decode cX12_now 119 = .ok (.iconst (-1), 1) := by decide +kernel
theorem dX12_now_120 : decode cX12_now 120 = .ok (.ireturn, 1) := by decide +kernel
theorem dX12_whySit_0 : decode cX12_whySit 0 = .ok (.aload_n 0, 1) := by decide +kernel
theorem dX12_whySit_1 : decode cX12_whySit 1 = .ok (.iload_n 1, 1) := by decide +kernel
theorem dX12_whySit_2 : decode cX12_whySit 2 = .ok (.invokevirtual 251, 3) := by decide +kernel
theorem dX12_whySit_5 : decode cX12_whySit 5 = .ok (.ifCond .eq 7, 3) := by decide +kernel
theorem dX12_whySit_8 : decode cX12_whySit 8 = .ok (.iconst 1, 1) := by decide +kernel
theorem dX12_whySit_9 : decode cX12_whySit 9 = .ok (.goto 50, 3) := by decide +kernel
theorem dX12_whySit_12 : decode cX12_whySit 12 = .ok (.aload_n 0, 1) := by decide +kernel
theorem dX12_whySit_13 : decode cX12_whySit 13 = .ok (.aload_n 0, 1) := by decide +kernel
theorem dX12_whySit_14 : decode cX12_whySit 14 = .ok (.getfield 33, 3) := by decide +kernel
theorem dX12_whySit_17 : decode cX12_whySit 17 = .ok (.bipush 56, 2) := by decide +kernel
theorem dX12_whySit_19 : decode cX12_whySit 19 = .ok (.iload_n 1, 1) := by decide +kernel
theorem dX12_whySit_20 : decode cX12_whySit 20 = .ok (.iadd, 1) := by decide +kernel
theorem dX12_whySit_21 : decode cX12_whySit 21 = .ok (.iaload, 1) := by decide +kernel
theorem dX12_whySit_22 : decode cX12_whySit 22 = .ok (.invokevirtual 268, 3) := by decide +kernel
theorem dX12_whySit_25 : decode cX12_whySit 25 = .ok (.ifCond .lt 7, 3) := by decide +kernel
theorem dX12_whySit_28 : decode cX12_whySit 28 = .ok (.iconst 2, 1) := by decide +kernel
theorem dX12_whySit_29 : decode cX12_whySit 29 = .ok (.goto 30, 3) := by decide +kernel
theorem dX12_whySit_32 : decode cX12_whySit 32 = .ok (.aload_n 0, 1) := by decide +kernel
theorem dX12_whySit_33 : decode cX12_whySit 33 = .ok (.getfield 33, 3) := by decide +kernel
theorem dX12_whySit_36 : decode cX12_whySit 36 = .ok (.bipush 47, 2) := by decide +kernel
theorem dX12_whySit_38 : decode cX12_whySit 38 = .ok (.iaload, 1) := by decide +kernel
theorem dX12_whySit_39 : decode cX12_whySit 39 = .ok (.aload_n 0, 1) := by decide +kernel
theorem dX12_whySit_40 : decode cX12_whySit 40 = .ok (.getfield 33, 3) := by decide +kernel
theorem dX12_whySit_43 : decode cX12_whySit 43 = .ok (.bipush 56, 2) := by decide +kernel
theorem dX12_whySit_45 : decode cX12_whySit 45 = .ok (.iload_n 1, 1) := by decide +kernel
theorem dX12_whySit_46 : decode cX12_whySit 46 = .ok (.iadd, 1) := by decide +kernel
theorem dX12_whySit_47 : decode cX12_whySit 47 = .ok (.iaload, 1) := by decide +kernel
theorem dX12_whySit_48 : decode cX12_whySit 48 = .ok (.invokestatic 248, 3) := by decide +kernel
theorem dX12_whySit_51 : decode cX12_whySit 51 = .ok (.ifCond .eq 7, 3) := by decide +kernel
theorem dX12_whySit_54 : decode cX12_whySit 54 = .ok (.iconst 3, 1) := by decide +kernel
theorem dX12_whySit_55 : decode cX12_whySit 55 = .ok (.goto 4, 3) := by decide +kernel
theorem dX12_whySit_58 : decode cX12_whySit 58 = .ok (.iconst 0, 1) := by decide +kernel
theorem dX12_whySit_59 : decode cX12_whySit 59 = .ok (.ireturn, 1) := by decide +kernel
theorem dX12_sits_0 : decode cX12_sits 0 = .ok (.aload_n 0, 1) := by decide +kernel
theorem dX12_sits_1 : decode cX12_sits 1 = .ok (.getfield 33, 3) := by decide +kernel
theorem dX12_sits_4 : decode cX12_sits 4 = .ok (.bipush 63, 2) := by decide +kernel
theorem dX12_sits_6 : decode cX12_sits 6 = .ok (.dup2, 1) := by decide +kernel
theorem dX12_sits_7 : decode cX12_sits 7 = .ok (.iaload, 1) := by decide +kernel
theorem dX12_sits_8 : decode cX12_sits 8 = .ok (.iconst 1, 1) := by decide +kernel
theorem dX12_sits_9 : decode cX12_sits 9 = .ok (.iload_n 1, 1) := by decide +kernel
theorem dX12_sits_10 : decode cX12_sits 10 = .ok (.ishl, 1) := by decide +kernel
theorem dX12_sits_11 : decode cX12_sits 11 = .ok (.ior, 1) := by decide +kernel
theorem dX12_sits_12 : decode cX12_sits 12 = .ok (.iastore, 1) := by decide +kernel
theorem dX12_sits_13 : decode cX12_sits 13 = .ok (.iconst 1, 1) := by decide +kernel
theorem dX12_sits_14 : decode cX12_sits 14 = .ok (.aload_n 0, 1) := by decide +kernel
theorem dX12_sits_15 : decode cX12_sits 15 = .ok (.getfield 33, 3) := by decide +kernel
theorem dX12_sits_18 : decode cX12_sits 18 = .ok (.iconst 1, 1) := by decide +kernel
theorem dX12_sits_19 : decode cX12_sits 19 = .ok (.iaload, 1) := by decide +kernel
theorem dX12_sits_20 : decode cX12_sits 20 = .ok (.ishl, 1) := by decide +kernel
theorem dX12_sits_21 : decode cX12_sits 21 = .ok (.iconst 1, 1) := by decide +kernel
theorem dX12_sits_22 : decode cX12_sits 22 = .ok (.isub, 1) := by decide +kernel
theorem dX12_sits_23 : decode cX12_sits 23 = .ok (.aload_n 0, 1) := by decide +kernel
theorem dX12_sits_24 : decode cX12_sits 24 = .ok (.getfield 33, 3) := by decide +kernel
theorem dX12_sits_27 : decode cX12_sits 27 = .ok (.bipush 63, 2) := by decide +kernel
theorem dX12_sits_29 : decode cX12_sits 29 = .ok (.iaload, 1) := by decide +kernel
theorem dX12_sits_30 : decode cX12_sits 30 = .ok (.iconst (-1), 1) := by decide +kernel
theorem dX12_sits_31 : decode cX12_sits 31 = .ok (.ixor, 1) := by decide +kernel
theorem dX12_sits_32 : decode cX12_sits 32 = .ok (.iand, 1) := by decide +kernel
theorem dX12_sits_33 : decode cX12_sits 33 = .ok (.istore_n 2, 1) := by decide +kernel
theorem dX12_sits_34 : decode cX12_sits 34 = .ok (.iload_n 2, 1) := by decide +kernel
theorem dX12_sits_35 : decode cX12_sits 35 = .ok (.invokestatic 277, 3) := by decide +kernel
theorem dX12_sits_38 : decode cX12_sits 38 = .ok (.iconst 1, 1) := by decide +kernel
theorem dX12_sits_39 : decode cX12_sits 39 = .ok (.if_icmp .eq 5, 3) := by decide +kernel
theorem dX12_sits_42 : decode cX12_sits 42 = .ok (.iconst 0, 1) := by decide +kernel
theorem dX12_sits_43 : decode cX12_sits 43 = .ok (.ireturn, 1) := by decide +kernel
theorem dX12_sits_44 : decode cX12_sits 44 = .ok (.iconst 0, 1) := by decide +kernel
theorem dX12_sits_45 : decode cX12_sits 45 = .ok (.istore_n 3, 1) := by decide +kernel
theorem dX12_sits_46 : decode cX12_sits 46 = .ok (.iload_n 2, 1) := by decide +kernel
theorem dX12_sits_47 : decode cX12_sits 47 = .ok (.iload_n 3, 1) := by decide +kernel
theorem dX12_sits_48 : decode cX12_sits 48 = .ok (.invokestatic 248, 3) := by decide +kernel
theorem dX12_sits_51 : decode cX12_sits 51 = .ok (.ifCond .ne 9, 3) := by decide +kernel
theorem dX12_sits_54 : decode cX12_sits 54 = .ok (.iinc 3 1, 3) := by decide +kernel
theorem dX12_sits_57 : decode cX12_sits 57 = .ok (.goto (-11), 3) := by decide +kernel
theorem dX12_sits_60 : decode cX12_sits 60 = .ok (.aload_n 0, 1) := by decide +kernel
theorem dX12_sits_61 : decode cX12_sits 61 = .ok (.iload_n 3, 1) := by decide +kernel
theorem dX12_sits_62 : decode cX12_sits 62 = .ok (.invokevirtual 261, 3) := by decide +kernel
theorem dX12_sits_65 : decode cX12_sits 65 = .ok (.istore 4, 2) := by decide +kernel
theorem dX12_sits_67 : decode cX12_sits 67 = .ok (.aload_n 0, 1) := by decide +kernel
theorem dX12_sits_68 : decode cX12_sits 68 = .ok (.aload_n 0, 1) := by decide +kernel
theorem dX12_sits_69 : decode cX12_sits 69 = .ok (.getfield 33, 3) := by decide +kernel
theorem dX12_sits_72 : decode cX12_sits 72 = .ok (.bipush 45, 2) := by decide +kernel
theorem dX12_sits_74 : decode cX12_sits 74 = .ok (.iaload, 1) := by decide +kernel
theorem dX12_sits_75 : decode cX12_sits 75 = .ok (.invokevirtual 271, 3) := by decide +kernel
theorem dX12_sits_78 : decode cX12_sits 78 = .ok (.istore 5, 2) := by decide +kernel
theorem dX12_sits_80 : decode cX12_sits 80 = .ok (.iload 5, 2) := by decide +kernel
theorem dX12_sits_82 : decode cX12_sits 82 = .ok (.aload_n 0, 1) := by decide +kernel
theorem dX12_sits_83 : decode cX12_sits 83 = .ok (.getfield 33, 3) := by decide +kernel
theorem dX12_sits_86 : decode cX12_sits 86 = .ok (.bipush 49, 2) := by decide +kernel
theorem dX12_sits_88 : decode cX12_sits 88 = .ok (.iload 4, 2) := by decide +kernel
theorem dX12_sits_90 : decode cX12_sits 90 = .ok (.iadd, 1) := by decide +kernel
theorem dX12_sits_91 : decode cX12_sits 91 = .ok (.iaload, 1) := by decide +kernel
theorem dX12_sits_92 : decode cX12_sits 92 = .ok (.invokestatic 280, 3) := by decide +kernel
theorem dX12_sits_95 : decode cX12_sits 95 = .ok (.istore 6, 2) := by decide +kernel
theorem dX12_sits_97 : decode cX12_sits 97 = .ok (.aload_n 0, 1) := by decide +kernel
theorem dX12_sits_98 : decode cX12_sits 98 = .ok (.getfield 33, 3) := by decide +kernel
theorem dX12_sits_101 : decode cX12_sits 101 = .ok (.bipush 49, 2) := by decide +kernel
theorem dX12_sits_103 : decode cX12_sits 103 = .ok (.iload 4, 2) := by decide +kernel
theorem dX12_sits_105 : decode cX12_sits 105 = .ok (.iadd, 1) := by decide +kernel
theorem dX12_sits_106 : decode cX12_sits 106 = .ok (.dup2, 1) := by decide +kernel
theorem dX12_sits_107 : decode cX12_sits 107 = .ok (.iaload, 1) := by decide +kernel
theorem dX12_sits_108 : decode cX12_sits 108 = .ok (.iload 6, 2) := by decide +kernel
theorem dX12_sits_110 : decode cX12_sits 110 = .ok (.isub, 1) := by decide +kernel
theorem dX12_sits_111 : decode cX12_sits 111 = .ok (.iastore, 1) := by decide +kernel
theorem dX12_sits_112 : decode cX12_sits 112 = .ok (.aload_n 0, 1) := by decide +kernel
theorem dX12_sits_113 : decode cX12_sits 113 = .ok (.getfield 33, 3) := by decide +kernel
theorem dX12_sits_116 : decode cX12_sits 116 = .ok (.bipush 85, 2) := by decide +kernel
theorem dX12_sits_118 : decode cX12_sits 118 = .ok (.iload 4, 2) := by decide +kernel
theorem dX12_sits_120 : decode cX12_sits 120 = .ok (.iadd, 1) := by decide +kernel
theorem dX12_sits_121 : decode cX12_sits 121 = .ok (.dup2, 1) := by decide +kernel
theorem dX12_sits_122 : decode cX12_sits 122 = .ok (.iaload, 1) := by decide +kernel
theorem dX12_sits_123 : decode cX12_sits 123 = .ok (.iload 6, 2) := by decide +kernel
theorem dX12_sits_125 : decode cX12_sits 125 = .ok (.iadd, 1) := by decide +kernel
theorem dX12_sits_126 : decode cX12_sits 126 = .ok (.iastore, 1) := by decide +kernel
theorem dX12_sits_127 : decode cX12_sits 127 = .ok (.aload_n 0, 1) := by decide +kernel
theorem dX12_sits_128 : decode cX12_sits 128 = .ok (.getfield 33, 3) := by decide +kernel
theorem dX12_sits_131 : decode cX12_sits 131 = .ok (.bipush 78, 2) := by decide +kernel
theorem dX12_sits_133 : decode cX12_sits 133 = .ok (.iload 4, 2) := by decide +kernel
theorem dX12_sits_135 : decode cX12_sits 135 = .ok (.iadd, 1) := by decide +kernel
theorem dX12_sits_136 : decode cX12_sits 136 = .ok (.ldc_w 283, 3) := by decide +kernel
theorem dX12_sits_139 : decode cX12_sits 139 = .ok (.aload_n 0, 1) := by decide +kernel
theorem dX12_sits_140 : decode cX12_sits 140 = .ok (.getfield 33, 3) := by decide +kernel
theorem dX12_sits_143 : decode cX12_sits 143 = .ok (.bipush 78, 2) := by decide +kernel
theorem dX12_sits_145 : decode cX12_sits 145 = .ok (.iload 4, 2) := by decide +kernel
theorem dX12_sits_147 : decode cX12_sits 147 = .ok (.iadd, 1) := by decide +kernel
theorem dX12_sits_148 : decode cX12_sits 148 = .ok (.iaload, 1) := by decide +kernel
theorem dX12_sits_149 : decode cX12_sits 149 = .ok (.iload 5, 2) := by decide +kernel
theorem dX12_sits_151 : decode cX12_sits 151 = .ok (.iadd, 1) := by decide +kernel
theorem dX12_sits_152 : decode cX12_sits 152 = .ok (.iload 6, 2) := by decide +kernel
theorem dX12_sits_154 : decode cX12_sits 154 = .ok (.isub, 1) := by decide +kernel
theorem dX12_sits_155 : decode cX12_sits 155 = .ok (.invokestatic 280, 3) := by decide +kernel
theorem dX12_sits_158 : decode cX12_sits 158 = .ok (.iastore, 1) := by decide +kernel
theorem dX12_sits_159 : decode cX12_sits 159 = .ok (.aload_n 0, 1) := by decide +kernel
theorem dX12_sits_160 : decode cX12_sits 160 = .ok (.getfield 33, 3) := by decide +kernel
theorem dX12_sits_163 : decode cX12_sits 163 = .ok (.bipush 71, 2) := by decide +kernel
theorem dX12_sits_165 : decode cX12_sits 165 = .ok (.iload_n 3, 1) := by decide +kernel
theorem dX12_sits_166 : decode cX12_sits 166 = .ok (.iadd, 1) := by decide +kernel
theorem dX12_sits_167 : decode cX12_sits 167 = .ok (.dup2, 1) := by decide +kernel
theorem dX12_sits_168 : decode cX12_sits 168 = .ok (.iaload, 1) := by decide +kernel
theorem dX12_sits_169 : decode cX12_sits 169 = .ok (.iconst 1, 1) := by decide +kernel
theorem dX12_sits_170 : decode cX12_sits 170 = .ok (.iadd, 1) := by decide +kernel
theorem dX12_sits_171 : decode cX12_sits 171 = .ok (.iastore, 1) := by decide +kernel
theorem dX12_sits_172 : decode cX12_sits 172 = .ok (.aload_n 0, 1) := by decide +kernel
theorem dX12_sits_173 : decode cX12_sits 173 = .ok (.getfield 33, 3) := by decide +kernel
theorem dX12_sits_176 : decode cX12_sits 176 = .ok (.bipush 48, 2) := by decide +kernel
theorem dX12_sits_178 : decode cX12_sits 178 = .ok (.iload_n 3, 1) := by decide +kernel
theorem dX12_sits_179 : decode cX12_sits 179 = .ok (.iconst 1, 1) := by decide +kernel
theorem dX12_sits_180 : decode cX12_sits 180 = .ok (.iadd, 1) := by decide +kernel
theorem dX12_sits_181 : decode cX12_sits 181 = .ok (.iastore, 1) := by decide +kernel
theorem dX12_sits_182 : decode cX12_sits 182 = .ok (.aload_n 0, 1) := by decide +kernel
theorem dX12_sits_183 : decode cX12_sits 183 = .ok (.getfield 33, 3) := by decide +kernel
theorem dX12_sits_186 : decode cX12_sits 186 = .ok (.bipush 46, 2) := by decide +kernel
theorem dX12_sits_188 : decode cX12_sits 188 = .ok (.dup2, 1) := by decide +kernel
theorem dX12_sits_189 : decode cX12_sits 189 = .ok (.iaload, 1) := by decide +kernel
theorem dX12_sits_190 : decode cX12_sits 190 = .ok (.iconst 1, 1) := by decide +kernel
theorem dX12_sits_191 : decode cX12_sits 191 = .ok (.iadd, 1) := by decide +kernel
theorem dX12_sits_192 : decode cX12_sits 192 = .ok (.iastore, 1) := by decide +kernel
theorem dX12_sits_193 : decode cX12_sits 193 = .ok (.aload_n 0, 1) := by decide +kernel
theorem dX12_sits_194 : decode cX12_sits 194 = .ok (.getfield 33, 3) := by decide +kernel
theorem dX12_sits_197 : decode cX12_sits 197 = .ok (.bipush 45, 2) := by decide +kernel
theorem dX12_sits_199 : decode cX12_sits 199 = .ok (.iconst 0, 1) := by decide +kernel
theorem dX12_sits_200 : decode cX12_sits 200 = .ok (.iastore, 1) := by decide +kernel
theorem dX12_sits_201 : decode cX12_sits 201 = .ok (.aload_n 0, 1) := by decide +kernel
theorem dX12_sits_202 : decode cX12_sits 202 = .ok (.getfield 33, 3) := by decide +kernel
theorem dX12_sits_205 : decode cX12_sits 205 = .ok (.bipush 63, 2) := by decide +kernel
theorem dX12_sits_207 : decode cX12_sits 207 = .ok (.iconst 0, 1) := by decide +kernel
theorem dX12_sits_208 : decode cX12_sits 208 = .ok (.iastore, 1) := by decide +kernel
theorem dX12_sits_209 : decode cX12_sits 209 = .ok (.iconst 0, 1) := by decide +kernel
theorem dX12_sits_210 : decode cX12_sits 210 = .ok (.istore 7, 2) := by decide +kernel
theorem dX12_sits_212 : decode cX12_sits 212 = .ok (.iload 7, 2) := by decide +kernel
theorem dX12_sits_214 : decode cX12_sits 214 = .ok (.bipush 7, 2) := by decide +kernel
theorem dX12_sits_216 : decode cX12_sits 216 = .ok (.if_icmp .ge 20, 3) := by decide +kernel
theorem dX12_sits_219 : decode cX12_sits 219 = .ok (.aload_n 0, 1) := by decide +kernel
theorem dX12_sits_220 : decode cX12_sits 220 = .ok (.getfield 33, 3) := by decide +kernel
theorem dX12_sits_223 : decode cX12_sits 223 = .ok (.bipush 64, 2) := by decide +kernel
theorem dX12_sits_225 : decode cX12_sits 225 = .ok (.iload 7, 2) := by decide +kernel
theorem dX12_sits_227 : decode cX12_sits 227 = .ok (.iadd, 1) := by decide +kernel
theorem dX12_sits_228 : decode cX12_sits 228 = .ok (.iconst 0, 1) := by decide +kernel
theorem dX12_sits_229 : decode cX12_sits 229 = .ok (.iastore, 1) := by decide +kernel
theorem dX12_sits_230 : decode cX12_sits 230 = .ok (.iinc 7 1, 3) := by decide +kernel
theorem dX12_sits_233 : decode cX12_sits 233 = .ok (.goto (-21), 3) := by decide +kernel
theorem dX12_sits_236 : decode cX12_sits 236 = .ok (.iconst 1, 1) := by decide +kernel
theorem dX12_sits_237 : decode cX12_sits 237 = .ok (.ireturn, 1) := by decide +kernel
theorem dX12_whyHide_0 : decode cX12_whyHide 0 = .ok (.aload_n 0, 1) := by decide +kernel
theorem dX12_whyHide_1 : decode cX12_whyHide 1 = .ok (.iload_n 1, 1) := by decide +kernel
theorem dX12_whyHide_2 : decode cX12_whyHide 2 = .ok (.invokevirtual 265, 3) := by decide +kernel
theorem dX12_whyHide_5 : decode cX12_whyHide 5 = .ok (.ifCond .ne 5, 3) := by decide +kernel
theorem dX12_whyHide_8 : decode cX12_whyHide 8 = .ok (.iconst 1, 1) := by decide +kernel
theorem dX12_whyHide_9 : decode cX12_whyHide 9 = .ok (.ireturn, 1) := by decide +kernel
theorem dX12_whyHide_10 : decode cX12_whyHide 10 = .ok (.aload_n 0, 1) := by decide +kernel
theorem dX12_whyHide_11 : decode cX12_whyHide 11 = .ok (.getfield 33, 3) := by decide +kernel
theorem dX12_whyHide_14 : decode cX12_whyHide 14 = .ok (.bipush 47, 2) := by decide +kernel
theorem dX12_whyHide_16 : decode cX12_whyHide 16 = .ok (.iaload, 1) := by decide +kernel
theorem dX12_whyHide_17 : decode cX12_whyHide 17 = .ok (.iload_n 1, 1) := by decide +kernel
theorem dX12_whyHide_18 : decode cX12_whyHide 18 = .ok (.invokestatic 248, 3) := by decide +kernel
theorem dX12_whyHide_21 : decode cX12_whyHide 21 = .ok (.ifCond .eq 5, 3) := by decide +kernel
theorem dX12_whyHide_24 : decode cX12_whyHide 24 = .ok (.iconst 2, 1) := by decide +kernel
theorem dX12_whyHide_25 : decode cX12_whyHide 25 = .ok (.ireturn, 1) := by decide +kernel
theorem dX12_whyHide_26 : decode cX12_whyHide 26 = .ok (.aload_n 0, 1) := by decide +kernel
theorem dX12_whyHide_27 : decode cX12_whyHide 27 = .ok (.iload_n 1, 1) := by decide +kernel
theorem dX12_whyHide_28 : decode cX12_whyHide 28 = .ok (.invokevirtual 268, 3) := by decide +kernel
theorem dX12_whyHide_31 : decode cX12_whyHide 31 = .ok (.ifCond .lt 5, 3) := by decide +kernel
theorem dX12_whyHide_34 : decode cX12_whyHide 34 = .ok (.iconst 3, 1) := by decide +kernel
theorem dX12_whyHide_35 : decode cX12_whyHide 35 = .ok (.ireturn, 1) := by decide +kernel
theorem dX12_whyHide_36 : decode cX12_whyHide 36 = .ok (.aload_n 0, 1) := by decide +kernel
theorem dX12_whyHide_37 : decode cX12_whyHide 37 = .ok (.getfield 33, 3) := by decide +kernel
theorem dX12_whyHide_40 : decode cX12_whyHide 40 = .ok (.iconst 0, 1) := by decide +kernel
theorem dX12_whyHide_41 : decode cX12_whyHide 41 = .ok (.iaload, 1) := by decide +kernel
theorem dX12_whyHide_42 : decode cX12_whyHide 42 = .ok (.aload_n 0, 1) := by decide +kernel
theorem dX12_whyHide_43 : decode cX12_whyHide 43 = .ok (.getfield 33, 3) := by decide +kernel
theorem dX12_whyHide_46 : decode cX12_whyHide 46 = .ok (.bipush 47, 2) := by decide +kernel
theorem dX12_whyHide_48 : decode cX12_whyHide 48 = .ok (.iaload, 1) := by decide +kernel
theorem dX12_whyHide_49 : decode cX12_whyHide 49 = .ok (.invokestatic 277, 3) := by decide +kernel
theorem dX12_whyHide_52 : decode cX12_whyHide 52 = .ok (.isub, 1) := by decide +kernel
theorem dX12_whyHide_53 : decode cX12_whyHide 53 = .ok (.iconst 1, 1) := by decide +kernel
theorem dX12_whyHide_54 : decode cX12_whyHide 54 = .ok (.isub, 1) := by decide +kernel
theorem dX12_whyHide_55 : decode cX12_whyHide 55 = .ok (.aload_n 0, 1) := by decide +kernel
theorem dX12_whyHide_56 : decode cX12_whyHide 56 = .ok (.getfield 33, 3) := by decide +kernel
theorem dX12_whyHide_59 : decode cX12_whyHide 59 = .ok (.iconst 1, 1) := by decide +kernel
theorem dX12_whyHide_60 : decode cX12_whyHide 60 = .ok (.iaload, 1) := by decide +kernel
theorem dX12_whyHide_61 : decode cX12_whyHide 61 = .ok (.if_icmp .ge 7, 3) := by decide +kernel
theorem dX12_whyHide_64 : decode cX12_whyHide 64 = .ok (.iconst 4, 1) := by decide +kernel
theorem dX12_whyHide_65 : decode cX12_whyHide 65 = .ok (.goto 4, 3) := by decide +kernel
theorem dX12_whyHide_68 : decode cX12_whyHide 68 = .ok (.iconst 0, 1) := by decide +kernel
theorem dX12_whyHide_69 : decode cX12_whyHide 69 = .ok (.ireturn, 1) := by decide +kernel
theorem dX12_whyShow_0 : decode cX12_whyShow 0 = .ok (.aload_n 0, 1) := by decide +kernel
theorem dX12_whyShow_1 : decode cX12_whyShow 1 = .ok (.iload_n 1, 1) := by decide +kernel
theorem dX12_whyShow_2 : decode cX12_whyShow 2 = .ok (.invokevirtual 265, 3) := by decide +kernel
theorem dX12_whyShow_5 : decode cX12_whyShow 5 = .ok (.ifCond .ne 7, 3) := by decide +kernel
theorem dX12_whyShow_8 : decode cX12_whyShow 8 = .ok (.iconst 1, 1) := by decide +kernel
theorem dX12_whyShow_9 : decode cX12_whyShow 9 = .ok (.goto 22, 3) := by decide +kernel
theorem dX12_whyShow_12 : decode cX12_whyShow 12 = .ok (.aload_n 0, 1) := by decide +kernel
theorem dX12_whyShow_13 : decode cX12_whyShow 13 = .ok (.getfield 33, 3) := by decide +kernel
theorem dX12_whyShow_16 : decode cX12_whyShow 16 = .ok (.bipush 47, 2) := by decide +kernel
theorem dX12_whyShow_18 : decode cX12_whyShow 18 = .ok (.iaload, 1) := by decide +kernel
theorem dX12_whyShow_19 : decode cX12_whyShow 19 = .ok (.iload_n 1, 1) := by decide +kernel
theorem dX12_whyShow_20 : decode cX12_whyShow 20 = .ok (.invokestatic 248, 3) := by decide +kernel
theorem dX12_whyShow_23 : decode cX12_whyShow 23 = .ok (.ifCond .eq 7, 3) := by decide +kernel
theorem dX12_whyShow_26 : decode cX12_whyShow 26 = .ok (.iconst 0, 1) := by decide +kernel
theorem dX12_whyShow_27 : decode cX12_whyShow 27 = .ok (.goto 4, 3) := by decide +kernel
theorem dX12_whyShow_30 : decode cX12_whyShow 30 = .ok (.iconst 2, 1) := by decide +kernel
theorem dX12_whyShow_31 : decode cX12_whyShow 31 = .ok (.ireturn, 1) := by decide +kernel
theorem dX12_round_0 : decode cX12_round 0 = .ok (.iconst 0, 1) := by decide +kernel
theorem dX12_round_1 : decode cX12_round 1 = .ok (.istore_n 2, 1) := by decide +kernel
theorem dX12_round_2 : decode cX12_round 2 = .ok (.iconst 0, 1) := by decide +kernel
theorem dX12_round_3 : decode cX12_round 3 = .ok (.istore_n 3, 1) := by decide +kernel
theorem dX12_round_4 : decode cX12_round 4 = .ok (.iload_n 3, 1) := by decide +kernel
theorem dX12_round_5 : decode cX12_round 5 = .ok (.aload_n 0, 1) := by decide +kernel
theorem dX12_round_6 : decode cX12_round 6 = .ok (.getfield 33, 3) := by decide +kernel
theorem dX12_round_9 : decode cX12_round 9 = .ok (.iconst 1, 1) := by decide +kernel
theorem dX12_round_10 : decode cX12_round 10 = .ok (.iaload, 1) := by decide +kernel
theorem dX12_round_11 : decode cX12_round 11 = .ok (.if_icmp .ge 124, 3) := by decide +kernel
theorem dX12_round_14 : decode cX12_round 14 = .ok (.iload_n 2, 1) := by decide +kernel
theorem dX12_round_15 : decode cX12_round 15 = .ok (.ifCond .ne 120, 3) := by decide +kernel
theorem dX12_round_18 : decode cX12_round 18 = .ok (.aload_n 0, 1) := by decide +kernel
theorem dX12_round_19 : decode cX12_round 19 = .ok (.iload_n 3, 1) := by decide +kernel
theorem dX12_round_20 : decode cX12_round 20 = .ok (.invokevirtual 251, 3) := by decide +kernel
theorem dX12_round_23 : decode cX12_round 23 = .ok (.ifCond .eq 6, 3) := by decide +kernel
theorem dX12_round_26 : decode cX12_round 26 = .ok (.goto 103, 3) := by decide +kernel
theorem dX12_round_29 : decode cX12_round 29 = .ok (.aload_n 0, 1) := by decide +kernel
theorem dX12_round_30 : decode cX12_round 30 = .ok (.getfield 33, 3) := by decide +kernel
theorem dX12_round_33 : decode cX12_round 33 = .ok (.bipush 56, 2) := by decide +kernel
theorem dX12_round_35 : decode cX12_round 35 = .ok (.iload_n 3, 1) := by decide +kernel
theorem dX12_round_36 : decode cX12_round 36 = .ok (.iadd, 1) := by decide +kernel
theorem dX12_round_37 : decode cX12_round 37 = .ok (.aload_n 0, 1) := by decide +kernel
theorem dX12_round_38 : decode cX12_round 38 = .ok (.getfield 33, 3) := by decide +kernel
theorem dX12_round_41 : decode cX12_round 41 = .ok (.bipush 56, 2) := by decide +kernel
theorem dX12_round_43 : decode cX12_round 43 = .ok (.iload_n 3, 1) := by decide +kernel
theorem dX12_round_44 : decode cX12_round 44 = .ok (.iadd, 1) := by decide +kernel
theorem dX12_round_45 : decode cX12_round 45 = .ok (.iaload, 1) := by decide +kernel
theorem dX12_round_46 : decode cX12_round 46 = .ok (.aload_n 0, 1) := by decide +kernel
theorem dX12_round_47 : decode cX12_round 47 = .ok (.getfield 33, 3) := by decide +kernel
theorem dX12_round_50 : decode cX12_round 50 = .ok (.bipush 17, 2) := by decide +kernel
theorem dX12_round_52 : decode cX12_round 52 = .ok (.iload_n 3, 1) := by decide +kernel
theorem dX12_round_53 : decode cX12_round 53 = .ok (.iadd, 1) := by decide +kernel
theorem dX12_round_54 : decode cX12_round 54 = .ok (.iaload, 1) := by decide +kernel
theorem dX12_round_55 : decode cX12_round 55 = .ok (.iadd, 1) := by decide +kernel
theorem dX12_round_56 : decode cX12_round 56 = .ok (.aload_n 0, 1) := by decide +kernel
theorem dX12_round_57 : decode cX12_round 57 = .ok (.getfield 33, 3) := by decide +kernel
theorem dX12_round_60 : decode cX12_round 60 = .ok (.iconst 0, 1) := by decide +kernel
theorem dX12_round_61 : decode cX12_round 61 = .ok (.iaload, 1) := by decide +kernel
theorem dX12_round_62 : decode cX12_round 62 = .ok (.irem, 1) := by decide +kernel
theorem dX12_round_63 : decode cX12_round 63 = .ok (.iastore, 1) := by decide +kernel
theorem dX12_round_64 : decode cX12_round 64 = .ok (.aload_n 0, 1) := by decide +kernel
theorem dX12_round_65 : decode cX12_round 65 = .ok (.getfield 33, 3) := by decide +kernel
theorem dX12_round_68 : decode cX12_round 68 = .ok (.bipush 64, 2) := by decide +kernel
theorem dX12_round_70 : decode cX12_round 70 = .ok (.iload_n 3, 1) := by decide +kernel
theorem dX12_round_71 : decode cX12_round 71 = .ok (.iadd, 1) := by decide +kernel
theorem dX12_round_72 : decode cX12_round 72 = .ok (.bipush 99, 2) := by decide +kernel
theorem dX12_round_74 : decode cX12_round 74 = .ok (.aload_n 0, 1) := by decide +kernel
theorem dX12_round_75 : decode cX12_round 75 = .ok (.getfield 33, 3) := by decide +kernel
theorem dX12_round_78 : decode cX12_round 78 = .ok (.bipush 64, 2) := by decide +kernel
theorem dX12_round_80 : decode cX12_round 80 = .ok (.iload_n 3, 1) := by decide +kernel
theorem dX12_round_81 : decode cX12_round 81 = .ok (.iadd, 1) := by decide +kernel
theorem dX12_round_82 : decode cX12_round 82 = .ok (.iaload, 1) := by decide +kernel
theorem dX12_round_83 : decode cX12_round 83 = .ok (.iconst 1, 1) := by decide +kernel
theorem dX12_round_84 : decode cX12_round 84 = .ok (.iadd, 1) := by decide +kernel
theorem dX12_round_85 : decode cX12_round 85 = .ok (.invokestatic 280, 3) := by decide +kernel
theorem dX12_round_88 : decode cX12_round 88 = .ok (.iastore, 1) := by decide +kernel
theorem dX12_round_89 : decode cX12_round 89 = .ok (.iload_n 3, 1) := by decide +kernel
theorem dX12_round_90 : decode cX12_round 90 = .ok (.iload_n 1, 1) := by decide +kernel
theorem dX12_round_91 : decode cX12_round 91 = .ok (.if_icmp .eq 38, 3) := by decide +kernel
theorem dX12_round_94 : decode cX12_round 94 = .ok (.aload_n 0, 1) := by decide +kernel
theorem dX12_round_95 : decode cX12_round 95 = .ok (.getfield 33, 3) := by decide +kernel
theorem dX12_round_98 : decode cX12_round 98 = .ok (.bipush 64, 2) := by decide +kernel
theorem dX12_round_100 : decode cX12_round 100 = .ok (.iload_n 3, 1) := by decide +kernel
theorem dX12_round_101 : decode cX12_round 101 = .ok (.iadd, 1) := by decide +kernel
theorem dX12_round_102 : decode cX12_round 102 = .ok (.iaload, 1) := by decide +kernel
theorem dX12_round_103 : decode cX12_round 103 = .ok (.aload_n 0, 1) := by decide +kernel
theorem dX12_round_104 : decode cX12_round 104 = .ok (.getfield 33, 3) := by decide +kernel
theorem dX12_round_107 : decode cX12_round 107 = .ok (.bipush 10, 2) := by decide +kernel
theorem dX12_round_109 : decode cX12_round 109 = .ok (.iload_n 3, 1) := by decide +kernel
theorem dX12_round_110 : decode cX12_round 110 = .ok (.iadd, 1) := by decide +kernel
theorem dX12_round_111 : decode cX12_round 111 = .ok (.iaload, 1) := by decide +kernel
theorem dX12_round_112 : decode cX12_round 112 = .ok (.if_icmp .lt 17, 3) := by decide +kernel
theorem dX12_round_115 : decode cX12_round 115 = .ok (.aload_n 0, 1) := by decide +kernel
theorem dX12_round_116 : decode cX12_round 116 = .ok (.iload_n 3, 1) := by decide +kernel
theorem dX12_round_117 : decode cX12_round 117 = .ok (.invokevirtual 284, 3) := by decide +kernel
theorem dX12_round_120 : decode cX12_round 120 = .ok (.ifCond .ne 9, 3) := by decide +kernel
theorem dX12_round_123 : decode cX12_round 123 = .ok (.aload_n 0, 1) := by decide +kernel
theorem dX12_round_124 : decode cX12_round 124 = .ok (.iload_n 3, 1) := by decide +kernel
theorem dX12_round_125 : decode cX12_round 125 = .ok (.invokevirtual 287, 3) := by decide +kernel
theorem dX12_round_128 : decode cX12_round 128 = .ok (.istore_n 2, 1) := by decide +kernel
theorem dX12_round_129 : decode cX12_round 129 = .ok (.iinc 3 1, 3) := by decide +kernel
theorem dX12_round_132 : decode cX12_round 132 = .ok (.goto (-128), 3) := by decide +kernel
theorem dX12_round_135 : decode cX12_round 135 = .ok (.aload_n 0, 1) := by decide +kernel
theorem dX12_round_136 : decode cX12_round 136 = .ok (.getfield 33, 3) := by decide +kernel
theorem dX12_round_139 : decode cX12_round 139 = .ok (.bipush 44, 2) := by decide +kernel
theorem dX12_round_141 : decode cX12_round 141 = .ok (.dup2, 1) := by decide +kernel
theorem dX12_round_142 : decode cX12_round 142 = .ok (.iaload, 1) := by decide +kernel
theorem dX12_round_143 : decode cX12_round 143 = .ok (.iconst 1, 1) := by decide +kernel
theorem dX12_round_144 : decode cX12_round 144 = .ok (.iadd, 1) := by decide +kernel
theorem dX12_round_145 : decode cX12_round 145 = .ok (.iastore, 1) := by decide +kernel
theorem dX12_round_146 : decode cX12_round 146 = .ok (.iload_n 2, 1) := by decide +kernel
theorem dX12_round_147 : decode cX12_round 147 = .ok (.ireturn, 1) := by decide +kernel
theorem dX12_goesOn_0 : decode cX12_goesOn 0 = .ok (.iconst 0, 1) := by decide +kernel
theorem dX12_goesOn_1 : decode cX12_goesOn 1 = .ok (.istore_n 2, 1) := by decide +kernel
theorem dX12_goesOn_2 : decode cX12_goesOn 2 = .ok (.iload_n 2, 1) := by decide +kernel
theorem dX12_goesOn_3 : decode cX12_goesOn 3 = .ok (.iload_n 1, 1) := by decide +kernel
theorem dX12_goesOn_4 : decode cX12_goesOn 4 = .ok (.if_icmp .ge 28, 3) := by decide +kernel
theorem dX12_goesOn_7 : decode cX12_goesOn 7 = .ok (.aload_n 0, 1) := by decide +kernel
theorem dX12_goesOn_8 : decode cX12_goesOn 8 = .ok (.getfield 33, 3) := by decide +kernel
theorem dX12_goesOn_11 : decode cX12_goesOn 11 = .ok (.bipush 44, 2) := by decide +kernel
theorem dX12_goesOn_13 : decode cX12_goesOn 13 = .ok (.iaload, 1) := by decide +kernel
theorem dX12_goesOn_14 : decode cX12_goesOn 14 = .ok (.sipush 400, 3) := by decide +kernel
theorem dX12_goesOn_17 : decode cX12_goesOn 17 = .ok (.if_icmp .ge 15, 3) := by decide +kernel
theorem dX12_goesOn_20 : decode cX12_goesOn 20 = .ok (.aload_n 0, 1) := by decide +kernel
theorem dX12_goesOn_21 : decode cX12_goesOn 21 = .ok (.iconst (-1), 1) := by decide +kernel
theorem dX12_goesOn_22 : decode cX12_goesOn 22 = .ok (.invokevirtual 290, 3) := by decide +kernel
theorem dX12_goesOn_25 : decode cX12_goesOn 25 = .ok (.pop, 1) := by decide +kernel
theorem dX12_goesOn_26 : decode cX12_goesOn 26 = .ok (.iinc 2 1, 3) := by decide +kernel
theorem dX12_goesOn_29 : decode cX12_goesOn 29 = .ok (.goto (-27), 3) := by decide +kernel
theorem dX12_goesOn_32 : decode cX12_goesOn 32 = .ok (.iload_n 2, 1) := by decide +kernel
theorem dX12_goesOn_33 : decode cX12_goesOn 33 = .ok (.ireturn, 1) := by decide +kernel
theorem dX12_sit_0 : decode cX12_sit 0 = .ok (.aload_n 0, 1) := by decide +kernel
theorem dX12_sit_1 : decode cX12_sit 1 = .ok (.iconst 0, 1) := by decide +kernel
theorem dX12_sit_2 : decode cX12_sit 2 = .ok (.putfield 1, 3) := by decide +kernel
theorem dX12_sit_5 : decode cX12_sit 5 = .ok (.aload_n 0, 1) := by decide +kernel
theorem dX12_sit_6 : decode cX12_sit 6 = .ok (.iload_n 1, 1) := by decide +kernel
theorem dX12_sit_7 : decode cX12_sit 7 = .ok (.invokevirtual 254, 3) := by decide +kernel
theorem dX12_sit_10 : decode cX12_sit 10 = .ok (.ifCond .ne 5, 3) := by decide +kernel
theorem dX12_sit_13 : decode cX12_sit 13 = .ok (.iconst (-1), 1) := by decide +kernel
theorem dX12_sit_14 : decode cX12_sit 14 = .ok (.ireturn, 1) := by decide +kernel
theorem dX12_sit_15 : decode cX12_sit 15 = .ok (.aload_n 0, 1) := by decide +kernel
theorem dX12_sit_16 : decode cX12_sit 16 = .ok (.iload_n 1, 1) := by decide +kernel
theorem dX12_sit_17 : decode cX12_sit 17 = .ok (.invokevirtual 284, 3) := by decide +kernel
theorem dX12_sit_20 : decode cX12_sit 20 = .ok (.istore_n 2, 1) := by decide +kernel
theorem dX12_sit_21 : decode cX12_sit 21 = .ok (.iload_n 2, 1) := by decide +kernel
theorem dX12_sit_22 : decode cX12_sit 22 = .ok (.ifCond .le 5, 3) := by decide +kernel
theorem dX12_sit_25 : decode cX12_sit 25 = .ok (.iload_n 2, 1) := by decide +kernel
theorem dX12_sit_26 : decode cX12_sit 26 = .ok (.ireturn, 1) := by decide +kernel
theorem dX12_sit_27 : decode cX12_sit 27 = .ok (.aload_n 0, 1) := by decide +kernel
theorem dX12_sit_28 : decode cX12_sit 28 = .ok (.invokevirtual 293, 3) := by decide +kernel
theorem dX12_sit_31 : decode cX12_sit 31 = .ok (.aload_n 0, 1) := by decide +kernel
theorem dX12_sit_32 : decode cX12_sit 32 = .ok (.iload_n 1, 1) := by decide +kernel
theorem dX12_sit_33 : decode cX12_sit 33 = .ok (.invokevirtual 287, 3) := by decide +kernel
theorem dX12_sit_36 : decode cX12_sit 36 = .ok (.pop, 1) := by decide +kernel
theorem dX12_sit_37 : decode cX12_sit 37 = .ok (.iconst 0, 1) := by decide +kernel
theorem dX12_sit_38 : decode cX12_sit 38 = .ok (.ireturn, 1) := by decide +kernel
theorem dX12_rise_0 : decode cX12_rise 0 = .ok (.aload_n 0, 1) := by decide +kernel
theorem dX12_rise_1 : decode cX12_rise 1 = .ok (.iconst 0, 1) := by decide +kernel
theorem dX12_rise_2 : decode cX12_rise 2 = .ok (.putfield 1, 3) := by decide +kernel
theorem dX12_rise_5 : decode cX12_rise 5 = .ok (.aload_n 0, 1) := by decide +kernel
theorem dX12_rise_6 : decode cX12_rise 6 = .ok (.iload_n 1, 1) := by decide +kernel
theorem dX12_rise_7 : decode cX12_rise 7 = .ok (.invokevirtual 254, 3) := by decide +kernel
theorem dX12_rise_10 : decode cX12_rise 10 = .ok (.ifCond .ne 5, 3) := by decide +kernel
theorem dX12_rise_13 : decode cX12_rise 13 = .ok (.iconst (-1), 1) := by decide +kernel
theorem dX12_rise_14 : decode cX12_rise 14 = .ok (.ireturn, 1) := by decide +kernel
theorem dX12_rise_15 : decode cX12_rise 15 = .ok (.aload_n 0, 1) := by decide +kernel
theorem dX12_rise_16 : decode cX12_rise 16 = .ok (.iload_n 1, 1) := by decide +kernel
theorem dX12_rise_17 : decode cX12_rise 17 = .ok (.invokevirtual 251, 3) := by decide +kernel
theorem dX12_rise_20 : decode cX12_rise 20 = .ok (.ifCond .ne 5, 3) := by decide +kernel
theorem dX12_rise_23 : decode cX12_rise 23 = .ok (.iconst 1, 1) := by decide +kernel
theorem dX12_rise_24 : decode cX12_rise 24 = .ok (.ireturn, 1) := by decide +kernel
theorem dX12_rise_25 : decode cX12_rise 25 = .ok (.aload_n 0, 1) := by decide +kernel
theorem dX12_rise_26 : decode cX12_rise 26 = .ok (.invokevirtual 293, 3) := by decide +kernel
theorem dX12_rise_29 : decode cX12_rise 29 = .ok (.aload_n 0, 1) := by decide +kernel
theorem dX12_rise_30 : decode cX12_rise 30 = .ok (.getfield 33, 3) := by decide +kernel
theorem dX12_rise_33 : decode cX12_rise 33 = .ok (.bipush 63, 2) := by decide +kernel
theorem dX12_rise_35 : decode cX12_rise 35 = .ok (.dup2, 1) := by decide +kernel
theorem dX12_rise_36 : decode cX12_rise 36 = .ok (.iaload, 1) := by decide +kernel
theorem dX12_rise_37 : decode cX12_rise 37 = .ok (.iconst 1, 1) := by decide +kernel
theorem dX12_rise_38 : decode cX12_rise 38 = .ok (.iload_n 1, 1) := by decide +kernel
theorem dX12_rise_39 : decode cX12_rise 39 = .ok (.ishl, 1) := by decide +kernel
theorem dX12_rise_40 : decode cX12_rise 40 = .ok (.ixor, 1) := by decide +kernel
theorem dX12_rise_41 : decode cX12_rise 41 = .ok (.iastore, 1) := by decide +kernel
theorem dX12_rise_42 : decode cX12_rise 42 = .ok (.iconst 0, 1) := by decide +kernel
theorem dX12_rise_43 : decode cX12_rise 43 = .ok (.ireturn, 1) := by decide +kernel
theorem dX12_serve_0 : decode cX12_serve 0 = .ok (.aload_n 0, 1) := by decide +kernel
theorem dX12_serve_1 : decode cX12_serve 1 = .ok (.iconst 0, 1) := by decide +kernel
theorem dX12_serve_2 : decode cX12_serve 2 = .ok (.putfield 1, 3) := by decide +kernel
theorem dX12_serve_5 : decode cX12_serve 5 = .ok (.aload_n 0, 1) := by decide +kernel
theorem dX12_serve_6 : decode cX12_serve 6 = .ok (.iload_n 1, 1) := by decide +kernel
theorem dX12_serve_7 : decode cX12_serve 7 = .ok (.invokevirtual 296, 3) := by decide +kernel
theorem dX12_serve_10 : decode cX12_serve 10 = .ok (.ifCond .ne 5, 3) := by decide +kernel
theorem dX12_serve_13 : decode cX12_serve 13 = .ok (.iconst (-1), 1) := by decide +kernel
theorem dX12_serve_14 : decode cX12_serve 14 = .ok (.ireturn, 1) := by decide +kernel
theorem dX12_serve_15 : decode cX12_serve 15 = .ok (.aload_n 0, 1) := by decide +kernel
theorem dX12_serve_16 : decode cX12_serve 16 = .ok (.getfield 33, 3) := by decide +kernel
theorem dX12_serve_19 : decode cX12_serve 19 = .ok (.bipush 45, 2) := by decide +kernel
theorem dX12_serve_21 : decode cX12_serve 21 = .ok (.iaload, 1) := by decide +kernel
theorem dX12_serve_22 : decode cX12_serve 22 = .ok (.iload_n 1, 1) := by decide +kernel
theorem dX12_serve_23 : decode cX12_serve 23 = .ok (.invokestatic 248, 3) := by decide +kernel
theorem dX12_serve_26 : decode cX12_serve 26 = .ok (.ifCond .eq 5, 3) := by decide +kernel
theorem dX12_serve_29 : decode cX12_serve 29 = .ok (.iconst 1, 1) := by decide +kernel
theorem dX12_serve_30 : decode cX12_serve 30 = .ok (.ireturn, 1) := by decide +kernel
theorem dX12_serve_31 : decode cX12_serve 31 = .ok (.aload_n 0, 1) := by decide +kernel
theorem dX12_serve_32 : decode cX12_serve 32 = .ok (.invokevirtual 293, 3) := by decide +kernel
theorem dX12_serve_35 : decode cX12_serve 35 = .ok (.aload_n 0, 1) := by decide +kernel
theorem dX12_serve_36 : decode cX12_serve 36 = .ok (.getfield 33, 3) := by decide +kernel
theorem dX12_serve_39 : decode cX12_serve 39 = .ok (.bipush 45, 2) := by decide +kernel
theorem dX12_serve_41 : decode cX12_serve 41 = .ok (.dup2, 1) := by decide +kernel
theorem dX12_serve_42 : decode cX12_serve 42 = .ok (.iaload, 1) := by decide +kernel
theorem dX12_serve_43 : decode cX12_serve 43 = .ok (.iconst 1, 1) := by decide +kernel
theorem dX12_serve_44 : decode cX12_serve 44 = .ok (.iload_n 1, 1) := by decide +kernel
theorem dX12_serve_45 : decode cX12_serve 45 = .ok (.ishl, 1) := by decide +kernel
theorem dX12_serve_46 : decode cX12_serve 46 = .ok (.ior, 1) := by decide +kernel
theorem dX12_serve_47 : decode cX12_serve 47 = .ok (.iastore, 1) := by decide +kernel
theorem dX12_serve_48 : decode cX12_serve 48 = .ok (.iconst 0, 1) := by decide +kernel
theorem dX12_serve_49 : decode cX12_serve 49 = .ok (.ireturn, 1) := by decide +kernel
theorem dX12_turns_0 : decode cX12_turns 0 = .ok (.iload_n 1, 1) := by decide +kernel
theorem dX12_turns_1 : decode cX12_turns 1 = .ok (.iconst 0, 1) := by decide +kernel
theorem dX12_turns_2 : decode cX12_turns 2 = .ok (.bipush 8, 2) := by decide +kernel
theorem dX12_turns_4 : decode cX12_turns 4 = .ok (.invokestatic 182, 3) := by decide +kernel
theorem dX12_turns_7 : decode cX12_turns 7 = .ok (.ifCond .ne 5, 3) := by decide +kernel
theorem dX12_turns_10 : decode cX12_turns 10 = .ok (.iconst (-1), 1) := by decide +kernel
theorem dX12_turns_11 : decode cX12_turns 11 = .ok (.ireturn, 1) := by decide +kernel
theorem dX12_turns_12 : decode cX12_turns 12 = .ok (.iload_n 2, 1) := by decide +kernel
theorem dX12_turns_13 : decode cX12_turns 13 = .ok (.ifCond .le 5, 3) := by decide +kernel
theorem dX12_turns_16 : decode cX12_turns 16 = .ok (.iload_n 2, 1) := by decide +kernel
theorem dX12_turns_17 : decode cX12_turns 17 = .ok (.ireturn, 1) := by decide +kernel
theorem dX12_turns_18 : decode cX12_turns 18 = .ok (.aload_n 0, 1) := by decide +kernel
theorem dX12_turns_19 : decode cX12_turns 19 = .ok (.invokevirtual 293, 3) := by decide +kernel
theorem dX12_turns_22 : decode cX12_turns 22 = .ok (.aload_n 0, 1) := by decide +kernel
theorem dX12_turns_23 : decode cX12_turns 23 = .ok (.getfield 33, 3) := by decide +kernel
theorem dX12_turns_26 : decode cX12_turns 26 = .ok (.bipush 47, 2) := by decide +kernel
theorem dX12_turns_28 : decode cX12_turns 28 = .ok (.dup2, 1) := by decide +kernel
theorem dX12_turns_29 : decode cX12_turns 29 = .ok (.iaload, 1) := by decide +kernel
theorem dX12_turns_30 : decode cX12_turns 30 = .ok (.iconst 1, 1) := by decide +kernel
theorem dX12_turns_31 : decode cX12_turns 31 = .ok (.iload_n 1, 1) := by decide +kernel
theorem dX12_turns_32 : decode cX12_turns 32 = .ok (.ishl, 1) := by decide +kernel
theorem dX12_turns_33 : decode cX12_turns 33 = .ok (.ixor, 1) := by decide +kernel
theorem dX12_turns_34 : decode cX12_turns 34 = .ok (.iastore, 1) := by decide +kernel
theorem dX12_turns_35 : decode cX12_turns 35 = .ok (.iconst 0, 1) := by decide +kernel
theorem dX12_turns_36 : decode cX12_turns 36 = .ok (.ireturn, 1) := by decide +kernel
theorem dX12_hide_0 : decode cX12_hide 0 = .ok (.aload_n 0, 1) := by decide +kernel
theorem dX12_hide_1 : decode cX12_hide 1 = .ok (.iconst 0, 1) := by decide +kernel
theorem dX12_hide_2 : decode cX12_hide 2 = .ok (.putfield 1, 3) := by decide +kernel
theorem dX12_hide_5 : decode cX12_hide 5 = .ok (.aload_n 0, 1) := by decide +kernel
theorem dX12_hide_6 : decode cX12_hide 6 = .ok (.iload_n 1, 1) := by decide +kernel
theorem dX12_hide_7 : decode cX12_hide 7 = .ok (.aload_n 0, 1) := by decide +kernel
theorem dX12_hide_8 : decode cX12_hide 8 = .ok (.iload_n 1, 1) := by decide +kernel
theorem dX12_hide_9 : decode cX12_hide 9 = .ok (.invokevirtual 299, 3) := by decide +kernel
theorem dX12_hide_12 : decode cX12_hide 12 = .ok (.invokevirtual 302, 3) := by decide +kernel
theorem dX12_hide_15 : decode cX12_hide 15 = .ok (.ireturn, 1) := by decide +kernel
theorem dX12_show_0 : decode cX12_show 0 = .ok (.aload_n 0, 1) := by decide +kernel
theorem dX12_show_1 : decode cX12_show 1 = .ok (.iconst 0, 1) := by decide +kernel
theorem dX12_show_2 : decode cX12_show 2 = .ok (.putfield 1, 3) := by decide +kernel
theorem dX12_show_5 : decode cX12_show 5 = .ok (.aload_n 0, 1) := by decide +kernel
theorem dX12_show_6 : decode cX12_show 6 = .ok (.iload_n 1, 1) := by decide +kernel
theorem dX12_show_7 : decode cX12_show 7 = .ok (.aload_n 0, 1) := by decide +kernel
theorem dX12_show_8 : decode cX12_show 8 = .ok (.iload_n 1, 1) := by decide +kernel
theorem dX12_show_9 : decode cX12_show 9 = .ok (.invokevirtual 305, 3) := by decide +kernel
theorem dX12_show_12 : decode cX12_show 12 = .ok (.invokevirtual 302, 3) := by decide +kernel
theorem dX12_show_15 : decode cX12_show 15 = .ok (.ireturn, 1) := by decide +kernel
theorem dX12_rounds_0 : decode cX12_rounds 0 = .ok (.aload_n 0, 1) := by decide +kernel
theorem dX12_rounds_1 : decode cX12_rounds 1 = .ok (.iconst 0, 1) := by decide +kernel
theorem dX12_rounds_2 : decode cX12_rounds 2 = .ok (.putfield 1, 3) := by decide +kernel
theorem dX12_rounds_5 : decode cX12_rounds 5 = .ok (.iload_n 1, 1) := by decide +kernel
theorem dX12_rounds_6 : decode cX12_rounds 6 = .ok (.iconst 1, 1) := by decide +kernel
theorem dX12_rounds_7 : decode cX12_rounds 7 = .ok (.bipush 60, 2) := by decide +kernel
theorem dX12_rounds_9 : decode cX12_rounds 9 = .ok (.invokestatic 182, 3) := by decide +kernel
theorem dX12_rounds_12 : decode cX12_rounds 12 = .ok (.ifCond .ne 5, 3) := by decide +kernel
theorem dX12_rounds_15 : decode cX12_rounds 15 = .ok (.iconst (-1), 1) := by decide +kernel
theorem dX12_rounds_16 : decode cX12_rounds 16 = .ok (.ireturn, 1) := by decide +kernel
theorem dX12_rounds_17 : decode cX12_rounds 17 = .ok (.aload_n 0, 1) := by decide +kernel
theorem dX12_rounds_18 : decode cX12_rounds 18 = .ok (.getfield 33, 3) := by decide +kernel
theorem dX12_rounds_21 : decode cX12_rounds 21 = .ok (.bipush 44, 2) := by decide +kernel
theorem dX12_rounds_23 : decode cX12_rounds 23 = .ok (.iaload, 1) := by decide +kernel
theorem dX12_rounds_24 : decode cX12_rounds 24 = .ok (.sipush 400, 3) := by decide +kernel
theorem dX12_rounds_27 : decode cX12_rounds 27 = .ok (.if_icmp .ne 5, 3) := by decide +kernel
theorem dX12_rounds_30 : decode cX12_rounds 30 = .ok (.iconst 0, 1) := by decide +kernel
theorem dX12_rounds_31 : decode cX12_rounds 31 = .ok (.ireturn, 1) := by decide +kernel
theorem dX12_rounds_32 : decode cX12_rounds 32 = .ok (.aload_n 0, 1) := by decide +kernel
theorem dX12_rounds_33 : decode cX12_rounds 33 = .ok (.invokevirtual 293, 3) := by decide +kernel
theorem dX12_rounds_36 : decode cX12_rounds 36 = .ok (.aload_n 0, 1) := by decide +kernel
theorem dX12_rounds_37 : decode cX12_rounds 37 = .ok (.iload_n 1, 1) := by decide +kernel
theorem dX12_rounds_38 : decode cX12_rounds 38 = .ok (.invokevirtual 308, 3) := by decide +kernel
theorem dX12_rounds_41 : decode cX12_rounds 41 = .ok (.ireturn, 1) := by decide +kernel
theorem dX12_keep_0 : decode cX12_keep 0 = .ok (.aload_n 0, 1) := by decide +kernel
theorem dX12_keep_1 : decode cX12_keep 1 = .ok (.getfield 245, 3) := by decide +kernel
theorem dX12_keep_4 : decode cX12_keep 4 = .ok (.bipush 8, 2) := by decide +kernel
theorem dX12_keep_6 : decode cX12_keep 6 = .ok (.if_icmp .ne 39, 3) := by decide +kernel
theorem dX12_keep_9 : decode cX12_keep 9 = .ok (.iconst 0, 1) := by decide +kernel
theorem dX12_keep_10 : decode cX12_keep 10 = .ok (.istore_n 1, 1) := by decide +kernel
theorem dX12_keep_11 : decode cX12_keep 11 = .ok (.iload_n 1, 1) := by decide +kernel
theorem dX12_keep_12 : decode cX12_keep 12 = .ok (.sipush 336, 3) := by decide +kernel
theorem dX12_keep_15 : decode cX12_keep 15 = .ok (.if_icmp .ge 24, 3) := by decide +kernel
theorem dX12_keep_18 : decode cX12_keep 18 = .ok (.aload_n 0, 1) := by decide +kernel
theorem dX12_keep_19 : decode cX12_keep 19 = .ok (.getfield 50, 3) := by decide +kernel
theorem dX12_keep_22 : decode cX12_keep 22 = .ok (.iload_n 1, 1) := by decide +kernel
theorem dX12_keep_23 : decode cX12_keep 23 = .ok (.aload_n 0, 1) := by decide +kernel
theorem dX12_keep_24 : decode cX12_keep 24 = .ok (.getfield 50, 3) := by decide +kernel
theorem dX12_keep_27 : decode cX12_keep 27 = .ok (.iload_n 1, 1) := by decide +kernel
theorem dX12_keep_28 : decode cX12_keep 28 = .ok (.bipush 48, 2) := by decide +kernel
theorem dX12_keep_30 : decode cX12_keep 30 = .ok (.iadd, 1) := by decide +kernel
theorem dX12_keep_31 : decode cX12_keep 31 = .ok (.iaload, 1) := by decide +kernel
theorem dX12_keep_32 : decode cX12_keep 32 = .ok (.iastore, 1) := by decide +kernel
theorem dX12_keep_33 : decode cX12_keep 33 = .ok (.iinc 1 1, 3) := by decide +kernel
theorem dX12_keep_36 : decode cX12_keep 36 = .ok (.goto (-25), 3) := by decide +kernel
theorem dX12_keep_39 : decode cX12_keep 39 = .ok (.aload_n 0, 1) := by decide +kernel
theorem dX12_keep_40 : decode cX12_keep 40 = .ok (.bipush 7, 2) := by decide +kernel
theorem dX12_keep_42 : decode cX12_keep 42 = .ok (.putfield 245, 3) := by decide +kernel
theorem dX12_keep_45 : decode cX12_keep 45 = .ok (.iconst 0, 1) := by decide +kernel
theorem dX12_keep_46 : decode cX12_keep 46 = .ok (.istore_n 1, 1) := by decide +kernel
theorem dX12_keep_47 : decode cX12_keep 47 = .ok (.iload_n 1, 1) := by decide +kernel
theorem dX12_keep_48 : decode cX12_keep 48 = .ok (.bipush 48, 2) := by decide +kernel
theorem dX12_keep_50 : decode cX12_keep 50 = .ok (.if_icmp .ge 32, 3) := by decide +kernel
theorem dX12_keep_53 : decode cX12_keep 53 = .ok (.aload_n 0, 1) := by decide +kernel
theorem dX12_keep_54 : decode cX12_keep 54 = .ok (.getfield 50, 3) := by decide +kernel
theorem dX12_keep_57 : decode cX12_keep 57 = .ok (.bipush 48, 2) := by decide +kernel
theorem dX12_keep_59 : decode cX12_keep 59 = .ok (.aload_n 0, 1) := by decide +kernel
theorem dX12_keep_60 : decode cX12_keep 60 = .ok (.getfield 245, 3) := by decide +kernel
theorem dX12_keep_63 : decode cX12_keep 63 = .ok (.imul, 1) := by decide +kernel
theorem dX12_keep_64 : decode cX12_keep 64 = .ok (.iload_n 1, 1) := by decide +kernel
theorem dX12_keep_65 : decode cX12_keep 65 = .ok (.iadd, 1) := by decide +kernel
theorem dX12_keep_66 : decode cX12_keep 66 = .ok (.aload_n 0, 1) := by decide +kernel
theorem dX12_keep_67 : decode cX12_keep 67 = .ok (.getfield 33, 3) := by decide +kernel
theorem dX12_keep_70 : decode cX12_keep 70 = .ok (.bipush 44, 2) := by decide +kernel
theorem dX12_keep_72 : decode cX12_keep 72 = .ok (.iload_n 1, 1) := by decide +kernel
theorem dX12_keep_73 : decode cX12_keep 73 = .ok (.iadd, 1) := by decide +kernel
theorem dX12_keep_74 : decode cX12_keep 74 = .ok (.iaload, 1) := by decide +kernel
theorem dX12_keep_75 : decode cX12_keep 75 = .ok (.iastore, 1) := by decide +kernel
theorem dX12_keep_76 : decode cX12_keep 76 = .ok (.iinc 1 1, 3) := by decide +kernel
theorem dX12_keep_79 : decode cX12_keep 79 = .ok (.goto (-32), 3) := by decide +kernel
theorem dX12_keep_82 : decode cX12_keep 82 = .ok (.aload_n 0, 1) := by decide +kernel
theorem dX12_keep_83 : decode cX12_keep 83 = .ok (.dup, 1) := by decide +kernel
theorem dX12_keep_84 : decode cX12_keep 84 = .ok (.getfield 245, 3) := by decide +kernel
theorem dX12_keep_87 : decode cX12_keep 87 = .ok (.iconst 1, 1) := by decide +kernel
theorem dX12_keep_88 : decode cX12_keep 88 = .ok (.iadd, 1) := by decide +kernel
theorem dX12_keep_89 : decode cX12_keep 89 = .ok (.putfield 245, 3) := by decide +kernel
theorem dX12_keep_92 : decode cX12_keep 92 = .ok (.return_, 1) := by decide +kernel
theorem dX12_undo_0 : decode cX12_undo 0 = .ok (.aload_n 0, 1) := by decide +kernel
theorem dX12_undo_1 : decode cX12_undo 1 = .ok (.iconst 0, 1) := by decide +kernel
theorem dX12_undo_2 : decode cX12_undo 2 = .ok (.putfield 1, 3) := by decide +kernel
theorem dX12_undo_5 : decode cX12_undo 5 = .ok (.aload_n 0, 1) := by decide +kernel
theorem dX12_undo_6 : decode cX12_undo 6 = .ok (.getfield 245, 3) := by decide +kernel
theorem dX12_undo_9 : decode cX12_undo 9 = .ok (.ifCond .ne 5, 3) := by decide +kernel
theorem dX12_undo_12 : decode cX12_undo 12 = .ok (.iconst (-1), 1) := by decide +kernel
theorem dX12_undo_13 : decode cX12_undo 13 = .ok (.ireturn, 1) := by decide +kernel
theorem dX12_undo_14 : decode cX12_undo 14 = .ok (.aload_n 0, 1) := by decide +kernel
theorem dX12_undo_15 : decode cX12_undo 15 = .ok (.dup, 1) := by decide +kernel
theorem dX12_undo_16 : decode cX12_undo 16 = .ok (.getfield 245, 3) := by decide +kernel
theorem dX12_undo_19 : decode cX12_undo 19 = .ok (.iconst 1, 1) := by decide +kernel
theorem dX12_undo_20 : decode cX12_undo 20 = .ok (.isub, 1) := by decide +kernel
theorem dX12_undo_21 : decode cX12_undo 21 = .ok (.putfield 245, 3) := by decide +kernel
theorem dX12_undo_24 : decode cX12_undo 24 = .ok (.iconst 0, 1) := by decide +kernel
theorem dX12_undo_25 : decode cX12_undo 25 = .ok (.istore_n 1, 1) := by decide +kernel
theorem dX12_undo_26 : decode cX12_undo 26 = .ok (.iload_n 1, 1) := by decide +kernel
theorem dX12_undo_27 : decode cX12_undo 27 = .ok (.bipush 48, 2) := by decide +kernel
theorem dX12_undo_29 : decode cX12_undo 29 = .ok (.if_icmp .ge 32, 3) := by decide +kernel
theorem dX12_undo_32 : decode cX12_undo 32 = .ok (.aload_n 0, 1) := by decide +kernel
theorem dX12_undo_33 : decode cX12_undo 33 = .ok (.getfield 33, 3) := by decide +kernel
theorem dX12_undo_36 : decode cX12_undo 36 = .ok (.bipush 44, 2) := by decide +kernel
theorem dX12_undo_38 : decode cX12_undo 38 = .ok (.iload_n 1, 1) := by decide +kernel
theorem dX12_undo_39 : decode cX12_undo 39 = .ok (.iadd, 1) := by decide +kernel
theorem dX12_undo_40 : decode cX12_undo 40 = .ok (.aload_n 0, 1) := by decide +kernel
theorem dX12_undo_41 : decode cX12_undo 41 = .ok (.getfield 50, 3) := by decide +kernel
theorem dX12_undo_44 : decode cX12_undo 44 = .ok (.bipush 48, 2) := by decide +kernel
theorem dX12_undo_46 : decode cX12_undo 46 = .ok (.aload_n 0, 1) := by decide +kernel
theorem dX12_undo_47 : decode cX12_undo 47 = .ok (.getfield 245, 3) := by decide +kernel
theorem dX12_undo_50 : decode cX12_undo 50 = .ok (.imul, 1) := by decide +kernel
theorem dX12_undo_51 : decode cX12_undo 51 = .ok (.iload_n 1, 1) := by decide +kernel
theorem dX12_undo_52 : decode cX12_undo 52 = .ok (.iadd, 1) := by decide +kernel
theorem dX12_undo_53 : decode cX12_undo 53 = .ok (.iaload, 1) := by decide +kernel
theorem dX12_undo_54 : decode cX12_undo 54 = .ok (.iastore, 1) := by decide +kernel
theorem dX12_undo_55 : decode cX12_undo 55 = .ok (.iinc 1 1, 3) := by decide +kernel
theorem dX12_undo_58 : decode cX12_undo 58 = .ok (.goto (-32), 3) := by decide +kernel
theorem dX12_undo_61 : decode cX12_undo 61 = .ok (.aload_n 0, 1) := by decide +kernel
theorem dX12_undo_62 : decode cX12_undo 62 = .ok (.getfield 245, 3) := by decide +kernel
theorem dX12_undo_65 : decode cX12_undo 65 = .ok (.ireturn, 1) := by decide +kernel
theorem dX12_tries_0 : decode cX12_tries 0 = .ok (.iconst 0, 1) := by decide +kernel
theorem dX12_tries_1 : decode cX12_tries 1 = .ok (.istore_n 1, 1) := by decide +kernel
theorem dX12_tries_2 : decode cX12_tries 2 = .ok (.iload_n 1, 1) := by decide +kernel
theorem dX12_tries_3 : decode cX12_tries 3 = .ok (.bipush 48, 2) := by decide +kernel
theorem dX12_tries_5 : decode cX12_tries 5 = .ok (.if_icmp .ge 24, 3) := by decide +kernel
theorem dX12_tries_8 : decode cX12_tries 8 = .ok (.aload_n 0, 1) := by decide +kernel
theorem dX12_tries_9 : decode cX12_tries 9 = .ok (.getfield 53, 3) := by decide +kernel
theorem dX12_tries_12 : decode cX12_tries 12 = .ok (.iload_n 1, 1) := by decide +kernel
theorem dX12_tries_13 : decode cX12_tries 13 = .ok (.aload_n 0, 1) := by decide +kernel
theorem dX12_tries_14 : decode cX12_tries 14 = .ok (.getfield 33, 3) := by decide +kernel
theorem dX12_tries_17 : decode cX12_tries 17 = .ok (.bipush 44, 2) := by decide +kernel
theorem dX12_tries_19 : decode cX12_tries 19 = .ok (.iload_n 1, 1) := by decide +kernel
theorem dX12_tries_20 : decode cX12_tries 20 = .ok (.iadd, 1) := by decide +kernel
theorem dX12_tries_21 : decode cX12_tries 21 = .ok (.iaload, 1) := by decide +kernel
theorem dX12_tries_22 : decode cX12_tries 22 = .ok (.iastore, 1) := by decide +kernel
theorem dX12_tries_23 : decode cX12_tries 23 = .ok (.iinc 1 1, 3) := by decide +kernel
theorem dX12_tries_26 : decode cX12_tries 26 = .ok (.goto (-24), 3) := by decide +kernel
theorem dX12_tries_29 : decode cX12_tries 29 = .ok (.return_, 1) := by decide +kernel
theorem dX12_back_0 : decode cX12_back 0 = .ok (.iconst 0, 1) := by decide +kernel
theorem dX12_back_1 : decode cX12_back 1 = .ok (.istore_n 1, 1) := by decide +kernel
theorem dX12_back_2 : decode cX12_back 2 = .ok (.iload_n 1, 1) := by decide +kernel
theorem dX12_back_3 : decode cX12_back 3 = .ok (.bipush 48, 2) := by decide +kernel
theorem dX12_back_5 : decode cX12_back 5 = .ok (.if_icmp .ge 24, 3) := by decide +kernel
theorem dX12_back_8 : decode cX12_back 8 = .ok (.aload_n 0, 1) := by decide +kernel
theorem dX12_back_9 : decode cX12_back 9 = .ok (.getfield 33, 3) := by decide +kernel
theorem dX12_back_12 : decode cX12_back 12 = .ok (.bipush 44, 2) := by decide +kernel
theorem dX12_back_14 : decode cX12_back 14 = .ok (.iload_n 1, 1) := by decide +kernel
theorem dX12_back_15 : decode cX12_back 15 = .ok (.iadd, 1) := by decide +kernel
theorem dX12_back_16 : decode cX12_back 16 = .ok (.aload_n 0, 1) := by decide +kernel
theorem dX12_back_17 : decode cX12_back 17 = .ok (.getfield 53, 3) := by decide +kernel
theorem dX12_back_20 : decode cX12_back 20 = .ok (.iload_n 1, 1) := by decide +kernel
theorem dX12_back_21 : decode cX12_back 21 = .ok (.iaload, 1) := by decide +kernel
theorem dX12_back_22 : decode cX12_back 22 = .ok (.iastore, 1) := by decide +kernel
theorem dX12_back_23 : decode cX12_back 23 = .ok (.iinc 1 1, 3) := by decide +kernel
theorem dX12_back_26 : decode cX12_back 26 = .ok (.goto (-24), 3) := by decide +kernel
theorem dX12_back_29 : decode cX12_back 29 = .ok (.return_, 1) := by decide +kernel
theorem dX12_hostNext_0 : decode cX12_hostNext 0 = .ok (.aload_n 0, 1) := by decide +kernel
theorem dX12_hostNext_1 : decode cX12_hostNext 1 = .ok (.iconst 1, 1) := by decide +kernel
theorem dX12_hostNext_2 : decode cX12_hostNext 2 = .ok (.putfield 311, 3) := by decide +kernel
theorem dX12_hostNext_5 : decode cX12_hostNext 5 = .ok (.aload_n 0, 1) := by decide +kernel
theorem dX12_hostNext_6 : decode cX12_hostNext 6 = .ok (.getfield 311, 3) := by decide +kernel
theorem dX12_hostNext_9 : decode cX12_hostNext 9 = .ok (.bipush 99, 2) := by decide +kernel
theorem dX12_hostNext_11 : decode cX12_hostNext 11 = .ok (.if_icmp .gt 47, 3) := by decide +kernel
theorem dX12_hostNext_14 : decode cX12_hostNext 14 = .ok (.aload_n 0, 1) := by decide +kernel
theorem dX12_hostNext_15 : decode cX12_hostNext 15 = .ok (.getfield 33, 3) := by decide +kernel
theorem dX12_hostNext_18 : decode cX12_hostNext 18 = .ok (.bipush 44, 2) := by decide +kernel
theorem dX12_hostNext_20 : decode cX12_hostNext 20 = .ok (.iaload, 1) := by decide +kernel
theorem dX12_hostNext_21 : decode cX12_hostNext 21 = .ok (.sipush 400, 3) := by decide +kernel
theorem dX12_hostNext_24 : decode cX12_hostNext 24 = .ok (.if_icmp .ge 34, 3) := by decide +kernel
theorem dX12_hostNext_27 : decode cX12_hostNext 27 = .ok (.aload_n 0, 1) := by decide +kernel
theorem dX12_hostNext_28 : decode cX12_hostNext 28 = .ok (.iconst (-1), 1) := by decide +kernel
theorem dX12_hostNext_29 : decode cX12_hostNext 29 = .ok (.invokevirtual 290, 3) := by decide +kernel
theorem dX12_hostNext_32 : decode cX12_hostNext 32 = .ok (.ifCond .eq 13, 3) := by decide +kernel
theorem dX12_hostNext_35 : decode cX12_hostNext 35 = .ok (.aload_n 0, 1) := by decide +kernel
theorem dX12_hostNext_36 : decode cX12_hostNext 36 = .ok (.getfield 33, 3) := by decide +kernel
theorem dX12_hostNext_39 : decode cX12_hostNext 39 = .ok (.bipush 48, 2) := by decide +kernel
theorem dX12_hostNext_41 : decode cX12_hostNext 41 = .ok (.iaload, 1) := by decide +kernel
theorem dX12_hostNext_42 : decode cX12_hostNext 42 = .ok (.iconst 1, 1) := by decide +kernel
theorem dX12_hostNext_43 : decode cX12_hostNext 43 = .ok (.isub, 1) := by decide +kernel
theorem dX12_hostNext_44 : decode cX12_hostNext 44 = .ok (.ireturn, 1) := by decide +kernel
theorem dX12_hostNext_45 : decode cX12_hostNext 45 = .ok (.aload_n 0, 1) := by decide +kernel
theorem dX12_hostNext_46 : decode cX12_hostNext 46 = .ok (.dup, 1) := by decide +kernel
theorem dX12_hostNext_47 : decode cX12_hostNext 47 = .ok (.getfield 311, 3) := by decide +kernel
theorem dX12_hostNext_50 : decode cX12_hostNext 50 = .ok (.iconst 1, 1) := by decide +kernel
theorem dX12_hostNext_51 : decode cX12_hostNext 51 = .ok (.iadd, 1) := by decide +kernel
theorem dX12_hostNext_52 : decode cX12_hostNext 52 = .ok (.putfield 311, 3) := by decide +kernel
theorem dX12_hostNext_55 : decode cX12_hostNext 55 = .ok (.goto (-50), 3) := by decide +kernel
theorem dX12_hostNext_58 : decode cX12_hostNext 58 = .ok (.iconst (-1), 1) := by decide +kernel
theorem dX12_hostNext_59 : decode cX12_hostNext 59 = .ok (.ireturn, 1) := by decide +kernel
theorem dX12_next_0 : decode cX12_next 0 = .ok (.aload_n 0, 1) := by decide +kernel
theorem dX12_next_1 : decode cX12_next 1 = .ok (.iconst 0, 1) := by decide +kernel
theorem dX12_next_2 : decode cX12_next 2 = .ok (.putfield 1, 3) := by decide +kernel
theorem dX12_next_5 : decode cX12_next 5 = .ok (.aload_n 0, 1) := by decide +kernel
theorem dX12_next_6 : decode cX12_next 6 = .ok (.invokevirtual 314, 3) := by decide +kernel
theorem dX12_next_9 : decode cX12_next 9 = .ok (.aload_n 0, 1) := by decide +kernel
theorem dX12_next_10 : decode cX12_next 10 = .ok (.invokevirtual 317, 3) := by decide +kernel
theorem dX12_next_13 : decode cX12_next 13 = .ok (.istore_n 1, 1) := by decide +kernel
theorem dX12_next_14 : decode cX12_next 14 = .ok (.aload_n 0, 1) := by decide +kernel
theorem dX12_next_15 : decode cX12_next 15 = .ok (.invokevirtual 320, 3) := by decide +kernel
theorem dX12_next_18 : decode cX12_next 18 = .ok (.iload_n 1, 1) := by decide +kernel
theorem dX12_next_19 : decode cX12_next 19 = .ok (.ifCond .lt 11, 3) := by decide +kernel
theorem dX12_next_22 : decode cX12_next 22 = .ok (.aload_n 0, 1) := by decide +kernel
theorem dX12_next_23 : decode cX12_next 23 = .ok (.aload_n 0, 1) := by decide +kernel
theorem dX12_next_24 : decode cX12_next 24 = .ok (.getfield 311, 3) := by decide +kernel
theorem dX12_next_27 : decode cX12_next 27 = .ok (.putfield 56, 3) := by decide +kernel
theorem dX12_next_30 : decode cX12_next 30 = .ok (.iload_n 1, 1) := by decide +kernel
theorem dX12_next_31 : decode cX12_next 31 = .ok (.ireturn, 1) := by decide +kernel
theorem dX12_nextIn_0 : decode cX12_nextIn 0 = .ok (.aload_n 0, 1) := by decide +kernel
theorem dX12_nextIn_1 : decode cX12_nextIn 1 = .ok (.iconst 0, 1) := by decide +kernel
theorem dX12_nextIn_2 : decode cX12_nextIn 2 = .ok (.putfield 1, 3) := by decide +kernel
theorem dX12_nextIn_5 : decode cX12_nextIn 5 = .ok (.aload_n 0, 1) := by decide +kernel
theorem dX12_nextIn_6 : decode cX12_nextIn 6 = .ok (.getfield 56, 3) := by decide +kernel
theorem dX12_nextIn_9 : decode cX12_nextIn 9 = .ok (.ireturn, 1) := by decide +kernel
theorem dX12_linger_0 : decode cX12_linger 0 = .ok (.aload_n 0, 1) := by decide +kernel
theorem dX12_linger_1 : decode cX12_linger 1 = .ok (.iconst 0, 1) := by decide +kernel
theorem dX12_linger_2 : decode cX12_linger 2 = .ok (.putfield 1, 3) := by decide +kernel
theorem dX12_linger_5 : decode cX12_linger 5 = .ok (.aload_n 0, 1) := by decide +kernel
theorem dX12_linger_6 : decode cX12_linger 6 = .ok (.iload_n 1, 1) := by decide +kernel
theorem dX12_linger_7 : decode cX12_linger 7 = .ok (.invokevirtual 254, 3) := by decide +kernel
theorem dX12_linger_10 : decode cX12_linger 10 = .ok (.ifCond .eq 11, 3) := by decide +kernel
theorem dX12_linger_13 : decode cX12_linger 13 = .ok (.aload_n 0, 1) := by decide +kernel
theorem dX12_linger_14 : decode cX12_linger 14 = .ok (.iload_n 1, 1) := by decide +kernel
theorem dX12_linger_15 : decode cX12_linger 15 = .ok (.invokevirtual 251, 3) := by decide +kernel
theorem dX12_linger_18 : decode cX12_linger 18 = .ok (.ifCond .eq 5, 3) := by decide +kernel
theorem dX12_linger_21 : decode cX12_linger 21 = .ok (.iconst (-1), 1) := by decide +kernel
theorem dX12_linger_22 : decode cX12_linger 22 = .ok (.ireturn, 1) := by decide +kernel
theorem dX12_linger_23 : decode cX12_linger 23 = .ok (.aload_n 0, 1) := by decide +kernel
theorem dX12_linger_24 : decode cX12_linger 24 = .ok (.invokevirtual 314, 3) := by decide +kernel
theorem dX12_linger_27 : decode cX12_linger 27 = .ok (.iconst (-1), 1) := by decide +kernel
theorem dX12_linger_28 : decode cX12_linger 28 = .ok (.istore_n 2, 1) := by decide +kernel
theorem dX12_linger_29 : decode cX12_linger 29 = .ok (.iconst 0, 1) := by decide +kernel
theorem dX12_linger_30 : decode cX12_linger 30 = .ok (.istore_n 3, 1) := by decide +kernel
theorem dX12_linger_31 : decode cX12_linger 31 = .ok (.iconst 0, 1) := by decide +kernel
theorem dX12_linger_32 : decode cX12_linger 32 = .ok (.istore 4, 2) := by decide +kernel
theorem dX12_linger_34 : decode cX12_linger 34 = .ok (.iload 4, 2) := by decide +kernel
theorem dX12_linger_36 : decode cX12_linger 36 = .ok (.bipush 20, 2) := by decide +kernel
theorem dX12_linger_38 : decode cX12_linger 38 = .ok (.if_icmp .gt 30, 3) := by decide +kernel
theorem dX12_linger_41 : decode cX12_linger 41 = .ok (.iload_n 3, 1) := by decide +kernel
theorem dX12_linger_42 : decode cX12_linger 42 = .ok (.ifCond .ne 26, 3) := by decide +kernel
theorem dX12_linger_45 : decode cX12_linger 45 = .ok (.aload_n 0, 1) := by decide +kernel
theorem dX12_linger_46 : decode cX12_linger 46 = .ok (.iload_n 1, 1) := by decide +kernel
theorem dX12_linger_47 : decode cX12_linger 47 = .ok (.invokevirtual 284, 3) := by decide +kernel
theorem dX12_linger_50 : decode cX12_linger 50 = .ok (.ifCond .ne 6, 3) := by decide +kernel
theorem dX12_linger_53 : decode cX12_linger 53 = .ok (.iload 4, 2) := by decide +kernel
theorem dX12_linger_55 : decode cX12_linger 55 = .ok (.istore_n 2, 1) := by decide +kernel
theorem dX12_linger_56 : decode cX12_linger 56 = .ok (.aload_n 0, 1) := by decide +kernel
theorem dX12_linger_57 : decode cX12_linger 57 = .ok (.iload_n 1, 1) := by decide +kernel
theorem dX12_linger_58 : decode cX12_linger 58 = .ok (.invokevirtual 290, 3) := by decide +kernel
theorem dX12_linger_61 : decode cX12_linger 61 = .ok (.istore_n 3, 1) := by decide +kernel
theorem dX12_linger_62 : decode cX12_linger 62 = .ok (.iinc 4 1, 3) := by decide +kernel
theorem dX12_linger_65 : decode cX12_linger 65 = .ok (.goto (-31), 3) := by decide +kernel
theorem dX12_linger_68 : decode cX12_linger 68 = .ok (.aload_n 0, 1) := by decide +kernel
theorem dX12_linger_69 : decode cX12_linger 69 = .ok (.invokevirtual 320, 3) := by decide +kernel
theorem dX12_linger_72 : decode cX12_linger 72 = .ok (.iload_n 2, 1) := by decide +kernel
theorem dX12_linger_73 : decode cX12_linger 73 = .ok (.ireturn, 1) := by decide +kernel
theorem dX12_isTrick_0 : decode cX12_isTrick 0 = .ok (.iconst 1, 1) := by decide +kernel
theorem dX12_isTrick_1 : decode cX12_isTrick 1 = .ok (.istore_n 3, 1) := by decide +kernel
theorem dX12_isTrick_2 : decode cX12_isTrick 2 = .ok (.iconst 0, 1) := by decide +kernel
theorem dX12_isTrick_3 : decode cX12_isTrick 3 = .ok (.istore 4, 2) := by decide +kernel
theorem dX12_isTrick_5 : decode cX12_isTrick 5 = .ok (.iload 4, 2) := by decide +kernel
theorem dX12_isTrick_7 : decode cX12_isTrick 7 = .ok (.aload_n 0, 1) := by decide +kernel
theorem dX12_isTrick_8 : decode cX12_isTrick 8 = .ok (.getfield 33, 3) := by decide +kernel
theorem dX12_isTrick_11 : decode cX12_isTrick 11 = .ok (.iconst 0, 1) := by decide +kernel
theorem dX12_isTrick_12 : decode cX12_isTrick 12 = .ok (.iaload, 1) := by decide +kernel
theorem dX12_isTrick_13 : decode cX12_isTrick 13 = .ok (.if_icmp .ge 54, 3) := by decide +kernel
theorem dX12_isTrick_16 : decode cX12_isTrick 16 = .ok (.iload_n 3, 1) := by decide +kernel
theorem dX12_isTrick_17 : decode cX12_isTrick 17 = .ok (.ifCond .eq 50, 3) := by decide +kernel
theorem dX12_isTrick_20 : decode cX12_isTrick 20 = .ok (.iload_n 2, 1) := by decide +kernel
theorem dX12_isTrick_21 : decode cX12_isTrick 21 = .ok (.iload 4, 2) := by decide +kernel
theorem dX12_isTrick_23 : decode cX12_isTrick 23 = .ok (.invokestatic 248, 3) := by decide +kernel
theorem dX12_isTrick_26 : decode cX12_isTrick 26 = .ok (.ifCond .ne 6, 3) := by decide +kernel
theorem dX12_isTrick_29 : decode cX12_isTrick 29 = .ok (.goto 32, 3) := by decide +kernel
theorem dX12_isTrick_32 : decode cX12_isTrick 32 = .ok (.aload_n 0, 1) := by decide +kernel
theorem dX12_isTrick_33 : decode cX12_isTrick 33 = .ok (.iload 4, 2) := by decide +kernel
theorem dX12_isTrick_35 : decode cX12_isTrick 35 = .ok (.invokevirtual 299, 3) := by decide +kernel
theorem dX12_isTrick_38 : decode cX12_isTrick 38 = .ok (.ifCond .ne 7, 3) := by decide +kernel
theorem dX12_isTrick_41 : decode cX12_isTrick 41 = .ok (.iconst 1, 1) := by decide +kernel
theorem dX12_isTrick_42 : decode cX12_isTrick 42 = .ok (.goto 4, 3) := by decide +kernel
theorem dX12_isTrick_45 : decode cX12_isTrick 45 = .ok (.iconst 0, 1) := by decide +kernel
theorem dX12_isTrick_46 : decode cX12_isTrick 46 = .ok (.istore_n 3, 1) := by decide +kernel
theorem dX12_isTrick_47 : decode cX12_isTrick 47 = .ok (.aload_n 0, 1) := by decide +kernel
theorem dX12_isTrick_48 : decode cX12_isTrick 48 = .ok (.getfield 33, 3) := by decide +kernel
theorem dX12_isTrick_51 : decode cX12_isTrick 51 = .ok (.bipush 47, 2) := by decide +kernel
theorem dX12_isTrick_53 : decode cX12_isTrick 53 = .ok (.dup2, 1) := by decide +kernel
theorem dX12_isTrick_54 : decode cX12_isTrick 54 = .ok (.iaload, 1) := by decide +kernel
theorem dX12_isTrick_55 : decode cX12_isTrick 55 = .ok (.iconst 1, 1) := by decide +kernel
theorem dX12_isTrick_56 : decode cX12_isTrick 56 = .ok (.iload 4, 2) := by decide +kernel
theorem dX12_isTrick_58 : decode cX12_isTrick 58 = .ok (.ishl, 1) := by decide +kernel
theorem dX12_isTrick_59 : decode cX12_isTrick 59 = .ok (.ior, 1) := by decide +kernel
theorem dX12_isTrick_60 : decode cX12_isTrick 60 = .ok (.iastore, 1) := by decide +kernel
theorem dX12_isTrick_61 : decode cX12_isTrick 61 = .ok (.iinc 4 1, 3) := by decide +kernel
theorem dX12_isTrick_64 : decode cX12_isTrick 64 = .ok (.goto (-59), 3) := by decide +kernel
theorem dX12_isTrick_67 : decode cX12_isTrick 67 = .ok (.iload_n 3, 1) := by decide +kernel
theorem dX12_isTrick_68 : decode cX12_isTrick 68 = .ok (.ifCond .eq 15, 3) := by decide +kernel
theorem dX12_isTrick_71 : decode cX12_isTrick 71 = .ok (.aload_n 0, 1) := by decide +kernel
theorem dX12_isTrick_72 : decode cX12_isTrick 72 = .ok (.invokevirtual 317, 3) := by decide +kernel
theorem dX12_isTrick_75 : decode cX12_isTrick 75 = .ok (.iload_n 1, 1) := by decide +kernel
theorem dX12_isTrick_76 : decode cX12_isTrick 76 = .ok (.if_icmp .ne 7, 3) := by decide +kernel
theorem dX12_isTrick_79 : decode cX12_isTrick 79 = .ok (.iconst 1, 1) := by decide +kernel
theorem dX12_isTrick_80 : decode cX12_isTrick 80 = .ok (.goto 4, 3) := by decide +kernel
theorem dX12_isTrick_83 : decode cX12_isTrick 83 = .ok (.iconst 0, 1) := by decide +kernel
theorem dX12_isTrick_84 : decode cX12_isTrick 84 = .ok (.istore 4, 2) := by decide +kernel
theorem dX12_isTrick_86 : decode cX12_isTrick 86 = .ok (.aload_n 0, 1) := by decide +kernel
theorem dX12_isTrick_87 : decode cX12_isTrick 87 = .ok (.invokevirtual 320, 3) := by decide +kernel
theorem dX12_isTrick_90 : decode cX12_isTrick 90 = .ok (.iload 4, 2) := by decide +kernel
theorem dX12_isTrick_92 : decode cX12_isTrick 92 = .ok (.ireturn, 1) := by decide +kernel
theorem dX12_trick_0 : decode cX12_trick 0 = .ok (.aload_n 0, 1) := by decide +kernel
theorem dX12_trick_1 : decode cX12_trick 1 = .ok (.iconst 0, 1) := by decide +kernel
theorem dX12_trick_2 : decode cX12_trick 2 = .ok (.putfield 1, 3) := by decide +kernel
theorem dX12_trick_5 : decode cX12_trick 5 = .ok (.aload_n 0, 1) := by decide +kernel
theorem dX12_trick_6 : decode cX12_trick 6 = .ok (.iload_n 1, 1) := by decide +kernel
theorem dX12_trick_7 : decode cX12_trick 7 = .ok (.invokevirtual 254, 3) := by decide +kernel
theorem dX12_trick_10 : decode cX12_trick 10 = .ok (.ifCond .ne 5, 3) := by decide +kernel
theorem dX12_trick_13 : decode cX12_trick 13 = .ok (.iconst (-1), 1) := by decide +kernel
theorem dX12_trick_14 : decode cX12_trick 14 = .ok (.ireturn, 1) := by decide +kernel
theorem dX12_trick_15 : decode cX12_trick 15 = .ok (.aload_n 0, 1) := by decide +kernel
theorem dX12_trick_16 : decode cX12_trick 16 = .ok (.invokevirtual 314, 3) := by decide +kernel
theorem dX12_trick_19 : decode cX12_trick 19 = .ok (.iconst (-1), 1) := by decide +kernel
theorem dX12_trick_20 : decode cX12_trick 20 = .ok (.istore_n 2, 1) := by decide +kernel
theorem dX12_trick_21 : decode cX12_trick 21 = .ok (.iconst 0, 1) := by decide +kernel
theorem dX12_trick_22 : decode cX12_trick 22 = .ok (.istore_n 3, 1) := by decide +kernel
theorem dX12_trick_23 : decode cX12_trick 23 = .ok (.iload_n 3, 1) := by decide +kernel
theorem dX12_trick_24 : decode cX12_trick 24 = .ok (.iconst 1, 1) := by decide +kernel
theorem dX12_trick_25 : decode cX12_trick 25 = .ok (.aload_n 0, 1) := by decide +kernel
theorem dX12_trick_26 : decode cX12_trick 26 = .ok (.getfield 33, 3) := by decide +kernel
theorem dX12_trick_29 : decode cX12_trick 29 = .ok (.iconst 0, 1) := by decide +kernel
theorem dX12_trick_30 : decode cX12_trick 30 = .ok (.iaload, 1) := by decide +kernel
theorem dX12_trick_31 : decode cX12_trick 31 = .ok (.ishl, 1) := by decide +kernel
theorem dX12_trick_32 : decode cX12_trick 32 = .ok (.if_icmp .ge 35, 3) := by decide +kernel
theorem dX12_trick_35 : decode cX12_trick 35 = .ok (.iload_n 2, 1) := by decide +kernel
theorem dX12_trick_36 : decode cX12_trick 36 = .ok (.ifCond .lt 14, 3) := by decide +kernel
theorem dX12_trick_39 : decode cX12_trick 39 = .ok (.iload_n 3, 1) := by decide +kernel
theorem dX12_trick_40 : decode cX12_trick 40 = .ok (.invokestatic 277, 3) := by decide +kernel
theorem dX12_trick_43 : decode cX12_trick 43 = .ok (.iload_n 2, 1) := by decide +kernel
theorem dX12_trick_44 : decode cX12_trick 44 = .ok (.invokestatic 277, 3) := by decide +kernel
theorem dX12_trick_47 : decode cX12_trick 47 = .ok (.if_icmp .ge 14, 3) := by decide +kernel
theorem dX12_trick_50 : decode cX12_trick 50 = .ok (.aload_n 0, 1) := by decide +kernel
theorem dX12_trick_51 : decode cX12_trick 51 = .ok (.iload_n 1, 1) := by decide +kernel
theorem dX12_trick_52 : decode cX12_trick 52 = .ok (.iload_n 3, 1) := by decide +kernel
theorem dX12_trick_53 : decode cX12_trick 53 = .ok (.invokevirtual 323, 3) := by decide +kernel
theorem dX12_trick_56 : decode cX12_trick 56 = .ok (.ifCond .eq 5, 3) := by decide +kernel
theorem dX12_trick_59 : decode cX12_trick 59 = .ok (.iload_n 3, 1) := by decide +kernel
theorem dX12_trick_60 : decode cX12_trick 60 = .ok (.istore_n 2, 1) := by decide +kernel
theorem dX12_trick_61 : decode cX12_trick 61 = .ok (.iinc 3 1, 3) := by decide +kernel
theorem dX12_trick_64 : decode cX12_trick 64 = .ok (.goto (-41), 3) := by decide +kernel
theorem dX12_trick_67 : decode cX12_trick 67 = .ok (.iload_n 2, 1) := by decide +kernel
theorem dX12_trick_68 : decode cX12_trick 68 = .ok (.ifCond .ge 5, 3) := by decide +kernel
theorem dX12_trick_71 : decode cX12_trick 71 = .ok (.iconst (-1), 1) := by decide +kernel
theorem dX12_trick_72 : decode cX12_trick 72 = .ok (.ireturn, 1) := by decide +kernel
theorem dX12_trick_73 : decode cX12_trick 73 = .ok (.aload_n 0, 1) := by decide +kernel
theorem dX12_trick_74 : decode cX12_trick 74 = .ok (.iconst 1, 1) := by decide +kernel
theorem dX12_trick_75 : decode cX12_trick 75 = .ok (.putfield 326, 3) := by decide +kernel
theorem dX12_trick_78 : decode cX12_trick 78 = .ok (.aload_n 0, 1) := by decide +kernel
theorem dX12_trick_79 : decode cX12_trick 79 = .ok (.iload_n 2, 1) := by decide +kernel
theorem dX12_trick_80 : decode cX12_trick 80 = .ok (.putfield 329, 3) := by decide +kernel
theorem dX12_trick_83 : decode cX12_trick 83 = .ok (.iload_n 2, 1) := by decide +kernel
theorem dX12_trick_84 : decode cX12_trick 84 = .ok (.invokestatic 277, 3) := by decide +kernel
theorem dX12_trick_87 : decode cX12_trick 87 = .ok (.ireturn, 1) := by decide +kernel
theorem dX12_tricking_0 : decode cX12_tricking 0 = .ok (.aload_n 0, 1) := by decide +kernel
theorem dX12_tricking_1 : decode cX12_tricking 1 = .ok (.iconst 0, 1) := by decide +kernel
theorem dX12_tricking_2 : decode cX12_tricking 2 = .ok (.putfield 1, 3) := by decide +kernel
theorem dX12_tricking_5 : decode cX12_tricking 5 = .ok (.aload_n 0, 1) := by decide +kernel
theorem dX12_tricking_6 : decode cX12_tricking 6 = .ok (.getfield 326, 3) := by decide +kernel
theorem dX12_tricking_9 : decode cX12_tricking 9 = .ok (.ifCond .eq 10, 3) := by decide +kernel
theorem dX12_tricking_12 : decode cX12_tricking 12 = .ok (.aload_n 0, 1) := by decide +kernel
theorem dX12_tricking_13 : decode cX12_tricking 13 = .ok (.getfield 329, 3) := by decide +kernel
theorem dX12_tricking_16 : decode cX12_tricking 16 = .ok (.goto 4, 3) := by decide +kernel
theorem dX12_tricking_19 : decode cX12_tricking 19 = .ok (.iconst (-1), 1) := by decide +kernel
theorem dX12_tricking_20 : decode cX12_tricking 20 = .ok (.ireturn, 1) := by decide +kernel
theorem dX12_isPush_0 : decode cX12_isPush 0 = .ok (.iconst 1, 1) := by decide +kernel
theorem dX12_isPush_1 : decode cX12_isPush 1 = .ok (.istore_n 3, 1) := by decide +kernel
theorem dX12_isPush_2 : decode cX12_isPush 2 = .ok (.iconst 0, 1) := by decide +kernel
theorem dX12_isPush_3 : decode cX12_isPush 3 = .ok (.istore 4, 2) := by decide +kernel
theorem dX12_isPush_5 : decode cX12_isPush 5 = .ok (.iload_n 2, 1) := by decide +kernel
theorem dX12_isPush_6 : decode cX12_isPush 6 = .ok (.istore 5, 2) := by decide +kernel
theorem dX12_isPush_8 : decode cX12_isPush 8 = .ok (.iconst 0, 1) := by decide +kernel
theorem dX12_isPush_9 : decode cX12_isPush 9 = .ok (.istore 6, 2) := by decide +kernel
theorem dX12_isPush_11 : decode cX12_isPush 11 = .ok (.iload 6, 2) := by decide +kernel
theorem dX12_isPush_13 : decode cX12_isPush 13 = .ok (.aload_n 0, 1) := by decide +kernel
theorem dX12_isPush_14 : decode cX12_isPush 14 = .ok (.getfield 33, 3) := by decide +kernel
theorem dX12_isPush_17 : decode cX12_isPush 17 = .ok (.iconst 1, 1) := by decide +kernel
theorem dX12_isPush_18 : decode cX12_isPush 18 = .ok (.iaload, 1) := by decide +kernel
theorem dX12_isPush_19 : decode cX12_isPush 19 = .ok (.if_icmp .ge 74, 3) := by decide +kernel
theorem dX12_isPush_22 : decode cX12_isPush 22 = .ok (.iload_n 3, 1) := by decide +kernel
theorem dX12_isPush_23 : decode cX12_isPush 23 = .ok (.ifCond .eq 70, 3) := by decide +kernel
theorem dX12_isPush_26 : decode cX12_isPush 26 = .ok (.iload 4, 2) := by decide +kernel
theorem dX12_isPush_28 : decode cX12_isPush 28 = .ok (.ifCond .ne 65, 3) := by decide +kernel
theorem dX12_isPush_31 : decode cX12_isPush 31 = .ok (.iload_n 2, 1) := by decide +kernel
theorem dX12_isPush_32 : decode cX12_isPush 32 = .ok (.iload 6, 2) := by decide +kernel
theorem dX12_isPush_34 : decode cX12_isPush 34 = .ok (.invokestatic 248, 3) := by decide +kernel
theorem dX12_isPush_37 : decode cX12_isPush 37 = .ok (.ifCond .ne 6, 3) := by decide +kernel
theorem dX12_isPush_40 : decode cX12_isPush 40 = .ok (.goto 47, 3) := by decide +kernel
theorem dX12_isPush_43 : decode cX12_isPush 43 = .ok (.aload_n 0, 1) := by decide +kernel
theorem dX12_isPush_44 : decode cX12_isPush 44 = .ok (.iload 6, 2) := by decide +kernel
theorem dX12_isPush_46 : decode cX12_isPush 46 = .ok (.invokevirtual 284, 3) := by decide +kernel
theorem dX12_isPush_49 : decode cX12_isPush 49 = .ok (.ifCond .ne 7, 3) := by decide +kernel
theorem dX12_isPush_52 : decode cX12_isPush 52 = .ok (.iconst 1, 1) := by decide +kernel
theorem dX12_isPush_53 : decode cX12_isPush 53 = .ok (.goto 4, 3) := by decide +kernel
