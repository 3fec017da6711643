theorem dJ6_bitCount_0f7a4_0 : decode cJ6_bitCount_0f7a4 0 = .ok (.iload_n 0, 1) := by decide +kernel
theorem dJ6_bitCount_0f7a4_1 : decode cJ6_bitCount_0f7a4 1 = .ok (.iload_n 0, 1) := by decide +kernel
theorem dJ6_bitCount_0f7a4_2 : decode cJ6_bitCount_0f7a4 2 = .ok (.iconst 1, 1) := by decide +kernel
theorem dJ6_bitCount_0f7a4_3 : decode cJ6_bitCount_0f7a4 3 = .ok (.iushr, 1) := by decide +kernel
theorem dJ6_bitCount_0f7a4_4 : decode cJ6_bitCount_0f7a4 4 = .ok (.ldc_w 265, 3) := by decide +kernel
theorem dJ6_bitCount_0f7a4_7 : decode cJ6_bitCount_0f7a4 7 = .ok (.iand, 1) := by decide +kernel
theorem dJ6_bitCount_0f7a4_8 : decode cJ6_bitCount_0f7a4 8 = .ok (.isub, 1) := by decide +kernel
theorem dJ6_bitCount_0f7a4_9 : decode cJ6_bitCount_0f7a4 9 = .ok (.istore_n 0, 1) := by decide +kernel
theorem dJ6_bitCount_0f7a4_10 : decode cJ6_bitCount_0f7a4 10 = .ok (.iload_n 0, 1) := by decide +kernel
theorem dJ6_bitCount_0f7a4_11 : decode cJ6_bitCount_0f7a4 11 = .ok (.ldc_w 266, 3) := by decide +kernel
theorem dJ6_bitCount_0f7a4_14 : decode cJ6_bitCount_0f7a4 14 = .ok (.iand, 1) := by decide +kernel
theorem dJ6_bitCount_0f7a4_15 : decode cJ6_bitCount_0f7a4 15 = .ok (.iload_n 0, 1) := by decide +kernel
theorem dJ6_bitCount_0f7a4_16 : decode cJ6_bitCount_0f7a4 16 = .ok (.iconst 2, 1) := by decide +kernel
theorem dJ6_bitCount_0f7a4_17 : decode cJ6_bitCount_0f7a4 17 = .ok (.iushr, 1) := by decide +kernel
theorem dJ6_bitCount_0f7a4_18 : decode cJ6_bitCount_0f7a4 18 = .ok (.ldc_w 266, 3) := by decide +kernel
theorem dJ6_bitCount_0f7a4_21 : decode cJ6_bitCount_0f7a4 21 = .ok (.iand, 1) := by decide +kernel
theorem dJ6_bitCount_0f7a4_22 : decode cJ6_bitCount_0f7a4 22 = .ok (.iadd, 1) := by decide +kernel
theorem dJ6_bitCount_0f7a4_23 : decode cJ6_bitCount_0f7a4 23 = .ok (.istore_n 0, 1) := by decide +kernel
theorem dJ6_bitCount_0f7a4_24 : decode cJ6_bitCount_0f7a4 24 = .ok (.iload_n 0, 1) := by decide +kernel
theorem dJ6_bitCount_0f7a4_25 : decode cJ6_bitCount_0f7a4 25 = .ok (.iload_n 0, 1) := by decide +kernel
theorem dJ6_bitCount_0f7a4_26 : decode cJ6_bitCount_0f7a4 26 = .ok (.iconst 4, 1) := by decide +kernel
theorem dJ6_bitCount_0f7a4_27 : decode cJ6_bitCount_0f7a4 27 = .ok (.iushr, 1) := by decide +kernel
theorem dJ6_bitCount_0f7a4_28 : decode cJ6_bitCount_0f7a4 28 = .ok (.iadd, 1) := by decide +kernel
theorem dJ6_bitCount_0f7a4_29 : decode cJ6_bitCount_0f7a4 29 = .ok (.ldc_w 267, 3) := by decide +kernel
theorem dJ6_bitCount_0f7a4_32 : decode cJ6_bitCount_0f7a4 32 = .ok (.iand, 1) := by decide +kernel
theorem dJ6_bitCount_0f7a4_33 : decode cJ6_bitCount_0f7a4 33 = .ok (.istore_n 0, 1) := by decide +kernel
theorem dJ6_bitCount_0f7a4_34 : decode cJ6_bitCount_0f7a4 34 = .ok (.iload_n 0, 1) := by decide +kernel
theorem dJ6_bitCount_0f7a4_35 : decode cJ6_bitCount_0f7a4 35 = .ok (.iload_n 0, 1) := by decide +kernel
theorem dJ6_bitCount_0f7a4_36 : decode cJ6_bitCount_0f7a4 36 = .ok (.bipush 8, 2) := by decide +kernel
theorem dJ6_bitCount_0f7a4_38 : decode cJ6_bitCount_0f7a4 38 = .ok (.iushr, 1) := by decide +kernel
theorem dJ6_bitCount_0f7a4_39 : decode cJ6_bitCount_0f7a4 39 = .ok (.iadd, 1) := by decide +kernel
theorem dJ6_bitCount_0f7a4_40 : decode cJ6_bitCount_0f7a4 40 = .ok (.istore_n 0, 1) := by decide +kernel
theorem dJ6_bitCount_0f7a4_41 : decode cJ6_bitCount_0f7a4 41 = .ok (.iload_n 0, 1) := by decide +kernel
theorem dJ6_bitCount_0f7a4_42 : decode cJ6_bitCount_0f7a4 42 = .ok (.iload_n 0, 1) := by decide +kernel
theorem dJ6_bitCount_0f7a4_43 : decode cJ6_bitCount_0f7a4 43 = .ok (.bipush 16, 2) := by decide +kernel
theorem dJ6_bitCount_0f7a4_45 : decode cJ6_bitCount_0f7a4 45 = .ok (.iushr, 1) := by decide +kernel
theorem dJ6_bitCount_0f7a4_46 : decode cJ6_bitCount_0f7a4 46 = .ok (.iadd, 1) := by decide +kernel
theorem dJ6_bitCount_0f7a4_47 : decode cJ6_bitCount_0f7a4 47 = .ok (.istore_n 0, 1) := by decide +kernel
theorem dJ6_bitCount_0f7a4_48 : decode cJ6_bitCount_0f7a4 48 = .ok (.iload_n 0, 1) := by decide +kernel
theorem dJ6_bitCount_0f7a4_49 : decode cJ6_bitCount_0f7a4 49 = .ok (.bipush 63, 2) := by decide +kernel
theorem dJ6_bitCount_0f7a4_51 : decode cJ6_bitCount_0f7a4 51 = .ok (.iand, 1) := by decide +kernel
theorem dJ6_bitCount_0f7a4_52 : decode cJ6_bitCount_0f7a4 52 = .ok (.ireturn, 1) := by decide +kernel
theorem dJ9_max_7cf53_0 : decode cJ9_max_7cf53 0 = .ok (.iload_n 0, 1) := by decide +kernel
theorem dJ9_max_7cf53_1 : decode cJ9_max_7cf53 1 = .ok (.iload_n 1, 1) := by decide +kernel
theorem dJ9_max_7cf53_2 : decode cJ9_max_7cf53 2 = .ok (.if_icmp .lt 7, 3) := by decide +kernel
theorem dJ9_max_7cf53_5 : decode cJ9_max_7cf53 5 = .ok (.iload_n 0, 1) := by decide +kernel
theorem dJ9_max_7cf53_6 : decode cJ9_max_7cf53 6 = .ok (.goto 4, 3) := by decide +kernel
theorem dJ9_max_7cf53_9 : decode cJ9_max_7cf53 9 = .ok (.iload_n 1, 1) := by decide +kernel
theorem dJ9_max_7cf53_10 : decode cJ9_max_7cf53 10 = .ok (.ireturn, 1) := by decide +kernel
theorem dJ9_min_7cf53_0 : decode cJ9_min_7cf53 0 = .ok (.iload_n 0, 1) := by decide +kernel
theorem dJ9_min_7cf53_1 : decode cJ9_min_7cf53 1 = .ok (.iload_n 1, 1) := by decide +kernel
theorem dJ9_min_7cf53_2 : decode cJ9_min_7cf53 2 = .ok (.if_icmp .gt 7, 3) := by decide +kernel
theorem dJ9_min_7cf53_5 : decode cJ9_min_7cf53 5 = .ok (.iload_n 0, 1) := by decide +kernel
theorem dJ9_min_7cf53_6 : decode cJ9_min_7cf53 6 = .ok (.goto 4, 3) := by decide +kernel
theorem dJ9_min_7cf53_9 : decode cJ9_min_7cf53 9 = .ok (.iload_n 1, 1) := by decide +kernel
theorem dJ9_min_7cf53_10 : decode cJ9_min_7cf53 10 = .ok (.ireturn, 1) := by decide +kernel
theorem dJ0_length_8abf5_0 : decode cJ0_length_8abf5 0 = .ok (.aload_n 0, 1) := by decide +kernel
theorem dJ0_length_8abf5_1 : decode cJ0_length_8abf5 1 = .ok (.getfield 9, 3) := by decide +kernel
theorem dJ0_length_8abf5_4 : decode cJ0_length_8abf5 4 = .ok (.arraylength, 1) := by decide +kernel
theorem dJ0_length_8abf5_5 : decode cJ0_length_8abf5 5 = .ok (.aload_n 0, 1) := by decide +kernel
theorem dJ0_length_8abf5_6 : decode cJ0_length_8abf5 6 = .ok (.invokevirtual 335, 3) := by decide +kernel
theorem dJ0_length_8abf5_9 : decode cJ0_length_8abf5 9 = .ok (.ishr, 1) := by decide +kernel
theorem dJ0_length_8abf5_10 : decode cJ0_length_8abf5 10 = .ok (.ireturn, 1) := by decide +kernel
theorem dJ0_charAt_5068e_0 : decode cJ0_charAt_5068e 0 = .ok (.aload_n 0, 1) := by decide +kernel
theorem dJ0_charAt_5068e_1 : decode cJ0_charAt_5068e 1 = .ok (.invokevirtual 492, 3) := by decide +kernel
theorem dJ0_charAt_5068e_4 : decode cJ0_charAt_5068e 4 = .ok (.ifCond .eq 12, 3) := by decide +kernel
theorem dJ0_charAt_5068e_7 : decode cJ0_charAt_5068e 7 = .ok (.aload_n 0, 1) := by decide +kernel
theorem dJ0_charAt_5068e_8 : decode cJ0_charAt_5068e 8 = .ok (.getfield 9, 3) := by decide +kernel
theorem dJ0_charAt_5068e_11 : decode cJ0_charAt_5068e 11 = .ok (.iload_n 1, 1) := by decide +kernel
theorem dJ0_charAt_5068e_12 : decode cJ0_charAt_5068e 12 = .ok (.invokestatic 495, 3) := by decide +kernel
theorem dJ0_charAt_5068e_15 : decode cJ0_charAt_5068e 15 = .ok (.ireturn, 1) := by decide +kernel
theorem dJ0_charAt_5068e_16 : decode cJ0_charAt_5068e 16 = .ok (.aload_n 0, 1) := by decide +kernel
theorem dJ0_charAt_5068e_17 : decode cJ0_charAt_5068e 17 = .ok (.getfield 9, 3) := by decide +kernel
theorem dJ0_charAt_5068e_20 : decode cJ0_charAt_5068e 20 = .ok (.iload_n 1, 1) := by decide +kernel
theorem dJ0_charAt_5068e_21 : decode cJ0_charAt_5068e 21 = .ok (.invokestatic 498, 3) := by decide +kernel
theorem dJ0_charAt_5068e_24 : decode cJ0_charAt_5068e 24 = .ok (.ireturn, 1) := by decide +kernel
theorem dJ0_coder_7d493_0 : decode cJ0_coder_7d493 0 = .ok (.getstatic 38, 3) := by decide +kernel
theorem dJ0_coder_7d493_3 : decode cJ0_coder_7d493 3 = .ok (.ifCond .eq 10, 3) := by decide +kernel
theorem dJ0_coder_7d493_6 : decode cJ0_coder_7d493 6 = .ok (.aload_n 0, 1) := by decide +kernel
theorem dJ0_coder_7d493_7 : decode cJ0_coder_7d493 7 = .ok (.getfield 15, 3) := by decide +kernel
theorem dJ0_coder_7d493_10 : decode cJ0_coder_7d493 10 = .ok (.goto 4, 3) := by decide +kernel
theorem dJ0_coder_7d493_13 : decode cJ0_coder_7d493 13 = .ok (.iconst 1, 1) := by decide +kernel
theorem dJ0_coder_7d493_14 : decode cJ0_coder_7d493 14 = .ok (.ireturn, 1) := by decide +kernel
theorem dJ0_isLatin1_aae02_0 : decode cJ0_isLatin1_aae02 0 = .ok (.getstatic 38, 3) := by decide +kernel
theorem dJ0_isLatin1_aae02_3 : decode cJ0_isLatin1_aae02 3 = .ok (.ifCond .eq 14, 3) := by decide +kernel
theorem dJ0_isLatin1_aae02_6 : decode cJ0_isLatin1_aae02 6 = .ok (.aload_n 0, 1) := by decide +kernel
theorem dJ0_isLatin1_aae02_7 : decode cJ0_isLatin1_aae02 7 = .ok (.getfield 15, 3) := by decide +kernel
theorem dJ0_isLatin1_aae02_10 : decode cJ0_isLatin1_aae02 10 = .ok (.ifCond .ne 7, 3) := by decide +kernel
theorem dJ0_isLatin1_aae02_13 : decode cJ0_isLatin1_aae02 13 = .ok (.iconst 1, 1) := by decide +kernel
theorem dJ0_isLatin1_aae02_14 : decode cJ0_isLatin1_aae02 14 = .ok (.goto 4, 3) := by decide +kernel
theorem dJ0_isLatin1_aae02_17 : decode cJ0_isLatin1_aae02 17 = .ok (.iconst 0, 1) := by decide +kernel
theorem dJ0_isLatin1_aae02_18 : decode cJ0_isLatin1_aae02 18 = .ok (.ireturn, 1) := by decide +kernel
theorem dJ0_checkIndex_df160_0 : decode cJ0_checkIndex_df160 0 = .ok (.iload_n 0, 1) := by decide +kernel
theorem dJ0_checkIndex_df160_1 : decode cJ0_checkIndex_df160 1 = .ok (.iload_n 1, 1) := by decide +kernel
theorem dJ0_checkIndex_df160_2 : decode cJ0_checkIndex_df160 2 = .ok (.getstatic 1053, 3) := by decide +kernel
theorem dJ0_checkIndex_df160_5 : decode cJ0_checkIndex_df160 5 = .ok (.invokestatic 1059, 3) := by decide +kernel
theorem dJ0_checkIndex_df160_8 : decode cJ0_checkIndex_df160 8 = .ok (.pop, 1) := by decide +kernel
theorem dJ0_checkIndex_df160_9 : decode cJ0_checkIndex_df160 9 = .ok (.return_, 1) := by decide +kernel
theorem dJ1_charAt_3b067_0 : decode cJ1_charAt_3b067 0 = .ok (.iload_n 1, 1) := by decide +kernel
theorem dJ1_charAt_3b067_1 : decode cJ1_charAt_3b067 1 = .ok (.aload_n 0, 1) := by decide +kernel
theorem dJ1_charAt_3b067_2 : decode cJ1_charAt_3b067 2 = .ok (.arraylength, 1) := by decide +kernel
theorem dJ1_charAt_3b067_3 : decode cJ1_charAt_3b067 3 = .ok (.invokestatic 9, 3) := by decide +kernel
theorem dJ1_charAt_3b067_6 : decode cJ1_charAt_3b067 6 = .ok (.aload_n 0, 1) := by decide +kernel
theorem dJ1_charAt_3b067_7 : decode cJ1_charAt_3b067 7 = .ok (.iload_n 1, 1) := by decide +kernel
theorem dJ1_charAt_3b067_8 : decode cJ1_charAt_3b067 8 = .ok (.baload, 1) := by decide +kernel
theorem dJ1_charAt_3b067_9 : decode cJ1_charAt_3b067 9 = .ok (.sipush 255, 3) := by decide +kernel
theorem dJ1_charAt_3b067_12 : decode cJ1_charAt_3b067 12 = .ok (.iand, 1) := by decide +kernel
theorem dJ1_charAt_3b067_13 : decode cJ1_charAt_3b067 13 = .ok (.i2c, 1) := by decide +kernel
theorem dJ1_charAt_3b067_14 : decode cJ1_charAt_3b067 14 = .ok (.ireturn, 1) := by decide +kernel
theorem dJ2_getChar_3b067_0 : decode cJ2_getChar_3b067 0 = .ok (.getstatic 44, 3) := by decide +kernel
theorem dJ2_getChar_3b067_3 : decode cJ2_getChar_3b067 3 = .ok (.ifCond .ne 25, 3) := by decide +kernel
theorem dJ2_getChar_3b067_6 : decode cJ2_getChar_3b067 6 = .ok (.iload_n 1, 1) := by decide +kernel
theorem dJ2_getChar_3b067_7 : decode cJ2_getChar_3b067 7 = .ok (.ifCond .lt 11, 3) := by decide +kernel
theorem dJ2_getChar_3b067_10 : decode cJ2_getChar_3b067 10 = .ok (.iload_n 1, 1) := by decide +kernel
theorem dJ2_getChar_3b067_11 : decode cJ2_getChar_3b067 11 = .ok (.aload_n 0, 1) := by decide +kernel
theorem dJ2_getChar_3b067_12 : decode cJ2_getChar_3b067 12 = .ok (.invokestatic 48, 3) := by decide +kernel
theorem dJ2_getChar_3b067_15 : decode cJ2_getChar_3b067 15 = .ok (.if_icmp .lt 13, 3) := by decide +kernel
theorem dJ2_getChar_3b067_18 : decode cJ2_getChar_3b067 18 = .ok (.new 52, 3) := by decide +kernel
theorem dJ2_getChar_3b067_21 : decode cJ2_getChar_3b067 21 = .ok (.dup, 1) := by decide +kernel
theorem dJ2_getChar_3b067_22 : decode cJ2_getChar_3b067 22 = .ok (.ldc 54, 2) := by decide +kernel
theorem dJ2_getChar_3b067_24 : decode cJ2_getChar_3b067 24 = .ok (.invokespecial 56, 3) := by decide +kernel
theorem dJ2_getChar_3b067_27 : decode cJ2_getChar_3b067 27 = .ok (.athrow, 1) := by decide +kernel
theorem dJ2_getChar_3b067_28 : decode cJ2_getChar_3b067 28 = .ok (.iload_n 1, 1) := by decide +kernel
theorem dJ2_getChar_3b067_29 : decode cJ2_getChar_3b067 29 = .ok (.iconst 1, 1) := by decide +kernel
theorem dJ2_getChar_3b067_30 : decode cJ2_getChar_3b067 30 = .ok (.ishl, 1) := by decide +kernel
theorem dJ2_getChar_3b067_31 : decode cJ2_getChar_3b067 31 = .ok (.istore_n 1, 1) := by decide +kernel
theorem dJ2_getChar_3b067_32 : decode cJ2_getChar_3b067 32 = .ok (.aload_n 0, 1) := by decide +kernel
theorem dJ2_getChar_3b067_33 : decode cJ2_getChar_3b067 33 = .ok (.iload_n 1, 1) := by decide +kernel
theorem dJ2_getChar_3b067_34 : decode cJ2_getChar_3b067 34 = .ok (.iinc 1 1, 3) := by decide +kernel
theorem dJ2_getChar_3b067_37 : decode cJ2_getChar_3b067 37 = .ok (.baload, 1) := by decide +kernel
theorem dJ2_getChar_3b067_38 : decode cJ2_getChar_3b067 38 = .ok (.sipush 255, 3) := by decide +kernel
theorem dJ2_getChar_3b067_41 : decode cJ2_getChar_3b067 41 = .ok (.iand, 1) := by decide +kernel
theorem dJ2_getChar_3b067_42 : decode cJ2_getChar_3b067 42 = .ok (.getstatic 59, 3) := by decide +kernel
theorem dJ2_getChar_3b067_45 : decode cJ2_getChar_3b067 45 = .ok (.ishl, 1) := by decide +kernel
theorem dJ2_getChar_3b067_46 : decode cJ2_getChar_3b067 46 = .ok (.aload_n 0, 1) := by decide +kernel
theorem dJ2_getChar_3b067_47 : decode cJ2_getChar_3b067 47 = .ok (.iload_n 1, 1) := by decide +kernel
theorem dJ2_getChar_3b067_48 : decode cJ2_getChar_3b067 48 = .ok (.baload, 1) := by decide +kernel
theorem dJ2_getChar_3b067_49 : decode cJ2_getChar_3b067 49 = .ok (.sipush 255, 3) := by decide +kernel
theorem dJ2_getChar_3b067_52 : decode cJ2_getChar_3b067 52 = .ok (.iand, 1) := by decide +kernel
theorem dJ2_getChar_3b067_53 : decode cJ2_getChar_3b067 53 = .ok (.getstatic 63, 3) := by decide +kernel
theorem dJ2_getChar_3b067_56 : decode cJ2_getChar_3b067 56 = .ok (.ishl, 1) := by decide +kernel
theorem dJ2_getChar_3b067_57 : decode cJ2_getChar_3b067 57 = .ok (.ior, 1) := by decide +kernel
theorem dJ2_getChar_3b067_58 : decode cJ2_getChar_3b067 58 = .ok (.i2c, 1) := by decide +kernel
theorem dJ2_getChar_3b067_59 : decode cJ2_getChar_3b067 59 = .ok (.ireturn, 1) := by decide +kernel
theorem dJ2_length_9d52b_0 : decode cJ2_length_9d52b 0 = .ok (.aload_n 0, 1) := by decide +kernel
theorem dJ2_length_9d52b_1 : decode cJ2_length_9d52b 1 = .ok (.arraylength, 1) := by decide +kernel
theorem dJ2_length_9d52b_2 : decode cJ2_length_9d52b 2 = .ok (.iconst 1, 1) := by decide +kernel
theorem dJ2_length_9d52b_3 : decode cJ2_length_9d52b 3 = .ok (.ishr, 1) := by decide +kernel
theorem dJ2_length_9d52b_4 : decode cJ2_length_9d52b 4 = .ok (.ireturn, 1) := by decide +kernel
theorem dJ2_charAt_3b067_0 : decode cJ2_charAt_3b067 0 = .ok (.iload_n 1, 1) := by decide +kernel
theorem dJ2_charAt_3b067_1 : decode cJ2_charAt_3b067 1 = .ok (.aload_n 0, 1) := by decide +kernel
theorem dJ2_charAt_3b067_2 : decode cJ2_charAt_3b067 2 = .ok (.invokestatic 67, 3) := by decide +kernel
theorem dJ2_charAt_3b067_5 : decode cJ2_charAt_3b067 5 = .ok (.aload_n 0, 1) := by decide +kernel
theorem dJ2_charAt_3b067_6 : decode cJ2_charAt_3b067 6 = .ok (.iload_n 1, 1) := by decide +kernel
theorem dJ2_charAt_3b067_7 : decode cJ2_charAt_3b067 7 = .ok (.invokestatic 71, 3) := by decide +kernel
theorem dJ2_charAt_3b067_10 : decode cJ2_charAt_3b067 10 = .ok (.ireturn, 1) := by decide +kernel
theorem dJ2_checkIndex_2214a_0 : decode cJ2_checkIndex_2214a 0 = .ok (.iload_n 0, 1) := by decide +kernel
theorem dJ2_checkIndex_2214a_1 : decode cJ2_checkIndex_2214a 1 = .ok (.aload_n 1, 1) := by decide +kernel
theorem dJ2_checkIndex_2214a_2 : decode cJ2_checkIndex_2214a 2 = .ok (.invokestatic 48, 3) := by decide +kernel
theorem dJ2_checkIndex_2214a_5 : decode cJ2_checkIndex_2214a 5 = .ok (.invokestatic 414, 3) := by decide +kernel
theorem dJ2_checkIndex_2214a_8 : decode cJ2_checkIndex_2214a 8 = .ok (.return_, 1) := by decide +kernel
theorem dJ3_checkIndex_8e157_0 : decode cJ3_checkIndex_8e157 0 = .ok (.iload_n 0, 1) := by decide +kernel
theorem dJ3_checkIndex_8e157_1 : decode cJ3_checkIndex_8e157 1 = .ok (.ifCond .lt 8, 3) := by decide +kernel
theorem dJ3_checkIndex_8e157_4 : decode cJ3_checkIndex_8e157 4 = .ok (.iload_n 0, 1) := by decide +kernel
theorem dJ3_checkIndex_8e157_5 : decode cJ3_checkIndex_8e157 5 = .ok (.iload_n 1, 1) := by decide +kernel
theorem dJ3_checkIndex_8e157_6 : decode cJ3_checkIndex_8e157 6 = .ok (.if_icmp .lt 10, 3) := by decide +kernel
theorem dJ3_checkIndex_8e157_9 : decode cJ3_checkIndex_8e157 9 = .ok (.aload_n 2, 1) := by decide +kernel
theorem dJ3_checkIndex_8e157_10 : decode cJ3_checkIndex_8e157 10 = .ok (.iload_n 0, 1) := by decide +kernel
theorem dJ3_checkIndex_8e157_11 : decode cJ3_checkIndex_8e157 11 = .ok (.iload_n 1, 1) := by decide +kernel
theorem dJ3_checkIndex_8e157_12 : decode cJ3_checkIndex_8e157 12 = .ok (.invokestatic 95, 3) := by decide +kernel
theorem dJ3_checkIndex_8e157_15 : decode cJ3_checkIndex_8e157 15 = .ok (.athrow, 1) := by decide +kernel
theorem dJ3_checkIndex_8e157_16 : decode cJ3_checkIndex_8e157 16 = .ok (.iload_n 0, 1) := by decide +kernel
theorem dJ3_checkIndex_8e157_17 : decode cJ3_checkIndex_8e157 17 = .ok (.ireturn, 1) := by decide +kernel
theorem dX1_init_0 : decode cX1_init 0 = .ok (.aload_n 0, 1) := by decide +kernel
theorem dX1_init_1 : decode cX1_init 1 = .ok (.invokespecial 3, 3) := by decide +kernel
theorem dX1_init_4 : decode cX1_init 4 = .ok (.aload_n 0, 1) := by decide +kernel
theorem dX1_init_5 : decode cX1_init 5 = .ok (.aload_n 1, 1) := by decide +kernel
theorem dX1_init_6 : decode cX1_init 6 = .ok (.putfield 9, 3) := by decide +kernel
theorem dX1_init_9 : decode cX1_init 9 = .ok (.aload_n 0, 1) := by decide +kernel
theorem dX1_init_10 : decode cX1_init 10 = .ok (.bipush 7, 2) := by decide +kernel
theorem dX1_init_12 : decode cX1_init 12 = .ok (.newarray .int, 2) := by decide +kernel
theorem dX1_init_14 : decode cX1_init 14 = .ok (.putfield 15, 3) := by decide +kernel
theorem dX1_init_17 : decode cX1_init 17 = .ok (.aload_n 0, 1) := by decide +kernel
theorem dX1_init_18 : decode cX1_init 18 = .ok (.bipush 7, 2) := by decide +kernel
theorem dX1_init_20 : decode cX1_init 20 = .ok (.newarray .int, 2) := by decide +kernel
theorem dX1_init_22 : decode cX1_init 22 = .ok (.putfield 19, 3) := by decide +kernel
theorem dX1_init_25 : decode cX1_init 25 = .ok (.aload_n 0, 1) := by decide +kernel
theorem dX1_init_26 : decode cX1_init 26 = .ok (.bipush 7, 2) := by decide +kernel
theorem dX1_init_28 : decode cX1_init 28 = .ok (.newarray .int, 2) := by decide +kernel
theorem dX1_init_30 : decode cX1_init 30 = .ok (.putfield 22, 3) := by decide +kernel
theorem dX1_init_33 : decode cX1_init 33 = .ok (.aload_n 0, 1) := by decide +kernel
theorem dX1_init_34 : decode cX1_init 34 = .ok (.bipush 7, 2) := by decide +kernel
theorem dX1_init_36 : decode cX1_init 36 = .ok (.newarray .int, 2) := by decide +kernel
theorem dX1_init_38 : decode cX1_init 38 = .ok (.putfield 25, 3) := by decide +kernel
theorem dX1_init_41 : decode cX1_init 41 = .ok (.aload_n 0, 1) := by decide +kernel
theorem dX1_init_42 : decode cX1_init 42 = .ok (.bipush 7, 2) := by decide +kernel
theorem dX1_init_44 : decode cX1_init 44 = .ok (.newarray .int, 2) := by decide +kernel
theorem dX1_init_46 : decode cX1_init 46 = .ok (.putfield 28, 3) := by decide +kernel
theorem dX1_init_49 : decode cX1_init 49 = .ok (.aload_n 0, 1) := by decide +kernel
theorem dX1_init_50 : decode cX1_init 50 = .ok (.bipush 7, 2) := by decide +kernel
theorem dX1_init_52 : decode cX1_init 52 = .ok (.newarray .int, 2) := by decide +kernel
theorem dX1_init_54 : decode cX1_init 54 = .ok (.putfield 31, 3) := by decide +kernel
theorem dX1_init_57 : decode cX1_init 57 = .ok (.aload_n 0, 1) := by decide +kernel
theorem dX1_init_58 : decode cX1_init 58 = .ok (.iconst (-1), 1) := by decide +kernel
theorem dX1_init_59 : decode cX1_init 59 = .ok (.putfield 34, 3) := by decide +kernel
theorem dX1_init_62 : decode cX1_init 62 = .ok (.return_, 1) := by decide +kernel
theorem dX1_begin_0 : decode cX1_begin 0 = .ok (.iconst 0, 1) := by decide +kernel
theorem dX1_begin_1 : decode cX1_begin 1 = .ok (.istore_n 1, 1) := by decide +kernel
theorem dX1_begin_2 : decode cX1_begin 2 = .ok (.iload_n 1, 1) := by decide +kernel
theorem dX1_begin_3 : decode cX1_begin 3 = .ok (.bipush 7, 2) := by decide +kernel
theorem dX1_begin_5 : decode cX1_begin 5 = .ok (.if_icmp .ge 67, 3) := by decide +kernel
theorem dX1_begin_8 : decode cX1_begin 8 = .ok (.aload_n 0, 1) := by decide +kernel
theorem dX1_begin_9 : decode cX1_begin 9 = .ok (.getfield 15, 3) := by decide +kernel
theorem dX1_begin_12 : decode cX1_begin 12 = .ok (.iload_n 1, 1) := by decide +kernel
theorem dX1_begin_13 : decode cX1_begin 13 = .ok (.aload_n 0, 1) := by decide +kernel
theorem dX1_begin_14 : decode cX1_begin 14 = .ok (.getfield 9, 3) := by decide +kernel
theorem dX1_begin_17 : decode cX1_begin 17 = .ok (.getfield 38, 3) := by decide +kernel
theorem dX1_begin_20 : decode cX1_begin 20 = .ok (.iload_n 1, 1) := by decide +kernel
theorem dX1_begin_21 : decode cX1_begin 21 = .ok (.iaload, 1) := by decide +kernel
theorem dX1_begin_22 : decode cX1_begin 22 = .ok (.iastore, 1) := by decide +kernel
theorem dX1_begin_23 : decode cX1_begin 23 = .ok (.aload_n 0, 1) := by decide +kernel
theorem dX1_begin_24 : decode cX1_begin 24 = .ok (.getfield 19, 3) := by decide +kernel
theorem dX1_begin_27 : decode cX1_begin 27 = .ok (.iload_n 1, 1) := by decide +kernel
theorem dX1_begin_28 : decode cX1_begin 28 = .ok (.aload_n 0, 1) := by decide +kernel
theorem dX1_begin_29 : decode cX1_begin 29 = .ok (.getfield 9, 3) := by decide +kernel
theorem dX1_begin_32 : decode cX1_begin 32 = .ok (.getfield 41, 3) := by decide +kernel
theorem dX1_begin_35 : decode cX1_begin 35 = .ok (.iload_n 1, 1) := by decide +kernel
theorem dX1_begin_36 : decode cX1_begin 36 = .ok (.iaload, 1) := by decide +kernel
theorem dX1_begin_37 : decode cX1_begin 37 = .ok (.iastore, 1) := by decide +kernel
theorem dX1_begin_38 : decode cX1_begin 38 = .ok (.aload_n 0, 1) := by decide +kernel
theorem dX1_begin_39 : decode cX1_begin 39 = .ok (.getfield 22, 3) := by decide +kernel
theorem dX1_begin_42 : decode cX1_begin 42 = .ok (.iload_n 1, 1) := by decide +kernel
theorem dX1_begin_43 : decode cX1_begin 43 = .ok (.iconst 0, 1) := by decide +kernel
theorem dX1_begin_44 : decode cX1_begin 44 = .ok (.iastore, 1) := by decide +kernel
theorem dX1_begin_45 : decode cX1_begin 45 = .ok (.aload_n 0, 1) := by decide +kernel
theorem dX1_begin_46 : decode cX1_begin 46 = .ok (.getfield 25, 3) := by decide +kernel
theorem dX1_begin_49 : decode cX1_begin 49 = .ok (.iload_n 1, 1) := by decide +kernel
theorem dX1_begin_50 : decode cX1_begin 50 = .ok (.iconst 0, 1) := by decide +kernel
theorem dX1_begin_51 : decode cX1_begin 51 = .ok (.iastore, 1) := by decide +kernel
theorem dX1_begin_52 : decode cX1_begin 52 = .ok (.aload_n 0, 1) := by decide +kernel
theorem dX1_begin_53 : decode cX1_begin 53 = .ok (.getfield 28, 3) := by decide +kernel
theorem dX1_begin_56 : decode cX1_begin 56 = .ok (.iload_n 1, 1) := by decide +kernel
theorem dX1_begin_57 : decode cX1_begin 57 = .ok (.iconst 0, 1) := by decide +kernel
theorem dX1_begin_58 : decode cX1_begin 58 = .ok (.iastore, 1) := by decide +kernel
theorem dX1_begin_59 : decode cX1_begin 59 = .ok (.aload_n 0, 1) := by decide +kernel
theorem dX1_begin_60 : decode cX1_begin 60 = .ok (.getfield 31, 3) := by decide +kernel
theorem dX1_begin_63 : decode cX1_begin 63 = .ok (.iload_n 1, 1) := by decide +kernel
theorem dX1_begin_64 : decode cX1_begin 64 = .ok (.iconst 0, 1) := by decide +kernel
theorem dX1_begin_65 : decode cX1_begin 65 = .ok (.iastore, 1) := by decide +kernel
theorem dX1_begin_66 : decode cX1_begin 66 = .ok (.iinc 1 1, 3) := by decide +kernel
theorem dX1_begin_69 : decode cX1_begin 69 = .ok (.goto (-67), 3) := by decide +kernel
theorem dX1_begin_72 : decode cX1_begin 72 = .ok (.aload_n 0, 1) := by decide +kernel
theorem dX1_begin_73 : decode cX1_begin 73 = .ok (.iconst 0, 1) := by decide +kernel
theorem dX1_begin_74 : decode cX1_begin 74 = .ok (.putfield 44, 3) := by decide +kernel
theorem dX1_begin_77 : decode cX1_begin 77 = .ok (.aload_n 0, 1) := by decide +kernel
theorem dX1_begin_78 : decode cX1_begin 78 = .ok (.iconst 0, 1) := by decide +kernel
theorem dX1_begin_79 : decode cX1_begin 79 = .ok (.putfield 47, 3) := by decide +kernel
theorem dX1_begin_82 : decode cX1_begin 82 = .ok (.aload_n 0, 1) := by decide +kernel
theorem dX1_begin_83 : decode cX1_begin 83 = .ok (.iconst 0, 1) := by decide +kernel
theorem dX1_begin_84 : decode cX1_begin 84 = .ok (.putfield 50, 3) := by decide +kernel
theorem dX1_begin_87 : decode cX1_begin 87 = .ok (.aload_n 0, 1) := by decide +kernel
theorem dX1_begin_88 : decode cX1_begin 88 = .ok (.iconst 0, 1) := by decide +kernel
theorem dX1_begin_89 : decode cX1_begin 89 = .ok (.putfield 53, 3) := by decide +kernel
theorem dX1_begin_92 : decode cX1_begin 92 = .ok (.aload_n 0, 1) := by decide +kernel
theorem dX1_begin_93 : decode cX1_begin 93 = .ok (.iconst 0, 1) := by decide +kernel
theorem dX1_begin_94 : decode cX1_begin 94 = .ok (.putfield 56, 3) := by decide +kernel
theorem dX1_begin_97 : decode cX1_begin 97 = .ok (.aload_n 0, 1) := by decide +kernel
theorem dX1_begin_98 : decode cX1_begin 98 = .ok (.iconst 0, 1) := by decide +kernel
theorem dX1_begin_99 : decode cX1_begin 99 = .ok (.putfield 59, 3) := by decide +kernel
theorem dX1_begin_102 : decode cX1_begin 102 = .ok (.aload_n 0, 1) := by decide +kernel
theorem dX1_begin_103 : decode cX1_begin 103 = .ok (.iconst (-1), 1) := by decide +kernel
theorem dX1_begin_104 : decode cX1_begin 104 = .ok (.putfield 34, 3) := by decide +kernel
theorem dX1_begin_107 : decode cX1_begin 107 = .ok (.aload_n 0, 1) := by decide +kernel
theorem dX1_begin_108 : decode cX1_begin 108 = .ok (.iconst 0, 1) := by decide +kernel
theorem dX1_begin_109 : decode cX1_begin 109 = .ok (.putfield 62, 3) := by decide +kernel
theorem dX1_begin_112 : decode cX1_begin 112 = .ok (.return_, 1) := by decide +kernel
theorem dX1_copyFrom_0 : decode cX1_copyFrom 0 = .ok (.aload_n 1, 1) := by decide +kernel
theorem dX1_copyFrom_1 : decode cX1_copyFrom 1 = .ok (.getfield 15, 3) := by decide +kernel
theorem dX1_copyFrom_4 : decode cX1_copyFrom 4 = .ok (.iconst 0, 1) := by decide +kernel
theorem dX1_copyFrom_5 : decode cX1_copyFrom 5 = .ok (.aload_n 0, 1) := by decide +kernel
theorem dX1_copyFrom_6 : decode cX1_copyFrom 6 = .ok (.getfield 15, 3) := by decide +kernel
theorem dX1_copyFrom_9 : decode cX1_copyFrom 9 = .ok (.iconst 0, 1) := by decide +kernel
theorem dX1_copyFrom_10 : decode cX1_copyFrom 10 = .ok (.bipush 7, 2) := by decide +kernel
theorem dX1_copyFrom_12 : decode cX1_copyFrom 12 = .ok (.invokestatic 65, 3) := by decide +kernel
theorem dX1_copyFrom_15 : decode cX1_copyFrom 15 = .ok (.aload_n 1, 1) := by decide +kernel
theorem dX1_copyFrom_16 : decode cX1_copyFrom 16 = .ok (.getfield 19, 3) := by decide +kernel
theorem dX1_copyFrom_19 : decode cX1_copyFrom 19 = .ok (.iconst 0, 1) := by decide +kernel
theorem dX1_copyFrom_20 : decode cX1_copyFrom 20 = .ok (.aload_n 0, 1) := by decide +kernel
theorem dX1_copyFrom_21 : decode cX1_copyFrom 21 = .ok (.getfield 19, 3) := by decide +kernel
theorem dX1_copyFrom_24 : decode cX1_copyFrom 24 = .ok (.iconst 0, 1) := by decide +kernel
theorem dX1_copyFrom_25 : decode cX1_copyFrom 25 = .ok (.bipush 7, 2) := by decide +kernel
theorem dX1_copyFrom_27 : decode cX1_copyFrom 27 = .ok (.invokestatic 65, 3) := by decide +kernel
theorem dX1_copyFrom_30 : decode cX1_copyFrom 30 = .ok (.aload_n 1, 1) := by decide +kernel
theorem dX1_copyFrom_31 : decode cX1_copyFrom 31 = .ok (.getfield 22, 3) := by decide +kernel
theorem dX1_copyFrom_34 : decode cX1_copyFrom 34 = .ok (.iconst 0, 1) := by decide +kernel
theorem dX1_copyFrom_35 : decode cX1_copyFrom 35 = .ok (.aload_n 0, 1) := by decide +kernel
theorem dX1_copyFrom_36 : decode cX1_copyFrom 36 = .ok (.getfield 22, 3) := by decide +kernel
theorem dX1_copyFrom_39 : decode cX1_copyFrom 39 = .ok (.iconst 0, 1) := by decide +kernel
theorem dX1_copyFrom_40 : decode cX1_copyFrom 40 = .ok (.bipush 7, 2) := by decide +kernel
theorem dX1_copyFrom_42 : decode cX1_copyFrom 42 = .ok (.invokestatic 65, 3) := by decide +kernel
theorem dX1_copyFrom_45 : decode cX1_copyFrom 45 = .ok (.aload_n 1, 1) := by decide +kernel
theorem dX1_copyFrom_46 : decode cX1_copyFrom 46 = .ok (.getfield 25, 3) := by decide +kernel
theorem dX1_copyFrom_49 : decode cX1_copyFrom 49 = .ok (.iconst 0, 1) := by decide +kernel
theorem dX1_copyFrom_50 : decode cX1_copyFrom 50 = .ok (.aload_n 0, 1) := by decide +kernel
theorem dX1_copyFrom_51 : decode cX1_copyFrom 51 = .ok (.getfield 25, 3) := by decide +kernel
theorem dX1_copyFrom_54 : decode cX1_copyFrom 54 = .ok (.iconst 0, 1) := by decide +kernel
theorem dX1_copyFrom_55 : decode cX1_copyFrom 55 = .ok (.bipush 7, 2) := by decide +kernel
theorem dX1_copyFrom_57 : decode cX1_copyFrom 57 = .ok (.invokestatic 65, 3) := by decide +kernel
theorem dX1_copyFrom_60 : decode cX1_copyFrom 60 = .ok (.aload_n 1, 1) := by decide +kernel
theorem dX1_copyFrom_61 : decode cX1_copyFrom 61 = .ok (.getfield 28, 3) := by decide +kernel
theorem dX1_copyFrom_64 : decode cX1_copyFrom 64 = .ok (.iconst 0, 1) := by decide +kernel
theorem dX1_copyFrom_65 : decode cX1_copyFrom 65 = .ok (.aload_n 0, 1) := by decide +kernel
theorem dX1_copyFrom_66 : decode cX1_copyFrom 66 = .ok (.getfield 28, 3) := by decide +kernel
theorem dX1_copyFrom_69 : decode cX1_copyFrom 69 = .ok (.iconst 0, 1) := by decide +kernel
theorem dX1_copyFrom_70 : decode cX1_copyFrom 70 = .ok (.bipush 7, 2) := by decide +kernel
theorem dX1_copyFrom_72 : decode cX1_copyFrom 72 = .ok (.invokestatic 65, 3) := by decide +kernel
theorem dX1_copyFrom_75 : decode cX1_copyFrom 75 = .ok (.aload_n 1, 1) := by decide +kernel
theorem dX1_copyFrom_76 : decode cX1_copyFrom 76 = .ok (.getfield 31, 3) := by decide +kernel
theorem dX1_copyFrom_79 : decode cX1_copyFrom 79 = .ok (.iconst 0, 1) := by decide +kernel
theorem dX1_copyFrom_80 : decode cX1_copyFrom 80 = .ok (.aload_n 0, 1) := by decide +kernel
theorem dX1_copyFrom_81 : decode cX1_copyFrom 81 = .ok (.getfield 31, 3) := by decide +kernel
theorem dX1_copyFrom_84 : decode cX1_copyFrom 84 = .ok (.iconst 0, 1) := by decide +kernel
theorem dX1_copyFrom_85 : decode cX1_copyFrom 85 = .ok (.bipush 7, 2) := by decide +kernel
theorem dX1_copyFrom_87 : decode cX1_copyFrom 87 = .ok (.invokestatic 65, 3) := by decide +kernel
theorem dX1_copyFrom_90 : decode cX1_copyFrom 90 = .ok (.aload_n 0, 1) := by decide +kernel
theorem dX1_copyFrom_91 : decode cX1_copyFrom 91 = .ok (.aload_n 1, 1) := by decide +kernel
theorem dX1_copyFrom_92 : decode cX1_copyFrom 92 = .ok (.getfield 44, 3) := by decide +kernel
theorem dX1_copyFrom_95 : decode cX1_copyFrom 95 = .ok (.putfield 44, 3) := by decide +kernel
theorem dX1_copyFrom_98 : decode cX1_copyFrom 98 = .ok (.aload_n 0, 1) := by decide +kernel
theorem dX1_copyFrom_99 : decode cX1_copyFrom 99 = .ok (.aload_n 1, 1) := by decide +kernel
theorem dX1_copyFrom_100 : decode cX1_copyFrom 100 = .ok (.getfield 47, 3) := by decide +kernel
theorem dX1_copyFrom_103 : decode cX1_copyFrom 103 = .ok (.putfield 47, 3) := by decide +kernel
theorem dX1_copyFrom_106 : decode cX1_copyFrom 106 = .ok (.aload_n 0, 1) := by decide +kernel
theorem dX1_copyFrom_107 : decode cX1_copyFrom 107 = .ok (.aload_n 1, 1) := by decide +kernel
theorem dX1_copyFrom_108 : decode cX1_copyFrom 108 = .ok (.getfield 50, 3) := by decide +kernel
theorem dX1_copyFrom_111 : decode cX1_copyFrom 111 = .ok (.putfield 50, 3) := by decide +kernel
theorem dX1_copyFrom_114 : decode cX1_copyFrom 114 = .ok (.aload_n 0, 1) := by decide +kernel
theorem dX1_copyFrom_115 : decode cX1_copyFrom 115 = .ok (.aload_n 1, 1) := by decide +kernel
theorem dX1_copyFrom_116 : decode cX1_copyFrom 116 = .ok (.getfield 53, 3) := by decide +kernel
theorem dX1_copyFrom_119 : decode cX1_copyFrom 119 = .ok (.putfield 53, 3) := by decide +kernel
theorem dX1_copyFrom_122 : decode cX1_copyFrom 122 = .ok (.aload_n 0, 1) := by decide +kernel
theorem dX1_copyFrom_123 : decode cX1_copyFrom 123 = .ok (.aload_n 1, 1) := by decide +kernel
theorem dX1_copyFrom_124 : decode cX1_copyFrom 124 = .ok (.getfield 56, 3) := by decide +kernel
theorem dX1_copyFrom_127 : decode cX1_copyFrom 127 = .ok (.putfield 56, 3) := by decide +kernel
theorem dX1_copyFrom_130 : decode cX1_copyFrom 130 = .ok (.aload_n 0, 1) := by decide +kernel
theorem dX1_copyFrom_131 : decode cX1_copyFrom 131 = .ok (.aload_n 1, 1) := by decide +kernel
theorem dX1_copyFrom_132 : decode cX1_copyFrom 132 = .ok (.getfield 59, 3) := by decide +kernel
theorem dX1_copyFrom_135 : decode cX1_copyFrom 135 = .ok (.putfield 59, 3) := by decide +kernel
theorem dX1_copyFrom_138 : decode cX1_copyFrom 138 = .ok (.aload_n 0, 1) := by decide +kernel
theorem dX1_copyFrom_139 : decode cX1_copyFrom 139 = .ok (.aload_n 1, 1) := by decide +kernel
theorem dX1_copyFrom_140 : decode cX1_copyFrom 140 = .ok (.getfield 34, 3) := by decide +kernel
theorem dX1_copyFrom_143 : decode cX1_copyFrom 143 = .ok (.putfield 34, 3) := by decide +kernel
theorem dX1_copyFrom_146 : decode cX1_copyFrom 146 = .ok (.aload_n 0, 1) := by decide +kernel
theorem dX1_copyFrom_147 : decode cX1_copyFrom 147 = .ok (.aload_n 1, 1) := by decide +kernel
theorem dX1_copyFrom_148 : decode cX1_copyFrom 148 = .ok (.getfield 62, 3) := by decide +kernel
theorem dX1_copyFrom_151 : decode cX1_copyFrom 151 = .ok (.putfield 62, 3) := by decide +kernel
theorem dX1_copyFrom_154 : decode cX1_copyFrom 154 = .ok (.return_, 1) := by decide +kernel
theorem dX1_isSeated_0 : decode cX1_isSeated 0 = .ok (.aload_n 0, 1) := by decide +kernel
theorem dX1_isSeated_1 : decode cX1_isSeated 1 = .ok (.getfield 44, 3) := by decide +kernel
theorem dX1_isSeated_4 : decode cX1_isSeated 4 = .ok (.iload_n 1, 1) := by decide +kernel
theorem dX1_isSeated_5 : decode cX1_isSeated 5 = .ok (.ishr, 1) := by decide +kernel
theorem dX1_isSeated_6 : decode cX1_isSeated 6 = .ok (.iconst 1, 1) := by decide +kernel
theorem dX1_isSeated_7 : decode cX1_isSeated 7 = .ok (.iand, 1) := by decide +kernel
theorem dX1_isSeated_8 : decode cX1_isSeated 8 = .ok (.iconst 1, 1) := by decide +kernel
theorem dX1_isSeated_9 : decode cX1_isSeated 9 = .ok (.if_icmp .ne 7, 3) := by decide +kernel
theorem dX1_isSeated_12 : decode cX1_isSeated 12 = .ok (.iconst 1, 1) := by decide +kernel
theorem dX1_isSeated_13 : decode cX1_isSeated 13 = .ok (.goto 4, 3) := by decide +kernel
theorem dX1_isSeated_16 : decode cX1_isSeated 16 = .ok (.iconst 0, 1) := by decide +kernel
theorem dX1_isSeated_17 : decode cX1_isSeated 17 = .ok (.ireturn, 1) := by decide +kernel
theorem dX1_whoIsAt_0 : decode cX1_whoIsAt 0 = .ok (.iconst 0, 1) := by decide +kernel
theorem dX1_whoIsAt_1 : decode cX1_whoIsAt 1 = .ok (.istore_n 2, 1) := by decide +kernel
theorem dX1_whoIsAt_2 : decode cX1_whoIsAt 2 = .ok (.iconst 0, 1) := by decide +kernel
theorem dX1_whoIsAt_3 : decode cX1_whoIsAt 3 = .ok (.istore_n 3, 1) := by decide +kernel
theorem dX1_whoIsAt_4 : decode cX1_whoIsAt 4 = .ok (.iload_n 3, 1) := by decide +kernel
theorem dX1_whoIsAt_5 : decode cX1_whoIsAt 5 = .ok (.aload_n 0, 1) := by decide +kernel
theorem dX1_whoIsAt_6 : decode cX1_whoIsAt 6 = .ok (.getfield 9, 3) := by decide +kernel
theorem dX1_whoIsAt_9 : decode cX1_whoIsAt 9 = .ok (.getfield 71, 3) := by decide +kernel
theorem dX1_whoIsAt_12 : decode cX1_whoIsAt 12 = .ok (.if_icmp .ge 25, 3) := by decide +kernel
theorem dX1_whoIsAt_15 : decode cX1_whoIsAt 15 = .ok (.aload_n 0, 1) := by decide +kernel
theorem dX1_whoIsAt_16 : decode cX1_whoIsAt 16 = .ok (.getfield 19, 3) := by decide +kernel
theorem dX1_whoIsAt_19 : decode cX1_whoIsAt 19 = .ok (.iload_n 3, 1) := by decide +kernel
theorem dX1_whoIsAt_20 : decode cX1_whoIsAt 20 = .ok (.iaload, 1) := by decide +kernel
theorem dX1_whoIsAt_21 : decode cX1_whoIsAt 21 = .ok (.iload_n 1, 1) := by decide +kernel
theorem dX1_whoIsAt_22 : decode cX1_whoIsAt 22 = .ok (.if_icmp .ne 9, 3) := by decide +kernel
theorem dX1_whoIsAt_25 : decode cX1_whoIsAt 25 = .ok (.iload_n 2, 1) := by decide +kernel
theorem dX1_whoIsAt_26 : decode cX1_whoIsAt 26 = .ok (.iconst 1, 1) := by decide +kernel
theorem dX1_whoIsAt_27 : decode cX1_whoIsAt 27 = .ok (.iload_n 3, 1) := by decide +kernel
theorem dX1_whoIsAt_28 : decode cX1_whoIsAt 28 = .ok (.ishl, 1) := by decide +kernel
theorem dX1_whoIsAt_29 : decode cX1_whoIsAt 29 = .ok (.ior, 1) := by decide +kernel
theorem dX1_whoIsAt_30 : decode cX1_whoIsAt 30 = .ok (.istore_n 2, 1) := by decide +kernel
theorem dX1_whoIsAt_31 : decode cX1_whoIsAt 31 = .ok (.iinc 3 1, 3) := by decide +kernel
theorem dX1_whoIsAt_34 : decode cX1_whoIsAt 34 = .ok (.goto (-30), 3) := by decide +kernel
theorem dX1_whoIsAt_37 : decode cX1_whoIsAt 37 = .ok (.iload_n 2, 1) := by decide +kernel
theorem dX1_whoIsAt_38 : decode cX1_whoIsAt 38 = .ok (.ireturn, 1) := by decide +kernel
theorem dX1_whoSitsAt_0 : decode cX1_whoSitsAt 0 = .ok (.iconst 0, 1) := by decide +kernel
theorem dX1_whoSitsAt_1 : decode cX1_whoSitsAt 1 = .ok (.istore_n 2, 1) := by decide +kernel
theorem dX1_whoSitsAt_2 : decode cX1_whoSitsAt 2 = .ok (.iload_n 2, 1) := by decide +kernel
theorem dX1_whoSitsAt_3 : decode cX1_whoSitsAt 3 = .ok (.aload_n 0, 1) := by decide +kernel
theorem dX1_whoSitsAt_4 : decode cX1_whoSitsAt 4 = .ok (.getfield 9, 3) := by decide +kernel
theorem dX1_whoSitsAt_7 : decode cX1_whoSitsAt 7 = .ok (.getfield 71, 3) := by decide +kernel
theorem dX1_whoSitsAt_10 : decode cX1_whoSitsAt 10 = .ok (.if_icmp .ge 29, 3) := by decide +kernel
theorem dX1_whoSitsAt_13 : decode cX1_whoSitsAt 13 = .ok (.aload_n 0, 1) := by decide +kernel
theorem dX1_whoSitsAt_14 : decode cX1_whoSitsAt 14 = .ok (.getfield 19, 3) := by decide +kernel
theorem dX1_whoSitsAt_17 : decode cX1_whoSitsAt 17 = .ok (.iload_n 2, 1) := by decide +kernel
theorem dX1_whoSitsAt_18 : decode cX1_whoSitsAt 18 = .ok (.iaload, 1) := by decide +kernel
theorem dX1_whoSitsAt_19 : decode cX1_whoSitsAt 19 = .ok (.iload_n 1, 1) := by decide +kernel
theorem dX1_whoSitsAt_20 : decode cX1_whoSitsAt 20 = .ok (.if_icmp .ne 13, 3) := by decide +kernel
theorem dX1_whoSitsAt_23 : decode cX1_whoSitsAt 23 = .ok (.aload_n 0, 1) := by decide +kernel
theorem dX1_whoSitsAt_24 : decode cX1_whoSitsAt 24 = .ok (.iload_n 2, 1) := by decide +kernel
theorem dX1_whoSitsAt_25 : decode cX1_whoSitsAt 25 = .ok (.invokevirtual 74, 3) := by decide +kernel
theorem dX1_whoSitsAt_28 : decode cX1_whoSitsAt 28 = .ok (.ifCond .eq 5, 3) := by decide +kernel
theorem dX1_whoSitsAt_31 : decode cX1_whoSitsAt 31 = .ok (.iload_n 2, 1) := by decide +kernel
theorem dX1_whoSitsAt_32 : decode cX1_whoSitsAt 32 = .ok (.ireturn, 1) := by decide +kernel
theorem dX1_whoSitsAt_33 : decode cX1_whoSitsAt 33 = .ok (.iinc 2 1, 3) := by decide +kernel
theorem dX1_whoSitsAt_36 : decode cX1_whoSitsAt 36 = .ok (.goto (-34), 3) := by decide +kernel
theorem dX1_whoSitsAt_39 : decode cX1_whoSitsAt 39 = .ok (.iconst (-1), 1) := by decide +kernel
theorem dX1_whoSitsAt_40 : decode cX1_whoSitsAt 40 = .ok (.ireturn, 1) := by decide +kernel
theorem dX1_whyNotSit_0 : decode cX1_whyNotSit 0 = .ok (.aload_n 0, 1) := by decide +kernel
theorem dX1_whyNotSit_1 : decode cX1_whyNotSit 1 = .ok (.iload_n 1, 1) := by decide +kernel
theorem dX1_whyNotSit_2 : decode cX1_whyNotSit 2 = .ok (.invokevirtual 74, 3) := by decide +kernel
theorem dX1_whyNotSit_5 : decode cX1_whyNotSit 5 = .ok (.ifCond .eq 5, 3) := by decide +kernel
theorem dX1_whyNotSit_8 : decode cX1_whyNotSit 8 = .ok (.iconst 1, 1) := by decide +kernel
theorem dX1_whyNotSit_9 : decode cX1_whyNotSit 9 = .ok (.ireturn, 1) := by decide +kernel
theorem dX1_whyNotSit_10 : decode cX1_whyNotSit 10 = .ok (.aload_n 0, 1) := by decide +kernel
theorem dX1_whyNotSit_11 : decode cX1_whyNotSit 11 = .ok (.getfield 47, 3) := by decide +kernel
theorem dX1_whyNotSit_14 : decode cX1_whyNotSit 14 = .ok (.aload_n 0, 1) := by decide +kernel
theorem dX1_whyNotSit_15 : decode cX1_whyNotSit 15 = .ok (.getfield 19, 3) := by decide +kernel
theorem dX1_whyNotSit_18 : decode cX1_whyNotSit 18 = .ok (.iload_n 1, 1) := by decide +kernel
theorem dX1_whyNotSit_19 : decode cX1_whyNotSit 19 = .ok (.iaload, 1) := by decide +kernel
theorem dX1_whyNotSit_20 : decode cX1_whyNotSit 20 = .ok (.ishr, 1) := by decide +kernel
theorem dX1_whyNotSit_21 : decode cX1_whyNotSit 21 = .ok (.iconst 1, 1) := by decide +kernel
theorem dX1_whyNotSit_22 : decode cX1_whyNotSit 22 = .ok (.iand, 1) := by decide +kernel
theorem dX1_whyNotSit_23 : decode cX1_whyNotSit 23 = .ok (.iconst 1, 1) := by decide +kernel
theorem dX1_whyNotSit_24 : decode cX1_whyNotSit 24 = .ok (.if_icmp .ne 5, 3) := by decide +kernel
theorem dX1_whyNotSit_27 : decode cX1_whyNotSit 27 = .ok (.iconst 2, 1) := by decide +kernel
theorem dX1_whyNotSit_28 : decode cX1_whyNotSit 28 = .ok (.ireturn, 1) := by decide +kernel
theorem dX1_whyNotSit_29 : decode cX1_whyNotSit 29 = .ok (.aload_n 0, 1) := by decide +kernel
theorem dX1_whyNotSit_30 : decode cX1_whyNotSit 30 = .ok (.getfield 53, 3) := by decide +kernel
theorem dX1_whyNotSit_33 : decode cX1_whyNotSit 33 = .ok (.aload_n 0, 1) := by decide +kernel
theorem dX1_whyNotSit_34 : decode cX1_whyNotSit 34 = .ok (.getfield 19, 3) := by decide +kernel
theorem dX1_whyNotSit_37 : decode cX1_whyNotSit 37 = .ok (.iload_n 1, 1) := by decide +kernel
theorem dX1_whyNotSit_38 : decode cX1_whyNotSit 38 = .ok (.iaload, 1) := by decide +kernel
theorem dX1_whyNotSit_39 : decode cX1_whyNotSit 39 = .ok (.ishr, 1) := by decide +kernel
theorem dX1_whyNotSit_40 : decode cX1_whyNotSit 40 = .ok (.iconst 1, 1) := by decide +kernel
theorem dX1_whyNotSit_41 : decode cX1_whyNotSit 41 = .ok (.iand, 1) := by decide +kernel
theorem dX1_whyNotSit_42 : decode cX1_whyNotSit 42 = .ok (.iconst 1, 1) := by decide +kernel
theorem dX1_whyNotSit_43 : decode cX1_whyNotSit 43 = .ok (.if_icmp .ne 7, 3) := by decide +kernel
theorem dX1_whyNotSit_46 : decode cX1_whyNotSit 46 = .ok (.iconst 3, 1) := by decide +kernel
theorem dX1_whyNotSit_47 : decode cX1_whyNotSit 47 = .ok (.goto 4, 3) := by decide +kernel
theorem dX1_whyNotSit_50 : decode cX1_whyNotSit 50 = .ok (.iconst 0, 1) := by decide +kernel
theorem dX1_whyNotSit_51 : decode cX1_whyNotSit 51 = .ok (.ireturn, 1) := by decide +kernel
theorem dX1_whyNotRise_0 : decode cX1_whyNotRise 0 = .ok (.aload_n 0, 1) := by decide +kernel
theorem dX1_whyNotRise_1 : decode cX1_whyNotRise 1 = .ok (.iload_n 1, 1) := by decide +kernel
theorem dX1_whyNotRise_2 : decode cX1_whyNotRise 2 = .ok (.invokevirtual 74, 3) := by decide +kernel
theorem dX1_whyNotRise_5 : decode cX1_whyNotRise 5 = .ok (.ifCond .eq 7, 3) := by decide +kernel
theorem dX1_whyNotRise_8 : decode cX1_whyNotRise 8 = .ok (.iconst 0, 1) := by decide +kernel
theorem dX1_whyNotRise_9 : decode cX1_whyNotRise 9 = .ok (.goto 4, 3) := by decide +kernel
theorem dX1_whyNotRise_12 : decode cX1_whyNotRise 12 = .ok (.iconst 1, 1) := by decide +kernel
theorem dX1_whyNotRise_13 : decode cX1_whyNotRise 13 = .ok (.ireturn, 1) := by decide +kernel
theorem dX1_whyNotServe_0 : decode cX1_whyNotServe 0 = .ok (.aload_n 0, 1) := by decide +kernel
theorem dX1_whyNotServe_1 : decode cX1_whyNotServe 1 = .ok (.getfield 50, 3) := by decide +kernel
theorem dX1_whyNotServe_4 : decode cX1_whyNotServe 4 = .ok (.iload_n 1, 1) := by decide +kernel
theorem dX1_whyNotServe_5 : decode cX1_whyNotServe 5 = .ok (.ishr, 1) := by decide +kernel
theorem dX1_whyNotServe_6 : decode cX1_whyNotServe 6 = .ok (.iconst 1, 1) := by decide +kernel
theorem dX1_whyNotServe_7 : decode cX1_whyNotServe 7 = .ok (.iand, 1) := by decide +kernel
theorem dX1_whyNotServe_8 : decode cX1_whyNotServe 8 = .ok (.iconst 1, 1) := by decide +kernel
theorem dX1_whyNotServe_9 : decode cX1_whyNotServe 9 = .ok (.if_icmp .ne 7, 3) := by decide +kernel
theorem dX1_whyNotServe_12 : decode cX1_whyNotServe 12 = .ok (.iconst 1, 1) := by decide +kernel
theorem dX1_whyNotServe_13 : decode cX1_whyNotServe 13 = .ok (.goto 4, 3) := by decide +kernel
theorem dX1_whyNotServe_16 : decode cX1_whyNotServe 16 = .ok (.iconst 0, 1) := by decide +kernel
theorem dX1_whyNotServe_17 : decode cX1_whyNotServe 17 = .ok (.ireturn, 1) := by decide +kernel
theorem dX1_whyNotHide_0 : decode cX1_whyNotHide 0 = .ok (.aload_n 0, 1) := by decide +kernel
theorem dX1_whyNotHide_1 : decode cX1_whyNotHide 1 = .ok (.getfield 9, 3) := by decide +kernel
theorem dX1_whyNotHide_4 : decode cX1_whyNotHide 4 = .ok (.iload_n 1, 1) := by decide +kernel
theorem dX1_whyNotHide_5 : decode cX1_whyNotHide 5 = .ok (.invokevirtual 78, 3) := by decide +kernel
theorem dX1_whyNotHide_8 : decode cX1_whyNotHide 8 = .ok (.ifCond .ne 5, 3) := by decide +kernel
theorem dX1_whyNotHide_11 : decode cX1_whyNotHide 11 = .ok (.iconst 1, 1) := by decide +kernel
theorem dX1_whyNotHide_12 : decode cX1_whyNotHide 12 = .ok (.ireturn, 1) := by decide +kernel
theorem dX1_whyNotHide_13 : decode cX1_whyNotHide 13 = .ok (.aload_n 0, 1) := by decide +kernel
theorem dX1_whyNotHide_14 : decode cX1_whyNotHide 14 = .ok (.getfield 53, 3) := by decide +kernel
theorem dX1_whyNotHide_17 : decode cX1_whyNotHide 17 = .ok (.iload_n 1, 1) := by decide +kernel
theorem dX1_whyNotHide_18 : decode cX1_whyNotHide 18 = .ok (.ishr, 1) := by decide +kernel
theorem dX1_whyNotHide_19 : decode cX1_whyNotHide 19 = .ok (.iconst 1, 1) := by decide +kernel
theorem dX1_whyNotHide_20 : decode cX1_whyNotHide 20 = .ok (.iand, 1) := by decide +kernel
theorem dX1_whyNotHide_21 : decode cX1_whyNotHide 21 = .ok (.iconst 1, 1) := by decide +kernel
theorem dX1_whyNotHide_22 : decode cX1_whyNotHide 22 = .ok (.if_icmp .ne 5, 3) := by decide +kernel
theorem dX1_whyNotHide_25 : decode cX1_whyNotHide 25 = .ok (.iconst 2, 1) := by decide +kernel
theorem dX1_whyNotHide_26 : decode cX1_whyNotHide 26 = .ok (.ireturn, 1) := by decide +kernel
theorem dX1_whyNotHide_27 : decode cX1_whyNotHide 27 = .ok (.aload_n 0, 1) := by decide +kernel
theorem dX1_whyNotHide_28 : decode cX1_whyNotHide 28 = .ok (.getfield 47, 3) := by decide +kernel
theorem dX1_whyNotHide_31 : decode cX1_whyNotHide 31 = .ok (.iload_n 1, 1) := by decide +kernel
theorem dX1_whyNotHide_32 : decode cX1_whyNotHide 32 = .ok (.ishr, 1) := by decide +kernel
theorem dX1_whyNotHide_33 : decode cX1_whyNotHide 33 = .ok (.iconst 1, 1) := by decide +kernel
theorem dX1_whyNotHide_34 : decode cX1_whyNotHide 34 = .ok (.iand, 1) := by decide +kernel
theorem dX1_whyNotHide_35 : decode cX1_whyNotHide 35 = .ok (.iconst 1, 1) := by decide +kernel
theorem dX1_whyNotHide_36 : decode cX1_whyNotHide 36 = .ok (.if_icmp .ne 5, 3) := by decide +kernel
theorem dX1_whyNotHide_39 : decode cX1_whyNotHide 39 = .ok (.iconst 3, 1) := by decide +kernel
theorem dX1_whyNotHide_40 : decode cX1_whyNotHide 40 = .ok (.ireturn, 1) := by decide +kernel
theorem dX1_whyNotHide_41 : decode cX1_whyNotHide 41 = .ok (.aload_n 0, 1) := by decide +kernel
theorem dX1_whyNotHide_42 : decode cX1_whyNotHide 42 = .ok (.invokevirtual 81, 3) := by decide +kernel
theorem dX1_whyNotHide_45 : decode cX1_whyNotHide 45 = .ok (.iconst 1, 1) := by decide +kernel
theorem dX1_whyNotHide_46 : decode cX1_whyNotHide 46 = .ok (.if_icmp .ge 7, 3) := by decide +kernel
theorem dX1_whyNotHide_49 : decode cX1_whyNotHide 49 = .ok (.iconst 4, 1) := by decide +kernel
theorem dX1_whyNotHide_50 : decode cX1_whyNotHide 50 = .ok (.goto 4, 3) := by decide +kernel
theorem dX1_whyNotHide_53 : decode cX1_whyNotHide 53 = .ok (.iconst 0, 1) := by decide +kernel
theorem dX1_whyNotHide_54 : decode cX1_whyNotHide 54 = .ok (.ireturn, 1) := by decide +kernel
theorem dX1_whyNotShow_0 : decode cX1_whyNotShow 0 = .ok (.aload_n 0, 1) := by decide +kernel
theorem dX1_whyNotShow_1 : decode cX1_whyNotShow 1 = .ok (.getfield 9, 3) := by decide +kernel
theorem dX1_whyNotShow_4 : decode cX1_whyNotShow 4 = .ok (.iload_n 1, 1) := by decide +kernel
theorem dX1_whyNotShow_5 : decode cX1_whyNotShow 5 = .ok (.invokevirtual 78, 3) := by decide +kernel
theorem dX1_whyNotShow_8 : decode cX1_whyNotShow 8 = .ok (.ifCond .ne 5, 3) := by decide +kernel
theorem dX1_whyNotShow_11 : decode cX1_whyNotShow 11 = .ok (.iconst 1, 1) := by decide +kernel
theorem dX1_whyNotShow_12 : decode cX1_whyNotShow 12 = .ok (.ireturn, 1) := by decide +kernel
theorem dX1_whyNotShow_13 : decode cX1_whyNotShow 13 = .ok (.aload_n 0, 1) := by decide +kernel
theorem dX1_whyNotShow_14 : decode cX1_whyNotShow 14 = .ok (.getfield 53, 3) := by decide +kernel
theorem dX1_whyNotShow_17 : decode cX1_whyNotShow 17 = .ok (.iload_n 1, 1) := by decide +kernel
theorem dX1_whyNotShow_18 : decode cX1_whyNotShow 18 = .ok (.ishr, 1) := by decide +kernel
theorem dX1_whyNotShow_19 : decode cX1_whyNotShow 19 = .ok (.iconst 1, 1) := by decide +kernel
theorem dX1_whyNotShow_20 : decode cX1_whyNotShow 20 = .ok (.iand, 1) := by decide +kernel
theorem dX1_whyNotShow_21 : decode cX1_whyNotShow 21 = .ok (.iconst 1, 1) := by decide +kernel
theorem dX1_whyNotShow_22 : decode cX1_whyNotShow 22 = .ok (.if_icmp .ne 7, 3) := by decide +kernel
theorem dX1_whyNotShow_25 : decode cX1_whyNotShow 25 = .ok (.iconst 0, 1) := by decide +kernel
theorem dX1_whyNotShow_26 : decode cX1_whyNotShow 26 = .ok (.goto 4, 3) := by decide +kernel
theorem dX1_whyNotShow_29 : decode cX1_whyNotShow 29 = .ok (.iconst 2, 1) := by decide +kernel
theorem dX1_whyNotShow_30 : decode cX1_whyNotShow 30 = .ok (.ireturn, 1) := by decide +kernel
theorem dX1_canStillBeHidden_0 : decode cX1_canStillBeHidden 0 = .ok (.aload_n 0, 1) := by decide +kernel
theorem dX1_canStillBeHidden_1 : decode cX1_canStillBeHidden 1 = .ok (.getfield 9, 3) := by decide +kernel
theorem dX1_canStillBeHidden_4 : decode cX1_canStillBeHidden 4 = .ok (.getfield 85, 3) := by decide +kernel
theorem dX1_canStillBeHidden_7 : decode cX1_canStillBeHidden 7 = .ok (.aload_n 0, 1) := by decide +kernel
theorem dX1_canStillBeHidden_8 : decode cX1_canStillBeHidden 8 = .ok (.getfield 53, 3) := by decide +kernel
theorem dX1_canStillBeHidden_11 : decode cX1_canStillBeHidden 11 = .ok (.invokestatic 88, 3) := by decide +kernel
theorem dX1_canStillBeHidden_14 : decode cX1_canStillBeHidden 14 = .ok (.isub, 1) := by decide +kernel
theorem dX1_canStillBeHidden_15 : decode cX1_canStillBeHidden 15 = .ok (.aload_n 0, 1) := by decide +kernel
theorem dX1_canStillBeHidden_16 : decode cX1_canStillBeHidden 16 = .ok (.getfield 9, 3) := by decide +kernel
theorem dX1_canStillBeHidden_19 : decode cX1_canStillBeHidden 19 = .ok (.getfield 71, 3) := by decide +kernel
theorem dX1_canStillBeHidden_22 : decode cX1_canStillBeHidden 22 = .ok (.isub, 1) := by decide +kernel
theorem dX1_canStillBeHidden_23 : decode cX1_canStillBeHidden 23 = .ok (.ireturn, 1) := by decide +kernel
theorem dX1_sitDown_0 : decode cX1_sitDown 0 = .ok (.aload_n 0, 1) := by decide +kernel
theorem dX1_sitDown_1 : decode cX1_sitDown 1 = .ok (.dup, 1) := by decide +kernel
theorem dX1_sitDown_2 : decode cX1_sitDown 2 = .ok (.getfield 44, 3) := by decide +kernel
theorem dX1_sitDown_5 : decode cX1_sitDown 5 = .ok (.iconst 1, 1) := by decide +kernel
theorem dX1_sitDown_6 : decode cX1_sitDown 6 = .ok (.iload_n 1, 1) := by decide +kernel
theorem dX1_sitDown_7 : decode cX1_sitDown 7 = .ok (.ishl, 1) := by decide +kernel
theorem dX1_sitDown_8 : decode cX1_sitDown 8 = .ok (.ior, 1) := by decide +kernel
theorem dX1_sitDown_9 : decode cX1_sitDown 9 = .ok (.putfield 44, 3) := by decide +kernel
theorem dX1_sitDown_12 : decode cX1_sitDown 12 = .ok (.aload_n 0, 1) := by decide +kernel
theorem dX1_sitDown_13 : decode cX1_sitDown 13 = .ok (.dup, 1) := by decide +kernel
theorem dX1_sitDown_14 : decode cX1_sitDown 14 = .ok (.getfield 47, 3) := by decide +kernel
theorem dX1_sitDown_17 : decode cX1_sitDown 17 = .ok (.iconst 1, 1) := by decide +kernel
theorem dX1_sitDown_18 : decode cX1_sitDown 18 = .ok (.aload_n 0, 1) := by decide +kernel
theorem dX1_sitDown_19 : decode cX1_sitDown 19 = .ok (.getfield 19, 3) := by decide +kernel
theorem dX1_sitDown_22 : decode cX1_sitDown 22 = .ok (.iload_n 1, 1) := by decide +kernel
theorem dX1_sitDown_23 : decode cX1_sitDown 23 = .ok (.iaload, 1) := by decide +kernel
theorem dX1_sitDown_24 : decode cX1_sitDown 24 = .ok (.ishl, 1) := by decide +kernel
theorem dX1_sitDown_25 : decode cX1_sitDown 25 = .ok (.ior, 1) := by decide +kernel
theorem dX1_sitDown_26 : decode cX1_sitDown 26 = .ok (.putfield 47, 3) := by decide +kernel
theorem dX1_sitDown_29 : decode cX1_sitDown 29 = .ok (.aload_n 0, 1) := by decide +kernel
theorem dX1_sitDown_30 : decode cX1_sitDown 30 = .ok (.getfield 9, 3) := by decide +kernel
theorem dX1_sitDown_33 : decode cX1_sitDown 33 = .ok (.getfield 71, 3) := by decide +kernel
theorem dX1_sitDown_36 : decode cX1_sitDown 36 = .ok (.aload_n 0, 1) := by decide +kernel
theorem dX1_sitDown_37 : decode cX1_sitDown 37 = .ok (.getfield 44, 3) := by decide +kernel
theorem dX1_sitDown_40 : decode cX1_sitDown 40 = .ok (.invokestatic 88, 3) := by decide +kernel
theorem dX1_sitDown_43 : decode cX1_sitDown 43 = .ok (.isub, 1) := by decide +kernel
theorem dX1_sitDown_44 : decode cX1_sitDown 44 = .ok (.iconst 1, 1) := by decide +kernel
theorem dX1_sitDown_45 : decode cX1_sitDown 45 = .ok (.if_icmp .ne 7, 3) := by decide +kernel
theorem dX1_sitDown_48 : decode cX1_sitDown 48 = .ok (.aload_n 0, 1) := by decide +kernel
theorem dX1_sitDown_49 : decode cX1_sitDown 49 = .ok (.invokevirtual 94, 3) := by decide +kernel
theorem dX1_sitDown_52 : decode cX1_sitDown 52 = .ok (.return_, 1) := by decide +kernel
theorem dX1_standUp_0 : decode cX1_standUp 0 = .ok (.aload_n 0, 1) := by decide +kernel
theorem dX1_standUp_1 : decode cX1_standUp 1 = .ok (.dup, 1) := by decide +kernel
theorem dX1_standUp_2 : decode cX1_standUp 2 = .ok (.getfield 44, 3) := by decide +kernel
theorem dX1_standUp_5 : decode cX1_standUp 5 = .ok (.iconst 1, 1) := by decide +kernel
theorem dX1_standUp_6 : decode cX1_standUp 6 = .ok (.iload_n 1, 1) := by decide +kernel
theorem dX1_standUp_7 : decode cX1_standUp 7 = .ok (.ishl, 1) := by decide +kernel
theorem dX1_standUp_8 : decode cX1_standUp 8 = .ok (.iconst (-1), 1) := by decide +kernel
theorem dX1_standUp_9 : decode cX1_standUp 9 = .ok (.ixor, 1) := by decide +kernel
theorem dX1_standUp_10 : decode cX1_standUp 10 = .ok (.iand, 1) := by decide +kernel
theorem dX1_standUp_11 : decode cX1_standUp 11 = .ok (.putfield 44, 3) := by decide +kernel
theorem dX1_standUp_14 : decode cX1_standUp 14 = .ok (.aload_n 0, 1) := by decide +kernel
theorem dX1_standUp_15 : decode cX1_standUp 15 = .ok (.dup, 1) := by decide +kernel
theorem dX1_standUp_16 : decode cX1_standUp 16 = .ok (.getfield 47, 3) := by decide +kernel
theorem dX1_standUp_19 : decode cX1_standUp 19 = .ok (.iconst 1, 1) := by decide +kernel
theorem dX1_standUp_20 : decode cX1_standUp 20 = .ok (.aload_n 0, 1) := by decide +kernel
theorem dX1_standUp_21 : decode cX1_standUp 21 = .ok (.getfield 19, 3) := by decide +kernel
theorem dX1_standUp_24 : decode cX1_standUp 24 = .ok (.iload_n 1, 1) := by decide +kernel
theorem dX1_standUp_25 : decode cX1_standUp 25 = .ok (.iaload, 1) := by decide +kernel
theorem dX1_standUp_26 : decode cX1_standUp 26 = .ok (.ishl, 1) := by decide +kernel
theorem dX1_standUp_27 : decode cX1_standUp 27 = .ok (.iconst (-1), 1) := by decide +kernel
theorem dX1_standUp_28 : decode cX1_standUp 28 = .ok (.ixor, 1) := by decide +kernel
theorem dX1_standUp_29 : decode cX1_standUp 29 = .ok (.iand, 1) := by decide +kernel
theorem dX1_standUp_30 : decode cX1_standUp 30 = .ok (.putfield 47, 3) := by decide +kernel
theorem dX1_standUp_33 : decode cX1_standUp 33 = .ok (.return_, 1) := by decide +kernel
theorem dX1_bring_0 : decode cX1_bring 0 = .ok (.aload_n 0, 1) := by decide +kernel
theorem dX1_bring_1 : decode cX1_bring 1 = .ok (.dup, 1) := by decide +kernel
theorem dX1_bring_2 : decode cX1_bring 2 = .ok (.getfield 50, 3) := by decide +kernel
theorem dX1_bring_5 : decode cX1_bring 5 = .ok (.iconst 1, 1) := by decide +kernel
theorem dX1_bring_6 : decode cX1_bring 6 = .ok (.iload_n 1, 1) := by decide +kernel
theorem dX1_bring_7 : decode cX1_bring 7 = .ok (.ishl, 1) := by decide +kernel
theorem dX1_bring_8 : decode cX1_bring 8 = .ok (.ior, 1) := by decide +kernel
theorem dX1_bring_9 : decode cX1_bring 9 = .ok (.putfield 50, 3) := by decide +kernel
theorem dX1_bring_12 : decode cX1_bring 12 = .ok (.return_, 1) := by decide +kernel
theorem dX1_endFeast_0 : decode cX1_endFeast 0 = .ok (.aload_n 0, 1) := by decide +kernel
theorem dX1_endFeast_1 : decode cX1_endFeast 1 = .ok (.getfield 9, 3) := by decide +kernel
theorem dX1_endFeast_4 : decode cX1_endFeast 4 = .ok (.aload_n 0, 1) := by decide +kernel
theorem dX1_endFeast_5 : decode cX1_endFeast 5 = .ok (.getfield 50, 3) := by decide +kernel
theorem dX1_endFeast_8 : decode cX1_endFeast 8 = .ok (.invokevirtual 97, 3) := by decide +kernel
theorem dX1_endFeast_11 : decode cX1_endFeast 11 = .ok (.istore_n 1, 1) := by decide +kernel
theorem dX1_endFeast_12 : decode cX1_endFeast 12 = .ok (.iconst 0, 1) := by decide +kernel
theorem dX1_endFeast_13 : decode cX1_endFeast 13 = .ok (.istore_n 2, 1) := by decide +kernel
theorem dX1_endFeast_14 : decode cX1_endFeast 14 = .ok (.iload_n 2, 1) := by decide +kernel
theorem dX1_endFeast_15 : decode cX1_endFeast 15 = .ok (.aload_n 0, 1) := by decide +kernel
theorem dX1_endFeast_16 : decode cX1_endFeast 16 = .ok (.getfield 9, 3) := by decide +kernel
theorem dX1_endFeast_19 : decode cX1_endFeast 19 = .ok (.getfield 71, 3) := by decide +kernel
theorem dX1_endFeast_22 : decode cX1_endFeast 22 = .ok (.if_icmp .ge 53, 3) := by decide +kernel
theorem dX1_endFeast_25 : decode cX1_endFeast 25 = .ok (.aload_n 0, 1) := by decide +kernel
theorem dX1_endFeast_26 : decode cX1_endFeast 26 = .ok (.iload_n 2, 1) := by decide +kernel
theorem dX1_endFeast_27 : decode cX1_endFeast 27 = .ok (.invokevirtual 74, 3) := by decide +kernel
theorem dX1_endFeast_30 : decode cX1_endFeast 30 = .ok (.ifCond .ne 32, 3) := by decide +kernel
theorem dX1_endFeast_33 : decode cX1_endFeast 33 = .ok (.aload_n 0, 1) := by decide +kernel
theorem dX1_endFeast_34 : decode cX1_endFeast 34 = .ok (.iload_n 2, 1) := by decide +kernel
theorem dX1_endFeast_35 : decode cX1_endFeast 35 = .ok (.putfield 34, 3) := by decide +kernel
theorem dX1_endFeast_38 : decode cX1_endFeast 38 = .ok (.aload_n 0, 1) := by decide +kernel
theorem dX1_endFeast_39 : decode cX1_endFeast 39 = .ok (.getfield 25, 3) := by decide +kernel
theorem dX1_endFeast_42 : decode cX1_endFeast 42 = .ok (.iload_n 2, 1) := by decide +kernel
theorem dX1_endFeast_43 : decode cX1_endFeast 43 = .ok (.dup2, 1) := by decide +kernel
theorem dX1_endFeast_44 : decode cX1_endFeast 44 = .ok (.iaload, 1) := by decide +kernel
theorem dX1_endFeast_45 : decode cX1_endFeast 45 = .ok (.iconst 1, 1) := by decide +kernel
theorem dX1_endFeast_46 : decode cX1_endFeast 46 = .ok (.iadd, 1) := by decide +kernel
theorem dX1_endFeast_47 : decode cX1_endFeast 47 = .ok (.iastore, 1) := by decide +kernel
theorem dX1_endFeast_48 : decode cX1_endFeast 48 = .ok (.aload_n 0, 1) := by decide +kernel
theorem dX1_endFeast_49 : decode cX1_endFeast 49 = .ok (.aload_n 0, 1) := by decide +kernel
theorem dX1_endFeast_50 : decode cX1_endFeast 50 = .ok (.getfield 9, 3) := by decide +kernel
theorem dX1_endFeast_53 : decode cX1_endFeast 53 = .ok (.getfield 100, 3) := by decide +kernel
theorem dX1_endFeast_56 : decode cX1_endFeast 56 = .ok (.iload_n 2, 1) := by decide +kernel
theorem dX1_endFeast_57 : decode cX1_endFeast 57 = .ok (.iaload, 1) := by decide +kernel
theorem dX1_endFeast_58 : decode cX1_endFeast 58 = .ok (.iload_n 1, 1) := by decide +kernel
theorem dX1_endFeast_59 : decode cX1_endFeast 59 = .ok (.invokevirtual 103, 3) := by decide +kernel
theorem dX1_endFeast_62 : decode cX1_endFeast 62 = .ok (.aload_n 0, 1) := by decide +kernel
theorem dX1_endFeast_63 : decode cX1_endFeast 63 = .ok (.getfield 22, 3) := by decide +kernel
theorem dX1_endFeast_66 : decode cX1_endFeast 66 = .ok (.iload_n 2, 1) := by decide +kernel
theorem dX1_endFeast_67 : decode cX1_endFeast 67 = .ok (.iconst 0, 1) := by decide +kernel
theorem dX1_endFeast_68 : decode cX1_endFeast 68 = .ok (.iastore, 1) := by decide +kernel
theorem dX1_endFeast_69 : decode cX1_endFeast 69 = .ok (.iinc 2 1, 3) := by decide +kernel
theorem dX1_endFeast_72 : decode cX1_endFeast 72 = .ok (.goto (-58), 3) := by decide +kernel
theorem dX1_endFeast_75 : decode cX1_endFeast 75 = .ok (.aload_n 0, 1) := by decide +kernel
theorem dX1_endFeast_76 : decode cX1_endFeast 76 = .ok (.iconst 0, 1) := by decide +kernel
theorem dX1_endFeast_77 : decode cX1_endFeast 77 = .ok (.putfield 44, 3) := by decide +kernel
theorem dX1_endFeast_80 : decode cX1_endFeast 80 = .ok (.aload_n 0, 1) := by decide +kernel
theorem dX1_endFeast_81 : decode cX1_endFeast 81 = .ok (.iconst 0, 1) := by decide +kernel
theorem dX1_endFeast_82 : decode cX1_endFeast 82 = .ok (.putfield 47, 3) := by decide +kernel
theorem dX1_endFeast_85 : decode cX1_endFeast 85 = .ok (.aload_n 0, 1) := by decide +kernel
theorem dX1_endFeast_86 : decode cX1_endFeast 86 = .ok (.iconst 0, 1) := by decide +kernel
theorem dX1_endFeast_87 : decode cX1_endFeast 87 = .ok (.putfield 50, 3) := by decide +kernel
theorem dX1_endFeast_90 : decode cX1_endFeast 90 = .ok (.aload_n 0, 1) := by decide +kernel
theorem dX1_endFeast_91 : decode cX1_endFeast 91 = .ok (.dup, 1) := by decide +kernel
theorem dX1_endFeast_92 : decode cX1_endFeast 92 = .ok (.getfield 59, 3) := by decide +kernel
theorem dX1_endFeast_95 : decode cX1_endFeast 95 = .ok (.iconst 1, 1) := by decide +kernel
theorem dX1_endFeast_96 : decode cX1_endFeast 96 = .ok (.iadd, 1) := by decide +kernel
theorem dX1_endFeast_97 : decode cX1_endFeast 97 = .ok (.putfield 59, 3) := by decide +kernel
theorem dX1_endFeast_100 : decode cX1_endFeast 100 = .ok (.return_, 1) := by decide +kernel
theorem dX1_settle_0 : decode cX1_settle 0 = .ok (.iload_n 2, 1) := by decide +kernel
theorem dX1_settle_1 : decode cX1_settle 1 = .ok (.aload_n 0, 1) := by decide +kernel
theorem dX1_settle_2 : decode cX1_settle 2 = .ok (.getfield 15, 3) := by decide +kernel
theorem dX1_settle_5 : decode cX1_settle 5 = .ok (.iload_n 1, 1) := by decide +kernel
theorem dX1_settle_6 : decode cX1_settle 6 = .ok (.iaload, 1) := by decide +kernel
theorem dX1_settle_7 : decode cX1_settle 7 = .ok (.if_icmp .ge 7, 3) := by decide +kernel
theorem dX1_settle_10 : decode cX1_settle 10 = .ok (.iload_n 2, 1) := by decide +kernel
theorem dX1_settle_11 : decode cX1_settle 11 = .ok (.goto 9, 3) := by decide +kernel
theorem dX1_settle_14 : decode cX1_settle 14 = .ok (.aload_n 0, 1) := by decide +kernel
theorem dX1_settle_15 : decode cX1_settle 15 = .ok (.getfield 15, 3) := by decide +kernel
theorem dX1_settle_18 : decode cX1_settle 18 = .ok (.iload_n 1, 1) := by decide +kernel
theorem dX1_settle_19 : decode cX1_settle 19 = .ok (.iaload, 1) := by decide +kernel
theorem dX1_settle_20 : decode cX1_settle 20 = .ok (.istore_n 3, 1) := by decide +kernel
theorem dX1_settle_21 : decode cX1_settle 21 = .ok (.aload_n 0, 1) := by decide +kernel
theorem dX1_settle_22 : decode cX1_settle 22 = .ok (.getfield 28, 3) := by decide +kernel
theorem dX1_settle_25 : decode cX1_settle 25 = .ok (.iload_n 1, 1) := by decide +kernel
theorem dX1_settle_26 : decode cX1_settle 26 = .ok (.iaload, 1) := by decide +kernel
theorem dX1_settle_27 : decode cX1_settle 27 = .ok (.iload_n 2, 1) := by decide +kernel
theorem dX1_settle_28 : decode cX1_settle 28 = .ok (.iadd, 1) := by decide +kernel
theorem dX1_settle_29 : decode cX1_settle 29 = .ok (.iload_n 3, 1) := by decide +kernel
theorem dX1_settle_30 : decode cX1_settle 30 = .ok (.isub, 1) := by decide +kernel
theorem dX1_settle_31 : decode cX1_settle 31 = .ok (.istore 4, 2) := by decide +kernel
theorem dX1_settle_33 : decode cX1_settle 33 = .ok (.aload_n 0, 1) := by decide +kernel
theorem dX1_settle_34 : decode cX1_settle 34 = .ok (.getfield 15, 3) := by decide +kernel
theorem dX1_settle_37 : decode cX1_settle 37 = .ok (.iload_n 1, 1) := by decide +kernel
theorem dX1_settle_38 : decode cX1_settle 38 = .ok (.dup2, 1) := by decide +kernel
theorem dX1_settle_39 : decode cX1_settle 39 = .ok (.iaload, 1) := by decide +kernel
theorem dX1_settle_40 : decode cX1_settle 40 = .ok (.iload_n 3, 1) := by decide +kernel
theorem dX1_settle_41 : decode cX1_settle 41 = .ok (.isub, 1) := by decide +kernel
theorem dX1_settle_42 : decode cX1_settle 42 = .ok (.iastore, 1) := by decide +kernel
theorem dX1_settle_43 : decode cX1_settle 43 = .ok (.aload_n 0, 1) := by decide +kernel
theorem dX1_settle_44 : decode cX1_settle 44 = .ok (.getfield 31, 3) := by decide +kernel
theorem dX1_settle_47 : decode cX1_settle 47 = .ok (.iload_n 1, 1) := by decide +kernel
theorem dX1_settle_48 : decode cX1_settle 48 = .ok (.dup2, 1) := by decide +kernel
theorem dX1_settle_49 : decode cX1_settle 49 = .ok (.iaload, 1) := by decide +kernel
theorem dX1_settle_50 : decode cX1_settle 50 = .ok (.iload_n 3, 1) := by decide +kernel
theorem dX1_settle_51 : decode cX1_settle 51 = .ok (.iadd, 1) := by decide +kernel
theorem dX1_settle_52 : decode cX1_settle 52 = .ok (.iastore, 1) := by decide +kernel
theorem dX1_settle_53 : decode cX1_settle 53 = .ok (.aload_n 0, 1) := by decide +kernel
theorem dX1_settle_54 : decode cX1_settle 54 = .ok (.dup, 1) := by decide +kernel
theorem dX1_settle_55 : decode cX1_settle 55 = .ok (.getfield 62, 3) := by decide +kernel
theorem dX1_settle_58 : decode cX1_settle 58 = .ok (.iload_n 3, 1) := by decide +kernel
theorem dX1_settle_59 : decode cX1_settle 59 = .ok (.iadd, 1) := by decide +kernel
theorem dX1_settle_60 : decode cX1_settle 60 = .ok (.putfield 62, 3) := by decide +kernel
theorem dX1_settle_63 : decode cX1_settle 63 = .ok (.aload_n 0, 1) := by decide +kernel
theorem dX1_settle_64 : decode cX1_settle 64 = .ok (.getfield 28, 3) := by decide +kernel
theorem dX1_settle_67 : decode cX1_settle 67 = .ok (.iload_n 1, 1) := by decide +kernel
theorem dX1_settle_68 : decode cX1_settle 68 = .ok (.iload 4, 2) := by decide +kernel
theorem dX1_settle_70 : decode cX1_settle 70 = .ok (.ldc 107, 2) := by decide +kernel
theorem dX1_settle_72 : decode cX1_settle 72 = .ok (.if_icmp .ge 8, 3) := by decide +kernel
theorem dX1_settle_75 : decode cX1_settle 75 = .ok (.iload 4, 2) := by decide +kernel
theorem dX1_settle_77 : decode cX1_settle 77 = .ok (.goto 5, 3) := by decide +kernel
theorem dX1_settle_80 : decode cX1_settle 80 = .ok (.ldc 107, 2) := by decide +kernel
theorem dX1_settle_82 : decode cX1_settle 82 = .ok (.iastore, 1) := by decide +kernel
theorem dX1_settle_83 : decode cX1_settle 83 = .ok (.return_, 1) := by decide +kernel
theorem dX1_goRound_0 : decode cX1_goRound 0 = .ok (.aload_n 0, 1) := by decide +kernel
theorem dX1_goRound_1 : decode cX1_goRound 1 = .ok (.getfield 59, 3) := by decide +kernel
theorem dX1_goRound_4 : decode cX1_goRound 4 = .ok (.istore_n 2, 1) := by decide +kernel
theorem dX1_goRound_5 : decode cX1_goRound 5 = .ok (.aload_n 0, 1) := by decide +kernel
theorem dX1_goRound_6 : decode cX1_goRound 6 = .ok (.dup, 1) := by decide +kernel
theorem dX1_goRound_7 : decode cX1_goRound 7 = .ok (.getfield 56, 3) := by decide +kernel
theorem dX1_goRound_10 : decode cX1_goRound 10 = .ok (.iconst 1, 1) := by decide +kernel
theorem dX1_goRound_11 : decode cX1_goRound 11 = .ok (.iadd, 1) := by decide +kernel
theorem dX1_goRound_12 : decode cX1_goRound 12 = .ok (.putfield 56, 3) := by decide +kernel
theorem dX1_goRound_15 : decode cX1_goRound 15 = .ok (.iconst 0, 1) := by decide +kernel
theorem dX1_goRound_16 : decode cX1_goRound 16 = .ok (.istore_n 3, 1) := by decide +kernel
theorem dX1_goRound_17 : decode cX1_goRound 17 = .ok (.iload_n 3, 1) := by decide +kernel
theorem dX1_goRound_18 : decode cX1_goRound 18 = .ok (.aload_n 0, 1) := by decide +kernel
theorem dX1_goRound_19 : decode cX1_goRound 19 = .ok (.getfield 9, 3) := by decide +kernel
theorem dX1_goRound_22 : decode cX1_goRound 22 = .ok (.getfield 71, 3) := by decide +kernel
theorem dX1_goRound_25 : decode cX1_goRound 25 = .ok (.if_icmp .ge 92, 3) := by decide +kernel
theorem dX1_goRound_28 : decode cX1_goRound 28 = .ok (.aload_n 0, 1) := by decide +kernel
theorem dX1_goRound_29 : decode cX1_goRound 29 = .ok (.getfield 59, 3) := by decide +kernel
theorem dX1_goRound_32 : decode cX1_goRound 32 = .ok (.iload_n 2, 1) := by decide +kernel
theorem dX1_goRound_33 : decode cX1_goRound 33 = .ok (.if_icmp .ne 84, 3) := by decide +kernel
theorem dX1_goRound_36 : decode cX1_goRound 36 = .ok (.aload_n 0, 1) := by decide +kernel
theorem dX1_goRound_37 : decode cX1_goRound 37 = .ok (.iload_n 3, 1) := by decide +kernel
theorem dX1_goRound_38 : decode cX1_goRound 38 = .ok (.invokevirtual 74, 3) := by decide +kernel
theorem dX1_goRound_41 : decode cX1_goRound 41 = .ok (.ifCond .ne 70, 3) := by decide +kernel
theorem dX1_goRound_44 : decode cX1_goRound 44 = .ok (.aload_n 0, 1) := by decide +kernel
theorem dX1_goRound_45 : decode cX1_goRound 45 = .ok (.getfield 19, 3) := by decide +kernel
theorem dX1_goRound_48 : decode cX1_goRound 48 = .ok (.iload_n 3, 1) := by decide +kernel
theorem dX1_goRound_49 : decode cX1_goRound 49 = .ok (.aload_n 0, 1) := by decide +kernel
theorem dX1_goRound_50 : decode cX1_goRound 50 = .ok (.iload_n 3, 1) := by decide +kernel
theorem dX1_goRound_51 : decode cX1_goRound 51 = .ok (.iconst 1, 1) := by decide +kernel
theorem dX1_goRound_52 : decode cX1_goRound 52 = .ok (.invokevirtual 108, 3) := by decide +kernel
theorem dX1_goRound_55 : decode cX1_goRound 55 = .ok (.iastore, 1) := by decide +kernel
theorem dX1_goRound_56 : decode cX1_goRound 56 = .ok (.aload_n 0, 1) := by decide +kernel
theorem dX1_goRound_57 : decode cX1_goRound 57 = .ok (.getfield 22, 3) := by decide +kernel
theorem dX1_goRound_60 : decode cX1_goRound 60 = .ok (.iload_n 3, 1) := by decide +kernel
theorem dX1_goRound_61 : decode cX1_goRound 61 = .ok (.bipush 99, 2) := by decide +kernel
theorem dX1_goRound_63 : decode cX1_goRound 63 = .ok (.aload_n 0, 1) := by decide +kernel
theorem dX1_goRound_64 : decode cX1_goRound 64 = .ok (.getfield 22, 3) := by decide +kernel
theorem dX1_goRound_67 : decode cX1_goRound 67 = .ok (.iload_n 3, 1) := by decide +kernel
theorem dX1_goRound_68 : decode cX1_goRound 68 = .ok (.iaload, 1) := by decide +kernel
theorem dX1_goRound_69 : decode cX1_goRound 69 = .ok (.iconst 1, 1) := by decide +kernel
theorem dX1_goRound_70 : decode cX1_goRound 70 = .ok (.iadd, 1) := by decide +kernel
theorem dX1_goRound_71 : decode cX1_goRound 71 = .ok (.invokestatic 112, 3) := by decide +kernel
theorem dX1_goRound_74 : decode cX1_goRound 74 = .ok (.iastore, 1) := by decide +kernel
theorem dX1_goRound_75 : decode cX1_goRound 75 = .ok (.iload_n 3, 1) := by decide +kernel
theorem dX1_goRound_76 : decode cX1_goRound 76 = .ok (.iload_n 1, 1) := by decide +kernel
theorem dX1_goRound_77 : decode cX1_goRound 77 = .ok (.if_icmp .eq 34, 3) := by decide +kernel
theorem dX1_goRound_80 : decode cX1_goRound 80 = .ok (.aload_n 0, 1) := by decide +kernel
theorem dX1_goRound_81 : decode cX1_goRound 81 = .ok (.getfield 22, 3) := by decide +kernel
theorem dX1_goRound_84 : decode cX1_goRound 84 = .ok (.iload_n 3, 1) := by decide +kernel
theorem dX1_goRound_85 : decode cX1_goRound 85 = .ok (.iaload, 1) := by decide +kernel
theorem dX1_goRound_86 : decode cX1_goRound 86 = .ok (.aload_n 0, 1) := by decide +kernel
theorem dX1_goRound_87 : decode cX1_goRound 87 = .ok (.getfield 9, 3) := by decide +kernel
theorem dX1_goRound_90 : decode cX1_goRound 90 = .ok (.getfield 117, 3) := by decide +kernel
theorem dX1_goRound_93 : decode cX1_goRound 93 = .ok (.iload_n 3, 1) := by decide +kernel
theorem dX1_goRound_94 : decode cX1_goRound 94 = .ok (.iaload, 1) := by decide +kernel
theorem dX1_goRound_95 : decode cX1_goRound 95 = .ok (.if_icmp .lt 16, 3) := by decide +kernel
theorem dX1_goRound_98 : decode cX1_goRound 98 = .ok (.aload_n 0, 1) := by decide +kernel
theorem dX1_goRound_99 : decode cX1_goRound 99 = .ok (.iload_n 3, 1) := by decide +kernel
theorem dX1_goRound_100 : decode cX1_goRound 100 = .ok (.invokevirtual 120, 3) := by decide +kernel
theorem dX1_goRound_103 : decode cX1_goRound 103 = .ok (.ifCond .ne 8, 3) := by decide +kernel
theorem dX1_goRound_106 : decode cX1_goRound 106 = .ok (.aload_n 0, 1) := by decide +kernel
theorem dX1_goRound_107 : decode cX1_goRound 107 = .ok (.iload_n 3, 1) := by decide +kernel
theorem dX1_goRound_108 : decode cX1_goRound 108 = .ok (.invokevirtual 123, 3) := by decide +kernel
theorem dX1_goRound_111 : decode cX1_goRound 111 = .ok (.iinc 3 1, 3) := by decide +kernel
theorem dX1_goRound_114 : decode cX1_goRound 114 = .ok (.goto (-97), 3) := by decide +kernel
theorem dX1_goRound_117 : decode cX1_goRound 117 = .ok (.aload_n 0, 1) := by decide +kernel
theorem dX1_goRound_118 : decode cX1_goRound 118 = .ok (.getfield 59, 3) := by decide +kernel
theorem dX1_goRound_121 : decode cX1_goRound 121 = .ok (.iload_n 2, 1) := by decide +kernel
theorem dX1_goRound_122 : decode cX1_goRound 122 = .ok (.if_icmp .eq 7, 3) := by decide +kernel
theorem dX1_goRound_125 : decode cX1_goRound 125 = .ok (.iconst 1, 1) := by decide +kernel
theorem dX1_goRound_126 : decode cX1_goRound 126 = .ok (.goto 4, 3) := by decide +kernel
theorem dX1_goRound_129 : decode cX1_goRound 129 = .ok (.iconst 0, 1) := by decide +kernel
theorem dX1_goRound_130 : decode cX1_goRound 130 = .ok (.ireturn, 1) := by decide +kernel
theorem dX1_onFrom_0 : decode cX1_onFrom 0 = .ok (.aload_n 0, 1) := by decide +kernel
theorem dX1_onFrom_1 : decode cX1_onFrom 1 = .ok (.getfield 9, 3) := by decide +kernel
theorem dX1_onFrom_4 : decode cX1_onFrom 4 = .ok (.getfield 85, 3) := by decide +kernel
theorem dX1_onFrom_7 : decode cX1_onFrom 7 = .ok (.istore_n 3, 1) := by decide +kernel
theorem dX1_onFrom_8 : decode cX1_onFrom 8 = .ok (.iload_n 3, 1) := by decide +kernel
theorem dX1_onFrom_9 : decode cX1_onFrom 9 = .ok (.ifCond .le 26, 3) := by decide +kernel
theorem dX1_onFrom_12 : decode cX1_onFrom 12 = .ok (.aload_n 0, 1) := by decide +kernel
theorem dX1_onFrom_13 : decode cX1_onFrom 13 = .ok (.getfield 19, 3) := by decide +kernel
theorem dX1_onFrom_16 : decode cX1_onFrom 16 = .ok (.iload_n 1, 1) := by decide +kernel
theorem dX1_onFrom_17 : decode cX1_onFrom 17 = .ok (.iaload, 1) := by decide +kernel
theorem dX1_onFrom_18 : decode cX1_onFrom 18 = .ok (.iload_n 2, 1) := by decide +kernel
theorem dX1_onFrom_19 : decode cX1_onFrom 19 = .ok (.aload_n 0, 1) := by decide +kernel
theorem dX1_onFrom_20 : decode cX1_onFrom 20 = .ok (.getfield 9, 3) := by decide +kernel
theorem dX1_onFrom_23 : decode cX1_onFrom 23 = .ok (.getfield 127, 3) := by decide +kernel
theorem dX1_onFrom_26 : decode cX1_onFrom 26 = .ok (.iload_n 1, 1) := by decide +kernel
theorem dX1_onFrom_27 : decode cX1_onFrom 27 = .ok (.iaload, 1) := by decide +kernel
theorem dX1_onFrom_28 : decode cX1_onFrom 28 = .ok (.imul, 1) := by decide +kernel
theorem dX1_onFrom_29 : decode cX1_onFrom 29 = .ok (.iadd, 1) := by decide +kernel
theorem dX1_onFrom_30 : decode cX1_onFrom 30 = .ok (.iload_n 3, 1) := by decide +kernel
theorem dX1_onFrom_31 : decode cX1_onFrom 31 = .ok (.irem, 1) := by decide +kernel
theorem dX1_onFrom_32 : decode cX1_onFrom 32 = .ok (.goto 4, 3) := by decide +kernel
theorem dX1_onFrom_35 : decode cX1_onFrom 35 = .ok (.iconst 0, 1) := by decide +kernel
theorem dX1_onFrom_36 : decode cX1_onFrom 36 = .ok (.ireturn, 1) := by decide +kernel
theorem dX1_roundsTill_0 : decode cX1_roundsTill 0 = .ok (.iconst 0, 1) := by decide +kernel
theorem dX1_roundsTill_1 : decode cX1_roundsTill 1 = .ok (.istore_n 3, 1) := by decide +kernel
theorem dX1_roundsTill_2 : decode cX1_roundsTill 2 = .ok (.iload_n 3, 1) := by decide +kernel
theorem dX1_roundsTill_3 : decode cX1_roundsTill 3 = .ok (.aload_n 0, 1) := by decide +kernel
theorem dX1_roundsTill_4 : decode cX1_roundsTill 4 = .ok (.getfield 9, 3) := by decide +kernel
theorem dX1_roundsTill_7 : decode cX1_roundsTill 7 = .ok (.getfield 85, 3) := by decide +kernel
theorem dX1_roundsTill_10 : decode cX1_roundsTill 10 = .ok (.if_icmp .ge 21, 3) := by decide +kernel
theorem dX1_roundsTill_13 : decode cX1_roundsTill 13 = .ok (.aload_n 0, 1) := by decide +kernel
theorem dX1_roundsTill_14 : decode cX1_roundsTill 14 = .ok (.iload_n 1, 1) := by decide +kernel
theorem dX1_roundsTill_15 : decode cX1_roundsTill 15 = .ok (.iload_n 3, 1) := by decide +kernel
theorem dX1_roundsTill_16 : decode cX1_roundsTill 16 = .ok (.invokevirtual 108, 3) := by decide +kernel
theorem dX1_roundsTill_19 : decode cX1_roundsTill 19 = .ok (.iload_n 2, 1) := by decide +kernel
theorem dX1_roundsTill_20 : decode cX1_roundsTill 20 = .ok (.if_icmp .ne 5, 3) := by decide +kernel
theorem dX1_roundsTill_23 : decode cX1_roundsTill 23 = .ok (.iload_n 3, 1) := by decide +kernel
theorem dX1_roundsTill_24 : decode cX1_roundsTill 24 = .ok (.ireturn, 1) := by decide +kernel
theorem dX1_roundsTill_25 : decode cX1_roundsTill 25 = .ok (.iinc 3 1, 3) := by decide +kernel
theorem dX1_roundsTill_28 : decode cX1_roundsTill 28 = .ok (.goto (-26), 3) := by decide +kernel
theorem dX1_roundsTill_31 : decode cX1_roundsTill 31 = .ok (.iconst (-1), 1) := by decide +kernel
theorem dX1_roundsTill_32 : decode cX1_roundsTill 32 = .ok (.ireturn, 1) := by decide +kernel
theorem dX1_goDrawn_0 : decode cX1_goDrawn 0 = .ok (.aload_n 0, 1) := by decide +kernel
theorem dX1_goDrawn_1 : decode cX1_goDrawn 1 = .ok (.iload_n 2, 1) := by decide +kernel
theorem dX1_goDrawn_2 : decode cX1_goDrawn 2 = .ok (.putfield 130, 3) := by decide +kernel
theorem dX1_goDrawn_5 : decode cX1_goDrawn 5 = .ok (.iconst 0, 1) := by decide +kernel
theorem dX1_goDrawn_6 : decode cX1_goDrawn 6 = .ok (.istore_n 3, 1) := by decide +kernel
theorem dX1_goDrawn_7 : decode cX1_goDrawn 7 = .ok (.iload_n 3, 1) := by decide +kernel
theorem dX1_goDrawn_8 : decode cX1_goDrawn 8 = .ok (.iload_n 1, 1) := by decide +kernel
theorem dX1_goDrawn_9 : decode cX1_goDrawn 9 = .ok (.if_icmp .ge 29, 3) := by decide +kernel
theorem dX1_goDrawn_12 : decode cX1_goDrawn 12 = .ok (.aload_n 0, 1) := by decide +kernel
theorem dX1_goDrawn_13 : decode cX1_goDrawn 13 = .ok (.getfield 56, 3) := by decide +kernel
theorem dX1_goDrawn_16 : decode cX1_goDrawn 16 = .ok (.sipush 400, 3) := by decide +kernel
theorem dX1_goDrawn_19 : decode cX1_goDrawn 19 = .ok (.if_icmp .ge 19, 3) := by decide +kernel
theorem dX1_goDrawn_22 : decode cX1_goDrawn 22 = .ok (.aload_n 0, 1) := by decide +kernel
theorem dX1_goDrawn_23 : decode cX1_goDrawn 23 = .ok (.invokevirtual 133, 3) := by decide +kernel
theorem dX1_goDrawn_26 : decode cX1_goDrawn 26 = .ok (.aload_n 0, 1) := by decide +kernel
theorem dX1_goDrawn_27 : decode cX1_goDrawn 27 = .ok (.iconst (-1), 1) := by decide +kernel
theorem dX1_goDrawn_28 : decode cX1_goDrawn 28 = .ok (.invokevirtual 136, 3) := by decide +kernel
theorem dX1_goDrawn_31 : decode cX1_goDrawn 31 = .ok (.pop, 1) := by decide +kernel
theorem dX1_goDrawn_32 : decode cX1_goDrawn 32 = .ok (.iinc 3 1, 3) := by decide +kernel
theorem dX1_goDrawn_35 : decode cX1_goDrawn 35 = .ok (.goto (-28), 3) := by decide +kernel
theorem dX1_goDrawn_38 : decode cX1_goDrawn 38 = .ok (.iload_n 3, 1) := by decide +kernel
theorem dX1_goDrawn_39 : decode cX1_goDrawn 39 = .ok (.ireturn, 1) := by decide +kernel
theorem dX1_drawDeeds_0 : decode cX1_drawDeeds 0 = .ok (.aload_n 0, 1) := by decide +kernel
theorem dX1_drawDeeds_1 : decode cX1_drawDeeds 1 = .ok (.getfield 9, 3) := by decide +kernel
theorem dX1_drawDeeds_4 : decode cX1_drawDeeds 4 = .ok (.getfield 139, 3) := by decide +kernel
theorem dX1_drawDeeds_7 : decode cX1_drawDeeds 7 = .ok (.ifCond .le 26, 3) := by decide +kernel
theorem dX1_drawDeeds_10 : decode cX1_drawDeeds 10 = .ok (.aload_n 0, 1) := by decide +kernel
theorem dX1_drawDeeds_11 : decode cX1_drawDeeds 11 = .ok (.iconst 2, 1) := by decide +kernel
theorem dX1_drawDeeds_12 : decode cX1_drawDeeds 12 = .ok (.invokevirtual 142, 3) := by decide +kernel
theorem dX1_drawDeeds_15 : decode cX1_drawDeeds 15 = .ok (.ifCond .ne 18, 3) := by decide +kernel
theorem dX1_drawDeeds_18 : decode cX1_drawDeeds 18 = .ok (.aload_n 0, 1) := by decide +kernel
theorem dX1_drawDeeds_19 : decode cX1_drawDeeds 19 = .ok (.aload_n 0, 1) := by decide +kernel
theorem dX1_drawDeeds_20 : decode cX1_drawDeeds 20 = .ok (.aload_n 0, 1) := by decide +kernel
theorem dX1_drawDeeds_21 : decode cX1_drawDeeds 21 = .ok (.getfield 9, 3) := by decide +kernel
theorem dX1_drawDeeds_24 : decode cX1_drawDeeds 24 = .ok (.getfield 139, 3) := by decide +kernel
theorem dX1_drawDeeds_27 : decode cX1_drawDeeds 27 = .ok (.invokevirtual 142, 3) := by decide +kernel
theorem dX1_drawDeeds_30 : decode cX1_drawDeeds 30 = .ok (.invokevirtual 145, 3) := by decide +kernel
theorem dX1_drawDeeds_33 : decode cX1_drawDeeds 33 = .ok (.iconst 0, 1) := by decide +kernel
theorem dX1_drawDeeds_34 : decode cX1_drawDeeds 34 = .ok (.istore_n 1, 1) := by decide +kernel
theorem dX1_drawDeeds_35 : decode cX1_drawDeeds 35 = .ok (.iload_n 1, 1) := by decide +kernel
theorem dX1_drawDeeds_36 : decode cX1_drawDeeds 36 = .ok (.aload_n 0, 1) := by decide +kernel
theorem dX1_drawDeeds_37 : decode cX1_drawDeeds 37 = .ok (.getfield 9, 3) := by decide +kernel
theorem dX1_drawDeeds_40 : decode cX1_drawDeeds 40 = .ok (.getfield 71, 3) := by decide +kernel
theorem dX1_drawDeeds_43 : decode cX1_drawDeeds 43 = .ok (.if_icmp .ge 54, 3) := by decide +kernel
theorem dX1_drawDeeds_46 : decode cX1_drawDeeds 46 = .ok (.aload_n 0, 1) := by decide +kernel
theorem dX1_drawDeeds_47 : decode cX1_drawDeeds 47 = .ok (.bipush 8, 2) := by decide +kernel
theorem dX1_drawDeeds_49 : decode cX1_drawDeeds 49 = .ok (.invokevirtual 142, 3) := by decide +kernel
theorem dX1_drawDeeds_52 : decode cX1_drawDeeds 52 = .ok (.istore_n 2, 1) := by decide +kernel
theorem dX1_drawDeeds_53 : decode cX1_drawDeeds 53 = .ok (.iload_n 2, 1) := by decide +kernel
theorem dX1_drawDeeds_54 : decode cX1_drawDeeds 54 = .ok (.ifCond .ne 19, 3) := by decide +kernel
theorem dX1_drawDeeds_57 : decode cX1_drawDeeds 57 = .ok (.aload_n 0, 1) := by decide +kernel
theorem dX1_drawDeeds_58 : decode cX1_drawDeeds 58 = .ok (.iload_n 1, 1) := by decide +kernel
theorem dX1_drawDeeds_59 : decode cX1_drawDeeds 59 = .ok (.invokevirtual 120, 3) := by decide +kernel
theorem dX1_drawDeeds_62 : decode cX1_drawDeeds 62 = .ok (.ifCond .ne 11, 3) := by decide +kernel
theorem dX1_drawDeeds_65 : decode cX1_drawDeeds 65 = .ok (.aload_n 0, 1) := by decide +kernel
theorem dX1_drawDeeds_66 : decode cX1_drawDeeds 66 = .ok (.iload_n 1, 1) := by decide +kernel
theorem dX1_drawDeeds_67 : decode cX1_drawDeeds 67 = .ok (.invokevirtual 123, 3) := by decide +kernel
theorem dX1_drawDeeds_70 : decode cX1_drawDeeds 70 = .ok (.goto 21, 3) := by decide +kernel
theorem dX1_drawDeeds_73 : decode cX1_drawDeeds 73 = .ok (.iload_n 2, 1) := by decide +kernel
theorem dX1_drawDeeds_74 : decode cX1_drawDeeds 74 = .ok (.iconst 1, 1) := by decide +kernel
theorem dX1_drawDeeds_75 : decode cX1_drawDeeds 75 = .ok (.if_icmp .ne 16, 3) := by decide +kernel
theorem dX1_drawDeeds_78 : decode cX1_drawDeeds 78 = .ok (.aload_n 0, 1) := by decide +kernel
theorem dX1_drawDeeds_79 : decode cX1_drawDeeds 79 = .ok (.iload_n 1, 1) := by decide +kernel
theorem dX1_drawDeeds_80 : decode cX1_drawDeeds 80 = .ok (.invokevirtual 74, 3) := by decide +kernel
theorem dX1_drawDeeds_83 : decode cX1_drawDeeds 83 = .ok (.ifCond .eq 8, 3) := by decide +kernel
theorem dX1_drawDeeds_86 : decode cX1_drawDeeds 86 = .ok (.aload_n 0, 1) := by decide +kernel
theorem dX1_drawDeeds_87 : decode cX1_drawDeeds 87 = .ok (.iload_n 1, 1) := by decide +kernel
theorem dX1_drawDeeds_88 : decode cX1_drawDeeds 88 = .ok (.invokevirtual 148, 3) := by decide +kernel
theorem dX1_drawDeeds_91 : decode cX1_drawDeeds 91 = .ok (.iinc 1 1, 3) := by decide +kernel
theorem dX1_drawDeeds_94 : decode cX1_drawDeeds 94 = .ok (.goto (-59), 3) := by decide +kernel
theorem dX1_drawDeeds_97 : decode cX1_drawDeeds 97 = .ok (.return_, 1) := by decide +kernel
theorem dX1_draw_0 : decode cX1_draw 0 = .ok (.aload_n 0, 1) := by decide +kernel
theorem dX1_draw_1 : decode cX1_draw 1 = .ok (.aload_n 0, 1) := by decide +kernel
theorem dX1_draw_2 : decode cX1_draw 2 = .ok (.getfield 130, 3) := by decide +kernel
theorem dX1_draw_5 : decode cX1_draw 5 = .ok (.ldc 151, 2) := by decide +kernel
theorem dX1_draw_7 : decode cX1_draw 7 = .ok (.imul, 1) := by decide +kernel
theorem dX1_draw_8 : decode cX1_draw 8 = .ok (.sipush 12345, 3) := by decide +kernel
theorem dX1_draw_11 : decode cX1_draw 11 = .ok (.iadd, 1) := by decide +kernel
theorem dX1_draw_12 : decode cX1_draw 12 = .ok (.putfield 130, 3) := by decide +kernel
theorem dX1_draw_15 : decode cX1_draw 15 = .ok (.iload_n 1, 1) := by decide +kernel
theorem dX1_draw_16 : decode cX1_draw 16 = .ok (.ifCond .le 15, 3) := by decide +kernel
theorem dX1_draw_19 : decode cX1_draw 19 = .ok (.aload_n 0, 1) := by decide +kernel
theorem dX1_draw_20 : decode cX1_draw 20 = .ok (.getfield 130, 3) := by decide +kernel
theorem dX1_draw_23 : decode cX1_draw 23 = .ok (.bipush 8, 2) := by decide +kernel
theorem dX1_draw_25 : decode cX1_draw 25 = .ok (.iushr, 1) := by decide +kernel
theorem dX1_draw_26 : decode cX1_draw 26 = .ok (.iload_n 1, 1) := by decide +kernel
theorem dX1_draw_27 : decode cX1_draw 27 = .ok (.irem, 1) := by decide +kernel
theorem dX1_draw_28 : decode cX1_draw 28 = .ok (.goto 4, 3) := by decide +kernel
theorem dX1_draw_31 : decode cX1_draw 31 = .ok (.iconst 0, 1) := by decide +kernel
theorem dX1_draw_32 : decode cX1_draw 32 = .ok (.ireturn, 1) := by decide +kernel
theorem dX2_init_0 : decode cX2_init 0 = .ok (.aload_n 0, 1) := by decide +kernel
theorem dX2_init_1 : decode cX2_init 1 = .ok (.invokespecial 3, 3) := by decide +kernel
theorem dX2_init_4 : decode cX2_init 4 = .ok (.aload_n 0, 1) := by decide +kernel
theorem dX2_init_5 : decode cX2_init 5 = .ok (.bipush 7, 2) := by decide +kernel
theorem dX2_init_7 : decode cX2_init 7 = .ok (.newarray .long, 2) := by decide +kernel
theorem dX2_init_9 : decode cX2_init 9 = .ok (.putfield 9, 3) := by decide +kernel
theorem dX2_init_12 : decode cX2_init 12 = .ok (.aload_n 0, 1) := by decide +kernel
theorem dX2_init_13 : decode cX2_init 13 = .ok (.bipush 7, 2) := by decide +kernel
theorem dX2_init_15 : decode cX2_init 15 = .ok (.newarray .int, 2) := by decide +kernel
theorem dX2_init_17 : decode cX2_init 17 = .ok (.putfield 15, 3) := by decide +kernel
theorem dX2_init_20 : decode cX2_init 20 = .ok (.aload_n 0, 1) := by decide +kernel
theorem dX2_init_21 : decode cX2_init 21 = .ok (.bipush 7, 2) := by decide +kernel
theorem dX2_init_23 : decode cX2_init 23 = .ok (.newarray .int, 2) := by decide +kernel
theorem dX2_init_25 : decode cX2_init 25 = .ok (.putfield 19, 3) := by decide +kernel
theorem dX2_init_28 : decode cX2_init 28 = .ok (.aload_n 0, 1) := by decide +kernel
theorem dX2_init_29 : decode cX2_init 29 = .ok (.bipush 7, 2) := by decide +kernel
theorem dX2_init_31 : decode cX2_init 31 = .ok (.newarray .int, 2) := by decide +kernel
theorem dX2_init_33 : decode cX2_init 33 = .ok (.putfield 22, 3) := by decide +kernel
theorem dX2_init_36 : decode cX2_init 36 = .ok (.aload_n 0, 1) := by decide +kernel
theorem dX2_init_37 : decode cX2_init 37 = .ok (.bipush 7, 2) := by decide +kernel
theorem dX2_init_39 : decode cX2_init 39 = .ok (.newarray .int, 2) := by decide +kernel
theorem dX2_init_41 : decode cX2_init 41 = .ok (.putfield 25, 3) := by decide +kernel
theorem dX2_init_44 : decode cX2_init 44 = .ok (.aload_n 0, 1) := by decide +kernel
theorem dX2_init_45 : decode cX2_init 45 = .ok (.bipush 7, 2) := by decide +kernel
theorem dX2_init_47 : decode cX2_init 47 = .ok (.newarray .int, 2) := by decide +kernel
theorem dX2_init_49 : decode cX2_init 49 = .ok (.putfield 28, 3) := by decide +kernel
theorem dX2_init_52 : decode cX2_init 52 = .ok (.aload_n 0, 1) := by decide +kernel
theorem dX2_init_53 : decode cX2_init 53 = .ok (.bipush 6, 2) := by decide +kernel
theorem dX2_init_55 : decode cX2_init 55 = .ok (.newarray .long, 2) := by decide +kernel
theorem dX2_init_57 : decode cX2_init 57 = .ok (.putfield 31, 3) := by decide +kernel
theorem dX2_init_60 : decode cX2_init 60 = .ok (.aload_n 0, 1) := by decide +kernel
theorem dX2_init_61 : decode cX2_init 61 = .ok (.bipush 6, 2) := by decide +kernel
theorem dX2_init_63 : decode cX2_init 63 = .ok (.newarray .int, 2) := by decide +kernel
theorem dX2_init_65 : decode cX2_init 65 = .ok (.putfield 34, 3) := by decide +kernel
theorem dX2_init_68 : decode cX2_init 68 = .ok (.aload_n 0, 1) := by decide +kernel
theorem dX2_init_69 : decode cX2_init 69 = .ok (.bipush 6, 2) := by decide +kernel
theorem dX2_init_71 : decode cX2_init 71 = .ok (.putfield 37, 3) := by decide +kernel
theorem dX2_init_74 : decode cX2_init 74 = .ok (.return_, 1) := by decide +kernel
theorem dX2_clear_0 : decode cX2_clear 0 = .ok (.aload_n 0, 1) := by decide +kernel
theorem dX2_clear_1 : decode cX2_clear 1 = .ok (.bipush 6, 2) := by decide +kernel
theorem dX2_clear_3 : decode cX2_clear 3 = .ok (.putfield 37, 3) := by decide +kernel
theorem dX2_clear_6 : decode cX2_clear 6 = .ok (.aload_n 0, 1) := by decide +kernel
theorem dX2_clear_7 : decode cX2_clear 7 = .ok (.iconst 0, 1) := by decide +kernel
theorem dX2_clear_8 : decode cX2_clear 8 = .ok (.putfield 41, 3) := by decide +kernel
theorem dX2_clear_11 : decode cX2_clear 11 = .ok (.aload_n 0, 1) := by decide +kernel
theorem dX2_clear_12 : decode cX2_clear 12 = .ok (.iconst 0, 1) := by decide +kernel
theorem dX2_clear_13 : decode cX2_clear 13 = .ok (.putfield 44, 3) := by decide +kernel
theorem dX2_clear_16 : decode cX2_clear 16 = .ok (.return_, 1) := by decide +kernel
theorem dX2_copyFrom_0 : decode cX2_copyFrom 0 = .ok (.aload_n 1, 1) := by decide +kernel
theorem dX2_copyFrom_1 : decode cX2_copyFrom 1 = .ok (.getfield 9, 3) := by decide +kernel
theorem dX2_copyFrom_4 : decode cX2_copyFrom 4 = .ok (.iconst 0, 1) := by decide +kernel
theorem dX2_copyFrom_5 : decode cX2_copyFrom 5 = .ok (.aload_n 0, 1) := by decide +kernel
theorem dX2_copyFrom_6 : decode cX2_copyFrom 6 = .ok (.getfield 9, 3) := by decide +kernel
theorem dX2_copyFrom_9 : decode cX2_copyFrom 9 = .ok (.iconst 0, 1) := by decide +kernel
theorem dX2_copyFrom_10 : decode cX2_copyFrom 10 = .ok (.bipush 7, 2) := by decide +kernel
theorem dX2_copyFrom_12 : decode cX2_copyFrom 12 = .ok (.invokestatic 47, 3) := by decide +kernel
theorem dX2_copyFrom_15 : decode cX2_copyFrom 15 = .ok (.aload_n 1, 1) := by decide +kernel
theorem dX2_copyFrom_16 : decode cX2_copyFrom 16 = .ok (.getfield 15, 3) := by decide +kernel
theorem dX2_copyFrom_19 : decode cX2_copyFrom 19 = .ok (.iconst 0, 1) := by decide +kernel
theorem dX2_copyFrom_20 : decode cX2_copyFrom 20 = .ok (.aload_n 0, 1) := by decide +kernel
theorem dX2_copyFrom_21 : decode cX2_copyFrom 21 = .ok (.getfield 15, 3) := by decide +kernel
theorem dX2_copyFrom_24 : decode cX2_copyFrom 24 = .ok (.iconst 0, 1) := by decide +kernel
theorem dX2_copyFrom_25 : decode cX2_copyFrom 25 = .ok (.bipush 7, 2) := by decide +kernel
theorem dX2_copyFrom_27 : decode cX2_copyFrom 27 = .ok (.invokestatic 47, 3) := by decide +kernel
theorem dX2_copyFrom_30 : decode cX2_copyFrom 30 = .ok (.aload_n 1, 1) := by decide +kernel
theorem dX2_copyFrom_31 : decode cX2_copyFrom 31 = .ok (.getfield 19, 3) := by decide +kernel
theorem dX2_copyFrom_34 : decode cX2_copyFrom 34 = .ok (.iconst 0, 1) := by decide +kernel
theorem dX2_copyFrom_35 : decode cX2_copyFrom 35 = .ok (.aload_n 0, 1) := by decide +kernel
theorem dX2_copyFrom_36 : decode cX2_copyFrom 36 = .ok (.getfield 19, 3) := by decide +kernel
theorem dX2_copyFrom_39 : decode cX2_copyFrom 39 = .ok (.iconst 0, 1) := by decide +kernel
theorem dX2_copyFrom_40 : decode cX2_copyFrom 40 = .ok (.bipush 7, 2) := by decide +kernel
theorem dX2_copyFrom_42 : decode cX2_copyFrom 42 = .ok (.invokestatic 47, 3) := by decide +kernel
theorem dX2_copyFrom_45 : decode cX2_copyFrom 45 = .ok (.aload_n 1, 1) := by decide +kernel
theorem dX2_copyFrom_46 : decode cX2_copyFrom 46 = .ok (.getfield 22, 3) := by decide +kernel
theorem dX2_copyFrom_49 : decode cX2_copyFrom 49 = .ok (.iconst 0, 1) := by decide +kernel
theorem dX2_copyFrom_50 : decode cX2_copyFrom 50 = .ok (.aload_n 0, 1) := by decide +kernel
theorem dX2_copyFrom_51 : decode cX2_copyFrom 51 = .ok (.getfield 22, 3) := by decide +kernel
theorem dX2_copyFrom_54 : decode cX2_copyFrom 54 = .ok (.iconst 0, 1) := by decide +kernel
theorem dX2_copyFrom_55 : decode cX2_copyFrom 55 = .ok (.bipush 7, 2) := by decide +kernel
theorem dX2_copyFrom_57 : decode cX2_copyFrom 57 = .ok (.invokestatic 47, 3) := by decide +kernel
theorem dX2_copyFrom_60 : decode cX2_copyFrom 60 = .ok (.aload_n 1, 1) := by decide +kernel
theorem dX2_copyFrom_61 : decode cX2_copyFrom 61 = .ok (.getfield 25, 3) := by decide +kernel
theorem dX2_copyFrom_64 : decode cX2_copyFrom 64 = .ok (.iconst 0, 1) := by decide +kernel
theorem dX2_copyFrom_65 : decode cX2_copyFrom 65 = .ok (.aload_n 0, 1) := by decide +kernel
theorem dX2_copyFrom_66 : decode cX2_copyFrom 66 = .ok (.getfield 25, 3) := by decide +kernel
theorem dX2_copyFrom_69 : decode cX2_copyFrom 69 = .ok (.iconst 0, 1) := by decide +kernel
theorem dX2_copyFrom_70 : decode cX2_copyFrom 70 = .ok (.bipush 7, 2) := by decide +kernel
theorem dX2_copyFrom_72 : decode cX2_copyFrom 72 = .ok (.invokestatic 47, 3) := by decide +kernel
theorem dX2_copyFrom_75 : decode cX2_copyFrom 75 = .ok (.aload_n 1, 1) := by decide +kernel
theorem dX2_copyFrom_76 : decode cX2_copyFrom 76 = .ok (.getfield 28, 3) := by decide +kernel
theorem dX2_copyFrom_79 : decode cX2_copyFrom 79 = .ok (.iconst 0, 1) := by decide +kernel
theorem dX2_copyFrom_80 : decode cX2_copyFrom 80 = .ok (.aload_n 0, 1) := by decide +kernel
theorem dX2_copyFrom_81 : decode cX2_copyFrom 81 = .ok (.getfield 28, 3) := by decide +kernel
theorem dX2_copyFrom_84 : decode cX2_copyFrom 84 = .ok (.iconst 0, 1) := by decide +kernel
theorem dX2_copyFrom_85 : decode cX2_copyFrom 85 = .ok (.bipush 7, 2) := by decide +kernel
theorem dX2_copyFrom_87 : decode cX2_copyFrom 87 = .ok (.invokestatic 47, 3) := by decide +kernel
theorem dX2_copyFrom_90 : decode cX2_copyFrom 90 = .ok (.aload_n 1, 1) := by decide +kernel
theorem dX2_copyFrom_91 : decode cX2_copyFrom 91 = .ok (.getfield 31, 3) := by decide +kernel
theorem dX2_copyFrom_94 : decode cX2_copyFrom 94 = .ok (.iconst 0, 1) := by decide +kernel
theorem dX2_copyFrom_95 : decode cX2_copyFrom 95 = .ok (.aload_n 0, 1) := by decide +kernel
theorem dX2_copyFrom_96 : decode cX2_copyFrom 96 = .ok (.getfield 31, 3) := by decide +kernel
theorem dX2_copyFrom_99 : decode cX2_copyFrom 99 = .ok (.iconst 0, 1) := by decide +kernel
theorem dX2_copyFrom_100 : decode cX2_copyFrom 100 = .ok (.bipush 6, 2) := by decide +kernel
theorem dX2_copyFrom_102 : decode cX2_copyFrom 102 = .ok (.invokestatic 47, 3) := by decide +kernel
theorem dX2_copyFrom_105 : decode cX2_copyFrom 105 = .ok (.aload_n 1, 1) := by decide +kernel
theorem dX2_copyFrom_106 : decode cX2_copyFrom 106 = .ok (.getfield 34, 3) := by decide +kernel
theorem dX2_copyFrom_109 : decode cX2_copyFrom 109 = .ok (.iconst 0, 1) := by decide +kernel
theorem dX2_copyFrom_110 : decode cX2_copyFrom 110 = .ok (.aload_n 0, 1) := by decide +kernel
theorem dX2_copyFrom_111 : decode cX2_copyFrom 111 = .ok (.getfield 34, 3) := by decide +kernel
theorem dX2_copyFrom_114 : decode cX2_copyFrom 114 = .ok (.iconst 0, 1) := by decide +kernel
theorem dX2_copyFrom_115 : decode cX2_copyFrom 115 = .ok (.bipush 6, 2) := by decide +kernel
theorem dX2_copyFrom_117 : decode cX2_copyFrom 117 = .ok (.invokestatic 47, 3) := by decide +kernel
theorem dX2_copyFrom_120 : decode cX2_copyFrom 120 = .ok (.aload_n 0, 1) := by decide +kernel
theorem dX2_copyFrom_121 : decode cX2_copyFrom 121 = .ok (.aload_n 1, 1) := by decide +kernel
theorem dX2_copyFrom_122 : decode cX2_copyFrom 122 = .ok (.getfield 37, 3) := by decide +kernel
theorem dX2_copyFrom_125 : decode cX2_copyFrom 125 = .ok (.putfield 37, 3) := by decide +kernel
theorem dX2_copyFrom_128 : decode cX2_copyFrom 128 = .ok (.aload_n 0, 1) := by decide +kernel
theorem dX2_copyFrom_129 : decode cX2_copyFrom 129 = .ok (.aload_n 1, 1) := by decide +kernel
theorem dX2_copyFrom_130 : decode cX2_copyFrom 130 = .ok (.getfield 41, 3) := by decide +kernel
theorem dX2_copyFrom_133 : decode cX2_copyFrom 133 = .ok (.putfield 41, 3) := by decide +kernel
theorem dX2_copyFrom_136 : decode cX2_copyFrom 136 = .ok (.aload_n 0, 1) := by decide +kernel
theorem dX2_copyFrom_137 : decode cX2_copyFrom 137 = .ok (.aload_n 1, 1) := by decide +kernel
theorem dX2_copyFrom_138 : decode cX2_copyFrom 138 = .ok (.getfield 44, 3) := by decide +kernel
theorem dX2_copyFrom_141 : decode cX2_copyFrom 141 = .ok (.putfield 44, 3) := by decide +kernel
theorem dX2_copyFrom_144 : decode cX2_copyFrom 144 = .ok (.return_, 1) := by decide +kernel
theorem dX2_hasGuest_0 : decode cX2_hasGuest 0 = .ok (.iload_n 1, 1) := by decide +kernel
theorem dX2_hasGuest_1 : decode cX2_hasGuest 1 = .ok (.ifCond .lt 15, 3) := by decide +kernel
theorem dX2_hasGuest_4 : decode cX2_hasGuest 4 = .ok (.iload_n 1, 1) := by decide +kernel
theorem dX2_hasGuest_5 : decode cX2_hasGuest 5 = .ok (.aload_n 0, 1) := by decide +kernel
theorem dX2_hasGuest_6 : decode cX2_hasGuest 6 = .ok (.getfield 41, 3) := by decide +kernel
theorem dX2_hasGuest_9 : decode cX2_hasGuest 9 = .ok (.if_icmp .ge 7, 3) := by decide +kernel
theorem dX2_hasGuest_12 : decode cX2_hasGuest 12 = .ok (.iconst 1, 1) := by decide +kernel
theorem dX2_hasGuest_13 : decode cX2_hasGuest 13 = .ok (.goto 4, 3) := by decide +kernel
theorem dX2_hasGuest_16 : decode cX2_hasGuest 16 = .ok (.iconst 0, 1) := by decide +kernel
theorem dX2_hasGuest_17 : decode cX2_hasGuest 17 = .ok (.ireturn, 1) := by decide +kernel
theorem dX2_hasChair_0 : decode cX2_hasChair 0 = .ok (.iload_n 1, 1) := by decide +kernel
theorem dX2_hasChair_1 : decode cX2_hasChair 1 = .ok (.ifCond .lt 15, 3) := by decide +kernel
theorem dX2_hasChair_4 : decode cX2_hasChair 4 = .ok (.iload_n 1, 1) := by decide +kernel
theorem dX2_hasChair_5 : decode cX2_hasChair 5 = .ok (.aload_n 0, 1) := by decide +kernel
theorem dX2_hasChair_6 : decode cX2_hasChair 6 = .ok (.getfield 37, 3) := by decide +kernel
theorem dX2_hasChair_9 : decode cX2_hasChair 9 = .ok (.if_icmp .ge 7, 3) := by decide +kernel
theorem dX2_hasChair_12 : decode cX2_hasChair 12 = .ok (.iconst 1, 1) := by decide +kernel
theorem dX2_hasChair_13 : decode cX2_hasChair 13 = .ok (.goto 4, 3) := by decide +kernel
theorem dX2_hasChair_16 : decode cX2_hasChair 16 = .ok (.iconst 0, 1) := by decide +kernel
theorem dX2_hasChair_17 : decode cX2_hasChair 17 = .ok (.ireturn, 1) := by decide +kernel
theorem dX2_guestNamed_0 : decode cX2_guestNamed 0 = .ok (.iconst 0, 1) := by decide +kernel
theorem dX2_guestNamed_1 : decode cX2_guestNamed 1 = .ok (.istore_n 3, 1) := by decide +kernel
theorem dX2_guestNamed_2 : decode cX2_guestNamed 2 = .ok (.iload_n 3, 1) := by decide +kernel
theorem dX2_guestNamed_3 : decode cX2_guestNamed 3 = .ok (.aload_n 0, 1) := by decide +kernel
theorem dX2_guestNamed_4 : decode cX2_guestNamed 4 = .ok (.getfield 41, 3) := by decide +kernel
theorem dX2_guestNamed_7 : decode cX2_guestNamed 7 = .ok (.if_icmp .ge 22, 3) := by decide +kernel
theorem dX2_guestNamed_10 : decode cX2_guestNamed 10 = .ok (.aload_n 0, 1) := by decide +kernel
theorem dX2_guestNamed_11 : decode cX2_guestNamed 11 = .ok (.getfield 9, 3) := by decide +kernel
theorem dX2_guestNamed_14 : decode cX2_guestNamed 14 = .ok (.iload_n 3, 1) := by decide +kernel
theorem dX2_guestNamed_15 : decode cX2_guestNamed 15 = .ok (.laload, 1) := by decide +kernel
theorem dX2_guestNamed_16 : decode cX2_guestNamed 16 = .ok (.lload_n 1, 1) := by decide +kernel
theorem dX2_guestNamed_17 : decode cX2_guestNamed 17 = .ok (.lcmp, 1) := by decide +kernel
theorem dX2_guestNamed_18 : decode cX2_guestNamed 18 = .ok (.ifCond .ne 5, 3) := by decide +kernel
theorem dX2_guestNamed_21 : decode cX2_guestNamed 21 = .ok (.iload_n 3, 1) := by decide +kernel
theorem dX2_guestNamed_22 : decode cX2_guestNamed 22 = .ok (.ireturn, 1) := by decide +kernel
theorem dX2_guestNamed_23 : decode cX2_guestNamed 23 = .ok (.iinc 3 1, 3) := by decide +kernel
theorem dX2_guestNamed_26 : decode cX2_guestNamed 26 = .ok (.goto (-24), 3) := by decide +kernel
theorem dX2_guestNamed_29 : decode cX2_guestNamed 29 = .ok (.iconst (-1), 1) := by decide +kernel
theorem dX2_guestNamed_30 : decode cX2_guestNamed 30 = .ok (.ireturn, 1) := by decide +kernel
theorem dX2_dishNamed_0 : decode cX2_dishNamed 0 = .ok (.iconst 0, 1) := by decide +kernel
theorem dX2_dishNamed_1 : decode cX2_dishNamed 1 = .ok (.istore_n 3, 1) := by decide +kernel
theorem dX2_dishNamed_2 : decode cX2_dishNamed 2 = .ok (.iload_n 3, 1) := by decide +kernel
theorem dX2_dishNamed_3 : decode cX2_dishNamed 3 = .ok (.aload_n 0, 1) := by decide +kernel
theorem dX2_dishNamed_4 : decode cX2_dishNamed 4 = .ok (.getfield 44, 3) := by decide +kernel
theorem dX2_dishNamed_7 : decode cX2_dishNamed 7 = .ok (.if_icmp .ge 22, 3) := by decide +kernel
theorem dX2_dishNamed_10 : decode cX2_dishNamed 10 = .ok (.aload_n 0, 1) := by decide +kernel
theorem dX2_dishNamed_11 : decode cX2_dishNamed 11 = .ok (.getfield 31, 3) := by decide +kernel
theorem dX2_dishNamed_14 : decode cX2_dishNamed 14 = .ok (.iload_n 3, 1) := by decide +kernel
theorem dX2_dishNamed_15 : decode cX2_dishNamed 15 = .ok (.laload, 1) := by decide +kernel
theorem dX2_dishNamed_16 : decode cX2_dishNamed 16 = .ok (.lload_n 1, 1) := by decide +kernel
theorem dX2_dishNamed_17 : decode cX2_dishNamed 17 = .ok (.lcmp, 1) := by decide +kernel
theorem dX2_dishNamed_18 : decode cX2_dishNamed 18 = .ok (.ifCond .ne 5, 3) := by decide +kernel
theorem dX2_dishNamed_21 : decode cX2_dishNamed 21 = .ok (.iload_n 3, 1) := by decide +kernel
theorem dX2_dishNamed_22 : decode cX2_dishNamed 22 = .ok (.ireturn, 1) := by decide +kernel
theorem dX2_dishNamed_23 : decode cX2_dishNamed 23 = .ok (.iinc 3 1, 3) := by decide +kernel
theorem dX2_dishNamed_26 : decode cX2_dishNamed 26 = .ok (.goto (-24), 3) := by decide +kernel
theorem dX2_dishNamed_29 : decode cX2_dishNamed 29 = .ok (.iconst (-1), 1) := by decide +kernel
theorem dX2_dishNamed_30 : decode cX2_dishNamed 30 = .ok (.ireturn, 1) := by decide +kernel
theorem dX2_costOf_0 : decode cX2_costOf 0 = .ok (.iconst 0, 1) := by decide +kernel
theorem dX2_costOf_1 : decode cX2_costOf 1 = .ok (.istore_n 2, 1) := by decide +kernel
theorem dX2_costOf_2 : decode cX2_costOf 2 = .ok (.iconst 0, 1) := by decide +kernel
theorem dX2_costOf_3 : decode cX2_costOf 3 = .ok (.istore_n 3, 1) := by decide +kernel
theorem dX2_costOf_4 : decode cX2_costOf 4 = .ok (.iload_n 3, 1) := by decide +kernel
theorem dX2_costOf_5 : decode cX2_costOf 5 = .ok (.aload_n 0, 1) := by decide +kernel
theorem dX2_costOf_6 : decode cX2_costOf 6 = .ok (.getfield 44, 3) := by decide +kernel
theorem dX2_costOf_9 : decode cX2_costOf 9 = .ok (.if_icmp .ge 27, 3) := by decide +kernel
theorem dX2_costOf_12 : decode cX2_costOf 12 = .ok (.iload_n 1, 1) := by decide +kernel
theorem dX2_costOf_13 : decode cX2_costOf 13 = .ok (.iload_n 3, 1) := by decide +kernel
theorem dX2_costOf_14 : decode cX2_costOf 14 = .ok (.ishr, 1) := by decide +kernel
theorem dX2_costOf_15 : decode cX2_costOf 15 = .ok (.iconst 1, 1) := by decide +kernel
theorem dX2_costOf_16 : decode cX2_costOf 16 = .ok (.iand, 1) := by decide +kernel
theorem dX2_costOf_17 : decode cX2_costOf 17 = .ok (.iconst 1, 1) := by decide +kernel
theorem dX2_costOf_18 : decode cX2_costOf 18 = .ok (.if_icmp .ne 12, 3) := by decide +kernel
theorem dX2_costOf_21 : decode cX2_costOf 21 = .ok (.iload_n 2, 1) := by decide +kernel
theorem dX2_costOf_22 : decode cX2_costOf 22 = .ok (.aload_n 0, 1) := by decide +kernel
theorem dX2_costOf_23 : decode cX2_costOf 23 = .ok (.getfield 34, 3) := by decide +kernel
theorem dX2_costOf_26 : decode cX2_costOf 26 = .ok (.iload_n 3, 1) := by decide +kernel
theorem dX2_costOf_27 : decode cX2_costOf 27 = .ok (.iaload, 1) := by decide +kernel
theorem dX2_costOf_28 : decode cX2_costOf 28 = .ok (.iadd, 1) := by decide +kernel
theorem dX2_costOf_29 : decode cX2_costOf 29 = .ok (.istore_n 2, 1) := by decide +kernel
theorem dX2_costOf_30 : decode cX2_costOf 30 = .ok (.iinc 3 1, 3) := by decide +kernel
theorem dX2_costOf_33 : decode cX2_costOf 33 = .ok (.goto (-29), 3) := by decide +kernel
theorem dX2_costOf_36 : decode cX2_costOf 36 = .ok (.iload_n 2, 1) := by decide +kernel
theorem dX2_costOf_37 : decode cX2_costOf 37 = .ok (.ireturn, 1) := by decide +kernel
theorem dX6_init_0 : decode cX6_init 0 = .ok (.aload_n 0, 1) := by decide +kernel
theorem dX6_init_1 : decode cX6_init 1 = .ok (.invokespecial 3, 3) := by decide +kernel
theorem dX6_init_4 : decode cX6_init 4 = .ok (.aload_n 0, 1) := by decide +kernel
theorem dX6_init_5 : decode cX6_init 5 = .ok (.aload_n 1, 1) := by decide +kernel
theorem dX6_init_6 : decode cX6_init 6 = .ok (.putfield 9, 3) := by decide +kernel
theorem dX6_init_9 : decode cX6_init 9 = .ok (.aload_n 0, 1) := by decide +kernel
theorem dX6_init_10 : decode cX6_init 10 = .ok (.bipush 22, 2) := by decide +kernel
theorem dX6_init_12 : decode cX6_init 12 = .ok (.newarray .long, 2) := by decide +kernel
theorem dX6_init_14 : decode cX6_init 14 = .ok (.putfield 15, 3) := by decide +kernel
theorem dX6_init_17 : decode cX6_init 17 = .ok (.iconst 0, 1) := by decide +kernel
theorem dX6_init_18 : decode cX6_init 18 = .ok (.istore_n 2, 1) := by decide +kernel
theorem dX6_init_19 : decode cX6_init 19 = .ok (.iconst 0, 1) := by decide +kernel
theorem dX6_init_20 : decode cX6_init 20 = .ok (.istore_n 3, 1) := by decide +kernel
theorem dX6_init_21 : decode cX6_init 21 = .ok (.iload_n 3, 1) := by decide +kernel
theorem dX6_init_22 : decode cX6_init 22 = .ok (.ldc 19, 2) := by decide +kernel
theorem dX6_init_24 : decode cX6_init 24 = .ok (.invokevirtual 21, 3) := by decide +kernel
theorem dX6_init_27 : decode cX6_init 27 = .ok (.if_icmp .ge 59, 3) := by decide +kernel
theorem dX6_init_30 : decode cX6_init 30 = .ok (.iload_n 2, 1) := by decide +kernel
theorem dX6_init_31 : decode cX6_init 31 = .ok (.bipush 22, 2) := by decide +kernel
theorem dX6_init_33 : decode cX6_init 33 = .ok (.if_icmp .ge 53, 3) := by decide +kernel
theorem dX6_init_36 : decode cX6_init 36 = .ok (.ldc 19, 2) := by decide +kernel
theorem dX6_init_38 : decode cX6_init 38 = .ok (.iload_n 3, 1) := by decide +kernel
theorem dX6_init_39 : decode cX6_init 39 = .ok (.invokevirtual 27, 3) := by decide +kernel
theorem dX6_init_42 : decode cX6_init 42 = .ok (.bipush 32, 2) := by decide +kernel
theorem dX6_init_44 : decode cX6_init 44 = .ok (.if_icmp .ne 9, 3) := by decide +kernel
theorem dX6_init_47 : decode cX6_init 47 = .ok (.iinc 2 1, 3) := by decide +kernel
theorem dX6_init_50 : decode cX6_init 50 = .ok (.goto 30, 3) := by decide +kernel
theorem dX6_init_53 : decode cX6_init 53 = .ok (.aload_n 0, 1) := by decide +kernel
theorem dX6_init_54 : decode cX6_init 54 = .ok (.getfield 15, 3) := by decide +kernel
theorem dX6_init_57 : decode cX6_init 57 = .ok (.iload_n 2, 1) := by decide +kernel
theorem dX6_init_58 : decode cX6_init 58 = .ok (.aload_n 0, 1) := by decide +kernel
theorem dX6_init_59 : decode cX6_init 59 = .ok (.getfield 15, 3) := by decide +kernel
theorem dX6_init_62 : decode cX6_init 62 = .ok (.iload_n 2, 1) := by decide +kernel
theorem dX6_init_63 : decode cX6_init 63 = .ok (.laload, 1) := by decide +kernel
theorem dX6_init_64 : decode cX6_init 64 = .ok (.ldc2_w 31, 3) := by decide +kernel
theorem dX6_init_67 : decode cX6_init 67 = .ok (.lmul, 1) := by decide +kernel
theorem dX6_init_68 : decode cX6_init 68 = .ok (.ldc 19, 2) := by decide +kernel
theorem dX6_init_70 : decode cX6_init 70 = .ok (.iload_n 3, 1) := by decide +kernel
theorem dX6_init_71 : decode cX6_init 71 = .ok (.invokevirtual 27, 3) := by decide +kernel
theorem dX6_init_74 : decode cX6_init 74 = .ok (.bipush 96, 2) := by decide +kernel
theorem dX6_init_76 : decode cX6_init 76 = .ok (.isub, 1) := by decide +kernel
theorem dX6_init_77 : decode cX6_init 77 = .ok (.i2l, 1) := by decide +kernel
theorem dX6_init_78 : decode cX6_init 78 = .ok (.ladd, 1) := by decide +kernel
theorem dX6_init_79 : decode cX6_init 79 = .ok (.lastore, 1) := by decide +kernel
theorem dX6_init_80 : decode cX6_init 80 = .ok (.iinc 3 1, 3) := by decide +kernel
theorem dX6_init_83 : decode cX6_init 83 = .ok (.goto (-62), 3) := by decide +kernel
theorem dX6_init_86 : decode cX6_init 86 = .ok (.return_, 1) := by decide +kernel
theorem dX6_open_0 : decode cX6_open 0 = .ok (.aload_n 0, 1) := by decide +kernel
theorem dX6_open_1 : decode cX6_open 1 = .ok (.iload_n 1, 1) := by decide +kernel
theorem dX6_open_2 : decode cX6_open 2 = .ok (.putfield 33, 3) := by decide +kernel
theorem dX6_open_5 : decode cX6_open 5 = .ok (.aload_n 0, 1) := by decide +kernel
theorem dX6_open_6 : decode cX6_open 6 = .ok (.iconst 0, 1) := by decide +kernel
theorem dX6_open_7 : decode cX6_open 7 = .ok (.putfield 37, 3) := by decide +kernel
theorem dX6_open_10 : decode cX6_open 10 = .ok (.aload_n 0, 1) := by decide +kernel
theorem dX6_open_11 : decode cX6_open 11 = .ok (.iconst 0, 1) := by decide +kernel
theorem dX6_open_12 : decode cX6_open 12 = .ok (.putfield 40, 3) := by decide +kernel
theorem dX6_open_15 : decode cX6_open 15 = .ok (.aload_n 0, 1) := by decide +kernel
theorem dX6_open_16 : decode cX6_open 16 = .ok (.iconst 0, 1) := by decide +kernel
theorem dX6_open_17 : decode cX6_open 17 = .ok (.putfield 43, 3) := by decide +kernel
theorem dX6_open_20 : decode cX6_open 20 = .ok (.aload_n 0, 1) := by decide +kernel
theorem dX6_open_21 : decode cX6_open 21 = .ok (.invokevirtual 46, 3) := by decide +kernel
theorem dX6_open_24 : decode cX6_open 24 = .ok (.return_, 1) := by decide +kernel
theorem dX6_step_0 : decode cX6_step 0 = .ok (.aload_n 0, 1) := by decide +kernel
theorem dX6_step_1 : decode cX6_step 1 = .ok (.getfield 9, 3) := by decide +kernel
theorem dX6_step_4 : decode cX6_step 4 = .ok (.aload_n 0, 1) := by decide +kernel
theorem dX6_step_5 : decode cX6_step 5 = .ok (.getfield 37, 3) := by decide +kernel
theorem dX6_step_8 : decode cX6_step 8 = .ok (.invokevirtual 49, 3) := by decide +kernel
theorem dX6_step_11 : decode cX6_step 11 = .ok (.istore_n 1, 1) := by decide +kernel
theorem dX6_step_12 : decode cX6_step 12 = .ok (.aload_n 0, 1) := by decide +kernel
theorem dX6_step_13 : decode cX6_step 13 = .ok (.getfield 37, 3) := by decide +kernel
theorem dX6_step_16 : decode cX6_step 16 = .ok (.aload_n 0, 1) := by decide +kernel
theorem dX6_step_17 : decode cX6_step 17 = .ok (.getfield 9, 3) := by decide +kernel
theorem dX6_step_20 : decode cX6_step 20 = .ok (.getfield 55, 3) := by decide +kernel
theorem dX6_step_23 : decode cX6_step 23 = .ok (.if_icmp .ge 40, 3) := by decide +kernel
theorem dX6_step_26 : decode cX6_step 26 = .ok (.iload_n 1, 1) := by decide +kernel
theorem dX6_step_27 : decode cX6_step 27 = .ok (.bipush 32, 2) := by decide +kernel
theorem dX6_step_29 : decode cX6_step 29 = .ok (.if_icmp .eq 9, 3) := by decide +kernel
theorem dX6_step_32 : decode cX6_step 32 = .ok (.iload_n 1, 1) := by decide +kernel
theorem dX6_step_33 : decode cX6_step 33 = .ok (.bipush 10, 2) := by decide +kernel
theorem dX6_step_35 : decode cX6_step 35 = .ok (.if_icmp .ne 28, 3) := by decide +kernel
theorem dX6_step_38 : decode cX6_step 38 = .ok (.aload_n 0, 1) := by decide +kernel
theorem dX6_step_39 : decode cX6_step 39 = .ok (.dup, 1) := by decide +kernel
theorem dX6_step_40 : decode cX6_step 40 = .ok (.getfield 37, 3) := by decide +kernel
theorem dX6_step_43 : decode cX6_step 43 = .ok (.iconst 1, 1) := by decide +kernel
theorem dX6_step_44 : decode cX6_step 44 = .ok (.iadd, 1) := by decide +kernel
theorem dX6_step_45 : decode cX6_step 45 = .ok (.putfield 37, 3) := by decide +kernel
theorem dX6_step_48 : decode cX6_step 48 = .ok (.aload_n 0, 1) := by decide +kernel
theorem dX6_step_49 : decode cX6_step 49 = .ok (.getfield 9, 3) := by decide +kernel
theorem dX6_step_52 : decode cX6_step 52 = .ok (.aload_n 0, 1) := by decide +kernel
theorem dX6_step_53 : decode cX6_step 53 = .ok (.getfield 37, 3) := by decide +kernel
theorem dX6_step_56 : decode cX6_step 56 = .ok (.invokevirtual 49, 3) := by decide +kernel
theorem dX6_step_59 : decode cX6_step 59 = .ok (.istore_n 1, 1) := by decide +kernel
theorem dX6_step_60 : decode cX6_step 60 = .ok (.goto (-48), 3) := by decide +kernel
theorem dX6_step_63 : decode cX6_step 63 = .ok (.aload_n 0, 1) := by decide +kernel
theorem dX6_step_64 : decode cX6_step 64 = .ok (.aload_n 0, 1) := by decide +kernel
theorem dX6_step_65 : decode cX6_step 65 = .ok (.getfield 37, 3) := by decide +kernel
theorem dX6_step_68 : decode cX6_step 68 = .ok (.aload_n 0, 1) := by decide +kernel
theorem dX6_step_69 : decode cX6_step 69 = .ok (.getfield 33, 3) := by decide +kernel
theorem dX6_step_72 : decode cX6_step 72 = .ok (.invokestatic 58, 3) := by decide +kernel
theorem dX6_step_75 : decode cX6_step 75 = .ok (.putfield 64, 3) := by decide +kernel
theorem dX6_step_78 : decode cX6_step 78 = .ok (.aload_n 0, 1) := by decide +kernel
theorem dX6_step_79 : decode cX6_step 79 = .ok (.iconst (-1), 1) := by decide +kernel
theorem dX6_step_80 : decode cX6_step 80 = .ok (.putfield 66, 3) := by decide +kernel
theorem dX6_step_83 : decode cX6_step 83 = .ok (.aload_n 0, 1) := by decide +kernel
theorem dX6_step_84 : decode cX6_step 84 = .ok (.getfield 37, 3) := by decide +kernel
theorem dX6_step_87 : decode cX6_step 87 = .ok (.aload_n 0, 1) := by decide +kernel
theorem dX6_step_88 : decode cX6_step 88 = .ok (.getfield 33, 3) := by decide +kernel
theorem dX6_step_91 : decode cX6_step 91 = .ok (.if_icmp .lt 25, 3) := by decide +kernel
theorem dX6_step_94 : decode cX6_step 94 = .ok (.aload_n 0, 1) := by decide +kernel
theorem dX6_step_95 : decode cX6_step 95 = .ok (.getfield 9, 3) := by decide +kernel
theorem dX6_step_98 : decode cX6_step 98 = .ok (.getfield 55, 3) := by decide +kernel
theorem dX6_step_101 : decode cX6_step 101 = .ok (.aload_n 0, 1) := by decide +kernel
theorem dX6_step_102 : decode cX6_step 102 = .ok (.getfield 33, 3) := by decide +kernel
theorem dX6_step_105 : decode cX6_step 105 = .ok (.if_icmp .le 11, 3) := by decide +kernel
theorem dX6_step_108 : decode cX6_step 108 = .ok (.aload_n 0, 1) := by decide +kernel
theorem dX6_step_109 : decode cX6_step 109 = .ok (.iconst 1, 1) := by decide +kernel
theorem dX6_step_110 : decode cX6_step 110 = .ok (.putfield 69, 3) := by decide +kernel
theorem dX6_step_113 : decode cX6_step 113 = .ok (.goto 146, 3) := by decide +kernel
theorem dX6_step_116 : decode cX6_step 116 = .ok (.aload_n 0, 1) := by decide +kernel
theorem dX6_step_117 : decode cX6_step 117 = .ok (.getfield 37, 3) := by decide +kernel
theorem dX6_step_120 : decode cX6_step 120 = .ok (.aload_n 0, 1) := by decide +kernel
theorem dX6_step_121 : decode cX6_step 121 = .ok (.getfield 9, 3) := by decide +kernel
theorem dX6_step_124 : decode cX6_step 124 = .ok (.getfield 55, 3) := by decide +kernel
theorem dX6_step_127 : decode cX6_step 127 = .ok (.if_icmp .lt 11, 3) := by decide +kernel
theorem dX6_step_130 : decode cX6_step 130 = .ok (.aload_n 0, 1) := by decide +kernel
theorem dX6_step_131 : decode cX6_step 131 = .ok (.iconst 0, 1) := by decide +kernel
theorem dX6_step_132 : decode cX6_step 132 = .ok (.putfield 69, 3) := by decide +kernel
theorem dX6_step_135 : decode cX6_step 135 = .ok (.goto 124, 3) := by decide +kernel
theorem dX6_step_138 : decode cX6_step 138 = .ok (.iload_n 1, 1) := by decide +kernel
theorem dX6_step_139 : decode cX6_step 139 = .ok (.bipush 97, 2) := by decide +kernel
theorem dX6_step_141 : decode cX6_step 141 = .ok (.if_icmp .lt 9, 3) := by decide +kernel
theorem dX6_step_144 : decode cX6_step 144 = .ok (.iload_n 1, 1) := by decide +kernel
theorem dX6_step_145 : decode cX6_step 145 = .ok (.bipush 122, 2) := by decide +kernel
theorem dX6_step_147 : decode cX6_step 147 = .ok (.if_icmp .le 15, 3) := by decide +kernel
theorem dX6_step_150 : decode cX6_step 150 = .ok (.iload_n 1, 1) := by decide +kernel
theorem dX6_step_151 : decode cX6_step 151 = .ok (.bipush 48, 2) := by decide +kernel
theorem dX6_step_153 : decode cX6_step 153 = .ok (.if_icmp .lt 41, 3) := by decide +kernel
theorem dX6_step_156 : decode cX6_step 156 = .ok (.iload_n 1, 1) := by decide +kernel
theorem dX6_step_157 : decode cX6_step 157 = .ok (.bipush 57, 2) := by decide +kernel
theorem dX6_step_159 : decode cX6_step 159 = .ok (.if_icmp .gt 35, 3) := by decide +kernel
theorem dX6_step_162 : decode cX6_step 162 = .ok (.aload_n 0, 1) := by decide +kernel
theorem dX6_step_163 : decode cX6_step 163 = .ok (.invokevirtual 72, 3) := by decide +kernel
theorem dX6_step_166 : decode cX6_step 166 = .ok (.aload_n 0, 1) := by decide +kernel
theorem dX6_step_167 : decode cX6_step 167 = .ok (.aload_n 0, 1) := by decide +kernel
theorem dX6_step_168 : decode cX6_step 168 = .ok (.getfield 69, 3) := by decide +kernel
theorem dX6_step_171 : decode cX6_step 171 = .ok (.bipush 97, 2) := by decide +kernel
theorem dX6_step_173 : decode cX6_step 173 = .ok (.if_icmp .ne 14, 3) := by decide +kernel
theorem dX6_step_176 : decode cX6_step 176 = .ok (.aload_n 0, 1) := by decide +kernel
theorem dX6_step_177 : decode cX6_step 177 = .ok (.aload_n 0, 1) := by decide +kernel
theorem dX6_step_178 : decode cX6_step 178 = .ok (.getfield 75, 3) := by decide +kernel
theorem dX6_step_181 : decode cX6_step 181 = .ok (.invokevirtual 79, 3) := by decide +kernel
theorem dX6_step_184 : decode cX6_step 184 = .ok (.goto 4, 3) := by decide +kernel
theorem dX6_step_187 : decode cX6_step 187 = .ok (.iconst (-1), 1) := by decide +kernel
theorem dX6_step_188 : decode cX6_step 188 = .ok (.putfield 66, 3) := by decide +kernel
theorem dX6_step_191 : decode cX6_step 191 = .ok (.goto 68, 3) := by decide +kernel
theorem dX6_step_194 : decode cX6_step 194 = .ok (.iload_n 1, 1) := by decide +kernel
theorem dX6_step_195 : decode cX6_step 195 = .ok (.bipush 59, 2) := by decide +kernel
theorem dX6_step_197 : decode cX6_step 197 = .ok (.if_icmp .eq 33, 3) := by decide +kernel
theorem dX6_step_200 : decode cX6_step 200 = .ok (.iload_n 1, 1) := by decide +kernel
theorem dX6_step_201 : decode cX6_step 201 = .ok (.bipush 60, 2) := by decide +kernel
theorem dX6_step_203 : decode cX6_step 203 = .ok (.if_icmp .eq 27, 3) := by decide +kernel
theorem dX6_step_206 : decode cX6_step 206 = .ok (.iload_n 1, 1) := by decide +kernel
theorem dX6_step_207 : decode cX6_step 207 = .ok (.bipush 61, 2) := by decide +kernel
theorem dX6_step_209 : decode cX6_step 209 = .ok (.if_icmp .eq 21, 3) := by decide +kernel
theorem dX6_step_212 : decode cX6_step 212 = .ok (.iload_n 1, 1) := by decide +kernel
theorem dX6_step_213 : decode cX6_step 213 = .ok (.bipush 62, 2) := by decide +kernel
theorem dX6_step_215 : decode cX6_step 215 = .ok (.if_icmp .eq 15, 3) := by decide +kernel
theorem dX6_step_218 : decode cX6_step 218 = .ok (.iload_n 1, 1) := by decide +kernel
theorem dX6_step_219 : decode cX6_step 219 = .ok (.bipush 40, 2) := by decide +kernel
theorem dX6_step_221 : decode cX6_step 221 = .ok (.if_icmp .eq 9, 3) := by decide +kernel
theorem dX6_step_224 : decode cX6_step 224 = .ok (.iload_n 1, 1) := by decide +kernel
theorem dX6_step_225 : decode cX6_step 225 = .ok (.bipush 41, 2) := by decide +kernel
theorem dX6_step_227 : decode cX6_step 227 = .ok (.if_icmp .ne 7, 3) := by decide +kernel
theorem dX6_step_230 : decode cX6_step 230 = .ok (.iconst 1, 1) := by decide +kernel
theorem dX6_step_231 : decode cX6_step 231 = .ok (.goto 4, 3) := by decide +kernel
theorem dX6_step_234 : decode cX6_step 234 = .ok (.iconst 0, 1) := by decide +kernel
theorem dX6_step_235 : decode cX6_step 235 = .ok (.istore_n 2, 1) := by decide +kernel
theorem dX6_step_236 : decode cX6_step 236 = .ok (.aload_n 0, 1) := by decide +kernel
theorem dX6_step_237 : decode cX6_step 237 = .ok (.iload_n 2, 1) := by decide +kernel
theorem dX6_step_238 : decode cX6_step 238 = .ok (.ifCond .eq 7, 3) := by decide +kernel
theorem dX6_step_241 : decode cX6_step 241 = .ok (.iload_n 1, 1) := by decide +kernel
theorem dX6_step_242 : decode cX6_step 242 = .ok (.goto 4, 3) := by decide +kernel
theorem dX6_step_245 : decode cX6_step 245 = .ok (.iconst 1, 1) := by decide +kernel
theorem dX6_step_246 : decode cX6_step 246 = .ok (.putfield 69, 3) := by decide +kernel
theorem dX6_step_249 : decode cX6_step 249 = .ok (.aload_n 0, 1) := by decide +kernel
theorem dX6_step_250 : decode cX6_step 250 = .ok (.dup, 1) := by decide +kernel
theorem dX6_step_251 : decode cX6_step 251 = .ok (.getfield 37, 3) := by decide +kernel
theorem dX6_step_254 : decode cX6_step 254 = .ok (.iconst 1, 1) := by decide +kernel
theorem dX6_step_255 : decode cX6_step 255 = .ok (.iadd, 1) := by decide +kernel
theorem dX6_step_256 : decode cX6_step 256 = .ok (.putfield 37, 3) := by decide +kernel
theorem dX6_step_259 : decode cX6_step 259 = .ok (.return_, 1) := by decide +kernel
theorem dX6_readRun_0 : decode cX6_readRun 0 = .ok (.iconst 0, 1) := by decide +kernel
theorem dX6_readRun_1 : decode cX6_readRun 1 = .ok (.istore_n 1, 1) := by decide +kernel
theorem dX6_readRun_2 : decode cX6_readRun 2 = .ok (.iconst 0, 1) := by decide +kernel
theorem dX6_readRun_3 : decode cX6_readRun 3 = .ok (.istore_n 2, 1) := by decide +kernel
theorem dX6_readRun_4 : decode cX6_readRun 4 = .ok (.aload_n 0, 1) := by decide +kernel
theorem dX6_readRun_5 : decode cX6_readRun 5 = .ok (.lconst 0, 1) := by decide +kernel
theorem dX6_readRun_6 : decode cX6_readRun 6 = .ok (.putfield 75, 3) := by decide +kernel
theorem dX6_readRun_9 : decode cX6_readRun 9 = .ok (.aload_n 0, 1) := by decide +kernel
theorem dX6_readRun_10 : decode cX6_readRun 10 = .ok (.iconst 0, 1) := by decide +kernel
theorem dX6_readRun_11 : decode cX6_readRun 11 = .ok (.putfield 83, 3) := by decide +kernel
theorem dX6_readRun_14 : decode cX6_readRun 14 = .ok (.aload_n 0, 1) := by decide +kernel
theorem dX6_readRun_15 : decode cX6_readRun 15 = .ok (.getfield 9, 3) := by decide +kernel
theorem dX6_readRun_18 : decode cX6_readRun 18 = .ok (.getfield 86, 3) := by decide +kernel
theorem dX6_readRun_21 : decode cX6_readRun 21 = .ok (.astore_n 3, 1) := by decide +kernel
theorem dX6_readRun_22 : decode cX6_readRun 22 = .ok (.aload_n 0, 1) := by decide +kernel
theorem dX6_readRun_23 : decode cX6_readRun 23 = .ok (.getfield 37, 3) := by decide +kernel
theorem dX6_readRun_26 : decode cX6_readRun 26 = .ok (.aload_n 0, 1) := by decide +kernel
theorem dX6_readRun_27 : decode cX6_readRun 27 = .ok (.getfield 9, 3) := by decide +kernel
theorem dX6_readRun_30 : decode cX6_readRun 30 = .ok (.getfield 55, 3) := by decide +kernel
theorem dX6_readRun_33 : decode cX6_readRun 33 = .ok (.if_icmp .ge 106, 3) := by decide +kernel
theorem dX6_readRun_36 : decode cX6_readRun 36 = .ok (.aload_n 0, 1) := by decide +kernel
theorem dX6_readRun_37 : decode cX6_readRun 37 = .ok (.getfield 37, 3) := by decide +kernel
theorem dX6_readRun_40 : decode cX6_readRun 40 = .ok (.aload_n 3, 1) := by decide +kernel
theorem dX6_readRun_41 : decode cX6_readRun 41 = .ok (.arraylength, 1) := by decide +kernel
theorem dX6_readRun_42 : decode cX6_readRun 42 = .ok (.if_icmp .ge 97, 3) := by decide +kernel
theorem dX6_readRun_45 : decode cX6_readRun 45 = .ok (.aload_n 3, 1) := by decide +kernel
theorem dX6_readRun_46 : decode cX6_readRun 46 = .ok (.aload_n 0, 1) := by decide +kernel
theorem dX6_readRun_47 : decode cX6_readRun 47 = .ok (.getfield 37, 3) := by decide +kernel
theorem dX6_readRun_50 : decode cX6_readRun 50 = .ok (.baload, 1) := by decide +kernel
theorem dX6_readRun_51 : decode cX6_readRun 51 = .ok (.istore 4, 2) := by decide +kernel
theorem dX6_readRun_53 : decode cX6_readRun 53 = .ok (.iload 4, 2) := by decide +kernel
theorem dX6_readRun_55 : decode cX6_readRun 55 = .ok (.bipush 97, 2) := by decide +kernel
theorem dX6_readRun_57 : decode cX6_readRun 57 = .ok (.if_icmp .lt 35, 3) := by decide +kernel
theorem dX6_readRun_60 : decode cX6_readRun 60 = .ok (.iload 4, 2) := by decide +kernel
theorem dX6_readRun_62 : decode cX6_readRun 62 = .ok (.bipush 122, 2) := by decide +kernel
theorem dX6_readRun_64 : decode cX6_readRun 64 = .ok (.if_icmp .gt 28, 3) := by decide +kernel
theorem dX6_readRun_67 : decode cX6_readRun 67 = .ok (.aload_n 0, 1) := by decide +kernel
theorem dX6_readRun_68 : decode cX6_readRun 68 = .ok (.aload_n 0, 1) := by decide +kernel
theorem dX6_readRun_69 : decode cX6_readRun 69 = .ok (.getfield 75, 3) := by decide +kernel
theorem dX6_readRun_72 : decode cX6_readRun 72 = .ok (.ldc2_w 31, 3) := by decide +kernel
theorem dX6_readRun_75 : decode cX6_readRun 75 = .ok (.lmul, 1) := by decide +kernel
theorem dX6_readRun_76 : decode cX6_readRun 76 = .ok (.iload 4, 2) := by decide +kernel
theorem dX6_readRun_78 : decode cX6_readRun 78 = .ok (.bipush 96, 2) := by decide +kernel
theorem dX6_readRun_80 : decode cX6_readRun 80 = .ok (.isub, 1) := by decide +kernel
theorem dX6_readRun_81 : decode cX6_readRun 81 = .ok (.i2l, 1) := by decide +kernel
theorem dX6_readRun_82 : decode cX6_readRun 82 = .ok (.ladd, 1) := by decide +kernel
theorem dX6_readRun_83 : decode cX6_readRun 83 = .ok (.putfield 75, 3) := by decide +kernel
theorem dX6_readRun_86 : decode cX6_readRun 86 = .ok (.iinc 1 1, 3) := by decide +kernel
theorem dX6_readRun_89 : decode cX6_readRun 89 = .ok (.goto 37, 3) := by decide +kernel
theorem dX6_readRun_92 : decode cX6_readRun 92 = .ok (.iload 4, 2) := by decide +kernel
theorem dX6_readRun_94 : decode cX6_readRun 94 = .ok (.bipush 48, 2) := by decide +kernel
theorem dX6_readRun_96 : decode cX6_readRun 96 = .ok (.if_icmp .lt 43, 3) := by decide +kernel
theorem dX6_readRun_99 : decode cX6_readRun 99 = .ok (.iload 4, 2) := by decide +kernel
theorem dX6_readRun_101 : decode cX6_readRun 101 = .ok (.bipush 57, 2) := by decide +kernel
theorem dX6_readRun_103 : decode cX6_readRun 103 = .ok (.if_icmp .gt 36, 3) := by decide +kernel
theorem dX6_readRun_106 : decode cX6_readRun 106 = .ok (.aload_n 0, 1) := by decide +kernel
theorem dX6_readRun_107 : decode cX6_readRun 107 = .ok (.aload_n 0, 1) := by decide +kernel
theorem dX6_readRun_108 : decode cX6_readRun 108 = .ok (.getfield 83, 3) := by decide +kernel
theorem dX6_readRun_111 : decode cX6_readRun 111 = .ok (.bipush 10, 2) := by decide +kernel
theorem dX6_readRun_113 : decode cX6_readRun 113 = .ok (.imul, 1) := by decide +kernel
theorem dX6_readRun_114 : decode cX6_readRun 114 = .ok (.iload 4, 2) := by decide +kernel
theorem dX6_readRun_116 : decode cX6_readRun 116 = .ok (.bipush 48, 2) := by decide +kernel
theorem dX6_readRun_118 : decode cX6_readRun 118 = .ok (.isub, 1) := by decide +kernel
theorem dX6_readRun_119 : decode cX6_readRun 119 = .ok (.iadd, 1) := by decide +kernel
theorem dX6_readRun_120 : decode cX6_readRun 120 = .ok (.putfield 83, 3) := by decide +kernel
theorem dX6_readRun_123 : decode cX6_readRun 123 = .ok (.iinc 2 1, 3) := by decide +kernel
theorem dX6_readRun_126 : decode cX6_readRun 126 = .ok (.aload_n 0, 1) := by decide +kernel
theorem dX6_readRun_127 : decode cX6_readRun 127 = .ok (.dup, 1) := by decide +kernel
theorem dX6_readRun_128 : decode cX6_readRun 128 = .ok (.getfield 37, 3) := by decide +kernel
theorem dX6_readRun_131 : decode cX6_readRun 131 = .ok (.iconst 1, 1) := by decide +kernel
theorem dX6_readRun_132 : decode cX6_readRun 132 = .ok (.iadd, 1) := by decide +kernel
theorem dX6_readRun_133 : decode cX6_readRun 133 = .ok (.putfield 37, 3) := by decide +kernel
theorem dX6_readRun_136 : decode cX6_readRun 136 = .ok (.goto (-114), 3) := by decide +kernel
theorem dX6_readRun_139 : decode cX6_readRun 139 = .ok (.iload_n 2, 1) := by decide +kernel
theorem dX6_readRun_140 : decode cX6_readRun 140 = .ok (.ifCond .ne 18, 3) := by decide +kernel
theorem dX6_readRun_143 : decode cX6_readRun 143 = .ok (.iload_n 1, 1) := by decide +kernel
theorem dX6_readRun_144 : decode cX6_readRun 144 = .ok (.bipush 7, 2) := by decide +kernel
theorem dX6_readRun_146 : decode cX6_readRun 146 = .ok (.if_icmp .gt 12, 3) := by decide +kernel
theorem dX6_readRun_149 : decode cX6_readRun 149 = .ok (.aload_n 0, 1) := by decide +kernel
theorem dX6_readRun_150 : decode cX6_readRun 150 = .ok (.bipush 97, 2) := by decide +kernel
theorem dX6_readRun_152 : decode cX6_readRun 152 = .ok (.putfield 69, 3) := by decide +kernel
theorem dX6_readRun_155 : decode cX6_readRun 155 = .ok (.goto 22, 3) := by decide +kernel
theorem dX6_readRun_158 : decode cX6_readRun 158 = .ok (.aload_n 0, 1) := by decide +kernel
theorem dX6_readRun_159 : decode cX6_readRun 159 = .ok (.iload_n 1, 1) := by decide +kernel
theorem dX6_readRun_160 : decode cX6_readRun 160 = .ok (.ifCond .ne 13, 3) := by decide +kernel
theorem dX6_readRun_163 : decode cX6_readRun 163 = .ok (.iload_n 2, 1) := by decide +kernel
theorem dX6_readRun_164 : decode cX6_readRun 164 = .ok (.iconst 3, 1) := by decide +kernel
theorem dX6_readRun_165 : decode cX6_readRun 165 = .ok (.if_icmp .gt 8, 3) := by decide +kernel
theorem dX6_readRun_168 : decode cX6_readRun 168 = .ok (.bipush 48, 2) := by decide +kernel
theorem dX6_readRun_170 : decode cX6_readRun 170 = .ok (.goto 4, 3) := by decide +kernel
theorem dX6_readRun_173 : decode cX6_readRun 173 = .ok (.iconst 1, 1) := by decide +kernel
theorem dX6_readRun_174 : decode cX6_readRun 174 = .ok (.putfield 69, 3) := by decide +kernel
theorem dX6_readRun_177 : decode cX6_readRun 177 = .ok (.return_, 1) := by decide +kernel
theorem dX6_keyOf_0 : decode cX6_keyOf 0 = .ok (.iconst 0, 1) := by decide +kernel
theorem dX6_keyOf_1 : decode cX6_keyOf 1 = .ok (.istore_n 3, 1) := by decide +kernel
theorem dX6_keyOf_2 : decode cX6_keyOf 2 = .ok (.iload_n 3, 1) := by decide +kernel
theorem dX6_keyOf_3 : decode cX6_keyOf 3 = .ok (.bipush 22, 2) := by decide +kernel
theorem dX6_keyOf_5 : decode cX6_keyOf 5 = .ok (.if_icmp .ge 22, 3) := by decide +kernel
theorem dX6_keyOf_8 : decode cX6_keyOf 8 = .ok (.aload_n 0, 1) := by decide +kernel
theorem dX6_keyOf_9 : decode cX6_keyOf 9 = .ok (.getfield 15, 3) := by decide +kernel
theorem dX6_keyOf_12 : decode cX6_keyOf 12 = .ok (.iload_n 3, 1) := by decide +kernel
theorem dX6_keyOf_13 : decode cX6_keyOf 13 = .ok (.laload, 1) := by decide +kernel
theorem dX6_keyOf_14 : decode cX6_keyOf 14 = .ok (.lload_n 1, 1) := by decide +kernel
theorem dX6_keyOf_15 : decode cX6_keyOf 15 = .ok (.lcmp, 1) := by decide +kernel
theorem dX6_keyOf_16 : decode cX6_keyOf 16 = .ok (.ifCond .ne 5, 3) := by decide +kernel
theorem dX6_keyOf_19 : decode cX6_keyOf 19 = .ok (.iload_n 3, 1) := by decide +kernel
theorem dX6_keyOf_20 : decode cX6_keyOf 20 = .ok (.ireturn, 1) := by decide +kernel
theorem dX6_keyOf_21 : decode cX6_keyOf 21 = .ok (.iinc 3 1, 3) := by decide +kernel
theorem dX6_keyOf_24 : decode cX6_keyOf 24 = .ok (.goto (-22), 3) := by decide +kernel
theorem dX6_keyOf_27 : decode cX6_keyOf 27 = .ok (.iconst (-1), 1) := by decide +kernel
theorem dX6_keyOf_28 : decode cX6_keyOf 28 = .ok (.ireturn, 1) := by decide +kernel
theorem dX6_refuse_0 : decode cX6_refuse 0 = .ok (.aload_n 0, 1) := by decide +kernel
theorem dX6_refuse_1 : decode cX6_refuse 1 = .ok (.getfield 40, 3) := by decide +kernel
theorem dX6_refuse_4 : decode cX6_refuse 4 = .ok (.ifCond .ne 16, 3) := by decide +kernel
theorem dX6_refuse_7 : decode cX6_refuse 7 = .ok (.aload_n 0, 1) := by decide +kernel
theorem dX6_refuse_8 : decode cX6_refuse 8 = .ok (.iload_n 1, 1) := by decide +kernel
theorem dX6_refuse_9 : decode cX6_refuse 9 = .ok (.putfield 40, 3) := by decide +kernel
theorem dX6_refuse_12 : decode cX6_refuse 12 = .ok (.aload_n 0, 1) := by decide +kernel
theorem dX6_refuse_13 : decode cX6_refuse 13 = .ok (.aload_n 0, 1) := by decide +kernel
theorem dX6_refuse_14 : decode cX6_refuse 14 = .ok (.getfield 64, 3) := by decide +kernel
theorem dX6_refuse_17 : decode cX6_refuse 17 = .ok (.putfield 43, 3) := by decide +kernel
theorem dX6_refuse_20 : decode cX6_refuse 20 = .ok (.iconst 0, 1) := by decide +kernel
theorem dX6_refuse_21 : decode cX6_refuse 21 = .ok (.ireturn, 1) := by decide +kernel
theorem dX6_isKey_0 : decode cX6_isKey 0 = .ok (.aload_n 0, 1) := by decide +kernel
theorem dX6_isKey_1 : decode cX6_isKey 1 = .ok (.getfield 69, 3) := by decide +kernel
theorem dX6_isKey_4 : decode cX6_isKey 4 = .ok (.bipush 97, 2) := by decide +kernel
theorem dX6_isKey_6 : decode cX6_isKey 6 = .ok (.if_icmp .ne 15, 3) := by decide +kernel
theorem dX6_isKey_9 : decode cX6_isKey 9 = .ok (.aload_n 0, 1) := by decide +kernel
theorem dX6_isKey_10 : decode cX6_isKey 10 = .ok (.getfield 66, 3) := by decide +kernel
theorem dX6_isKey_13 : decode cX6_isKey 13 = .ok (.iload_n 1, 1) := by decide +kernel
theorem dX6_isKey_14 : decode cX6_isKey 14 = .ok (.if_icmp .ne 7, 3) := by decide +kernel
theorem dX6_isKey_17 : decode cX6_isKey 17 = .ok (.iconst 1, 1) := by decide +kernel
theorem dX6_isKey_18 : decode cX6_isKey 18 = .ok (.goto 4, 3) := by decide +kernel
theorem dX6_isKey_21 : decode cX6_isKey 21 = .ok (.iconst 0, 1) := by decide +kernel
theorem dX6_isKey_22 : decode cX6_isKey 22 = .ok (.ireturn, 1) := by decide +kernel
theorem dX6_isName_0 : decode cX6_isName 0 = .ok (.aload_n 0, 1) := by decide +kernel
theorem dX6_isName_1 : decode cX6_isName 1 = .ok (.getfield 69, 3) := by decide +kernel
theorem dX6_isName_4 : decode cX6_isName 4 = .ok (.bipush 97, 2) := by decide +kernel
theorem dX6_isName_6 : decode cX6_isName 6 = .ok (.if_icmp .ne 15, 3) := by decide +kernel
theorem dX6_isName_9 : decode cX6_isName 9 = .ok (.aload_n 0, 1) := by decide +kernel
theorem dX6_isName_10 : decode cX6_isName 10 = .ok (.getfield 66, 3) := by decide +kernel
theorem dX6_isName_13 : decode cX6_isName 13 = .ok (.iconst (-1), 1) := by decide +kernel
theorem dX6_isName_14 : decode cX6_isName 14 = .ok (.if_icmp .ne 7, 3) := by decide +kernel
theorem dX6_isName_17 : decode cX6_isName 17 = .ok (.iconst 1, 1) := by decide +kernel
theorem dX6_isName_18 : decode cX6_isName 18 = .ok (.goto 4, 3) := by decide +kernel
theorem dX6_isName_21 : decode cX6_isName 21 = .ok (.iconst 0, 1) := by decide +kernel
theorem dX6_isName_22 : decode cX6_isName 22 = .ok (.ireturn, 1) := by decide +kernel
theorem dX6_takeSign_0 : decode cX6_takeSign 0 = .ok (.aload_n 0, 1) := by decide +kernel
theorem dX6_takeSign_1 : decode cX6_takeSign 1 = .ok (.getfield 69, 3) := by decide +kernel
theorem dX6_takeSign_4 : decode cX6_takeSign 4 = .ok (.iload_n 1, 1) := by decide +kernel
theorem dX6_takeSign_5 : decode cX6_takeSign 5 = .ok (.if_icmp .eq 9, 3) := by decide +kernel
theorem dX6_takeSign_8 : decode cX6_takeSign 8 = .ok (.aload_n 0, 1) := by decide +kernel
theorem dX6_takeSign_9 : decode cX6_takeSign 9 = .ok (.iconst 1, 1) := by decide +kernel
theorem dX6_takeSign_10 : decode cX6_takeSign 10 = .ok (.invokevirtual 90, 3) := by decide +kernel
theorem dX6_takeSign_13 : decode cX6_takeSign 13 = .ok (.ireturn, 1) := by decide +kernel
theorem dX6_takeSign_14 : decode cX6_takeSign 14 = .ok (.aload_n 0, 1) := by decide +kernel
theorem dX6_takeSign_15 : decode cX6_takeSign 15 = .ok (.invokevirtual 46, 3) := by decide +kernel
theorem dX6_takeSign_18 : decode cX6_takeSign 18 = .ok (.iconst 1, 1) := by decide +kernel
theorem dX6_takeSign_19 : decode cX6_takeSign 19 = .ok (.ireturn, 1) := by decide +kernel
theorem dX6_takeNumber_0 : decode cX6_takeNumber 0 = .ok (.aload_n 0, 1) := by decide +kernel
theorem dX6_takeNumber_1 : decode cX6_takeNumber 1 = .ok (.getfield 69, 3) := by decide +kernel
theorem dX6_takeNumber_4 : decode cX6_takeNumber 4 = .ok (.bipush 48, 2) := by decide +kernel
theorem dX6_takeNumber_6 : decode cX6_takeNumber 6 = .ok (.if_icmp .eq 9, 3) := by decide +kernel
theorem dX6_takeNumber_9 : decode cX6_takeNumber 9 = .ok (.aload_n 0, 1) := by decide +kernel
theorem dX6_takeNumber_10 : decode cX6_takeNumber 10 = .ok (.iconst 1, 1) := by decide +kernel
theorem dX6_takeNumber_11 : decode cX6_takeNumber 11 = .ok (.invokevirtual 90, 3) := by decide +kernel
theorem dX6_takeNumber_14 : decode cX6_takeNumber 14 = .ok (.ireturn, 1) := by decide +kernel
theorem dX6_takeNumber_15 : decode cX6_takeNumber 15 = .ok (.aload_n 0, 1) := by decide +kernel
theorem dX6_takeNumber_16 : decode cX6_takeNumber 16 = .ok (.getfield 83, 3) := by decide +kernel
theorem dX6_takeNumber_19 : decode cX6_takeNumber 19 = .ok (.iload_n 1, 1) := by decide +kernel
theorem dX6_takeNumber_20 : decode cX6_takeNumber 20 = .ok (.if_icmp .lt 11, 3) := by decide +kernel
theorem dX6_takeNumber_23 : decode cX6_takeNumber 23 = .ok (.aload_n 0, 1) := by decide +kernel
theorem dX6_takeNumber_24 : decode cX6_takeNumber 24 = .ok (.getfield 83, 3) := by decide +kernel
theorem dX6_takeNumber_27 : decode cX6_takeNumber 27 = .ok (.iload_n 2, 1) := by decide +kernel
theorem dX6_takeNumber_28 : decode cX6_takeNumber 28 = .ok (.if_icmp .le 9, 3) := by decide +kernel
theorem dX6_takeNumber_31 : decode cX6_takeNumber 31 = .ok (.aload_n 0, 1) := by decide +kernel
theorem dX6_takeNumber_32 : decode cX6_takeNumber 32 = .ok (.iconst 2, 1) := by decide +kernel
theorem dX6_takeNumber_33 : decode cX6_takeNumber 33 = .ok (.invokevirtual 90, 3) := by decide +kernel
theorem dX6_takeNumber_36 : decode cX6_takeNumber 36 = .ok (.ireturn, 1) := by decide +kernel
theorem dX6_takeNumber_37 : decode cX6_takeNumber 37 = .ok (.aload_n 0, 1) := by decide +kernel
theorem dX6_takeNumber_38 : decode cX6_takeNumber 38 = .ok (.aload_n 0, 1) := by decide +kernel
theorem dX6_takeNumber_39 : decode cX6_takeNumber 39 = .ok (.getfield 83, 3) := by decide +kernel
theorem dX6_takeNumber_42 : decode cX6_takeNumber 42 = .ok (.putfield 94, 3) := by decide +kernel
theorem dX6_takeNumber_45 : decode cX6_takeNumber 45 = .ok (.aload_n 0, 1) := by decide +kernel
theorem dX6_takeNumber_46 : decode cX6_takeNumber 46 = .ok (.invokevirtual 46, 3) := by decide +kernel
theorem dX6_takeNumber_49 : decode cX6_takeNumber 49 = .ok (.iconst 1, 1) := by decide +kernel
theorem dX6_takeNumber_50 : decode cX6_takeNumber 50 = .ok (.ireturn, 1) := by decide +kernel
theorem dX6_takeNamed_0 : decode cX6_takeNamed 0 = .ok (.aload_n 0, 1) := by decide +kernel
theorem dX6_takeNamed_1 : decode cX6_takeNamed 1 = .ok (.invokevirtual 97, 3) := by decide +kernel
theorem dX6_takeNamed_4 : decode cX6_takeNamed 4 = .ok (.ifCond .ne 9, 3) := by decide +kernel
theorem dX6_takeNamed_7 : decode cX6_takeNamed 7 = .ok (.aload_n 0, 1) := by decide +kernel
theorem dX6_takeNamed_8 : decode cX6_takeNamed 8 = .ok (.iconst 1, 1) := by decide +kernel
theorem dX6_takeNamed_9 : decode cX6_takeNamed 9 = .ok (.invokevirtual 90, 3) := by decide +kernel
theorem dX6_takeNamed_12 : decode cX6_takeNamed 12 = .ok (.ireturn, 1) := by decide +kernel
theorem dX6_takeNamed_13 : decode cX6_takeNamed 13 = .ok (.iload_n 1, 1) := by decide +kernel
theorem dX6_takeNamed_14 : decode cX6_takeNamed 14 = .ok (.iconst (-1), 1) := by decide +kernel
theorem dX6_takeNamed_15 : decode cX6_takeNamed 15 = .ok (.if_icmp .ne 9, 3) := by decide +kernel
theorem dX6_takeNamed_18 : decode cX6_takeNamed 18 = .ok (.aload_n 0, 1) := by decide +kernel
theorem dX6_takeNamed_19 : decode cX6_takeNamed 19 = .ok (.iconst 3, 1) := by decide +kernel
theorem dX6_takeNamed_20 : decode cX6_takeNamed 20 = .ok (.invokevirtual 90, 3) := by decide +kernel
theorem dX6_takeNamed_23 : decode cX6_takeNamed 23 = .ok (.ireturn, 1) := by decide +kernel
theorem dX6_takeNamed_24 : decode cX6_takeNamed 24 = .ok (.aload_n 0, 1) := by decide +kernel
theorem dX6_takeNamed_25 : decode cX6_takeNamed 25 = .ok (.iload_n 1, 1) := by decide +kernel
theorem dX6_takeNamed_26 : decode cX6_takeNamed 26 = .ok (.putfield 94, 3) := by decide +kernel
theorem dX6_takeNamed_29 : decode cX6_takeNamed 29 = .ok (.aload_n 0, 1) := by decide +kernel
theorem dX6_takeNamed_30 : decode cX6_takeNamed 30 = .ok (.invokevirtual 46, 3) := by decide +kernel
theorem dX6_takeNamed_33 : decode cX6_takeNamed 33 = .ok (.iconst 1, 1) := by decide +kernel
theorem dX6_takeNamed_34 : decode cX6_takeNamed 34 = .ok (.ireturn, 1) := by decide +kernel
theorem dX10_init_0 : decode cX10_init 0 = .ok (.aload_n 0, 1) := by decide +kernel
theorem dX10_init_1 : decode cX10_init 1 = .ok (.invokespecial 3, 3) := by decide +kernel
theorem dX10_init_4 : decode cX10_init 4 = .ok (.aload_n 0, 1) := by decide +kernel
theorem dX10_init_5 : decode cX10_init 5 = .ok (.iconst 0, 1) := by decide +kernel
theorem dX10_init_6 : decode cX10_init 6 = .ok (.iload_n 1, 1) := by decide +kernel
theorem dX10_init_7 : decode cX10_init 7 = .ok (.invokestatic 9, 3) := by decide +kernel
theorem dX10_init_10 : decode cX10_init 10 = .ok (.newarray .byte, 2) := by decide +kernel
theorem dX10_init_12 : decode cX10_init 12 = .ok (.putfield 15, 3) := by decide +kernel
theorem dX10_init_15 : decode cX10_init 15 = .ok (.aload_n 0, 1) := by decide +kernel
theorem dX10_init_16 : decode cX10_init 16 = .ok (.iconst 0, 1) := by decide +kernel
theorem dX10_init_17 : decode cX10_init 17 = .ok (.putfield 21, 3) := by decide +kernel
theorem dX10_init_20 : decode cX10_init 20 = .ok (.return_, 1) := by decide +kernel
theorem dX10_at_0 : decode cX10_at 0 = .ok (.iload_n 1, 1) := by decide +kernel
theorem dX10_at_1 : decode cX10_at 1 = .ok (.ifCond .lt 33, 3) := by decide +kernel
theorem dX10_at_4 : decode cX10_at 4 = .ok (.iload_n 1, 1) := by decide +kernel
theorem dX10_at_5 : decode cX10_at 5 = .ok (.aload_n 0, 1) := by decide +kernel
theorem dX10_at_6 : decode cX10_at 6 = .ok (.getfield 21, 3) := by decide +kernel
theorem dX10_at_9 : decode cX10_at 9 = .ok (.if_icmp .ge 25, 3) := by decide +kernel
theorem dX10_at_12 : decode cX10_at 12 = .ok (.iload_n 1, 1) := by decide +kernel
theorem dX10_at_13 : decode cX10_at 13 = .ok (.aload_n 0, 1) := by decide +kernel
theorem dX10_at_14 : decode cX10_at 14 = .ok (.getfield 15, 3) := by decide +kernel
theorem dX10_at_17 : decode cX10_at 17 = .ok (.arraylength, 1) := by decide +kernel
theorem dX10_at_18 : decode cX10_at 18 = .ok (.if_icmp .ge 16, 3) := by decide +kernel
theorem dX10_at_21 : decode cX10_at 21 = .ok (.aload_n 0, 1) := by decide +kernel
theorem dX10_at_22 : decode cX10_at 22 = .ok (.getfield 15, 3) := by decide +kernel
theorem dX10_at_25 : decode cX10_at 25 = .ok (.iload_n 1, 1) := by decide +kernel
theorem dX10_at_26 : decode cX10_at 26 = .ok (.baload, 1) := by decide +kernel
theorem dX10_at_27 : decode cX10_at 27 = .ok (.sipush 255, 3) := by decide +kernel
theorem dX10_at_30 : decode cX10_at 30 = .ok (.iand, 1) := by decide +kernel
theorem dX10_at_31 : decode cX10_at 31 = .ok (.goto 4, 3) := by decide +kernel
theorem dX10_at_34 : decode cX10_at 34 = .ok (.iconst (-1), 1) := by decide +kernel
theorem dX10_at_35 : decode cX10_at 35 = .ok (.ireturn, 1) := by decide +kernel
theorem dX10_put_0 : decode cX10_put 0 = .ok (.aload_n 0, 1) := by decide +kernel
theorem dX10_put_1 : decode cX10_put 1 = .ok (.getfield 21, 3) := by decide +kernel
theorem dX10_put_4 : decode cX10_put 4 = .ok (.ifCond .lt 36, 3) := by decide +kernel
theorem dX10_put_7 : decode cX10_put 7 = .ok (.aload_n 0, 1) := by decide +kernel
theorem dX10_put_8 : decode cX10_put 8 = .ok (.getfield 21, 3) := by decide +kernel
theorem dX10_put_11 : decode cX10_put 11 = .ok (.aload_n 0, 1) := by decide +kernel
theorem dX10_put_12 : decode cX10_put 12 = .ok (.getfield 15, 3) := by decide +kernel
theorem dX10_put_15 : decode cX10_put 15 = .ok (.arraylength, 1) := by decide +kernel
theorem dX10_put_16 : decode cX10_put 16 = .ok (.if_icmp .ge 24, 3) := by decide +kernel
theorem dX10_put_19 : decode cX10_put 19 = .ok (.aload_n 0, 1) := by decide +kernel
theorem dX10_put_20 : decode cX10_put 20 = .ok (.getfield 15, 3) := by decide +kernel
theorem dX10_put_23 : decode cX10_put 23 = .ok (.aload_n 0, 1) := by decide +kernel
theorem dX10_put_24 : decode cX10_put 24 = .ok (.getfield 21, 3) := by decide +kernel
theorem dX10_put_27 : decode cX10_put 27 = .ok (.iload_n 1, 1) := by decide +kernel
theorem dX10_put_28 : decode cX10_put 28 = .ok (.i2b, 1) := by decide +kernel
theorem dX10_put_29 : decode cX10_put 29 = .ok (.bastore, 1) := by decide +kernel
theorem dX10_put_30 : decode cX10_put 30 = .ok (.aload_n 0, 1) := by decide +kernel
theorem dX10_put_31 : decode cX10_put 31 = .ok (.dup, 1) := by decide +kernel
theorem dX10_put_32 : decode cX10_put 32 = .ok (.getfield 21, 3) := by decide +kernel
theorem dX10_put_35 : decode cX10_put 35 = .ok (.iconst 1, 1) := by decide +kernel
theorem dX10_put_36 : decode cX10_put 36 = .ok (.iadd, 1) := by decide +kernel
theorem dX10_put_37 : decode cX10_put 37 = .ok (.putfield 21, 3) := by decide +kernel
theorem dX10_put_40 : decode cX10_put 40 = .ok (.return_, 1) := by decide +kernel
theorem dX10_putInt_0 : decode cX10_putInt 0 = .ok (.bipush 24, 2) := by decide +kernel
theorem dX10_putInt_2 : decode cX10_putInt 2 = .ok (.istore_n 2, 1) := by decide +kernel
theorem dX10_putInt_3 : decode cX10_putInt 3 = .ok (.iload_n 2, 1) := by decide +kernel
theorem dX10_putInt_4 : decode cX10_putInt 4 = .ok (.ifCond .lt 16, 3) := by decide +kernel
theorem dX10_putInt_7 : decode cX10_putInt 7 = .ok (.aload_n 0, 1) := by decide +kernel
theorem dX10_putInt_8 : decode cX10_putInt 8 = .ok (.iload_n 1, 1) := by decide +kernel
theorem dX10_putInt_9 : decode cX10_putInt 9 = .ok (.iload_n 2, 1) := by decide +kernel
theorem dX10_putInt_10 : decode cX10_putInt 10 = .ok (.ishr, 1) := by decide +kernel
theorem dX10_putInt_11 : decode cX10_putInt 11 = .ok (.invokevirtual 25, 3) := by decide +kernel
theorem dX10_putInt_14 : decode cX10_putInt 14 = .ok (.iinc 2 (-8), 3) := by decide +kernel
theorem dX10_putInt_17 : decode cX10_putInt 17 = .ok (.goto (-14), 3) := by decide +kernel
theorem dX10_putInt_20 : decode cX10_putInt 20 = .ok (.return_, 1) := by decide +kernel
theorem dX10_putText_0 : decode cX10_putText 0 = .ok (.iconst 0, 1) := by decide +kernel
theorem dX10_putText_1 : decode cX10_putText 1 = .ok (.istore_n 2, 1) := by decide +kernel
theorem dX10_putText_2 : decode cX10_putText 2 = .ok (.iload_n 2, 1) := by decide +kernel
theorem dX10_putText_3 : decode cX10_putText 3 = .ok (.aload_n 1, 1) := by decide +kernel
theorem dX10_putText_4 : decode cX10_putText 4 = .ok (.invokevirtual 29, 3) := by decide +kernel
theorem dX10_putText_7 : decode cX10_putText 7 = .ok (.if_icmp .ge 18, 3) := by decide +kernel
theorem dX10_putText_10 : decode cX10_putText 10 = .ok (.aload_n 0, 1) := by decide +kernel
theorem dX10_putText_11 : decode cX10_putText 11 = .ok (.aload_n 1, 1) := by decide +kernel
theorem dX10_putText_12 : decode cX10_putText 12 = .ok (.iload_n 2, 1) := by decide +kernel
theorem dX10_putText_13 : decode cX10_putText 13 = .ok (.invokevirtual 35, 3) := by decide +kernel
theorem dX10_putText_16 : decode cX10_putText 16 = .ok (.invokevirtual 25, 3) := by decide +kernel
theorem dX10_putText_19 : decode cX10_putText 19 = .ok (.iinc 2 1, 3) := by decide +kernel
theorem dX10_putText_22 : decode cX10_putText 22 = .ok (.goto (-20), 3) := by decide +kernel
theorem dX10_putText_25 : decode cX10_putText 25 = .ok (.return_, 1) := by decide +kernel
theorem dX10_putName_0 : decode cX10_putName 0 = .ok (.bipush 30, 2) := by decide +kernel
theorem dX10_putName_2 : decode cX10_putName 2 = .ok (.istore_n 3, 1) := by decide +kernel
theorem dX10_putName_3 : decode cX10_putName 3 = .ok (.iload_n 3, 1) := by decide +kernel
theorem dX10_putName_4 : decode cX10_putName 4 = .ok (.ifCond .lt 33, 3) := by decide +kernel
theorem dX10_putName_7 : decode cX10_putName 7 = .ok (.lload_n 1, 1) := by decide +kernel
theorem dX10_putName_8 : decode cX10_putName 8 = .ok (.iload_n 3, 1) := by decide +kernel
theorem dX10_putName_9 : decode cX10_putName 9 = .ok (.lshr, 1) := by decide +kernel
theorem dX10_putName_10 : decode cX10_putName 10 = .ok (.ldc2_w 39, 3) := by decide +kernel
theorem dX10_putName_13 : decode cX10_putName 13 = .ok (.land, 1) := by decide +kernel
theorem dX10_putName_14 : decode cX10_putName 14 = .ok (.l2i, 1) := by decide +kernel
theorem dX10_putName_15 : decode cX10_putName 15 = .ok (.istore 4, 2) := by decide +kernel
theorem dX10_putName_17 : decode cX10_putName 17 = .ok (.iload 4, 2) := by decide +kernel
theorem dX10_putName_19 : decode cX10_putName 19 = .ok (.ifCond .eq 12, 3) := by decide +kernel
theorem dX10_putName_22 : decode cX10_putName 22 = .ok (.aload_n 0, 1) := by decide +kernel
theorem dX10_putName_23 : decode cX10_putName 23 = .ok (.bipush 96, 2) := by decide +kernel
theorem dX10_putName_25 : decode cX10_putName 25 = .ok (.iload 4, 2) := by decide +kernel
theorem dX10_putName_27 : decode cX10_putName 27 = .ok (.iadd, 1) := by decide +kernel
theorem dX10_putName_28 : decode cX10_putName 28 = .ok (.invokevirtual 25, 3) := by decide +kernel
theorem dX10_putName_31 : decode cX10_putName 31 = .ok (.iinc 3 (-5), 3) := by decide +kernel
theorem dX10_putName_34 : decode cX10_putName 34 = .ok (.goto (-31), 3) := by decide +kernel
theorem dX10_putName_37 : decode cX10_putName 37 = .ok (.return_, 1) := by decide +kernel
theorem dX10_putNumber_0 : decode cX10_putNumber 0 = .ok (.iconst 1, 1) := by decide +kernel
theorem dX10_putNumber_1 : decode cX10_putNumber 1 = .ok (.istore_n 2, 1) := by decide +kernel
theorem dX10_putNumber_2 : decode cX10_putNumber 2 = .ok (.iconst 1, 1) := by decide +kernel
theorem dX10_putNumber_3 : decode cX10_putNumber 3 = .ok (.istore_n 3, 1) := by decide +kernel
theorem dX10_putNumber_4 : decode cX10_putNumber 4 = .ok (.iload_n 3, 1) := by decide +kernel
theorem dX10_putNumber_5 : decode cX10_putNumber 5 = .ok (.bipush 6, 2) := by decide +kernel
theorem dX10_putNumber_7 : decode cX10_putNumber 7 = .ok (.if_icmp .ge 22, 3) := by decide +kernel
theorem dX10_putNumber_10 : decode cX10_putNumber 10 = .ok (.iload_n 1, 1) := by decide +kernel
theorem dX10_putNumber_11 : decode cX10_putNumber 11 = .ok (.bipush 10, 2) := by decide +kernel
theorem dX10_putNumber_13 : decode cX10_putNumber 13 = .ok (.idiv, 1) := by decide +kernel
theorem dX10_putNumber_14 : decode cX10_putNumber 14 = .ok (.iload_n 2, 1) := by decide +kernel
theorem dX10_putNumber_15 : decode cX10_putNumber 15 = .ok (.if_icmp .lt 14, 3) := by decide +kernel
theorem dX10_putNumber_18 : decode cX10_putNumber 18 = .ok (.iload_n 2, 1) := by decide +kernel
theorem dX10_putNumber_19 : decode cX10_putNumber 19 = .ok (.bipush 10, 2) := by decide +kernel
theorem dX10_putNumber_21 : decode cX10_putNumber 21 = .ok (.imul, 1) := by decide +kernel
theorem dX10_putNumber_22 : decode cX10_putNumber 22 = .ok (.istore_n 2, 1) := by decide +kernel
theorem dX10_putNumber_23 : decode cX10_putNumber 23 = .ok (.iinc 3 1, 3) := by decide +kernel
theorem dX10_putNumber_26 : decode cX10_putNumber 26 = .ok (.goto (-22), 3) := by decide +kernel
theorem dX10_putNumber_29 : decode cX10_putNumber 29 = .ok (.iload_n 2, 1) := by decide +kernel
theorem dX10_putNumber_30 : decode cX10_putNumber 30 = .ok (.ifCond .le 24, 3) := by decide +kernel
theorem dX10_putNumber_33 : decode cX10_putNumber 33 = .ok (.aload_n 0, 1) := by decide +kernel
theorem dX10_putNumber_34 : decode cX10_putNumber 34 = .ok (.bipush 48, 2) := by decide +kernel
theorem dX10_putNumber_36 : decode cX10_putNumber 36 = .ok (.iload_n 1, 1) := by decide +kernel
theorem dX10_putNumber_37 : decode cX10_putNumber 37 = .ok (.iload_n 2, 1) := by decide +kernel
theorem dX10_putNumber_38 : decode cX10_putNumber 38 = .ok (.idiv, 1) := by decide +kernel
theorem dX10_putNumber_39 : decode cX10_putNumber 39 = .ok (.bipush 10, 2) := by decide +kernel
theorem dX10_putNumber_41 : decode cX10_putNumber 41 = .ok (.irem, 1) := by decide +kernel
theorem dX10_putNumber_42 : decode cX10_putNumber 42 = .ok (.iadd, 1) := by decide +kernel
theorem dX10_putNumber_43 : decode cX10_putNumber 43 = .ok (.invokevirtual 25, 3) := by decide +kernel
theorem dX10_putNumber_46 : decode cX10_putNumber 46 = .ok (.iload_n 2, 1) := by decide +kernel
theorem dX10_putNumber_47 : decode cX10_putNumber 47 = .ok (.bipush 10, 2) := by decide +kernel
theorem dX10_putNumber_49 : decode cX10_putNumber 49 = .ok (.idiv, 1) := by decide +kernel
theorem dX10_putNumber_50 : decode cX10_putNumber 50 = .ok (.istore_n 2, 1) := by decide +kernel
theorem dX10_putNumber_51 : decode cX10_putNumber 51 = .ok (.goto (-22), 3) := by decide +kernel
theorem dX10_putNumber_54 : decode cX10_putNumber 54 = .ok (.return_, 1) := by decide +kernel
