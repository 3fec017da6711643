theorem dX11_init_0 : decode cX11_init 0 = .ok (.aload_n 0, 1) := by decide +kernel
theorem dX11_init_1 : decode cX11_init 1 = .ok (.invokespecial 1, 3) := by decide +kernel
theorem dX11_init_4 : decode cX11_init 4 = .ok (.aload_n 0, 1) := by decide +kernel
theorem dX11_init_5 : decode cX11_init 5 = .ok (.new 7, 3) := by decide +kernel
theorem dX11_init_8 : decode cX11_init 8 = .ok (.dup, 1) := by decide +kernel
theorem dX11_init_9 : decode cX11_init 9 = .ok (.sipush 940, 3) := by decide +kernel
theorem dX11_init_12 : decode cX11_init 12 = .ok (.invokespecial 11, 3) := by decide +kernel
theorem dX11_init_15 : decode cX11_init 15 = .ok (.putfield 14, 3) := by decide +kernel
theorem dX11_init_18 : decode cX11_init 18 = .ok (.aload_n 0, 1) := by decide +kernel
theorem dX11_init_19 : decode cX11_init 19 = .ok (.new 7, 3) := by decide +kernel
theorem dX11_init_22 : decode cX11_init 22 = .ok (.dup, 1) := by decide +kernel
theorem dX11_init_23 : decode cX11_init 23 = .ok (.bipush 40, 2) := by decide +kernel
theorem dX11_init_25 : decode cX11_init 25 = .ok (.invokespecial 11, 3) := by decide +kernel
theorem dX11_init_28 : decode cX11_init 28 = .ok (.putfield 18, 3) := by decide +kernel
theorem dX11_init_31 : decode cX11_init 31 = .ok (.new 21, 3) := by decide +kernel
theorem dX11_init_34 : decode cX11_init 34 = .ok (.dup, 1) := by decide +kernel
theorem dX11_init_35 : decode cX11_init 35 = .ok (.aload_n 0, 1) := by decide +kernel
theorem dX11_init_36 : decode cX11_init 36 = .ok (.getfield 14, 3) := by decide +kernel
theorem dX11_init_39 : decode cX11_init 39 = .ok (.invokespecial 23, 3) := by decide +kernel
theorem dX11_init_42 : decode cX11_init 42 = .ok (.astore_n 1, 1) := by decide +kernel
theorem dX11_init_43 : decode cX11_init 43 = .ok (.aload_n 0, 1) := by decide +kernel
theorem dX11_init_44 : decode cX11_init 44 = .ok (.new 26, 3) := by decide +kernel
theorem dX11_init_47 : decode cX11_init 47 = .ok (.dup, 1) := by decide +kernel
theorem dX11_init_48 : decode cX11_init 48 = .ok (.invokespecial 28, 3) := by decide +kernel
theorem dX11_init_51 : decode cX11_init 51 = .ok (.putfield 29, 3) := by decide +kernel
theorem dX11_init_54 : decode cX11_init 54 = .ok (.aload_n 0, 1) := by decide +kernel
theorem dX11_init_55 : decode cX11_init 55 = .ok (.new 33, 3) := by decide +kernel
theorem dX11_init_58 : decode cX11_init 58 = .ok (.dup, 1) := by decide +kernel
theorem dX11_init_59 : decode cX11_init 59 = .ok (.aload_n 0, 1) := by decide +kernel
theorem dX11_init_60 : decode cX11_init 60 = .ok (.getfield 29, 3) := by decide +kernel
theorem dX11_init_63 : decode cX11_init 63 = .ok (.invokespecial 35, 3) := by decide +kernel
theorem dX11_init_66 : decode cX11_init 66 = .ok (.putfield 38, 3) := by decide +kernel
theorem dX11_init_69 : decode cX11_init 69 = .ok (.aload_n 0, 1) := by decide +kernel
theorem dX11_init_70 : decode cX11_init 70 = .ok (.new 42, 3) := by decide +kernel
theorem dX11_init_73 : decode cX11_init 73 = .ok (.dup, 1) := by decide +kernel
theorem dX11_init_74 : decode cX11_init 74 = .ok (.aload_n 1, 1) := by decide +kernel
theorem dX11_init_75 : decode cX11_init 75 = .ok (.invokespecial 44, 3) := by decide +kernel
theorem dX11_init_78 : decode cX11_init 78 = .ok (.putfield 47, 3) := by decide +kernel
theorem dX11_init_81 : decode cX11_init 81 = .ok (.aload_n 0, 1) := by decide +kernel
theorem dX11_init_82 : decode cX11_init 82 = .ok (.new 51, 3) := by decide +kernel
theorem dX11_init_85 : decode cX11_init 85 = .ok (.dup, 1) := by decide +kernel
theorem dX11_init_86 : decode cX11_init 86 = .ok (.aload_n 0, 1) := by decide +kernel
theorem dX11_init_87 : decode cX11_init 87 = .ok (.getfield 29, 3) := by decide +kernel
theorem dX11_init_90 : decode cX11_init 90 = .ok (.invokespecial 53, 3) := by decide +kernel
theorem dX11_init_93 : decode cX11_init 93 = .ok (.putfield 54, 3) := by decide +kernel
theorem dX11_init_96 : decode cX11_init 96 = .ok (.aload_n 0, 1) := by decide +kernel
theorem dX11_init_97 : decode cX11_init 97 = .ok (.new 58, 3) := by decide +kernel
theorem dX11_init_100 : decode cX11_init 100 = .ok (.dup, 1) := by decide +kernel
theorem dX11_init_101 : decode cX11_init 101 = .ok (.aload_n 0, 1) := by decide +kernel
theorem dX11_init_102 : decode cX11_init 102 = .ok (.getfield 38, 3) := by decide +kernel
theorem dX11_init_105 : decode cX11_init 105 = .ok (.invokespecial 60, 3) := by decide +kernel
theorem dX11_init_108 : decode cX11_init 108 = .ok (.putfield 63, 3) := by decide +kernel
theorem dX11_init_111 : decode cX11_init 111 = .ok (.aload_n 0, 1) := by decide +kernel
theorem dX11_init_112 : decode cX11_init 112 = .ok (.new 67, 3) := by decide +kernel
theorem dX11_init_115 : decode cX11_init 115 = .ok (.dup, 1) := by decide +kernel
theorem dX11_init_116 : decode cX11_init 116 = .ok (.aload_n 1, 1) := by decide +kernel
theorem dX11_init_117 : decode cX11_init 117 = .ok (.aload_n 0, 1) := by decide +kernel
theorem dX11_init_118 : decode cX11_init 118 = .ok (.getfield 29, 3) := by decide +kernel
theorem dX11_init_121 : decode cX11_init 121 = .ok (.invokespecial 69, 3) := by decide +kernel
theorem dX11_init_124 : decode cX11_init 124 = .ok (.putfield 72, 3) := by decide +kernel
theorem dX11_init_127 : decode cX11_init 127 = .ok (.aload_n 0, 1) := by decide +kernel
theorem dX11_init_128 : decode cX11_init 128 = .ok (.new 76, 3) := by decide +kernel
theorem dX11_init_131 : decode cX11_init 131 = .ok (.dup, 1) := by decide +kernel
theorem dX11_init_132 : decode cX11_init 132 = .ok (.invokespecial 78, 3) := by decide +kernel
theorem dX11_init_135 : decode cX11_init 135 = .ok (.putfield 79, 3) := by decide +kernel
theorem dX11_init_138 : decode cX11_init 138 = .ok (.aload_n 0, 1) := by decide +kernel
theorem dX11_init_139 : decode cX11_init 139 = .ok (.new 83, 3) := by decide +kernel
theorem dX11_init_142 : decode cX11_init 142 = .ok (.dup, 1) := by decide +kernel
theorem dX11_init_143 : decode cX11_init 143 = .ok (.aload_n 1, 1) := by decide +kernel
theorem dX11_init_144 : decode cX11_init 144 = .ok (.aload_n 0, 1) := by decide +kernel
theorem dX11_init_145 : decode cX11_init 145 = .ok (.getfield 29, 3) := by decide +kernel
theorem dX11_init_148 : decode cX11_init 148 = .ok (.invokespecial 85, 3) := by decide +kernel
theorem dX11_init_151 : decode cX11_init 151 = .ok (.putfield 86, 3) := by decide +kernel
theorem dX11_init_154 : decode cX11_init 154 = .ok (.aload_n 0, 1) := by decide +kernel
theorem dX11_init_155 : decode cX11_init 155 = .ok (.iconst 2, 1) := by decide +kernel
theorem dX11_init_156 : decode cX11_init 156 = .ok (.anewarray 90, 3) := by decide +kernel
theorem dX11_init_159 : decode cX11_init 159 = .ok (.putfield 92, 3) := by decide +kernel
theorem dX11_init_162 : decode cX11_init 162 = .ok (.aload_n 0, 1) := by decide +kernel
theorem dX11_init_163 : decode cX11_init 163 = .ok (.getfield 92, 3) := by decide +kernel
theorem dX11_init_166 : decode cX11_init 166 = .ok (.iconst 0, 1) := by decide +kernel
theorem dX11_init_167 : decode cX11_init 167 = .ok (.new 90, 3) := by decide +kernel
theorem dX11_init_170 : decode cX11_init 170 = .ok (.dup, 1) := by decide +kernel
theorem dX11_init_171 : decode cX11_init 171 = .ok (.invokespecial 96, 3) := by decide +kernel
theorem dX11_init_174 : decode cX11_init 174 = .ok (.aastore, 1) := by decide +kernel
theorem dX11_init_175 : decode cX11_init 175 = .ok (.aload_n 0, 1) := by decide +kernel
theorem dX11_init_176 : decode cX11_init 176 = .ok (.getfield 92, 3) := by decide +kernel
theorem dX11_init_179 : decode cX11_init 179 = .ok (.iconst 1, 1) := by decide +kernel
theorem dX11_init_180 : decode cX11_init 180 = .ok (.new 90, 3) := by decide +kernel
theorem dX11_init_183 : decode cX11_init 183 = .ok (.dup, 1) := by decide +kernel
theorem dX11_init_184 : decode cX11_init 184 = .ok (.invokespecial 96, 3) := by decide +kernel
theorem dX11_init_187 : decode cX11_init 187 = .ok (.aastore, 1) := by decide +kernel
theorem dX11_init_188 : decode cX11_init 188 = .ok (.aload_n 0, 1) := by decide +kernel
theorem dX11_init_189 : decode cX11_init 189 = .ok (.iconst 0, 1) := by decide +kernel
theorem dX11_init_190 : decode cX11_init 190 = .ok (.putfield 97, 3) := by decide +kernel
theorem dX11_init_193 : decode cX11_init 193 = .ok (.return_, 1) := by decide +kernel
theorem dX11_feed_0 : decode cX11_feed 0 = .ok (.aload_n 0, 1) := by decide +kernel
theorem dX11_feed_1 : decode cX11_feed 1 = .ok (.getfield 14, 3) := by decide +kernel
theorem dX11_feed_4 : decode cX11_feed 4 = .ok (.getfield 101, 3) := by decide +kernel
theorem dX11_feed_7 : decode cX11_feed 7 = .ok (.bipush 20, 2) := by decide +kernel
theorem dX11_feed_9 : decode cX11_feed 9 = .ok (.iadd, 1) := by decide +kernel
theorem dX11_feed_10 : decode cX11_feed 10 = .ok (.sipush 940, 3) := by decide +kernel
theorem dX11_feed_13 : decode cX11_feed 13 = .ok (.if_icmp .le 5, 3) := by decide +kernel
theorem dX11_feed_16 : decode cX11_feed 16 = .ok (.iconst (-1), 1) := by decide +kernel
theorem dX11_feed_17 : decode cX11_feed 17 = .ok (.ireturn, 1) := by decide +kernel
theorem dX11_feed_18 : decode cX11_feed 18 = .ok (.aload_n 0, 1) := by decide +kernel
theorem dX11_feed_19 : decode cX11_feed 19 = .ok (.getfield 14, 3) := by decide +kernel
theorem dX11_feed_22 : decode cX11_feed 22 = .ok (.iload_n 1, 1) := by decide +kernel
theorem dX11_feed_23 : decode cX11_feed 23 = .ok (.invokevirtual 104, 3) := by decide +kernel
theorem dX11_feed_26 : decode cX11_feed 26 = .ok (.aload_n 0, 1) := by decide +kernel
theorem dX11_feed_27 : decode cX11_feed 27 = .ok (.getfield 14, 3) := by decide +kernel
theorem dX11_feed_30 : decode cX11_feed 30 = .ok (.iload_n 2, 1) := by decide +kernel
theorem dX11_feed_31 : decode cX11_feed 31 = .ok (.invokevirtual 104, 3) := by decide +kernel
theorem dX11_feed_34 : decode cX11_feed 34 = .ok (.aload_n 0, 1) := by decide +kernel
theorem dX11_feed_35 : decode cX11_feed 35 = .ok (.getfield 14, 3) := by decide +kernel
theorem dX11_feed_38 : decode cX11_feed 38 = .ok (.iload_n 3, 1) := by decide +kernel
theorem dX11_feed_39 : decode cX11_feed 39 = .ok (.invokevirtual 104, 3) := by decide +kernel
theorem dX11_feed_42 : decode cX11_feed 42 = .ok (.aload_n 0, 1) := by decide +kernel
theorem dX11_feed_43 : decode cX11_feed 43 = .ok (.getfield 14, 3) := by decide +kernel
theorem dX11_feed_46 : decode cX11_feed 46 = .ok (.iload 4, 2) := by decide +kernel
theorem dX11_feed_48 : decode cX11_feed 48 = .ok (.invokevirtual 104, 3) := by decide +kernel
theorem dX11_feed_51 : decode cX11_feed 51 = .ok (.aload_n 0, 1) := by decide +kernel
theorem dX11_feed_52 : decode cX11_feed 52 = .ok (.getfield 14, 3) := by decide +kernel
theorem dX11_feed_55 : decode cX11_feed 55 = .ok (.iload 5, 2) := by decide +kernel
theorem dX11_feed_57 : decode cX11_feed 57 = .ok (.invokevirtual 104, 3) := by decide +kernel
theorem dX11_feed_60 : decode cX11_feed 60 = .ok (.aload_n 0, 1) := by decide +kernel
theorem dX11_feed_61 : decode cX11_feed 61 = .ok (.getfield 14, 3) := by decide +kernel
theorem dX11_feed_64 : decode cX11_feed 64 = .ok (.getfield 101, 3) := by decide +kernel
theorem dX11_feed_67 : decode cX11_feed 67 = .ok (.ireturn, 1) := by decide +kernel
theorem dX11_end_0 : decode cX11_end 0 = .ok (.iload_n 1, 1) := by decide +kernel
theorem dX11_end_1 : decode cX11_end 1 = .ok (.ifCond .lt 14, 3) := by decide +kernel
theorem dX11_end_4 : decode cX11_end 4 = .ok (.iload_n 1, 1) := by decide +kernel
theorem dX11_end_5 : decode cX11_end 5 = .ok (.aload_n 0, 1) := by decide +kernel
theorem dX11_end_6 : decode cX11_end 6 = .ok (.getfield 14, 3) := by decide +kernel
theorem dX11_end_9 : decode cX11_end 9 = .ok (.getfield 101, 3) := by decide +kernel
theorem dX11_end_12 : decode cX11_end 12 = .ok (.if_icmp .le 5, 3) := by decide +kernel
theorem dX11_end_15 : decode cX11_end 15 = .ok (.iconst 0, 1) := by decide +kernel
theorem dX11_end_16 : decode cX11_end 16 = .ok (.ireturn, 1) := by decide +kernel
theorem dX11_end_17 : decode cX11_end 17 = .ok (.aload_n 0, 1) := by decide +kernel
theorem dX11_end_18 : decode cX11_end 18 = .ok (.getfield 14, 3) := by decide +kernel
theorem dX11_end_21 : decode cX11_end 21 = .ok (.iload_n 1, 1) := by decide +kernel
theorem dX11_end_22 : decode cX11_end 22 = .ok (.putfield 101, 3) := by decide +kernel
theorem dX11_end_25 : decode cX11_end 25 = .ok (.iconst 1, 1) := by decide +kernel
theorem dX11_end_26 : decode cX11_end 26 = .ok (.ireturn, 1) := by decide +kernel
theorem dX11_hall_0 : decode cX11_hall 0 = .ok (.aload_n 0, 1) := by decide +kernel
theorem dX11_hall_1 : decode cX11_hall 1 = .ok (.getfield 47, 3) := by decide +kernel
theorem dX11_hall_4 : decode cX11_hall 4 = .ok (.invokevirtual 107, 3) := by decide +kernel
theorem dX11_hall_7 : decode cX11_hall 7 = .ok (.istore_n 1, 1) := by decide +kernel
theorem dX11_hall_8 : decode cX11_hall 8 = .ok (.aload_n 0, 1) := by decide +kernel
theorem dX11_hall_9 : decode cX11_hall 9 = .ok (.getfield 14, 3) := by decide +kernel
theorem dX11_hall_12 : decode cX11_hall 12 = .ok (.iconst 0, 1) := by decide +kernel
theorem dX11_hall_13 : decode cX11_hall 13 = .ok (.putfield 101, 3) := by decide +kernel
theorem dX11_hall_16 : decode cX11_hall 16 = .ok (.aload_n 0, 1) := by decide +kernel
theorem dX11_hall_17 : decode cX11_hall 17 = .ok (.aload_n 0, 1) := by decide +kernel
theorem dX11_hall_18 : decode cX11_hall 18 = .ok (.getfield 47, 3) := by decide +kernel
theorem dX11_hall_21 : decode cX11_hall 21 = .ok (.getfield 111, 3) := by decide +kernel
theorem dX11_hall_24 : decode cX11_hall 24 = .ok (.getfield 115, 3) := by decide +kernel
theorem dX11_hall_27 : decode cX11_hall 27 = .ok (.putfield 97, 3) := by decide +kernel
theorem dX11_hall_30 : decode cX11_hall 30 = .ok (.iload_n 1, 1) := by decide +kernel
theorem dX11_hall_31 : decode cX11_hall 31 = .ok (.iconst (-1), 1) := by decide +kernel
theorem dX11_hall_32 : decode cX11_hall 32 = .ok (.if_icmp .ne 16, 3) := by decide +kernel
theorem dX11_hall_35 : decode cX11_hall 35 = .ok (.iconst (-1), 1) := by decide +kernel
theorem dX11_hall_36 : decode cX11_hall 36 = .ok (.aload_n 0, 1) := by decide +kernel
theorem dX11_hall_37 : decode cX11_hall 37 = .ok (.getfield 47, 3) := by decide +kernel
theorem dX11_hall_40 : decode cX11_hall 40 = .ok (.getfield 111, 3) := by decide +kernel
theorem dX11_hall_43 : decode cX11_hall 43 = .ok (.getfield 118, 3) := by decide +kernel
theorem dX11_hall_46 : decode cX11_hall 46 = .ok (.isub, 1) := by decide +kernel
theorem dX11_hall_47 : decode cX11_hall 47 = .ok (.ireturn, 1) := by decide +kernel
theorem dX11_hall_48 : decode cX11_hall 48 = .ok (.aload_n 0, 1) := by decide +kernel
theorem dX11_hall_49 : decode cX11_hall 49 = .ok (.getfield 29, 3) := by decide +kernel
theorem dX11_hall_52 : decode cX11_hall 52 = .ok (.aload_n 0, 1) := by decide +kernel
theorem dX11_hall_53 : decode cX11_hall 53 = .ok (.getfield 47, 3) := by decide +kernel
theorem dX11_hall_56 : decode cX11_hall 56 = .ok (.getfield 121, 3) := by decide +kernel
theorem dX11_hall_59 : decode cX11_hall 59 = .ok (.invokevirtual 124, 3) := by decide +kernel
theorem dX11_hall_62 : decode cX11_hall 62 = .ok (.aload_n 0, 1) := by decide +kernel
theorem dX11_hall_63 : decode cX11_hall 63 = .ok (.getfield 38, 3) := by decide +kernel
theorem dX11_hall_66 : decode cX11_hall 66 = .ok (.invokevirtual 127, 3) := by decide +kernel
theorem dX11_hall_69 : decode cX11_hall 69 = .ok (.aload_n 0, 1) := by decide +kernel
theorem dX11_hall_70 : decode cX11_hall 70 = .ok (.getfield 79, 3) := by decide +kernel
theorem dX11_hall_73 : decode cX11_hall 73 = .ok (.invokevirtual 130, 3) := by decide +kernel
theorem dX11_hall_76 : decode cX11_hall 76 = .ok (.aload_n 0, 1) := by decide +kernel
theorem dX11_hall_77 : decode cX11_hall 77 = .ok (.getfield 54, 3) := by decide +kernel
theorem dX11_hall_80 : decode cX11_hall 80 = .ok (.iconst 0, 1) := by decide +kernel
theorem dX11_hall_81 : decode cX11_hall 81 = .ok (.putfield 133, 3) := by decide +kernel
theorem dX11_hall_84 : decode cX11_hall 84 = .ok (.iload_n 1, 1) := by decide +kernel
theorem dX11_hall_85 : decode cX11_hall 85 = .ok (.ireturn, 1) := by decide +kernel
theorem dX11_fault_0 : decode cX11_fault 0 = .ok (.aload_n 0, 1) := by decide +kernel
theorem dX11_fault_1 : decode cX11_fault 1 = .ok (.getfield 97, 3) := by decide +kernel
theorem dX11_fault_4 : decode cX11_fault 4 = .ok (.ireturn, 1) := by decide +kernel
theorem dX11_guest_0 : decode cX11_guest 0 = .ok (.aload_n 0, 1) := by decide +kernel
theorem dX11_guest_1 : decode cX11_guest 1 = .ok (.getfield 29, 3) := by decide +kernel
theorem dX11_guest_4 : decode cX11_guest 4 = .ok (.iload_n 1, 1) := by decide +kernel
theorem dX11_guest_5 : decode cX11_guest 5 = .ok (.invokevirtual 136, 3) := by decide +kernel
theorem dX11_guest_8 : decode cX11_guest 8 = .ok (.ifCond .ne 13, 3) := by decide +kernel
theorem dX11_guest_11 : decode cX11_guest 11 = .ok (.new 140, 3) := by decide +kernel
theorem dX11_guest_14 : decode cX11_guest 14 = .ok (.dup, 1) := by decide +kernel
theorem dX11_guest_15 : decode cX11_guest 15 = .ok (.ldc 142, 2) := by decide +kernel
theorem dX11_guest_17 : decode cX11_guest 17 = .ok (.invokespecial 144, 3) := by decide +kernel
theorem dX11_guest_20 : decode cX11_guest 20 = .ok (.athrow, 1) := by decide +kernel
theorem dX11_guest_21 : decode cX11_guest 21 = .ok (.iload_n 2, 1) := by decide +kernel
theorem dX11_guest_22 : decode cX11_guest 22 = .ok (.tableswitch 161 0 9 #[54, 64, 74, 84, 94, 111, 121, 131, 141, 151], 54) := by decide +kernel
theorem dX11_guest_76 : decode cX11_guest 76 = .ok (.aload_n 0, 1) := by decide +kernel
theorem dX11_guest_77 : decode cX11_guest 77 = .ok (.getfield 38, 3) := by decide +kernel
theorem dX11_guest_80 : decode cX11_guest 80 = .ok (.getfield 147, 3) := by decide +kernel
theorem dX11_guest_83 : decode cX11_guest 83 = .ok (.iload_n 1, 1) := by decide +kernel
theorem dX11_guest_84 : decode cX11_guest 84 = .ok (.iaload, 1) := by decide +kernel
theorem dX11_guest_85 : decode cX11_guest 85 = .ok (.ireturn, 1) := by decide +kernel
theorem dX11_guest_86 : decode cX11_guest 86 = .ok (.aload_n 0, 1) := by decide +kernel
theorem dX11_guest_87 : decode cX11_guest 87 = .ok (.getfield 29, 3) := by decide +kernel
theorem dX11_guest_90 : decode cX11_guest 90 = .ok (.getfield 151, 3) := by decide +kernel
theorem dX11_guest_93 : decode cX11_guest 93 = .ok (.iload_n 1, 1) := by decide +kernel
theorem dX11_guest_94 : decode cX11_guest 94 = .ok (.iaload, 1) := by decide +kernel
theorem dX11_guest_95 : decode cX11_guest 95 = .ok (.ireturn, 1) := by decide +kernel
theorem dX11_guest_96 : decode cX11_guest 96 = .ok (.aload_n 0, 1) := by decide +kernel
theorem dX11_guest_97 : decode cX11_guest 97 = .ok (.getfield 29, 3) := by decide +kernel
theorem dX11_guest_100 : decode cX11_guest 100 = .ok (.getfield 154, 3) := by decide +kernel
theorem dX11_guest_103 : decode cX11_guest 103 = .ok (.iload_n 1, 1) := by decide +kernel
theorem dX11_guest_104 : decode cX11_guest 104 = .ok (.iaload, 1) := by decide +kernel
theorem dX11_guest_105 : decode cX11_guest 105 = .ok (.ireturn, 1) := by decide +kernel
theorem dX11_guest_106 : decode cX11_guest 106 = .ok (.aload_n 0, 1) := by decide +kernel
theorem dX11_guest_107 : decode cX11_guest 107 = .ok (.getfield 38, 3) := by decide +kernel
theorem dX11_guest_110 : decode cX11_guest 110 = .ok (.getfield 157, 3) := by decide +kernel
theorem dX11_guest_113 : decode cX11_guest 113 = .ok (.iload_n 1, 1) := by decide +kernel
theorem dX11_guest_114 : decode cX11_guest 114 = .ok (.iaload, 1) := by decide +kernel
theorem dX11_guest_115 : decode cX11_guest 115 = .ok (.ireturn, 1) := by decide +kernel
theorem dX11_guest_116 : decode cX11_guest 116 = .ok (.aload_n 0, 1) := by decide +kernel
theorem dX11_guest_117 : decode cX11_guest 117 = .ok (.getfield 38, 3) := by decide +kernel
theorem dX11_guest_120 : decode cX11_guest 120 = .ok (.iload_n 1, 1) := by decide +kernel
theorem dX11_guest_121 : decode cX11_guest 121 = .ok (.invokevirtual 160, 3) := by decide +kernel
theorem dX11_guest_124 : decode cX11_guest 124 = .ok (.ifCond .eq 7, 3) := by decide +kernel
theorem dX11_guest_127 : decode cX11_guest 127 = .ok (.iconst 1, 1) := by decide +kernel
theorem dX11_guest_128 : decode cX11_guest 128 = .ok (.goto 4, 3) := by decide +kernel
theorem dX11_guest_131 : decode cX11_guest 131 = .ok (.iconst 0, 1) := by decide +kernel
theorem dX11_guest_132 : decode cX11_guest 132 = .ok (.ireturn, 1) := by decide +kernel
theorem dX11_guest_133 : decode cX11_guest 133 = .ok (.aload_n 0, 1) := by decide +kernel
theorem dX11_guest_134 : decode cX11_guest 134 = .ok (.getfield 38, 3) := by decide +kernel
theorem dX11_guest_137 : decode cX11_guest 137 = .ok (.getfield 163, 3) := by decide +kernel
theorem dX11_guest_140 : decode cX11_guest 140 = .ok (.iload_n 1, 1) := by decide +kernel
theorem dX11_guest_141 : decode cX11_guest 141 = .ok (.iaload, 1) := by decide +kernel
theorem dX11_guest_142 : decode cX11_guest 142 = .ok (.ireturn, 1) := by decide +kernel
theorem dX11_guest_143 : decode cX11_guest 143 = .ok (.aload_n 0, 1) := by decide +kernel
theorem dX11_guest_144 : decode cX11_guest 144 = .ok (.getfield 38, 3) := by decide +kernel
theorem dX11_guest_147 : decode cX11_guest 147 = .ok (.getfield 166, 3) := by decide +kernel
theorem dX11_guest_150 : decode cX11_guest 150 = .ok (.iload_n 1, 1) := by decide +kernel
theorem dX11_guest_151 : decode cX11_guest 151 = .ok (.iaload, 1) := by decide +kernel
theorem dX11_guest_152 : decode cX11_guest 152 = .ok (.ireturn, 1) := by decide +kernel
theorem dX11_guest_153 : decode cX11_guest 153 = .ok (.aload_n 0, 1) := by decide +kernel
theorem dX11_guest_154 : decode cX11_guest 154 = .ok (.getfield 38, 3) := by decide +kernel
theorem dX11_guest_157 : decode cX11_guest 157 = .ok (.getfield 169, 3) := by decide +kernel
theorem dX11_guest_160 : decode cX11_guest 160 = .ok (.iload_n 1, 1) := by decide +kernel
theorem dX11_guest_161 : decode cX11_guest 161 = .ok (.iaload, 1) := by decide +kernel
theorem dX11_guest_162 : decode cX11_guest 162 = .ok (.ireturn, 1) := by decide +kernel
theorem dX11_guest_163 : decode cX11_guest 163 = .ok (.aload_n 0, 1) := by decide +kernel
theorem dX11_guest_164 : decode cX11_guest 164 = .ok (.getfield 38, 3) := by decide +kernel
theorem dX11_guest_167 : decode cX11_guest 167 = .ok (.getfield 172, 3) := by decide +kernel
theorem dX11_guest_170 : decode cX11_guest 170 = .ok (.iload_n 1, 1) := by decide +kernel
theorem dX11_guest_171 : decode cX11_guest 171 = .ok (.iaload, 1) := by decide +kernel
theorem dX11_guest_172 : decode cX11_guest 172 = .ok (.ireturn, 1) := by decide +kernel
theorem dX11_guest_173 : decode cX11_guest 173 = .ok (.aload_n 0, 1) := by decide +kernel
theorem dX11_guest_174 : decode cX11_guest 174 = .ok (.getfield 29, 3) := by decide +kernel
theorem dX11_guest_177 : decode cX11_guest 177 = .ok (.getfield 175, 3) := by decide +kernel
theorem dX11_guest_180 : decode cX11_guest 180 = .ok (.iload_n 1, 1) := by decide +kernel
theorem dX11_guest_181 : decode cX11_guest 181 = .ok (.iaload, 1) := by decide +kernel
theorem dX11_guest_182 : decode cX11_guest 182 = .ok (.ireturn, 1) := by decide +kernel
theorem dX11_guest_183 : decode cX11_guest 183 = .ok (.new 140, 3) := by decide +kernel
theorem dX11_guest_186 : decode cX11_guest 186 = .ok (.dup, 1) := by decide +kernel
theorem dX11_guest_187 : decode cX11_guest 187 = .ok (.ldc 178, 2) := by decide +kernel
theorem dX11_guest_189 : decode cX11_guest 189 = .ok (.invokespecial 144, 3) := by decide +kernel
theorem dX11_guest_192 : decode cX11_guest 192 = .ok (.athrow, 1) := by decide +kernel
theorem dX11_chair_0 : decode cX11_chair 0 = .ok (.aload_n 0, 1) := by decide +kernel
theorem dX11_chair_1 : decode cX11_chair 1 = .ok (.getfield 29, 3) := by decide +kernel
theorem dX11_chair_4 : decode cX11_chair 4 = .ok (.iload_n 1, 1) := by decide +kernel
theorem dX11_chair_5 : decode cX11_chair 5 = .ok (.invokevirtual 180, 3) := by decide +kernel
theorem dX11_chair_8 : decode cX11_chair 8 = .ok (.ifCond .ne 5, 3) := by decide +kernel
theorem dX11_chair_11 : decode cX11_chair 11 = .ok (.iconst (-1), 1) := by decide +kernel
theorem dX11_chair_12 : decode cX11_chair 12 = .ok (.ireturn, 1) := by decide +kernel
theorem dX11_chair_13 : decode cX11_chair 13 = .ok (.iload_n 2, 1) := by decide +kernel
theorem dX11_chair_14 : decode cX11_chair 14 = .ok (.tableswitch 56 0 2 #[26, 38, 47], 26) := by decide +kernel
theorem dX11_chair_40 : decode cX11_chair 40 = .ok (.aload_n 0, 1) := by decide +kernel
theorem dX11_chair_41 : decode cX11_chair 41 = .ok (.getfield 38, 3) := by decide +kernel
theorem dX11_chair_44 : decode cX11_chair 44 = .ok (.getfield 183, 3) := by decide +kernel
theorem dX11_chair_47 : decode cX11_chair 47 = .ok (.iload_n 1, 1) := by decide +kernel
theorem dX11_chair_48 : decode cX11_chair 48 = .ok (.ishr, 1) := by decide +kernel
theorem dX11_chair_49 : decode cX11_chair 49 = .ok (.iconst 1, 1) := by decide +kernel
theorem dX11_chair_50 : decode cX11_chair 50 = .ok (.iand, 1) := by decide +kernel
theorem dX11_chair_51 : decode cX11_chair 51 = .ok (.ireturn, 1) := by decide +kernel
theorem dX11_chair_52 : decode cX11_chair 52 = .ok (.aload_n 0, 1) := by decide +kernel
theorem dX11_chair_53 : decode cX11_chair 53 = .ok (.getfield 38, 3) := by decide +kernel
theorem dX11_chair_56 : decode cX11_chair 56 = .ok (.iload_n 1, 1) := by decide +kernel
theorem dX11_chair_57 : decode cX11_chair 57 = .ok (.invokevirtual 186, 3) := by decide +kernel
theorem dX11_chair_60 : decode cX11_chair 60 = .ok (.ireturn, 1) := by decide +kernel
theorem dX11_chair_61 : decode cX11_chair 61 = .ok (.aload_n 0, 1) := by decide +kernel
theorem dX11_chair_62 : decode cX11_chair 62 = .ok (.getfield 38, 3) := by decide +kernel
theorem dX11_chair_65 : decode cX11_chair 65 = .ok (.iload_n 1, 1) := by decide +kernel
theorem dX11_chair_66 : decode cX11_chair 66 = .ok (.invokevirtual 190, 3) := by decide +kernel
theorem dX11_chair_69 : decode cX11_chair 69 = .ok (.ireturn, 1) := by decide +kernel
theorem dX11_chair_70 : decode cX11_chair 70 = .ok (.iconst (-1), 1) := by decide +kernel
theorem dX11_chair_71 : decode cX11_chair 71 = .ok (.ireturn, 1) := by decide +kernel
theorem dX11_now_0 : decode cX11_now 0 = .ok (.iload_n 1, 1) := by decide +kernel
theorem dX11_now_1 : decode cX11_now 1 = .ok (.tableswitch 118 0 7 #[47, 55, 63, 71, 86, 94, 102, 110], 47) := by decide +kernel
theorem dX11_now_48 : decode cX11_now 48 = .ok (.aload_n 0, 1) := by decide +kernel
theorem dX11_now_49 : decode cX11_now 49 = .ok (.getfield 38, 3) := by decide +kernel
theorem dX11_now_52 : decode cX11_now 52 = .ok (.getfield 193, 3) := by decide +kernel
theorem dX11_now_55 : decode cX11_now 55 = .ok (.ireturn, 1) := by decide +kernel
theorem dX11_now_56 : decode cX11_now 56 = .ok (.aload_n 0, 1) := by decide +kernel
theorem dX11_now_57 : decode cX11_now 57 = .ok (.getfield 38, 3) := by decide +kernel
theorem dX11_now_60 : decode cX11_now 60 = .ok (.getfield 196, 3) := by decide +kernel
theorem dX11_now_63 : decode cX11_now 63 = .ok (.ireturn, 1) := by decide +kernel
theorem dX11_now_64 : decode cX11_now 64 = .ok (.aload_n 0, 1) := by decide +kernel
theorem dX11_now_65 : decode cX11_now 65 = .ok (.getfield 38, 3) := by decide +kernel
theorem dX11_now_68 : decode cX11_now 68 = .ok (.getfield 199, 3) := by decide +kernel
theorem dX11_now_71 : decode cX11_now 71 = .ok (.ireturn, 1) := by decide +kernel
theorem dX11_now_72 : decode cX11_now 72 = .ok (.aload_n 0, 1) := by decide +kernel
theorem dX11_now_73 : decode cX11_now 73 = .ok (.getfield 29, 3) := by decide +kernel
theorem dX11_now_76 : decode cX11_now 76 = .ok (.aload_n 0, 1) := by decide +kernel
theorem dX11_now_77 : decode cX11_now 77 = .ok (.getfield 38, 3) := by decide +kernel
theorem dX11_now_80 : decode cX11_now 80 = .ok (.getfield 199, 3) := by decide +kernel
theorem dX11_now_83 : decode cX11_now 83 = .ok (.invokevirtual 202, 3) := by decide +kernel
theorem dX11_now_86 : decode cX11_now 86 = .ok (.ireturn, 1) := by decide +kernel
theorem dX11_now_87 : decode cX11_now 87 = .ok (.aload_n 0, 1) := by decide +kernel
theorem dX11_now_88 : decode cX11_now 88 = .ok (.getfield 38, 3) := by decide +kernel
theorem dX11_now_91 : decode cX11_now 91 = .ok (.getfield 205, 3) := by decide +kernel
theorem dX11_now_94 : decode cX11_now 94 = .ok (.ireturn, 1) := by decide +kernel
theorem dX11_now_95 : decode cX11_now 95 = .ok (.aload_n 0, 1) := by decide +kernel
theorem dX11_now_96 : decode cX11_now 96 = .ok (.getfield 38, 3) := by decide +kernel
theorem dX11_now_99 : decode cX11_now 99 = .ok (.getfield 183, 3) := by decide +kernel
theorem dX11_now_102 : decode cX11_now 102 = .ok (.ireturn, 1) := by decide +kernel
theorem dX11_now_103 : decode cX11_now 103 = .ok (.aload_n 0, 1) := by decide +kernel
theorem dX11_now_104 : decode cX11_now 104 = .ok (.getfield 38, 3) := by decide +kernel
theorem dX11_now_107 : decode cX11_now 107 = .ok (.getfield 208, 3) := by decide +kernel
theorem dX11_now_110 : decode cX11_now 110 = .ok (.ireturn, 1) := by decide +kernel
theorem dX11_now_111 : decode cX11_now 111 = .ok (.aload_n 0, 1) := by decide +kernel
theorem dX11_now_112 : decode cX11_now 112 = .ok (.getfield 38, 3) := by decide +kernel
theorem dX11_now_115 : decode cX11_now 115 = .ok (.getfield 211, 3) := by decide +kernel
theorem dX11_now_118 : decode cX11_now 118 = .ok (.ireturn, 1) := by decide +kernel
theorem dX11_now_119 : decode cX11_now 119 = .ok (.iconst (-1), 1) := by decide +kernel
theorem dX11_now_120 : decode cX11_now 120 = .ok (.ireturn, 1) := by decide +kernel
theorem dX11_sit_0 : decode cX11_sit 0 = .ok (.aload_n 0, 1) := by decide +kernel
theorem dX11_sit_1 : decode cX11_sit 1 = .ok (.getfield 29, 3) := by decide +kernel
theorem dX11_sit_4 : decode cX11_sit 4 = .ok (.iload_n 1, 1) := by decide +kernel
theorem dX11_sit_5 : decode cX11_sit 5 = .ok (.invokevirtual 136, 3) := by decide +kernel
theorem dX11_sit_8 : decode cX11_sit 8 = .ok (.ifCond .ne 5, 3) := by decide +kernel
theorem dX11_sit_11 : decode cX11_sit 11 = .ok (.iconst (-1), 1) := by decide +kernel
theorem dX11_sit_12 : decode cX11_sit 12 = .ok (.ireturn, 1) := by decide +kernel
theorem dX11_sit_13 : decode cX11_sit 13 = .ok (.aload_n 0, 1) := by decide +kernel
theorem dX11_sit_14 : decode cX11_sit 14 = .ok (.getfield 38, 3) := by decide +kernel
theorem dX11_sit_17 : decode cX11_sit 17 = .ok (.iload_n 1, 1) := by decide +kernel
theorem dX11_sit_18 : decode cX11_sit 18 = .ok (.invokevirtual 214, 3) := by decide +kernel
theorem dX11_sit_21 : decode cX11_sit 21 = .ok (.istore_n 2, 1) := by decide +kernel
theorem dX11_sit_22 : decode cX11_sit 22 = .ok (.iload_n 2, 1) := by decide +kernel
theorem dX11_sit_23 : decode cX11_sit 23 = .ok (.ifCond .ne 22, 3) := by decide +kernel
theorem dX11_sit_26 : decode cX11_sit 26 = .ok (.aload_n 0, 1) := by decide +kernel
theorem dX11_sit_27 : decode cX11_sit 27 = .ok (.getfield 54, 3) := by decide +kernel
theorem dX11_sit_30 : decode cX11_sit 30 = .ok (.aload_n 0, 1) := by decide +kernel
theorem dX11_sit_31 : decode cX11_sit 31 = .ok (.getfield 38, 3) := by decide +kernel
theorem dX11_sit_34 : decode cX11_sit 34 = .ok (.invokevirtual 217, 3) := by decide +kernel
theorem dX11_sit_37 : decode cX11_sit 37 = .ok (.aload_n 0, 1) := by decide +kernel
theorem dX11_sit_38 : decode cX11_sit 38 = .ok (.getfield 38, 3) := by decide +kernel
theorem dX11_sit_41 : decode cX11_sit 41 = .ok (.iload_n 1, 1) := by decide +kernel
theorem dX11_sit_42 : decode cX11_sit 42 = .ok (.invokevirtual 220, 3) := by decide +kernel
theorem dX11_sit_45 : decode cX11_sit 45 = .ok (.iload_n 2, 1) := by decide +kernel
theorem dX11_sit_46 : decode cX11_sit 46 = .ok (.ireturn, 1) := by decide +kernel
theorem dX11_rise_0 : decode cX11_rise 0 = .ok (.aload_n 0, 1) := by decide +kernel
theorem dX11_rise_1 : decode cX11_rise 1 = .ok (.getfield 29, 3) := by decide +kernel
theorem dX11_rise_4 : decode cX11_rise 4 = .ok (.iload_n 1, 1) := by decide +kernel
theorem dX11_rise_5 : decode cX11_rise 5 = .ok (.invokevirtual 136, 3) := by decide +kernel
theorem dX11_rise_8 : decode cX11_rise 8 = .ok (.ifCond .ne 5, 3) := by decide +kernel
theorem dX11_rise_11 : decode cX11_rise 11 = .ok (.iconst (-1), 1) := by decide +kernel
theorem dX11_rise_12 : decode cX11_rise 12 = .ok (.ireturn, 1) := by decide +kernel
theorem dX11_rise_13 : decode cX11_rise 13 = .ok (.aload_n 0, 1) := by decide +kernel
theorem dX11_rise_14 : decode cX11_rise 14 = .ok (.getfield 38, 3) := by decide +kernel
theorem dX11_rise_17 : decode cX11_rise 17 = .ok (.iload_n 1, 1) := by decide +kernel
theorem dX11_rise_18 : decode cX11_rise 18 = .ok (.invokevirtual 223, 3) := by decide +kernel
theorem dX11_rise_21 : decode cX11_rise 21 = .ok (.istore_n 2, 1) := by decide +kernel
theorem dX11_rise_22 : decode cX11_rise 22 = .ok (.iload_n 2, 1) := by decide +kernel
theorem dX11_rise_23 : decode cX11_rise 23 = .ok (.ifCond .ne 22, 3) := by decide +kernel
theorem dX11_rise_26 : decode cX11_rise 26 = .ok (.aload_n 0, 1) := by decide +kernel
theorem dX11_rise_27 : decode cX11_rise 27 = .ok (.getfield 54, 3) := by decide +kernel
theorem dX11_rise_30 : decode cX11_rise 30 = .ok (.aload_n 0, 1) := by decide +kernel
theorem dX11_rise_31 : decode cX11_rise 31 = .ok (.getfield 38, 3) := by decide +kernel
theorem dX11_rise_34 : decode cX11_rise 34 = .ok (.invokevirtual 217, 3) := by decide +kernel
theorem dX11_rise_37 : decode cX11_rise 37 = .ok (.aload_n 0, 1) := by decide +kernel
theorem dX11_rise_38 : decode cX11_rise 38 = .ok (.getfield 38, 3) := by decide +kernel
theorem dX11_rise_41 : decode cX11_rise 41 = .ok (.iload_n 1, 1) := by decide +kernel
theorem dX11_rise_42 : decode cX11_rise 42 = .ok (.invokevirtual 226, 3) := by decide +kernel
theorem dX11_rise_45 : decode cX11_rise 45 = .ok (.iload_n 2, 1) := by decide +kernel
theorem dX11_rise_46 : decode cX11_rise 46 = .ok (.ireturn, 1) := by decide +kernel
theorem dX11_serve_0 : decode cX11_serve 0 = .ok (.iload_n 1, 1) := by decide +kernel
theorem dX11_serve_1 : decode cX11_serve 1 = .ok (.ifCond .lt 14, 3) := by decide +kernel
theorem dX11_serve_4 : decode cX11_serve 4 = .ok (.iload_n 1, 1) := by decide +kernel
theorem dX11_serve_5 : decode cX11_serve 5 = .ok (.aload_n 0, 1) := by decide +kernel
theorem dX11_serve_6 : decode cX11_serve 6 = .ok (.getfield 29, 3) := by decide +kernel
theorem dX11_serve_9 : decode cX11_serve 9 = .ok (.getfield 229, 3) := by decide +kernel
theorem dX11_serve_12 : decode cX11_serve 12 = .ok (.if_icmp .lt 5, 3) := by decide +kernel
theorem dX11_serve_15 : decode cX11_serve 15 = .ok (.iconst (-1), 1) := by decide +kernel
theorem dX11_serve_16 : decode cX11_serve 16 = .ok (.ireturn, 1) := by decide +kernel
theorem dX11_serve_17 : decode cX11_serve 17 = .ok (.aload_n 0, 1) := by decide +kernel
theorem dX11_serve_18 : decode cX11_serve 18 = .ok (.getfield 38, 3) := by decide +kernel
theorem dX11_serve_21 : decode cX11_serve 21 = .ok (.iload_n 1, 1) := by decide +kernel
theorem dX11_serve_22 : decode cX11_serve 22 = .ok (.invokevirtual 232, 3) := by decide +kernel
theorem dX11_serve_25 : decode cX11_serve 25 = .ok (.istore_n 2, 1) := by decide +kernel
theorem dX11_serve_26 : decode cX11_serve 26 = .ok (.iload_n 2, 1) := by decide +kernel
theorem dX11_serve_27 : decode cX11_serve 27 = .ok (.ifCond .ne 22, 3) := by decide +kernel
theorem dX11_serve_30 : decode cX11_serve 30 = .ok (.aload_n 0, 1) := by decide +kernel
theorem dX11_serve_31 : decode cX11_serve 31 = .ok (.getfield 54, 3) := by decide +kernel
theorem dX11_serve_34 : decode cX11_serve 34 = .ok (.aload_n 0, 1) := by decide +kernel
theorem dX11_serve_35 : decode cX11_serve 35 = .ok (.getfield 38, 3) := by decide +kernel
theorem dX11_serve_38 : decode cX11_serve 38 = .ok (.invokevirtual 217, 3) := by decide +kernel
theorem dX11_serve_41 : decode cX11_serve 41 = .ok (.aload_n 0, 1) := by decide +kernel
theorem dX11_serve_42 : decode cX11_serve 42 = .ok (.getfield 38, 3) := by decide +kernel
theorem dX11_serve_45 : decode cX11_serve 45 = .ok (.iload_n 1, 1) := by decide +kernel
theorem dX11_serve_46 : decode cX11_serve 46 = .ok (.invokevirtual 235, 3) := by decide +kernel
theorem dX11_serve_49 : decode cX11_serve 49 = .ok (.iload_n 2, 1) := by decide +kernel
theorem dX11_serve_50 : decode cX11_serve 50 = .ok (.ireturn, 1) := by decide +kernel
theorem dX11_hide_0 : decode cX11_hide 0 = .ok (.iload_n 1, 1) := by decide +kernel
theorem dX11_hide_1 : decode cX11_hide 1 = .ok (.ifCond .lt 9, 3) := by decide +kernel
theorem dX11_hide_4 : decode cX11_hide 4 = .ok (.iload_n 1, 1) := by decide +kernel
theorem dX11_hide_5 : decode cX11_hide 5 = .ok (.bipush 9, 2) := by decide +kernel
theorem dX11_hide_7 : decode cX11_hide 7 = .ok (.if_icmp .lt 5, 3) := by decide +kernel
theorem dX11_hide_10 : decode cX11_hide 10 = .ok (.iconst (-1), 1) := by decide +kernel
theorem dX11_hide_11 : decode cX11_hide 11 = .ok (.ireturn, 1) := by decide +kernel
theorem dX11_hide_12 : decode cX11_hide 12 = .ok (.aload_n 0, 1) := by decide +kernel
theorem dX11_hide_13 : decode cX11_hide 13 = .ok (.getfield 38, 3) := by decide +kernel
theorem dX11_hide_16 : decode cX11_hide 16 = .ok (.iload_n 1, 1) := by decide +kernel
theorem dX11_hide_17 : decode cX11_hide 17 = .ok (.invokevirtual 238, 3) := by decide +kernel
theorem dX11_hide_20 : decode cX11_hide 20 = .ok (.istore_n 2, 1) := by decide +kernel
theorem dX11_hide_21 : decode cX11_hide 21 = .ok (.iload_n 2, 1) := by decide +kernel
theorem dX11_hide_22 : decode cX11_hide 22 = .ok (.ifCond .ne 29, 3) := by decide +kernel
theorem dX11_hide_25 : decode cX11_hide 25 = .ok (.aload_n 0, 1) := by decide +kernel
theorem dX11_hide_26 : decode cX11_hide 26 = .ok (.getfield 54, 3) := by decide +kernel
theorem dX11_hide_29 : decode cX11_hide 29 = .ok (.aload_n 0, 1) := by decide +kernel
theorem dX11_hide_30 : decode cX11_hide 30 = .ok (.getfield 38, 3) := by decide +kernel
theorem dX11_hide_33 : decode cX11_hide 33 = .ok (.invokevirtual 217, 3) := by decide +kernel
theorem dX11_hide_36 : decode cX11_hide 36 = .ok (.aload_n 0, 1) := by decide +kernel
theorem dX11_hide_37 : decode cX11_hide 37 = .ok (.getfield 38, 3) := by decide +kernel
theorem dX11_hide_40 : decode cX11_hide 40 = .ok (.dup, 1) := by decide +kernel
theorem dX11_hide_41 : decode cX11_hide 41 = .ok (.getfield 183, 3) := by decide +kernel
theorem dX11_hide_44 : decode cX11_hide 44 = .ok (.iconst 1, 1) := by decide +kernel
theorem dX11_hide_45 : decode cX11_hide 45 = .ok (.iload_n 1, 1) := by decide +kernel
theorem dX11_hide_46 : decode cX11_hide 46 = .ok (.ishl, 1) := by decide +kernel
theorem dX11_hide_47 : decode cX11_hide 47 = .ok (.ior, 1) := by decide +kernel
theorem dX11_hide_48 : decode cX11_hide 48 = .ok (.putfield 183, 3) := by decide +kernel
theorem dX11_hide_51 : decode cX11_hide 51 = .ok (.iload_n 2, 1) := by decide +kernel
theorem dX11_hide_52 : decode cX11_hide 52 = .ok (.ireturn, 1) := by decide +kernel
theorem dX11_show_0 : decode cX11_show 0 = .ok (.iload_n 1, 1) := by decide +kernel
theorem dX11_show_1 : decode cX11_show 1 = .ok (.ifCond .lt 9, 3) := by decide +kernel
theorem dX11_show_4 : decode cX11_show 4 = .ok (.iload_n 1, 1) := by decide +kernel
theorem dX11_show_5 : decode cX11_show 5 = .ok (.bipush 9, 2) := by decide +kernel
theorem dX11_show_7 : decode cX11_show 7 = .ok (.if_icmp .lt 5, 3) := by decide +kernel
theorem dX11_show_10 : decode cX11_show 10 = .ok (.iconst (-1), 1) := by decide +kernel
theorem dX11_show_11 : decode cX11_show 11 = .ok (.ireturn, 1) := by decide +kernel
theorem dX11_show_12 : decode cX11_show 12 = .ok (.aload_n 0, 1) := by decide +kernel
theorem dX11_show_13 : decode cX11_show 13 = .ok (.getfield 38, 3) := by decide +kernel
theorem dX11_show_16 : decode cX11_show 16 = .ok (.iload_n 1, 1) := by decide +kernel
theorem dX11_show_17 : decode cX11_show 17 = .ok (.invokevirtual 241, 3) := by decide +kernel
theorem dX11_show_20 : decode cX11_show 20 = .ok (.istore_n 2, 1) := by decide +kernel
theorem dX11_show_21 : decode cX11_show 21 = .ok (.iload_n 2, 1) := by decide +kernel
theorem dX11_show_22 : decode cX11_show 22 = .ok (.ifCond .ne 31, 3) := by decide +kernel
theorem dX11_show_25 : decode cX11_show 25 = .ok (.aload_n 0, 1) := by decide +kernel
theorem dX11_show_26 : decode cX11_show 26 = .ok (.getfield 54, 3) := by decide +kernel
theorem dX11_show_29 : decode cX11_show 29 = .ok (.aload_n 0, 1) := by decide +kernel
theorem dX11_show_30 : decode cX11_show 30 = .ok (.getfield 38, 3) := by decide +kernel
theorem dX11_show_33 : decode cX11_show 33 = .ok (.invokevirtual 217, 3) := by decide +kernel
theorem dX11_show_36 : decode cX11_show 36 = .ok (.aload_n 0, 1) := by decide +kernel
theorem dX11_show_37 : decode cX11_show 37 = .ok (.getfield 38, 3) := by decide +kernel
theorem dX11_show_40 : decode cX11_show 40 = .ok (.dup, 1) := by decide +kernel
theorem dX11_show_41 : decode cX11_show 41 = .ok (.getfield 183, 3) := by decide +kernel
theorem dX11_show_44 : decode cX11_show 44 = .ok (.iconst 1, 1) := by decide +kernel
theorem dX11_show_45 : decode cX11_show 45 = .ok (.iload_n 1, 1) := by decide +kernel
theorem dX11_show_46 : decode cX11_show 46 = .ok (.ishl, 1) := by decide +kernel
theorem dX11_show_47 : decode cX11_show 47 = .ok (.iconst (-1), 1) := by decide +kernel
theorem dX11_show_48 : decode cX11_show 48 = .ok (.ixor, 1) := by decide +kernel
theorem dX11_show_49 : decode cX11_show 49 = .ok (.iand, 1) := by decide +kernel
theorem dX11_show_50 : decode cX11_show 50 = .ok (.putfield 183, 3) := by decide +kernel
theorem dX11_show_53 : decode cX11_show 53 = .ok (.iload_n 2, 1) := by decide +kernel
theorem dX11_show_54 : decode cX11_show 54 = .ok (.ireturn, 1) := by decide +kernel
theorem dX11_rounds_0 : decode cX11_rounds 0 = .ok (.iload_n 1, 1) := by decide +kernel
theorem dX11_rounds_1 : decode cX11_rounds 1 = .ok (.iconst 1, 1) := by decide +kernel
theorem dX11_rounds_2 : decode cX11_rounds 2 = .ok (.if_icmp .lt 9, 3) := by decide +kernel
theorem dX11_rounds_5 : decode cX11_rounds 5 = .ok (.iload_n 1, 1) := by decide +kernel
theorem dX11_rounds_6 : decode cX11_rounds 6 = .ok (.bipush 60, 2) := by decide +kernel
theorem dX11_rounds_8 : decode cX11_rounds 8 = .ok (.if_icmp .le 5, 3) := by decide +kernel
theorem dX11_rounds_11 : decode cX11_rounds 11 = .ok (.iconst (-1), 1) := by decide +kernel
theorem dX11_rounds_12 : decode cX11_rounds 12 = .ok (.ireturn, 1) := by decide +kernel
theorem dX11_rounds_13 : decode cX11_rounds 13 = .ok (.iload_n 1, 1) := by decide +kernel
theorem dX11_rounds_14 : decode cX11_rounds 14 = .ok (.sipush 400, 3) := by decide +kernel
theorem dX11_rounds_17 : decode cX11_rounds 17 = .ok (.aload_n 0, 1) := by decide +kernel
theorem dX11_rounds_18 : decode cX11_rounds 18 = .ok (.getfield 38, 3) := by decide +kernel
theorem dX11_rounds_21 : decode cX11_rounds 21 = .ok (.getfield 193, 3) := by decide +kernel
theorem dX11_rounds_24 : decode cX11_rounds 24 = .ok (.isub, 1) := by decide +kernel
theorem dX11_rounds_25 : decode cX11_rounds 25 = .ok (.invokestatic 244, 3) := by decide +kernel
theorem dX11_rounds_28 : decode cX11_rounds 28 = .ok (.istore_n 2, 1) := by decide +kernel
theorem dX11_rounds_29 : decode cX11_rounds 29 = .ok (.iload_n 2, 1) := by decide +kernel
theorem dX11_rounds_30 : decode cX11_rounds 30 = .ok (.ifCond .le 14, 3) := by decide +kernel
theorem dX11_rounds_33 : decode cX11_rounds 33 = .ok (.aload_n 0, 1) := by decide +kernel
theorem dX11_rounds_34 : decode cX11_rounds 34 = .ok (.getfield 54, 3) := by decide +kernel
theorem dX11_rounds_37 : decode cX11_rounds 37 = .ok (.aload_n 0, 1) := by decide +kernel
theorem dX11_rounds_38 : decode cX11_rounds 38 = .ok (.getfield 38, 3) := by decide +kernel
theorem dX11_rounds_41 : decode cX11_rounds 41 = .ok (.invokevirtual 217, 3) := by decide +kernel
theorem dX11_rounds_44 : decode cX11_rounds 44 = .ok (.iconst 0, 1) := by decide +kernel
theorem dX11_rounds_45 : decode cX11_rounds 45 = .ok (.istore_n 3, 1) := by decide +kernel
theorem dX11_rounds_46 : decode cX11_rounds 46 = .ok (.iload_n 3, 1) := by decide +kernel
theorem dX11_rounds_47 : decode cX11_rounds 47 = .ok (.iload_n 2, 1) := by decide +kernel
theorem dX11_rounds_48 : decode cX11_rounds 48 = .ok (.if_icmp .ge 18, 3) := by decide +kernel
theorem dX11_rounds_51 : decode cX11_rounds 51 = .ok (.aload_n 0, 1) := by decide +kernel
theorem dX11_rounds_52 : decode cX11_rounds 52 = .ok (.getfield 38, 3) := by decide +kernel
theorem dX11_rounds_55 : decode cX11_rounds 55 = .ok (.iconst (-1), 1) := by decide +kernel
theorem dX11_rounds_56 : decode cX11_rounds 56 = .ok (.invokevirtual 250, 3) := by decide +kernel
theorem dX11_rounds_59 : decode cX11_rounds 59 = .ok (.pop, 1) := by decide +kernel
theorem dX11_rounds_60 : decode cX11_rounds 60 = .ok (.iinc 3 1, 3) := by decide +kernel
theorem dX11_rounds_63 : decode cX11_rounds 63 = .ok (.goto (-17), 3) := by decide +kernel
theorem dX11_rounds_66 : decode cX11_rounds 66 = .ok (.iload_n 2, 1) := by decide +kernel
theorem dX11_rounds_67 : decode cX11_rounds 67 = .ok (.ireturn, 1) := by decide +kernel
theorem dX11_undo_0 : decode cX11_undo 0 = .ok (.aload_n 0, 1) := by decide +kernel
theorem dX11_undo_1 : decode cX11_undo 1 = .ok (.getfield 54, 3) := by decide +kernel
theorem dX11_undo_4 : decode cX11_undo 4 = .ok (.aload_n 0, 1) := by decide +kernel
theorem dX11_undo_5 : decode cX11_undo 5 = .ok (.getfield 38, 3) := by decide +kernel
theorem dX11_undo_8 : decode cX11_undo 8 = .ok (.invokevirtual 253, 3) := by decide +kernel
theorem dX11_undo_11 : decode cX11_undo 11 = .ok (.ireturn, 1) := by decide +kernel
theorem dX11_next_0 : decode cX11_next 0 = .ok (.aload_n 0, 1) := by decide +kernel
theorem dX11_next_1 : decode cX11_next 1 = .ok (.getfield 63, 3) := by decide +kernel
theorem dX11_next_4 : decode cX11_next 4 = .ok (.invokevirtual 257, 3) := by decide +kernel
theorem dX11_next_7 : decode cX11_next 7 = .ok (.ireturn, 1) := by decide +kernel
theorem dX11_nextIn_0 : decode cX11_nextIn 0 = .ok (.aload_n 0, 1) := by decide +kernel
theorem dX11_nextIn_1 : decode cX11_nextIn 1 = .ok (.getfield 63, 3) := by decide +kernel
theorem dX11_nextIn_4 : decode cX11_nextIn 4 = .ok (.getfield 260, 3) := by decide +kernel
theorem dX11_nextIn_7 : decode cX11_nextIn 7 = .ok (.ireturn, 1) := by decide +kernel
theorem dX11_linger_0 : decode cX11_linger 0 = .ok (.aload_n 0, 1) := by decide +kernel
theorem dX11_linger_1 : decode cX11_linger 1 = .ok (.getfield 29, 3) := by decide +kernel
theorem dX11_linger_4 : decode cX11_linger 4 = .ok (.iload_n 1, 1) := by decide +kernel
theorem dX11_linger_5 : decode cX11_linger 5 = .ok (.invokevirtual 136, 3) := by decide +kernel
theorem dX11_linger_8 : decode cX11_linger 8 = .ok (.ifCond .eq 25, 3) := by decide +kernel
theorem dX11_linger_11 : decode cX11_linger 11 = .ok (.aload_n 0, 1) := by decide +kernel
theorem dX11_linger_12 : decode cX11_linger 12 = .ok (.getfield 38, 3) := by decide +kernel
theorem dX11_linger_15 : decode cX11_linger 15 = .ok (.iload_n 1, 1) := by decide +kernel
theorem dX11_linger_16 : decode cX11_linger 16 = .ok (.invokevirtual 160, 3) := by decide +kernel
theorem dX11_linger_19 : decode cX11_linger 19 = .ok (.ifCond .ne 14, 3) := by decide +kernel
theorem dX11_linger_22 : decode cX11_linger 22 = .ok (.aload_n 0, 1) := by decide +kernel
theorem dX11_linger_23 : decode cX11_linger 23 = .ok (.getfield 63, 3) := by decide +kernel
theorem dX11_linger_26 : decode cX11_linger 26 = .ok (.iload_n 1, 1) := by decide +kernel
theorem dX11_linger_27 : decode cX11_linger 27 = .ok (.invokevirtual 263, 3) := by decide +kernel
theorem dX11_linger_30 : decode cX11_linger 30 = .ok (.goto 4, 3) := by decide +kernel
theorem dX11_linger_33 : decode cX11_linger 33 = .ok (.iconst (-1), 1) := by decide +kernel
theorem dX11_linger_34 : decode cX11_linger 34 = .ok (.ireturn, 1) := by decide +kernel
theorem dX11_trick_0 : decode cX11_trick 0 = .ok (.aload_n 0, 1) := by decide +kernel
theorem dX11_trick_1 : decode cX11_trick 1 = .ok (.getfield 29, 3) := by decide +kernel
theorem dX11_trick_4 : decode cX11_trick 4 = .ok (.iload_n 1, 1) := by decide +kernel
theorem dX11_trick_5 : decode cX11_trick 5 = .ok (.invokevirtual 136, 3) := by decide +kernel
theorem dX11_trick_8 : decode cX11_trick 8 = .ok (.ifCond .eq 25, 3) := by decide +kernel
theorem dX11_trick_11 : decode cX11_trick 11 = .ok (.aload_n 0, 1) := by decide +kernel
theorem dX11_trick_12 : decode cX11_trick 12 = .ok (.getfield 38, 3) := by decide +kernel
theorem dX11_trick_15 : decode cX11_trick 15 = .ok (.iload_n 1, 1) := by decide +kernel
theorem dX11_trick_16 : decode cX11_trick 16 = .ok (.invokevirtual 160, 3) := by decide +kernel
theorem dX11_trick_19 : decode cX11_trick 19 = .ok (.ifCond .ne 14, 3) := by decide +kernel
theorem dX11_trick_22 : decode cX11_trick 22 = .ok (.aload_n 0, 1) := by decide +kernel
theorem dX11_trick_23 : decode cX11_trick 23 = .ok (.getfield 63, 3) := by decide +kernel
theorem dX11_trick_26 : decode cX11_trick 26 = .ok (.iload_n 1, 1) := by decide +kernel
theorem dX11_trick_27 : decode cX11_trick 27 = .ok (.invokevirtual 266, 3) := by decide +kernel
theorem dX11_trick_30 : decode cX11_trick 30 = .ok (.goto 4, 3) := by decide +kernel
theorem dX11_trick_33 : decode cX11_trick 33 = .ok (.iconst (-1), 1) := by decide +kernel
theorem dX11_trick_34 : decode cX11_trick 34 = .ok (.ireturn, 1) := by decide +kernel
theorem dX11_tricking_0 : decode cX11_tricking 0 = .ok (.aload_n 0, 1) := by decide +kernel
theorem dX11_tricking_1 : decode cX11_tricking 1 = .ok (.getfield 63, 3) := by decide +kernel
theorem dX11_tricking_4 : decode cX11_tricking 4 = .ok (.getfield 269, 3) := by decide +kernel
theorem dX11_tricking_7 : decode cX11_tricking 7 = .ok (.ireturn, 1) := by decide +kernel
theorem dX11_push_0 : decode cX11_push 0 = .ok (.aload_n 0, 1) := by decide +kernel
theorem dX11_push_1 : decode cX11_push 1 = .ok (.getfield 29, 3) := by decide +kernel
theorem dX11_push_4 : decode cX11_push 4 = .ok (.iload_n 1, 1) := by decide +kernel
theorem dX11_push_5 : decode cX11_push 5 = .ok (.invokevirtual 136, 3) := by decide +kernel
theorem dX11_push_8 : decode cX11_push 8 = .ok (.ifCond .eq 25, 3) := by decide +kernel
theorem dX11_push_11 : decode cX11_push 11 = .ok (.aload_n 0, 1) := by decide +kernel
theorem dX11_push_12 : decode cX11_push 12 = .ok (.getfield 38, 3) := by decide +kernel
theorem dX11_push_15 : decode cX11_push 15 = .ok (.iload_n 1, 1) := by decide +kernel
theorem dX11_push_16 : decode cX11_push 16 = .ok (.invokevirtual 160, 3) := by decide +kernel
theorem dX11_push_19 : decode cX11_push 19 = .ok (.ifCond .ne 14, 3) := by decide +kernel
theorem dX11_push_22 : decode cX11_push 22 = .ok (.aload_n 0, 1) := by decide +kernel
theorem dX11_push_23 : decode cX11_push 23 = .ok (.getfield 63, 3) := by decide +kernel
theorem dX11_push_26 : decode cX11_push 26 = .ok (.iload_n 1, 1) := by decide +kernel
theorem dX11_push_27 : decode cX11_push 27 = .ok (.invokevirtual 272, 3) := by decide +kernel
theorem dX11_push_30 : decode cX11_push 30 = .ok (.goto 4, 3) := by decide +kernel
theorem dX11_push_33 : decode cX11_push 33 = .ok (.iconst (-1), 1) := by decide +kernel
theorem dX11_push_34 : decode cX11_push 34 = .ok (.ireturn, 1) := by decide +kernel
theorem dX11_pushing_0 : decode cX11_pushing 0 = .ok (.aload_n 0, 1) := by decide +kernel
theorem dX11_pushing_1 : decode cX11_pushing 1 = .ok (.getfield 63, 3) := by decide +kernel
theorem dX11_pushing_4 : decode cX11_pushing 4 = .ok (.getfield 275, 3) := by decide +kernel
theorem dX11_pushing_7 : decode cX11_pushing 7 = .ok (.ireturn, 1) := by decide +kernel
theorem dX11_safe_0 : decode cX11_safe 0 = .ok (.aload_n 0, 1) := by decide +kernel
theorem dX11_safe_1 : decode cX11_safe 1 = .ok (.getfield 29, 3) := by decide +kernel
theorem dX11_safe_4 : decode cX11_safe 4 = .ok (.iload_n 1, 1) := by decide +kernel
theorem dX11_safe_5 : decode cX11_safe 5 = .ok (.invokevirtual 136, 3) := by decide +kernel
theorem dX11_safe_8 : decode cX11_safe 8 = .ok (.ifCond .eq 25, 3) := by decide +kernel
theorem dX11_safe_11 : decode cX11_safe 11 = .ok (.aload_n 0, 1) := by decide +kernel
theorem dX11_safe_12 : decode cX11_safe 12 = .ok (.getfield 38, 3) := by decide +kernel
theorem dX11_safe_15 : decode cX11_safe 15 = .ok (.iload_n 1, 1) := by decide +kernel
theorem dX11_safe_16 : decode cX11_safe 16 = .ok (.invokevirtual 160, 3) := by decide +kernel
theorem dX11_safe_19 : decode cX11_safe 19 = .ok (.ifCond .ne 14, 3) := by decide +kernel
theorem dX11_safe_22 : decode cX11_safe 22 = .ok (.aload_n 0, 1) := by decide +kernel
theorem dX11_safe_23 : decode cX11_safe 23 = .ok (.getfield 63, 3) := by decide +kernel
theorem dX11_safe_26 : decode cX11_safe 26 = .ok (.iload_n 1, 1) := by decide +kernel
theorem dX11_safe_27 : decode cX11_safe 27 = .ok (.invokevirtual 278, 3) := by decide +kernel
theorem dX11_safe_30 : decode cX11_safe 30 = .ok (.goto 4, 3) := by decide +kernel
theorem dX11_safe_33 : decode cX11_safe 33 = .ok (.iconst (-1), 1) := by decide +kernel
theorem dX11_safe_34 : decode cX11_safe 34 = .ok (.ireturn, 1) := by decide +kernel
theorem dX11_hosts_0 : decode cX11_hosts 0 = .ok (.iload_n 1, 1) := by decide +kernel
theorem dX11_hosts_1 : decode cX11_hosts 1 = .ok (.iconst 1, 1) := by decide +kernel
theorem dX11_hosts_2 : decode cX11_hosts 2 = .ok (.if_icmp .lt 21, 3) := by decide +kernel
theorem dX11_hosts_5 : decode cX11_hosts 5 = .ok (.iload_n 1, 1) := by decide +kernel
theorem dX11_hosts_6 : decode cX11_hosts 6 = .ok (.sipush 999, 3) := by decide +kernel
theorem dX11_hosts_9 : decode cX11_hosts 9 = .ok (.if_icmp .gt 14, 3) := by decide +kernel
theorem dX11_hosts_12 : decode cX11_hosts 12 = .ok (.aload_n 0, 1) := by decide +kernel
theorem dX11_hosts_13 : decode cX11_hosts 13 = .ok (.getfield 63, 3) := by decide +kernel
theorem dX11_hosts_16 : decode cX11_hosts 16 = .ok (.iload_n 1, 1) := by decide +kernel
theorem dX11_hosts_17 : decode cX11_hosts 17 = .ok (.invokevirtual 281, 3) := by decide +kernel
theorem dX11_hosts_20 : decode cX11_hosts 20 = .ok (.goto 4, 3) := by decide +kernel
theorem dX11_hosts_23 : decode cX11_hosts 23 = .ok (.iconst (-1), 1) := by decide +kernel
theorem dX11_hosts_24 : decode cX11_hosts 24 = .ok (.ireturn, 1) := by decide +kernel
theorem dX11_hostAt_0 : decode cX11_hostAt 0 = .ok (.iload_n 1, 1) := by decide +kernel
theorem dX11_hostAt_1 : decode cX11_hostAt 1 = .ok (.ifCond .lt 26, 3) := by decide +kernel
theorem dX11_hostAt_4 : decode cX11_hostAt 4 = .ok (.iload_n 1, 1) := by decide +kernel
theorem dX11_hostAt_5 : decode cX11_hostAt 5 = .ok (.aload_n 0, 1) := by decide +kernel
theorem dX11_hostAt_6 : decode cX11_hostAt 6 = .ok (.getfield 63, 3) := by decide +kernel
theorem dX11_hostAt_9 : decode cX11_hostAt 9 = .ok (.getfield 284, 3) := by decide +kernel
theorem dX11_hostAt_12 : decode cX11_hostAt 12 = .ok (.if_icmp .ge 15, 3) := by decide +kernel
theorem dX11_hostAt_15 : decode cX11_hostAt 15 = .ok (.aload_n 0, 1) := by decide +kernel
theorem dX11_hostAt_16 : decode cX11_hostAt 16 = .ok (.getfield 63, 3) := by decide +kernel
theorem dX11_hostAt_19 : decode cX11_hostAt 19 = .ok (.getfield 287, 3) := by decide +kernel
theorem dX11_hostAt_22 : decode cX11_hostAt 22 = .ok (.iload_n 1, 1) := by decide +kernel
theorem dX11_hostAt_23 : decode cX11_hostAt 23 = .ok (.iaload, 1) := by decide +kernel
theorem dX11_hostAt_24 : decode cX11_hostAt 24 = .ok (.goto 4, 3) := by decide +kernel
theorem dX11_hostAt_27 : decode cX11_hostAt 27 = .ok (.iconst (-1), 1) := by decide +kernel
theorem dX11_hostAt_28 : decode cX11_hostAt 28 = .ok (.ireturn, 1) := by decide +kernel
theorem dX11_gone_0 : decode cX11_gone 0 = .ok (.aload_n 0, 1) := by decide +kernel
theorem dX11_gone_1 : decode cX11_gone 1 = .ok (.getfield 14, 3) := by decide +kernel
theorem dX11_gone_4 : decode cX11_gone 4 = .ok (.getfield 101, 3) := by decide +kernel
theorem dX11_gone_7 : decode cX11_gone 7 = .ok (.istore_n 1, 1) := by decide +kernel
theorem dX11_gone_8 : decode cX11_gone 8 = .ok (.aload_n 0, 1) := by decide +kernel
theorem dX11_gone_9 : decode cX11_gone 9 = .ok (.getfield 14, 3) := by decide +kernel
theorem dX11_gone_12 : decode cX11_gone 12 = .ok (.iconst 0, 1) := by decide +kernel
theorem dX11_gone_13 : decode cX11_gone 13 = .ok (.invokevirtual 290, 3) := by decide +kernel
theorem dX11_gone_16 : decode cX11_gone 16 = .ok (.istore_n 2, 1) := by decide +kernel
theorem dX11_gone_17 : decode cX11_gone 17 = .ok (.aload_n 0, 1) := by decide +kernel
theorem dX11_gone_18 : decode cX11_gone 18 = .ok (.getfield 14, 3) := by decide +kernel
theorem dX11_gone_21 : decode cX11_gone 21 = .ok (.iconst 1, 1) := by decide +kernel
theorem dX11_gone_22 : decode cX11_gone 22 = .ok (.invokevirtual 290, 3) := by decide +kernel
theorem dX11_gone_25 : decode cX11_gone 25 = .ok (.istore_n 3, 1) := by decide +kernel
theorem dX11_gone_26 : decode cX11_gone 26 = .ok (.aload_n 0, 1) := by decide +kernel
theorem dX11_gone_27 : decode cX11_gone 27 = .ok (.getfield 14, 3) := by decide +kernel
theorem dX11_gone_30 : decode cX11_gone 30 = .ok (.iconst 0, 1) := by decide +kernel
theorem dX11_gone_31 : decode cX11_gone 31 = .ok (.putfield 101, 3) := by decide +kernel
theorem dX11_gone_34 : decode cX11_gone 34 = .ok (.iload_n 1, 1) := by decide +kernel
theorem dX11_gone_35 : decode cX11_gone 35 = .ok (.iconst 2, 1) := by decide +kernel
theorem dX11_gone_36 : decode cX11_gone 36 = .ok (.if_icmp .ne 26, 3) := by decide +kernel
theorem dX11_gone_39 : decode cX11_gone 39 = .ok (.iload_n 2, 1) := by decide +kernel
theorem dX11_gone_40 : decode cX11_gone 40 = .ok (.iconst 1, 1) := by decide +kernel
theorem dX11_gone_41 : decode cX11_gone 41 = .ok (.if_icmp .lt 21, 3) := by decide +kernel
theorem dX11_gone_44 : decode cX11_gone 44 = .ok (.iload_n 2, 1) := by decide +kernel
theorem dX11_gone_45 : decode cX11_gone 45 = .ok (.bipush 9, 2) := by decide +kernel
theorem dX11_gone_47 : decode cX11_gone 47 = .ok (.if_icmp .gt 15, 3) := by decide +kernel
theorem dX11_gone_50 : decode cX11_gone 50 = .ok (.aload_n 0, 1) := by decide +kernel
theorem dX11_gone_51 : decode cX11_gone 51 = .ok (.getfield 63, 3) := by decide +kernel
theorem dX11_gone_54 : decode cX11_gone 54 = .ok (.iload_n 2, 1) := by decide +kernel
theorem dX11_gone_55 : decode cX11_gone 55 = .ok (.iload_n 3, 1) := by decide +kernel
theorem dX11_gone_56 : decode cX11_gone 56 = .ok (.invokevirtual 293, 3) := by decide +kernel
theorem dX11_gone_59 : decode cX11_gone 59 = .ok (.goto 4, 3) := by decide +kernel
theorem dX11_gone_62 : decode cX11_gone 62 = .ok (.iconst (-1), 1) := by decide +kernel
theorem dX11_gone_63 : decode cX11_gone 63 = .ok (.ireturn, 1) := by decide +kernel
theorem dX11_when_0 : decode cX11_when 0 = .ok (.aload_n 0, 1) := by decide +kernel
theorem dX11_when_1 : decode cX11_when 1 = .ok (.getfield 29, 3) := by decide +kernel
theorem dX11_when_4 : decode cX11_when 4 = .ok (.iload_n 1, 1) := by decide +kernel
theorem dX11_when_5 : decode cX11_when 5 = .ok (.invokevirtual 136, 3) := by decide +kernel
theorem dX11_when_8 : decode cX11_when 8 = .ok (.ifCond .eq 26, 3) := by decide +kernel
theorem dX11_when_11 : decode cX11_when 11 = .ok (.aload_n 0, 1) := by decide +kernel
theorem dX11_when_12 : decode cX11_when 12 = .ok (.getfield 29, 3) := by decide +kernel
theorem dX11_when_15 : decode cX11_when 15 = .ok (.iload_n 2, 1) := by decide +kernel
theorem dX11_when_16 : decode cX11_when 16 = .ok (.invokevirtual 180, 3) := by decide +kernel
theorem dX11_when_19 : decode cX11_when 19 = .ok (.ifCond .eq 15, 3) := by decide +kernel
theorem dX11_when_22 : decode cX11_when 22 = .ok (.aload_n 0, 1) := by decide +kernel
theorem dX11_when_23 : decode cX11_when 23 = .ok (.getfield 38, 3) := by decide +kernel
theorem dX11_when_26 : decode cX11_when 26 = .ok (.iload_n 1, 1) := by decide +kernel
theorem dX11_when_27 : decode cX11_when 27 = .ok (.iload_n 2, 1) := by decide +kernel
theorem dX11_when_28 : decode cX11_when 28 = .ok (.invokevirtual 296, 3) := by decide +kernel
theorem dX11_when_31 : decode cX11_when 31 = .ok (.goto 4, 3) := by decide +kernel
theorem dX11_when_34 : decode cX11_when 34 = .ok (.iconst (-1), 1) := by decide +kernel
theorem dX11_when_35 : decode cX11_when 35 = .ok (.ireturn, 1) := by decide +kernel
theorem dX11_menu_0 : decode cX11_menu 0 = .ok (.aload_n 0, 1) := by decide +kernel
theorem dX11_menu_1 : decode cX11_menu 1 = .ok (.getfield 63, 3) := by decide +kernel
theorem dX11_menu_4 : decode cX11_menu 4 = .ok (.invokevirtual 299, 3) := by decide +kernel
theorem dX11_menu_7 : decode cX11_menu 7 = .ok (.ireturn, 1) := by decide +kernel
theorem dX11_menuOf_0 : decode cX11_menuOf 0 = .ok (.aload_n 0, 1) := by decide +kernel
theorem dX11_menuOf_1 : decode cX11_menuOf 1 = .ok (.getfield 63, 3) := by decide +kernel
theorem dX11_menuOf_4 : decode cX11_menuOf 4 = .ok (.getfield 302, 3) := by decide +kernel
theorem dX11_menuOf_7 : decode cX11_menuOf 7 = .ok (.ireturn, 1) := by decide +kernel
theorem dX11_proud_0 : decode cX11_proud 0 = .ok (.aload_n 0, 1) := by decide +kernel
theorem dX11_proud_1 : decode cX11_proud 1 = .ok (.getfield 63, 3) := by decide +kernel
theorem dX11_proud_4 : decode cX11_proud 4 = .ok (.aload_n 0, 1) := by decide +kernel
theorem dX11_proud_5 : decode cX11_proud 5 = .ok (.getfield 14, 3) := by decide +kernel
theorem dX11_proud_8 : decode cX11_proud 8 = .ok (.invokevirtual 305, 3) := by decide +kernel
theorem dX11_proud_11 : decode cX11_proud 11 = .ok (.istore_n 1, 1) := by decide +kernel
theorem dX11_proud_12 : decode cX11_proud 12 = .ok (.aload_n 0, 1) := by decide +kernel
theorem dX11_proud_13 : decode cX11_proud 13 = .ok (.getfield 14, 3) := by decide +kernel
theorem dX11_proud_16 : decode cX11_proud 16 = .ok (.iconst 0, 1) := by decide +kernel
theorem dX11_proud_17 : decode cX11_proud 17 = .ok (.putfield 101, 3) := by decide +kernel
theorem dX11_proud_20 : decode cX11_proud 20 = .ok (.iload_n 1, 1) := by decide +kernel
theorem dX11_proud_21 : decode cX11_proud 21 = .ok (.ireturn, 1) := by decide +kernel
theorem dX11_watch_0 : decode cX11_watch 0 = .ok (.aload_n 0, 1) := by decide +kernel
theorem dX11_watch_1 : decode cX11_watch 1 = .ok (.getfield 63, 3) := by decide +kernel
theorem dX11_watch_4 : decode cX11_watch 4 = .ok (.getfield 309, 3) := by decide +kernel
theorem dX11_watch_7 : decode cX11_watch 7 = .ok (.ireturn, 1) := by decide +kernel
theorem dX11_mean_0 : decode cX11_mean 0 = .ok (.aload_n 0, 1) := by decide +kernel
theorem dX11_mean_1 : decode cX11_mean 1 = .ok (.getfield 29, 3) := by decide +kernel
theorem dX11_mean_4 : decode cX11_mean 4 = .ok (.getfield 312, 3) := by decide +kernel
theorem dX11_mean_7 : decode cX11_mean 7 = .ok (.istore_n 2, 1) := by decide +kernel
theorem dX11_mean_8 : decode cX11_mean 8 = .ok (.iload_n 2, 1) := by decide +kernel
theorem dX11_mean_9 : decode cX11_mean 9 = .ok (.iconst 1, 1) := by decide +kernel
theorem dX11_mean_10 : decode cX11_mean 10 = .ok (.if_icmp .lt 12, 3) := by decide +kernel
theorem dX11_mean_13 : decode cX11_mean 13 = .ok (.iload_n 1, 1) := by decide +kernel
theorem dX11_mean_14 : decode cX11_mean 14 = .ok (.ifCond .lt 8, 3) := by decide +kernel
theorem dX11_mean_17 : decode cX11_mean 17 = .ok (.iload_n 1, 1) := by decide +kernel
theorem dX11_mean_18 : decode cX11_mean 18 = .ok (.iconst 1, 1) := by decide +kernel
theorem dX11_mean_19 : decode cX11_mean 19 = .ok (.if_icmp .le 14, 3) := by decide +kernel
theorem dX11_mean_22 : decode cX11_mean 22 = .ok (.new 140, 3) := by decide +kernel
theorem dX11_mean_25 : decode cX11_mean 25 = .ok (.dup, 1) := by decide +kernel
theorem dX11_mean_26 : decode cX11_mean 26 = .ok (.ldc_w 315, 3) := by decide +kernel
theorem dX11_mean_29 : decode cX11_mean 29 = .ok (.invokespecial 144, 3) := by decide +kernel
theorem dX11_mean_32 : decode cX11_mean 32 = .ok (.athrow, 1) := by decide +kernel
theorem dX11_mean_33 : decode cX11_mean 33 = .ok (.iload_n 1, 1) := by decide +kernel
theorem dX11_mean_34 : decode cX11_mean 34 = .ok (.ifCond .ne 13, 3) := by decide +kernel
theorem dX11_mean_37 : decode cX11_mean 37 = .ok (.aload_n 0, 1) := by decide +kernel
theorem dX11_mean_38 : decode cX11_mean 38 = .ok (.getfield 38, 3) := by decide +kernel
theorem dX11_mean_41 : decode cX11_mean 41 = .ok (.getfield 211, 3) := by decide +kernel
theorem dX11_mean_44 : decode cX11_mean 44 = .ok (.goto 4, 3) := by decide +kernel
theorem dX11_mean_47 : decode cX11_mean 47 = .ok (.iload_n 2, 1) := by decide +kernel
theorem dX11_mean_48 : decode cX11_mean 48 = .ok (.istore_n 3, 1) := by decide +kernel
theorem dX11_mean_49 : decode cX11_mean 49 = .ok (.iload_n 2, 1) := by decide +kernel
theorem dX11_mean_50 : decode cX11_mean 50 = .ok (.istore 4, 2) := by decide +kernel
theorem dX11_mean_52 : decode cX11_mean 52 = .ok (.iload 4, 2) := by decide +kernel
theorem dX11_mean_54 : decode cX11_mean 54 = .ok (.iconst 1, 1) := by decide +kernel
theorem dX11_mean_55 : decode cX11_mean 55 = .ok (.if_icmp .le 34, 3) := by decide +kernel
theorem dX11_mean_58 : decode cX11_mean 58 = .ok (.iload_n 2, 1) := by decide +kernel
theorem dX11_mean_59 : decode cX11_mean 59 = .ok (.iload 4, 2) := by decide +kernel
theorem dX11_mean_61 : decode cX11_mean 61 = .ok (.irem, 1) := by decide +kernel
theorem dX11_mean_62 : decode cX11_mean 62 = .ok (.ifCond .ne 21, 3) := by decide +kernel
theorem dX11_mean_65 : decode cX11_mean 65 = .ok (.aload_n 0, 1) := by decide +kernel
theorem dX11_mean_66 : decode cX11_mean 66 = .ok (.getfield 38, 3) := by decide +kernel
theorem dX11_mean_69 : decode cX11_mean 69 = .ok (.getfield 211, 3) := by decide +kernel
theorem dX11_mean_72 : decode cX11_mean 72 = .ok (.iload 4, 2) := by decide +kernel
theorem dX11_mean_74 : decode cX11_mean 74 = .ok (.irem, 1) := by decide +kernel
theorem dX11_mean_75 : decode cX11_mean 75 = .ok (.ifCond .ne 8, 3) := by decide +kernel
theorem dX11_mean_78 : decode cX11_mean 78 = .ok (.iload_n 3, 1) := by decide +kernel
theorem dX11_mean_79 : decode cX11_mean 79 = .ok (.iload 4, 2) := by decide +kernel
theorem dX11_mean_81 : decode cX11_mean 81 = .ok (.idiv, 1) := by decide +kernel
theorem dX11_mean_82 : decode cX11_mean 82 = .ok (.ireturn, 1) := by decide +kernel
theorem dX11_mean_83 : decode cX11_mean 83 = .ok (.iinc 4 (-1), 3) := by decide +kernel
theorem dX11_mean_86 : decode cX11_mean 86 = .ok (.goto (-34), 3) := by decide +kernel
theorem dX11_mean_89 : decode cX11_mean 89 = .ok (.iload_n 3, 1) := by decide +kernel
theorem dX11_mean_90 : decode cX11_mean 90 = .ok (.ireturn, 1) := by decide +kernel
theorem dX11_plate_0 : decode cX11_plate 0 = .ok (.aload_n 0, 1) := by decide +kernel
theorem dX11_plate_1 : decode cX11_plate 1 = .ok (.getfield 29, 3) := by decide +kernel
theorem dX11_plate_4 : decode cX11_plate 4 = .ok (.iload_n 1, 1) := by decide +kernel
theorem dX11_plate_5 : decode cX11_plate 5 = .ok (.invokevirtual 136, 3) := by decide +kernel
theorem dX11_plate_8 : decode cX11_plate 8 = .ok (.ifCond .ne 5, 3) := by decide +kernel
theorem dX11_plate_11 : decode cX11_plate 11 = .ok (.iconst (-1), 1) := by decide +kernel
theorem dX11_plate_12 : decode cX11_plate 12 = .ok (.ireturn, 1) := by decide +kernel
theorem dX11_plate_13 : decode cX11_plate 13 = .ok (.aload_n 0, 1) := by decide +kernel
theorem dX11_plate_14 : decode cX11_plate 14 = .ok (.getfield 18, 3) := by decide +kernel
theorem dX11_plate_17 : decode cX11_plate 17 = .ok (.iconst 0, 1) := by decide +kernel
theorem dX11_plate_18 : decode cX11_plate 18 = .ok (.putfield 101, 3) := by decide +kernel
theorem dX11_plate_21 : decode cX11_plate 21 = .ok (.aload_n 0, 1) := by decide +kernel
theorem dX11_plate_22 : decode cX11_plate 22 = .ok (.getfield 18, 3) := by decide +kernel
theorem dX11_plate_25 : decode cX11_plate 25 = .ok (.aload_n 0, 1) := by decide +kernel
theorem dX11_plate_26 : decode cX11_plate 26 = .ok (.getfield 29, 3) := by decide +kernel
theorem dX11_plate_29 : decode cX11_plate 29 = .ok (.getfield 317, 3) := by decide +kernel
theorem dX11_plate_32 : decode cX11_plate 32 = .ok (.iload_n 1, 1) := by decide +kernel
theorem dX11_plate_33 : decode cX11_plate 33 = .ok (.laload, 1) := by decide +kernel
theorem dX11_plate_34 : decode cX11_plate 34 = .ok (.invokevirtual 321, 3) := by decide +kernel
theorem dX11_plate_37 : decode cX11_plate 37 = .ok (.aload_n 0, 1) := by decide +kernel
theorem dX11_plate_38 : decode cX11_plate 38 = .ok (.getfield 18, 3) := by decide +kernel
theorem dX11_plate_41 : decode cX11_plate 41 = .ok (.aload_n 0, 1) := by decide +kernel
theorem dX11_plate_42 : decode cX11_plate 42 = .ok (.getfield 38, 3) := by decide +kernel
theorem dX11_plate_45 : decode cX11_plate 45 = .ok (.iload_n 1, 1) := by decide +kernel
theorem dX11_plate_46 : decode cX11_plate 46 = .ok (.invokevirtual 160, 3) := by decide +kernel
theorem dX11_plate_49 : decode cX11_plate 49 = .ok (.ifCond .eq 9, 3) := by decide +kernel
theorem dX11_plate_52 : decode cX11_plate 52 = .ok (.ldc_w 325, 3) := by decide +kernel
theorem dX11_plate_55 : decode cX11_plate 55 = .ok (.goto 6, 3) := by decide +kernel
theorem dX11_plate_58 : decode cX11_plate 58 = .ok (.ldc_w 327, 3) := by decide +kernel
theorem dX11_plate_61 : decode cX11_plate 61 = .ok (.invokevirtual 329, 3) := by decide +kernel
theorem dX11_plate_64 : decode cX11_plate 64 = .ok (.aload_n 0, 1) := by decide +kernel
theorem dX11_plate_65 : decode cX11_plate 65 = .ok (.getfield 18, 3) := by decide +kernel
theorem dX11_plate_68 : decode cX11_plate 68 = .ok (.aload_n 0, 1) := by decide +kernel
theorem dX11_plate_69 : decode cX11_plate 69 = .ok (.getfield 38, 3) := by decide +kernel
theorem dX11_plate_72 : decode cX11_plate 72 = .ok (.getfield 157, 3) := by decide +kernel
theorem dX11_plate_75 : decode cX11_plate 75 = .ok (.iload_n 1, 1) := by decide +kernel
theorem dX11_plate_76 : decode cX11_plate 76 = .ok (.iaload, 1) := by decide +kernel
theorem dX11_plate_77 : decode cX11_plate 77 = .ok (.invokevirtual 332, 3) := by decide +kernel
theorem dX11_plate_80 : decode cX11_plate 80 = .ok (.aload_n 0, 1) := by decide +kernel
theorem dX11_plate_81 : decode cX11_plate 81 = .ok (.getfield 38, 3) := by decide +kernel
theorem dX11_plate_84 : decode cX11_plate 84 = .ok (.getfield 169, 3) := by decide +kernel
theorem dX11_plate_87 : decode cX11_plate 87 = .ok (.iload_n 1, 1) := by decide +kernel
theorem dX11_plate_88 : decode cX11_plate 88 = .ok (.iaload, 1) := by decide +kernel
theorem dX11_plate_89 : decode cX11_plate 89 = .ok (.ifCond .le 29, 3) := by decide +kernel
theorem dX11_plate_92 : decode cX11_plate 92 = .ok (.aload_n 0, 1) := by decide +kernel
theorem dX11_plate_93 : decode cX11_plate 93 = .ok (.getfield 18, 3) := by decide +kernel
theorem dX11_plate_96 : decode cX11_plate 96 = .ok (.ldc_w 335, 3) := by decide +kernel
theorem dX11_plate_99 : decode cX11_plate 99 = .ok (.invokevirtual 329, 3) := by decide +kernel
theorem dX11_plate_102 : decode cX11_plate 102 = .ok (.aload_n 0, 1) := by decide +kernel
theorem dX11_plate_103 : decode cX11_plate 103 = .ok (.getfield 18, 3) := by decide +kernel
theorem dX11_plate_106 : decode cX11_plate 106 = .ok (.aload_n 0, 1) := by decide +kernel
theorem dX11_plate_107 : decode cX11_plate 107 = .ok (.getfield 38, 3) := by decide +kernel
theorem dX11_plate_110 : decode cX11_plate 110 = .ok (.getfield 169, 3) := by decide +kernel
theorem dX11_plate_113 : decode cX11_plate 113 = .ok (.iload_n 1, 1) := by decide +kernel
theorem dX11_plate_114 : decode cX11_plate 114 = .ok (.iaload, 1) := by decide +kernel
theorem dX11_plate_115 : decode cX11_plate 115 = .ok (.invokevirtual 332, 3) := by decide +kernel
theorem dX11_plate_118 : decode cX11_plate 118 = .ok (.aload_n 0, 1) := by decide +kernel
theorem dX11_plate_119 : decode cX11_plate 119 = .ok (.getfield 18, 3) := by decide +kernel
theorem dX11_plate_122 : decode cX11_plate 122 = .ok (.getfield 101, 3) := by decide +kernel
theorem dX11_plate_125 : decode cX11_plate 125 = .ok (.ireturn, 1) := by decide +kernel
theorem dX11_byteAt_0 : decode cX11_byteAt 0 = .ok (.aload_n 0, 1) := by decide +kernel
theorem dX11_byteAt_1 : decode cX11_byteAt 1 = .ok (.getfield 18, 3) := by decide +kernel
theorem dX11_byteAt_4 : decode cX11_byteAt 4 = .ok (.iload_n 1, 1) := by decide +kernel
theorem dX11_byteAt_5 : decode cX11_byteAt 5 = .ok (.invokevirtual 290, 3) := by decide +kernel
theorem dX11_byteAt_8 : decode cX11_byteAt 8 = .ok (.ireturn, 1) := by decide +kernel
theorem dX11_drawn_0 : decode cX11_drawn 0 = .ok (.iload_n 1, 1) := by decide +kernel
theorem dX11_drawn_1 : decode cX11_drawn 1 = .ok (.iconst 1, 1) := by decide +kernel
theorem dX11_drawn_2 : decode cX11_drawn 2 = .ok (.if_icmp .lt 9, 3) := by decide +kernel
theorem dX11_drawn_5 : decode cX11_drawn 5 = .ok (.iload_n 1, 1) := by decide +kernel
theorem dX11_drawn_6 : decode cX11_drawn 6 = .ok (.bipush 60, 2) := by decide +kernel
theorem dX11_drawn_8 : decode cX11_drawn 8 = .ok (.if_icmp .le 5, 3) := by decide +kernel
theorem dX11_drawn_11 : decode cX11_drawn 11 = .ok (.iconst (-1), 1) := by decide +kernel
theorem dX11_drawn_12 : decode cX11_drawn 12 = .ok (.ireturn, 1) := by decide +kernel
theorem dX11_drawn_13 : decode cX11_drawn 13 = .ok (.aload_n 0, 1) := by decide +kernel
theorem dX11_drawn_14 : decode cX11_drawn 14 = .ok (.getfield 38, 3) := by decide +kernel
theorem dX11_drawn_17 : decode cX11_drawn 17 = .ok (.getfield 193, 3) := by decide +kernel
theorem dX11_drawn_20 : decode cX11_drawn 20 = .ok (.sipush 400, 3) := by decide +kernel
theorem dX11_drawn_23 : decode cX11_drawn 23 = .ok (.if_icmp .ge 14, 3) := by decide +kernel
theorem dX11_drawn_26 : decode cX11_drawn 26 = .ok (.aload_n 0, 1) := by decide +kernel
theorem dX11_drawn_27 : decode cX11_drawn 27 = .ok (.getfield 54, 3) := by decide +kernel
theorem dX11_drawn_30 : decode cX11_drawn 30 = .ok (.aload_n 0, 1) := by decide +kernel
theorem dX11_drawn_31 : decode cX11_drawn 31 = .ok (.getfield 38, 3) := by decide +kernel
theorem dX11_drawn_34 : decode cX11_drawn 34 = .ok (.invokevirtual 217, 3) := by decide +kernel
theorem dX11_drawn_37 : decode cX11_drawn 37 = .ok (.aload_n 0, 1) := by decide +kernel
theorem dX11_drawn_38 : decode cX11_drawn 38 = .ok (.getfield 38, 3) := by decide +kernel
theorem dX11_drawn_41 : decode cX11_drawn 41 = .ok (.iload_n 1, 1) := by decide +kernel
theorem dX11_drawn_42 : decode cX11_drawn 42 = .ok (.iload_n 2, 1) := by decide +kernel
theorem dX11_drawn_43 : decode cX11_drawn 43 = .ok (.invokevirtual 337, 3) := by decide +kernel
theorem dX11_drawn_46 : decode cX11_drawn 46 = .ok (.ireturn, 1) := by decide +kernel
theorem dX11_odds_0 : decode cX11_odds 0 = .ok (.aload_n 0, 1) := by decide +kernel
theorem dX11_odds_1 : decode cX11_odds 1 = .ok (.getfield 29, 3) := by decide +kernel
theorem dX11_odds_4 : decode cX11_odds 4 = .ok (.iload_n 1, 1) := by decide +kernel
theorem dX11_odds_5 : decode cX11_odds 5 = .ok (.invokevirtual 136, 3) := by decide +kernel
theorem dX11_odds_8 : decode cX11_odds 8 = .ok (.ifCond .eq 27, 3) := by decide +kernel
theorem dX11_odds_11 : decode cX11_odds 11 = .ok (.iload_n 2, 1) := by decide +kernel
theorem dX11_odds_12 : decode cX11_odds 12 = .ok (.iconst 1, 1) := by decide +kernel
theorem dX11_odds_13 : decode cX11_odds 13 = .ok (.if_icmp .lt 22, 3) := by decide +kernel
theorem dX11_odds_16 : decode cX11_odds 16 = .ok (.iload_n 2, 1) := by decide +kernel
theorem dX11_odds_17 : decode cX11_odds 17 = .ok (.bipush 30, 2) := by decide +kernel
theorem dX11_odds_19 : decode cX11_odds 19 = .ok (.if_icmp .gt 16, 3) := by decide +kernel
theorem dX11_odds_22 : decode cX11_odds 22 = .ok (.aload_n 0, 1) := by decide +kernel
theorem dX11_odds_23 : decode cX11_odds 23 = .ok (.getfield 63, 3) := by decide +kernel
theorem dX11_odds_26 : decode cX11_odds 26 = .ok (.iload_n 1, 1) := by decide +kernel
theorem dX11_odds_27 : decode cX11_odds 27 = .ok (.iload_n 2, 1) := by decide +kernel
theorem dX11_odds_28 : decode cX11_odds 28 = .ok (.iload_n 3, 1) := by decide +kernel
theorem dX11_odds_29 : decode cX11_odds 29 = .ok (.invokevirtual 340, 3) := by decide +kernel
theorem dX11_odds_32 : decode cX11_odds 32 = .ok (.goto 4, 3) := by decide +kernel
theorem dX11_odds_35 : decode cX11_odds 35 = .ok (.iconst (-1), 1) := by decide +kernel
theorem dX11_odds_36 : decode cX11_odds 36 = .ok (.ireturn, 1) := by decide +kernel
theorem dX11_book_0 : decode cX11_book 0 = .ok (.iload_n 1, 1) := by decide +kernel
theorem dX11_book_1 : decode cX11_book 1 = .ok (.ifCond .lt 8, 3) := by decide +kernel
theorem dX11_book_4 : decode cX11_book 4 = .ok (.iload_n 1, 1) := by decide +kernel
theorem dX11_book_5 : decode cX11_book 5 = .ok (.iconst 1, 1) := by decide +kernel
theorem dX11_book_6 : decode cX11_book 6 = .ok (.if_icmp .le 7, 3) := by decide +kernel
theorem dX11_book_9 : decode cX11_book 9 = .ok (.sipush (-1000), 3) := by decide +kernel
theorem dX11_book_12 : decode cX11_book 12 = .ok (.ireturn, 1) := by decide +kernel
theorem dX11_book_13 : decode cX11_book 13 = .ok (.aload_n 0, 1) := by decide +kernel
theorem dX11_book_14 : decode cX11_book 14 = .ok (.getfield 72, 3) := by decide +kernel
theorem dX11_book_17 : decode cX11_book 17 = .ok (.invokevirtual 344, 3) := by decide +kernel
theorem dX11_book_20 : decode cX11_book 20 = .ok (.istore_n 2, 1) := by decide +kernel
theorem dX11_book_21 : decode cX11_book 21 = .ok (.aload_n 0, 1) := by decide +kernel
theorem dX11_book_22 : decode cX11_book 22 = .ok (.getfield 14, 3) := by decide +kernel
theorem dX11_book_25 : decode cX11_book 25 = .ok (.iconst 0, 1) := by decide +kernel
theorem dX11_book_26 : decode cX11_book 26 = .ok (.putfield 101, 3) := by decide +kernel
theorem dX11_book_29 : decode cX11_book 29 = .ok (.aload_n 0, 1) := by decide +kernel
theorem dX11_book_30 : decode cX11_book 30 = .ok (.aload_n 0, 1) := by decide +kernel
theorem dX11_book_31 : decode cX11_book 31 = .ok (.getfield 72, 3) := by decide +kernel
theorem dX11_book_34 : decode cX11_book 34 = .ok (.getfield 347, 3) := by decide +kernel
theorem dX11_book_37 : decode cX11_book 37 = .ok (.getfield 115, 3) := by decide +kernel
theorem dX11_book_40 : decode cX11_book 40 = .ok (.putfield 97, 3) := by decide +kernel
theorem dX11_book_43 : decode cX11_book 43 = .ok (.iload_n 2, 1) := by decide +kernel
theorem dX11_book_44 : decode cX11_book 44 = .ok (.ifCond .ne 17, 3) := by decide +kernel
theorem dX11_book_47 : decode cX11_book 47 = .ok (.bipush (-2), 2) := by decide +kernel
theorem dX11_book_49 : decode cX11_book 49 = .ok (.aload_n 0, 1) := by decide +kernel
theorem dX11_book_50 : decode cX11_book 50 = .ok (.getfield 72, 3) := by decide +kernel
theorem dX11_book_53 : decode cX11_book 53 = .ok (.getfield 347, 3) := by decide +kernel
theorem dX11_book_56 : decode cX11_book 56 = .ok (.getfield 118, 3) := by decide +kernel
theorem dX11_book_59 : decode cX11_book 59 = .ok (.isub, 1) := by decide +kernel
theorem dX11_book_60 : decode cX11_book 60 = .ok (.ireturn, 1) := by decide +kernel
theorem dX11_book_61 : decode cX11_book 61 = .ok (.aload_n 0, 1) := by decide +kernel
theorem dX11_book_62 : decode cX11_book 62 = .ok (.getfield 63, 3) := by decide +kernel
theorem dX11_book_65 : decode cX11_book 65 = .ok (.getfield 348, 3) := by decide +kernel
theorem dX11_book_68 : decode cX11_book 68 = .ok (.aload_n 0, 1) := by decide +kernel
theorem dX11_book_69 : decode cX11_book 69 = .ok (.getfield 38, 3) := by decide +kernel
theorem dX11_book_72 : decode cX11_book 72 = .ok (.invokevirtual 351, 3) := by decide +kernel
theorem dX11_book_75 : decode cX11_book 75 = .ok (.aload_n 0, 1) := by decide +kernel
theorem dX11_book_76 : decode cX11_book 76 = .ok (.getfield 72, 3) := by decide +kernel
theorem dX11_book_79 : decode cX11_book 79 = .ok (.aload_n 0, 1) := by decide +kernel
theorem dX11_book_80 : decode cX11_book 80 = .ok (.getfield 63, 3) := by decide +kernel
theorem dX11_book_83 : decode cX11_book 83 = .ok (.getfield 348, 3) := by decide +kernel
theorem dX11_book_86 : decode cX11_book 86 = .ok (.invokevirtual 353, 3) := by decide +kernel
theorem dX11_book_89 : decode cX11_book 89 = .ok (.iload_n 1, 1) := by decide +kernel
theorem dX11_book_90 : decode cX11_book 90 = .ok (.iconst 1, 1) := by decide +kernel
theorem dX11_book_91 : decode cX11_book 91 = .ok (.if_icmp .ne 38, 3) := by decide +kernel
theorem dX11_book_94 : decode cX11_book 94 = .ok (.aload_n 0, 1) := by decide +kernel
theorem dX11_book_95 : decode cX11_book 95 = .ok (.getfield 72, 3) := by decide +kernel
theorem dX11_book_98 : decode cX11_book 98 = .ok (.getfield 356, 3) := by decide +kernel
theorem dX11_book_101 : decode cX11_book 101 = .ok (.ifCond .le 28, 3) := by decide +kernel
theorem dX11_book_104 : decode cX11_book 104 = .ok (.aload_n 0, 1) := by decide +kernel
theorem dX11_book_105 : decode cX11_book 105 = .ok (.getfield 54, 3) := by decide +kernel
theorem dX11_book_108 : decode cX11_book 108 = .ok (.aload_n 0, 1) := by decide +kernel
theorem dX11_book_109 : decode cX11_book 109 = .ok (.getfield 38, 3) := by decide +kernel
theorem dX11_book_112 : decode cX11_book 112 = .ok (.invokevirtual 217, 3) := by decide +kernel
theorem dX11_book_115 : decode cX11_book 115 = .ok (.aload_n 0, 1) := by decide +kernel
theorem dX11_book_116 : decode cX11_book 116 = .ok (.getfield 38, 3) := by decide +kernel
theorem dX11_book_119 : decode cX11_book 119 = .ok (.aload_n 0, 1) := by decide +kernel
theorem dX11_book_120 : decode cX11_book 120 = .ok (.getfield 63, 3) := by decide +kernel
theorem dX11_book_123 : decode cX11_book 123 = .ok (.getfield 348, 3) := by decide +kernel
theorem dX11_book_126 : decode cX11_book 126 = .ok (.invokevirtual 351, 3) := by decide +kernel
theorem dX11_book_129 : decode cX11_book 129 = .ok (.aload_n 0, 1) := by decide +kernel
theorem dX11_book_130 : decode cX11_book 130 = .ok (.getfield 72, 3) := by decide +kernel
theorem dX11_book_133 : decode cX11_book 133 = .ok (.getfield 359, 3) := by decide +kernel
theorem dX11_book_136 : decode cX11_book 136 = .ok (.ifCond .ne 7, 3) := by decide +kernel
theorem dX11_book_139 : decode cX11_book 139 = .ok (.iconst (-1), 1) := by decide +kernel
theorem dX11_book_140 : decode cX11_book 140 = .ok (.goto 10, 3) := by decide +kernel
theorem dX11_book_143 : decode cX11_book 143 = .ok (.aload_n 0, 1) := by decide +kernel
theorem dX11_book_144 : decode cX11_book 144 = .ok (.getfield 72, 3) := by decide +kernel
theorem dX11_book_147 : decode cX11_book 147 = .ok (.getfield 356, 3) := by decide +kernel
theorem dX11_book_150 : decode cX11_book 150 = .ok (.ireturn, 1) := by decide +kernel
theorem dX11_told_0 : decode cX11_told 0 = .ok (.aload_n 0, 1) := by decide +kernel
theorem dX11_told_1 : decode cX11_told 1 = .ok (.getfield 72, 3) := by decide +kernel
theorem dX11_told_4 : decode cX11_told 4 = .ok (.getfield 362, 3) := by decide +kernel
theorem dX11_told_7 : decode cX11_told 7 = .ok (.ifCond .ne 5, 3) := by decide +kernel
theorem dX11_told_10 : decode cX11_told 10 = .ok (.iconst (-1), 1) := by decide +kernel
theorem dX11_told_11 : decode cX11_told 11 = .ok (.ireturn, 1) := by decide +kernel
theorem dX11_told_12 : decode cX11_told 12 = .ok (.iload_n 1, 1) := by decide +kernel
theorem dX11_told_13 : decode cX11_told 13 = .ok (.tableswitch 63 0 3 #[31, 39, 47, 55], 31) := by decide +kernel
theorem dX11_told_44 : decode cX11_told 44 = .ok (.aload_n 0, 1) := by decide +kernel
theorem dX11_told_45 : decode cX11_told 45 = .ok (.getfield 72, 3) := by decide +kernel
theorem dX11_told_48 : decode cX11_told 48 = .ok (.getfield 359, 3) := by decide +kernel
theorem dX11_told_51 : decode cX11_told 51 = .ok (.ireturn, 1) := by decide +kernel
theorem dX11_told_52 : decode cX11_told 52 = .ok (.aload_n 0, 1) := by decide +kernel
theorem dX11_told_53 : decode cX11_told 53 = .ok (.getfield 72, 3) := by decide +kernel
theorem dX11_told_56 : decode cX11_told 56 = .ok (.getfield 356, 3) := by decide +kernel
theorem dX11_told_59 : decode cX11_told 59 = .ok (.ireturn, 1) := by decide +kernel
theorem dX11_told_60 : decode cX11_told 60 = .ok (.aload_n 0, 1) := by decide +kernel
theorem dX11_told_61 : decode cX11_told 61 = .ok (.getfield 72, 3) := by decide +kernel
theorem dX11_told_64 : decode cX11_told 64 = .ok (.getfield 366, 3) := by decide +kernel
theorem dX11_told_67 : decode cX11_told 67 = .ok (.ireturn, 1) := by decide +kernel
theorem dX11_told_68 : decode cX11_told 68 = .ok (.aload_n 0, 1) := by decide +kernel
theorem dX11_told_69 : decode cX11_told 69 = .ok (.getfield 72, 3) := by decide +kernel
theorem dX11_told_72 : decode cX11_told 72 = .ok (.getfield 369, 3) := by decide +kernel
theorem dX11_told_75 : decode cX11_told 75 = .ok (.ireturn, 1) := by decide +kernel
theorem dX11_told_76 : decode cX11_told 76 = .ok (.iconst (-1), 1) := by decide +kernel
theorem dX11_told_77 : decode cX11_told 77 = .ok (.ireturn, 1) := by decide +kernel
theorem dX11_sentence_0 : decode cX11_sentence 0 = .ok (.aload_n 0, 1) := by decide +kernel
theorem dX11_sentence_1 : decode cX11_sentence 1 = .ok (.getfield 86, 3) := by decide +kernel
theorem dX11_sentence_4 : decode cX11_sentence 4 = .ok (.invokevirtual 372, 3) := by decide +kernel
theorem dX11_sentence_7 : decode cX11_sentence 7 = .ok (.istore_n 1, 1) := by decide +kernel
theorem dX11_sentence_8 : decode cX11_sentence 8 = .ok (.aload_n 0, 1) := by decide +kernel
theorem dX11_sentence_9 : decode cX11_sentence 9 = .ok (.getfield 14, 3) := by decide +kernel
theorem dX11_sentence_12 : decode cX11_sentence 12 = .ok (.iconst 0, 1) := by decide +kernel
theorem dX11_sentence_13 : decode cX11_sentence 13 = .ok (.putfield 101, 3) := by decide +kernel
theorem dX11_sentence_16 : decode cX11_sentence 16 = .ok (.aload_n 0, 1) := by decide +kernel
theorem dX11_sentence_17 : decode cX11_sentence 17 = .ok (.aload_n 0, 1) := by decide +kernel
theorem dX11_sentence_18 : decode cX11_sentence 18 = .ok (.getfield 86, 3) := by decide +kernel
theorem dX11_sentence_21 : decode cX11_sentence 21 = .ok (.getfield 373, 3) := by decide +kernel
theorem dX11_sentence_24 : decode cX11_sentence 24 = .ok (.getfield 115, 3) := by decide +kernel
theorem dX11_sentence_27 : decode cX11_sentence 27 = .ok (.putfield 97, 3) := by decide +kernel
theorem dX11_sentence_30 : decode cX11_sentence 30 = .ok (.iload_n 1, 1) := by decide +kernel
theorem dX11_sentence_31 : decode cX11_sentence 31 = .ok (.ifCond .ne 16, 3) := by decide +kernel
theorem dX11_sentence_34 : decode cX11_sentence 34 = .ok (.iconst (-1), 1) := by decide +kernel
theorem dX11_sentence_35 : decode cX11_sentence 35 = .ok (.aload_n 0, 1) := by decide +kernel
theorem dX11_sentence_36 : decode cX11_sentence 36 = .ok (.getfield 86, 3) := by decide +kernel
theorem dX11_sentence_39 : decode cX11_sentence 39 = .ok (.getfield 373, 3) := by decide +kernel
theorem dX11_sentence_42 : decode cX11_sentence 42 = .ok (.getfield 118, 3) := by decide +kernel
theorem dX11_sentence_45 : decode cX11_sentence 45 = .ok (.isub, 1) := by decide +kernel
theorem dX11_sentence_46 : decode cX11_sentence 46 = .ok (.ireturn, 1) := by decide +kernel
theorem dX11_sentence_47 : decode cX11_sentence 47 = .ok (.aload_n 0, 1) := by decide +kernel
theorem dX11_sentence_48 : decode cX11_sentence 48 = .ok (.getfield 79, 3) := by decide +kernel
theorem dX11_sentence_51 : decode cX11_sentence 51 = .ok (.aload_n 0, 1) := by decide +kernel
theorem dX11_sentence_52 : decode cX11_sentence 52 = .ok (.getfield 86, 3) := by decide +kernel
theorem dX11_sentence_55 : decode cX11_sentence 55 = .ok (.getfield 374, 3) := by decide +kernel
theorem dX11_sentence_58 : decode cX11_sentence 58 = .ok (.invokevirtual 376, 3) := by decide +kernel
theorem dX11_sentence_61 : decode cX11_sentence 61 = .ok (.aload_n 0, 1) := by decide +kernel
theorem dX11_sentence_62 : decode cX11_sentence 62 = .ok (.getfield 79, 3) := by decide +kernel
theorem dX11_sentence_65 : decode cX11_sentence 65 = .ok (.getfield 379, 3) := by decide +kernel
theorem dX11_sentence_68 : decode cX11_sentence 68 = .ok (.ireturn, 1) := by decide +kernel
theorem dX11_said_0 : decode cX11_said 0 = .ok (.aload_n 0, 1) := by decide +kernel
theorem dX11_said_1 : decode cX11_said 1 = .ok (.getfield 79, 3) := by decide +kernel
theorem dX11_said_4 : decode cX11_said 4 = .ok (.getfield 382, 3) := by decide +kernel
theorem dX11_said_7 : decode cX11_said 7 = .ok (.ifCond .eq 8, 3) := by decide +kernel
theorem dX11_said_10 : decode cX11_said 10 = .ok (.iload_n 1, 1) := by decide +kernel
theorem dX11_said_11 : decode cX11_said 11 = .ok (.iconst (-1), 1) := by decide +kernel
theorem dX11_said_12 : decode cX11_said 12 = .ok (.if_icmp .ge 5, 3) := by decide +kernel
theorem dX11_said_15 : decode cX11_said 15 = .ok (.iconst (-1), 1) := by decide +kernel
theorem dX11_said_16 : decode cX11_said 16 = .ok (.ireturn, 1) := by decide +kernel
theorem dX11_said_17 : decode cX11_said 17 = .ok (.aload_n 0, 1) := by decide +kernel
theorem dX11_said_18 : decode cX11_said 18 = .ok (.getfield 79, 3) := by decide +kernel
theorem dX11_said_21 : decode cX11_said 21 = .ok (.aload_n 0, 1) := by decide +kernel
theorem dX11_said_22 : decode cX11_said 22 = .ok (.getfield 38, 3) := by decide +kernel
theorem dX11_said_25 : decode cX11_said 25 = .ok (.invokevirtual 385, 3) := by decide +kernel
theorem dX11_said_28 : decode cX11_said 28 = .ok (.istore_n 2, 1) := by decide +kernel
theorem dX11_said_29 : decode cX11_said 29 = .ok (.iload_n 1, 1) := by decide +kernel
theorem dX11_said_30 : decode cX11_said 30 = .ok (.iconst (-1), 1) := by decide +kernel
theorem dX11_said_31 : decode cX11_said 31 = .ok (.if_icmp .ne 8, 3) := by decide +kernel
theorem dX11_said_34 : decode cX11_said 34 = .ok (.iload_n 2, 1) := by decide +kernel
theorem dX11_said_35 : decode cX11_said 35 = .ok (.invokestatic 388, 3) := by decide +kernel
theorem dX11_said_38 : decode cX11_said 38 = .ok (.ireturn, 1) := by decide +kernel
theorem dX11_said_39 : decode cX11_said 39 = .ok (.iconst 0, 1) := by decide +kernel
theorem dX11_said_40 : decode cX11_said 40 = .ok (.istore_n 3, 1) := by decide +kernel
theorem dX11_said_41 : decode cX11_said 41 = .ok (.iconst 0, 1) := by decide +kernel
theorem dX11_said_42 : decode cX11_said 42 = .ok (.istore 4, 2) := by decide +kernel
theorem dX11_said_44 : decode cX11_said 44 = .ok (.iload 4, 2) := by decide +kernel
theorem dX11_said_46 : decode cX11_said 46 = .ok (.aload_n 0, 1) := by decide +kernel
theorem dX11_said_47 : decode cX11_said 47 = .ok (.getfield 29, 3) := by decide +kernel
theorem dX11_said_50 : decode cX11_said 50 = .ok (.getfield 312, 3) := by decide +kernel
theorem dX11_said_53 : decode cX11_said 53 = .ok (.if_icmp .ge 30, 3) := by decide +kernel
theorem dX11_said_56 : decode cX11_said 56 = .ok (.iload_n 2, 1) := by decide +kernel
theorem dX11_said_57 : decode cX11_said 57 = .ok (.iload 4, 2) := by decide +kernel
theorem dX11_said_59 : decode cX11_said 59 = .ok (.ishr, 1) := by decide +kernel
theorem dX11_said_60 : decode cX11_said 60 = .ok (.iconst 1, 1) := by decide +kernel
theorem dX11_said_61 : decode cX11_said 61 = .ok (.iand, 1) := by decide +kernel
theorem dX11_said_62 : decode cX11_said 62 = .ok (.iconst 1, 1) := by decide +kernel
theorem dX11_said_63 : decode cX11_said 63 = .ok (.if_icmp .ne 14, 3) := by decide +kernel
theorem dX11_said_66 : decode cX11_said 66 = .ok (.iload_n 3, 1) := by decide +kernel
theorem dX11_said_67 : decode cX11_said 67 = .ok (.iload_n 1, 1) := by decide +kernel
theorem dX11_said_68 : decode cX11_said 68 = .ok (.if_icmp .ne 6, 3) := by decide +kernel
theorem dX11_said_71 : decode cX11_said 71 = .ok (.iload 4, 2) := by decide +kernel
theorem dX11_said_73 : decode cX11_said 73 = .ok (.ireturn, 1) := by decide +kernel
theorem dX11_said_74 : decode cX11_said 74 = .ok (.iinc 3 1, 3) := by decide +kernel
theorem dX11_said_77 : decode cX11_said 77 = .ok (.iinc 4 1, 3) := by decide +kernel
theorem dX11_said_80 : decode cX11_said 80 = .ok (.goto (-36), 3) := by decide +kernel
theorem dX11_said_83 : decode cX11_said 83 = .ok (.iconst (-1), 1) := by decide +kernel
theorem dX11_said_84 : decode cX11_said 84 = .ok (.ireturn, 1) := by decide +kernel
theorem dX11_image_0 : decode cX11_image 0 = .ok (.iload_n 1, 1) := by decide +kernel
theorem dX11_image_1 : decode cX11_image 1 = .ok (.ifCond .lt 8, 3) := by decide +kernel
theorem dX11_image_4 : decode cX11_image 4 = .ok (.iload_n 1, 1) := by decide +kernel
theorem dX11_image_5 : decode cX11_image 5 = .ok (.iconst 1, 1) := by decide +kernel
theorem dX11_image_6 : decode cX11_image 6 = .ok (.if_icmp .le 5, 3) := by decide +kernel
theorem dX11_image_9 : decode cX11_image 9 = .ok (.iconst 0, 1) := by decide +kernel
theorem dX11_image_10 : decode cX11_image 10 = .ok (.ireturn, 1) := by decide +kernel
theorem dX11_image_11 : decode cX11_image 11 = .ok (.aload_n 0, 1) := by decide +kernel
theorem dX11_image_12 : decode cX11_image 12 = .ok (.getfield 92, 3) := by decide +kernel
theorem dX11_image_15 : decode cX11_image 15 = .ok (.iload_n 1, 1) := by decide +kernel
theorem dX11_image_16 : decode cX11_image 16 = .ok (.aaload, 1) := by decide +kernel
theorem dX11_image_17 : decode cX11_image 17 = .ok (.astore_n 2, 1) := by decide +kernel
theorem dX11_image_18 : decode cX11_image 18 = .ok (.aload_n 2, 1) := by decide +kernel
theorem dX11_image_19 : decode cX11_image 19 = .ok (.getfield 393, 3) := by decide +kernel
theorem dX11_image_22 : decode cX11_image 22 = .ok (.aload_n 0, 1) := by decide +kernel
theorem dX11_image_23 : decode cX11_image 23 = .ok (.getfield 29, 3) := by decide +kernel
theorem dX11_image_26 : decode cX11_image 26 = .ok (.invokevirtual 124, 3) := by decide +kernel
theorem dX11_image_29 : decode cX11_image 29 = .ok (.aload_n 2, 1) := by decide +kernel
theorem dX11_image_30 : decode cX11_image 30 = .ok (.getfield 396, 3) := by decide +kernel
theorem dX11_image_33 : decode cX11_image 33 = .ok (.aload_n 0, 1) := by decide +kernel
theorem dX11_image_34 : decode cX11_image 34 = .ok (.getfield 38, 3) := by decide +kernel
theorem dX11_image_37 : decode cX11_image 37 = .ok (.invokevirtual 351, 3) := by decide +kernel
theorem dX11_image_40 : decode cX11_image 40 = .ok (.aload_n 2, 1) := by decide +kernel
theorem dX11_image_41 : decode cX11_image 41 = .ok (.getfield 397, 3) := by decide +kernel
theorem dX11_image_44 : decode cX11_image 44 = .ok (.aload_n 0, 1) := by decide +kernel
theorem dX11_image_45 : decode cX11_image 45 = .ok (.getfield 79, 3) := by decide +kernel
theorem dX11_image_48 : decode cX11_image 48 = .ok (.invokevirtual 376, 3) := by decide +kernel
theorem dX11_image_51 : decode cX11_image 51 = .ok (.aload_n 2, 1) := by decide +kernel
theorem dX11_image_52 : decode cX11_image 52 = .ok (.iconst 1, 1) := by decide +kernel
theorem dX11_image_53 : decode cX11_image 53 = .ok (.putfield 398, 3) := by decide +kernel
theorem dX11_image_56 : decode cX11_image 56 = .ok (.iconst 1, 1) := by decide +kernel
theorem dX11_image_57 : decode cX11_image 57 = .ok (.ireturn, 1) := by decide +kernel
theorem dX11_restore_0 : decode cX11_restore 0 = .ok (.iload_n 1, 1) := by decide +kernel
theorem dX11_restore_1 : decode cX11_restore 1 = .ok (.ifCond .lt 20, 3) := by decide +kernel
theorem dX11_restore_4 : decode cX11_restore 4 = .ok (.iload_n 1, 1) := by decide +kernel
theorem dX11_restore_5 : decode cX11_restore 5 = .ok (.iconst 1, 1) := by decide +kernel
theorem dX11_restore_6 : decode cX11_restore 6 = .ok (.if_icmp .gt 15, 3) := by decide +kernel
theorem dX11_restore_9 : decode cX11_restore 9 = .ok (.aload_n 0, 1) := by decide +kernel
theorem dX11_restore_10 : decode cX11_restore 10 = .ok (.getfield 92, 3) := by decide +kernel
theorem dX11_restore_13 : decode cX11_restore 13 = .ok (.iload_n 1, 1) := by decide +kernel
theorem dX11_restore_14 : decode cX11_restore 14 = .ok (.aaload, 1) := by decide +kernel
theorem dX11_restore_15 : decode cX11_restore 15 = .ok (.getfield 398, 3) := by decide +kernel
theorem dX11_restore_18 : decode cX11_restore 18 = .ok (.ifCond .ne 5, 3) := by decide +kernel
theorem dX11_restore_21 : decode cX11_restore 21 = .ok (.iconst 0, 1) := by decide +kernel
theorem dX11_restore_22 : decode cX11_restore 22 = .ok (.ireturn, 1) := by decide +kernel
theorem dX11_restore_23 : decode cX11_restore 23 = .ok (.aload_n 0, 1) := by decide +kernel
theorem dX11_restore_24 : decode cX11_restore 24 = .ok (.getfield 92, 3) := by decide +kernel
theorem dX11_restore_27 : decode cX11_restore 27 = .ok (.iload_n 1, 1) := by decide +kernel
theorem dX11_restore_28 : decode cX11_restore 28 = .ok (.aaload, 1) := by decide +kernel
theorem dX11_restore_29 : decode cX11_restore 29 = .ok (.astore_n 2, 1) := by decide +kernel
theorem dX11_restore_30 : decode cX11_restore 30 = .ok (.aload_n 0, 1) := by decide +kernel
theorem dX11_restore_31 : decode cX11_restore 31 = .ok (.getfield 29, 3) := by decide +kernel
theorem dX11_restore_34 : decode cX11_restore 34 = .ok (.aload_n 2, 1) := by decide +kernel
theorem dX11_restore_35 : decode cX11_restore 35 = .ok (.getfield 393, 3) := by decide +kernel
theorem dX11_restore_38 : decode cX11_restore 38 = .ok (.invokevirtual 124, 3) := by decide +kernel
theorem dX11_restore_41 : decode cX11_restore 41 = .ok (.aload_n 0, 1) := by decide +kernel
theorem dX11_restore_42 : decode cX11_restore 42 = .ok (.getfield 38, 3) := by decide +kernel
theorem dX11_restore_45 : decode cX11_restore 45 = .ok (.aload_n 2, 1) := by decide +kernel
theorem dX11_restore_46 : decode cX11_restore 46 = .ok (.getfield 396, 3) := by decide +kernel
theorem dX11_restore_49 : decode cX11_restore 49 = .ok (.invokevirtual 351, 3) := by decide +kernel
theorem dX11_restore_52 : decode cX11_restore 52 = .ok (.aload_n 0, 1) := by decide +kernel
theorem dX11_restore_53 : decode cX11_restore 53 = .ok (.getfield 79, 3) := by decide +kernel
theorem dX11_restore_56 : decode cX11_restore 56 = .ok (.aload_n 2, 1) := by decide +kernel
theorem dX11_restore_57 : decode cX11_restore 57 = .ok (.getfield 397, 3) := by decide +kernel
theorem dX11_restore_60 : decode cX11_restore 60 = .ok (.invokevirtual 376, 3) := by decide +kernel
theorem dX11_restore_63 : decode cX11_restore 63 = .ok (.aload_n 0, 1) := by decide +kernel
theorem dX11_restore_64 : decode cX11_restore 64 = .ok (.getfield 54, 3) := by decide +kernel
theorem dX11_restore_67 : decode cX11_restore 67 = .ok (.iconst 0, 1) := by decide +kernel
theorem dX11_restore_68 : decode cX11_restore 68 = .ok (.putfield 133, 3) := by decide +kernel
theorem dX11_restore_71 : decode cX11_restore 71 = .ok (.iconst 1, 1) := by decide +kernel
theorem dX11_restore_72 : decode cX11_restore 72 = .ok (.ireturn, 1) := by decide +kernel
theorem dX11_count_0 : decode cX11_count 0 = .ok (.iload_n 1, 1) := by decide +kernel
theorem dX11_count_1 : decode cX11_count 1 = .ok (.tableswitch 63 0 3 #[31, 39, 47, 55], 31) := by decide +kernel
theorem dX11_count_32 : decode cX11_count 32 = .ok (.aload_n 0, 1) := by decide +kernel
theorem dX11_count_33 : decode cX11_count 33 = .ok (.getfield 29, 3) := by decide +kernel
theorem dX11_count_36 : decode cX11_count 36 = .ok (.getfield 401, 3) := by decide +kernel
theorem dX11_count_39 : decode cX11_count 39 = .ok (.ireturn, 1) := by decide +kernel
theorem dX11_count_40 : decode cX11_count 40 = .ok (.aload_n 0, 1) := by decide +kernel
theorem dX11_count_41 : decode cX11_count 41 = .ok (.getfield 29, 3) := by decide +kernel
theorem dX11_count_44 : decode cX11_count 44 = .ok (.getfield 312, 3) := by decide +kernel
theorem dX11_count_47 : decode cX11_count 47 = .ok (.ireturn, 1) := by decide +kernel
theorem dX11_count_48 : decode cX11_count 48 = .ok (.aload_n 0, 1) := by decide +kernel
theorem dX11_count_49 : decode cX11_count 49 = .ok (.getfield 29, 3) := by decide +kernel
theorem dX11_count_52 : decode cX11_count 52 = .ok (.getfield 229, 3) := by decide +kernel
theorem dX11_count_55 : decode cX11_count 55 = .ok (.ireturn, 1) := by decide +kernel
theorem dX11_count_56 : decode cX11_count 56 = .ok (.aload_n 0, 1) := by decide +kernel
theorem dX11_count_57 : decode cX11_count 57 = .ok (.getfield 14, 3) := by decide +kernel
theorem dX11_count_60 : decode cX11_count 60 = .ok (.getfield 101, 3) := by decide +kernel
theorem dX11_count_63 : decode cX11_count 63 = .ok (.ireturn, 1) := by decide +kernel
theorem dX11_count_64 : decode cX11_count 64 = .ok (.iconst (-1), 1) := by decide +kernel
theorem dX11_count_65 : decode cX11_count 65 = .ok (.ireturn, 1) := by decide +kernel
