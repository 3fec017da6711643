theorem dX7_init_0 : decode cX7_init 0 = .ok (.aload_n 0, 1) := by decide +kernel
theorem dX7_init_1 : decode cX7_init 1 = .ok (.invokespecial 5, 3) := by decide +kernel
theorem dX7_init_4 : decode cX7_init 4 = .ok (.aload_n 0, 1) := by decide +kernel
theorem dX7_init_5 : decode cX7_init 5 = .ok (.bipush 40, 2) := by decide +kernel
theorem dX7_init_7 : decode cX7_init 7 = .ok (.newarray .int, 2) := by decide +kernel
theorem dX7_init_9 : decode cX7_init 9 = .ok (.putfield 11, 3) := by decide +kernel
theorem dX7_init_12 : decode cX7_init 12 = .ok (.aload_n 0, 1) := by decide +kernel
theorem dX7_init_13 : decode cX7_init 13 = .ok (.bipush 40, 2) := by decide +kernel
theorem dX7_init_15 : decode cX7_init 15 = .ok (.newarray .int, 2) := by decide +kernel
theorem dX7_init_17 : decode cX7_init 17 = .ok (.putfield 15, 3) := by decide +kernel
theorem dX7_init_20 : decode cX7_init 20 = .ok (.aload_n 0, 1) := by decide +kernel
theorem dX7_init_21 : decode cX7_init 21 = .ok (.bipush 40, 2) := by decide +kernel
theorem dX7_init_23 : decode cX7_init 23 = .ok (.newarray .int, 2) := by decide +kernel
theorem dX7_init_25 : decode cX7_init 25 = .ok (.putfield 18, 3) := by decide +kernel
theorem dX7_init_28 : decode cX7_init 28 = .ok (.aload_n 0, 1) := by decide +kernel
theorem dX7_init_29 : decode cX7_init 29 = .ok (.bipush 20, 2) := by decide +kernel
theorem dX7_init_31 : decode cX7_init 31 = .ok (.newarray .int, 2) := by decide +kernel
theorem dX7_init_33 : decode cX7_init 33 = .ok (.putfield 21, 3) := by decide +kernel
theorem dX7_init_36 : decode cX7_init 36 = .ok (.return_, 1) := by decide +kernel
theorem dX7_clear_0 : decode cX7_clear 0 = .ok (.aload_n 0, 1) := by decide +kernel
theorem dX7_clear_1 : decode cX7_clear 1 = .ok (.iconst 0, 1) := by decide +kernel
theorem dX7_clear_2 : decode cX7_clear 2 = .ok (.putfield 24, 3) := by decide +kernel
theorem dX7_clear_5 : decode cX7_clear 5 = .ok (.aload_n 0, 1) := by decide +kernel
theorem dX7_clear_6 : decode cX7_clear 6 = .ok (.iconst 0, 1) := by decide +kernel
theorem dX7_clear_7 : decode cX7_clear 7 = .ok (.putfield 28, 3) := by decide +kernel
theorem dX7_clear_10 : decode cX7_clear 10 = .ok (.return_, 1) := by decide +kernel
theorem dX7_copyFrom_0 : decode cX7_copyFrom 0 = .ok (.aload_n 1, 1) := by decide +kernel
theorem dX7_copyFrom_1 : decode cX7_copyFrom 1 = .ok (.getfield 11, 3) := by decide +kernel
theorem dX7_copyFrom_4 : decode cX7_copyFrom 4 = .ok (.iconst 0, 1) := by decide +kernel
theorem dX7_copyFrom_5 : decode cX7_copyFrom 5 = .ok (.aload_n 0, 1) := by decide +kernel
theorem dX7_copyFrom_6 : decode cX7_copyFrom 6 = .ok (.getfield 11, 3) := by decide +kernel
theorem dX7_copyFrom_9 : decode cX7_copyFrom 9 = .ok (.iconst 0, 1) := by decide +kernel
theorem dX7_copyFrom_10 : decode cX7_copyFrom 10 = .ok (.bipush 40, 2) := by decide +kernel
theorem dX7_copyFrom_12 : decode cX7_copyFrom 12 = .ok (.invokestatic 31, 3) := by decide +kernel
theorem dX7_copyFrom_15 : decode cX7_copyFrom 15 = .ok (.aload_n 1, 1) := by decide +kernel
theorem dX7_copyFrom_16 : decode cX7_copyFrom 16 = .ok (.getfield 15, 3) := by decide +kernel
theorem dX7_copyFrom_19 : decode cX7_copyFrom 19 = .ok (.iconst 0, 1) := by decide +kernel
theorem dX7_copyFrom_20 : decode cX7_copyFrom 20 = .ok (.aload_n 0, 1) := by decide +kernel
theorem dX7_copyFrom_21 : decode cX7_copyFrom 21 = .ok (.getfield 15, 3) := by decide +kernel
theorem dX7_copyFrom_24 : decode cX7_copyFrom 24 = .ok (.iconst 0, 1) := by decide +kernel
theorem dX7_copyFrom_25 : decode cX7_copyFrom 25 = .ok (.bipush 40, 2) := by decide +kernel
theorem dX7_copyFrom_27 : decode cX7_copyFrom 27 = .ok (.invokestatic 31, 3) := by decide +kernel
theorem dX7_copyFrom_30 : decode cX7_copyFrom 30 = .ok (.aload_n 1, 1) := by decide +kernel
theorem dX7_copyFrom_31 : decode cX7_copyFrom 31 = .ok (.getfield 18, 3) := by decide +kernel
theorem dX7_copyFrom_34 : decode cX7_copyFrom 34 = .ok (.iconst 0, 1) := by decide +kernel
theorem dX7_copyFrom_35 : decode cX7_copyFrom 35 = .ok (.aload_n 0, 1) := by decide +kernel
theorem dX7_copyFrom_36 : decode cX7_copyFrom 36 = .ok (.getfield 18, 3) := by decide +kernel
theorem dX7_copyFrom_39 : decode cX7_copyFrom 39 = .ok (.iconst 0, 1) := by decide +kernel
theorem dX7_copyFrom_40 : decode cX7_copyFrom 40 = .ok (.bipush 40, 2) := by decide +kernel
theorem dX7_copyFrom_42 : decode cX7_copyFrom 42 = .ok (.invokestatic 31, 3) := by decide +kernel
theorem dX7_copyFrom_45 : decode cX7_copyFrom 45 = .ok (.aload_n 0, 1) := by decide +kernel
theorem dX7_copyFrom_46 : decode cX7_copyFrom 46 = .ok (.aload_n 1, 1) := by decide +kernel
theorem dX7_copyFrom_47 : decode cX7_copyFrom 47 = .ok (.getfield 24, 3) := by decide +kernel
theorem dX7_copyFrom_50 : decode cX7_copyFrom 50 = .ok (.putfield 24, 3) := by decide +kernel
theorem dX7_copyFrom_53 : decode cX7_copyFrom 53 = .ok (.aload_n 0, 1) := by decide +kernel
theorem dX7_copyFrom_54 : decode cX7_copyFrom 54 = .ok (.aload_n 1, 1) := by decide +kernel
theorem dX7_copyFrom_55 : decode cX7_copyFrom 55 = .ok (.getfield 28, 3) := by decide +kernel
theorem dX7_copyFrom_58 : decode cX7_copyFrom 58 = .ok (.putfield 28, 3) := by decide +kernel
theorem dX7_copyFrom_61 : decode cX7_copyFrom 61 = .ok (.return_, 1) := by decide +kernel
theorem dX7_add_0 : decode cX7_add 0 = .ok (.aload_n 0, 1) := by decide +kernel
theorem dX7_add_1 : decode cX7_add 1 = .ok (.getfield 24, 3) := by decide +kernel
theorem dX7_add_4 : decode cX7_add 4 = .ok (.bipush 40, 2) := by decide +kernel
theorem dX7_add_6 : decode cX7_add 6 = .ok (.if_icmp .lt 5, 3) := by decide +kernel
theorem dX7_add_9 : decode cX7_add 9 = .ok (.iconst 0, 1) := by decide +kernel
theorem dX7_add_10 : decode cX7_add 10 = .ok (.ireturn, 1) := by decide +kernel
theorem dX7_add_11 : decode cX7_add 11 = .ok (.aload_n 0, 1) := by decide +kernel
theorem dX7_add_12 : decode cX7_add 12 = .ok (.getfield 11, 3) := by decide +kernel
theorem dX7_add_15 : decode cX7_add 15 = .ok (.aload_n 0, 1) := by decide +kernel
theorem dX7_add_16 : decode cX7_add 16 = .ok (.getfield 24, 3) := by decide +kernel
theorem dX7_add_19 : decode cX7_add 19 = .ok (.iload_n 1, 1) := by decide +kernel
theorem dX7_add_20 : decode cX7_add 20 = .ok (.iastore, 1) := by decide +kernel
theorem dX7_add_21 : decode cX7_add 21 = .ok (.aload_n 0, 1) := by decide +kernel
theorem dX7_add_22 : decode cX7_add 22 = .ok (.getfield 15, 3) := by decide +kernel
theorem dX7_add_25 : decode cX7_add 25 = .ok (.aload_n 0, 1) := by decide +kernel
theorem dX7_add_26 : decode cX7_add 26 = .ok (.getfield 24, 3) := by decide +kernel
theorem dX7_add_29 : decode cX7_add 29 = .ok (.iload_n 2, 1) := by decide +kernel
theorem dX7_add_30 : decode cX7_add 30 = .ok (.iastore, 1) := by decide +kernel
theorem dX7_add_31 : decode cX7_add 31 = .ok (.aload_n 0, 1) := by decide +kernel
theorem dX7_add_32 : decode cX7_add 32 = .ok (.getfield 18, 3) := by decide +kernel
theorem dX7_add_35 : decode cX7_add 35 = .ok (.aload_n 0, 1) := by decide +kernel
theorem dX7_add_36 : decode cX7_add 36 = .ok (.getfield 24, 3) := by decide +kernel
theorem dX7_add_39 : decode cX7_add 39 = .ok (.iload_n 3, 1) := by decide +kernel
theorem dX7_add_40 : decode cX7_add 40 = .ok (.iastore, 1) := by decide +kernel
theorem dX7_add_41 : decode cX7_add 41 = .ok (.aload_n 0, 1) := by decide +kernel
theorem dX7_add_42 : decode cX7_add 42 = .ok (.dup, 1) := by decide +kernel
theorem dX7_add_43 : decode cX7_add 43 = .ok (.getfield 24, 3) := by decide +kernel
theorem dX7_add_46 : decode cX7_add 46 = .ok (.iconst 1, 1) := by decide +kernel
theorem dX7_add_47 : decode cX7_add 47 = .ok (.iadd, 1) := by decide +kernel
theorem dX7_add_48 : decode cX7_add 48 = .ok (.putfield 24, 3) := by decide +kernel
theorem dX7_add_51 : decode cX7_add 51 = .ok (.iconst 1, 1) := by decide +kernel
theorem dX7_add_52 : decode cX7_add 52 = .ok (.ireturn, 1) := by decide +kernel
set_option maxRecDepth 20000 in
theorem ggX7_trueOf_X7_plainOne : GoodIn wsX7_trueOf wsX7_plainOne := goodIn_r _ [10, 1, 2, 11, 12, 13, 9, 14, 15, 4, 16, 17, 18, 19, 20, 21, 22, 23, 24, 25, 26, 27, 28, 29, 30, 31, 32, 33, 34, 35, 36, 37, 38, 39, 40, 41, 42, 43, 44, 45, 46, 47, 48, 49, 50, 51, 52, 53, 54, 55, 56, 57, 58, 59, 60, 61, 62, 63, 64, 65, 66, 67, 68, 69, 70, 71] (by decide +kernel) (by decide +kernel)
set_option maxRecDepth 20000 in
theorem gX7_trueOf_X7_plainOne : GoodIn wsX7_trueOf (wsV RX7 48 RX7 yX7_plainOne wsX7_plainOne) := goodIn_app (goodIn_of _ (by decide +kernel)) ggX7_trueOf_X7_plainOne
theorem dX7_trueOf_0 : decode cX7_trueOf 0 = .ok (.iconst 1, 1) := by decide +kernel
theorem dX7_trueOf_1 : decode cX7_trueOf 1 = .ok (.aload_n 1, 1) := by decide +kernel
theorem dX7_trueOf_2 : decode cX7_trueOf 2 = .ok (.getfield 37, 3) := by decide +kernel
theorem dX7_trueOf_5 : decode cX7_trueOf 5 = .ok (.getfield 43, 3) := by decide +kernel
theorem dX7_trueOf_8 : decode cX7_trueOf 8 = .ok (.ishl, 1) := by decide +kernel
theorem dX7_trueOf_9 : decode cX7_trueOf 9 = .ok (.iconst 1, 1) := by decide +kernel
theorem dX7_trueOf_10 : decode cX7_trueOf 10 = .ok (.isub, 1) := by decide +kernel
theorem dX7_trueOf_11 : decode cX7_trueOf 11 = .ok (.istore_n 2, 1) := by decide +kernel
theorem dX7_trueOf_12 : decode cX7_trueOf 12 = .ok (.iconst 0, 1) := by decide +kernel
theorem dX7_trueOf_13 : decode cX7_trueOf 13 = .ok (.istore_n 3, 1) := by decide +kernel
theorem dX7_trueOf_14 : decode cX7_trueOf 14 = .ok (.iconst 0, 1) := by decide +kernel
theorem dX7_trueOf_15 : decode cX7_trueOf 15 = .ok (.istore 4, 2) := by decide +kernel
theorem dX7_trueOf_17 : decode cX7_trueOf 17 = .ok (.iload 4, 2) := by decide +kernel
theorem dX7_trueOf_19 : decode cX7_trueOf 19 = .ok (.aload_n 0, 1) := by decide +kernel
theorem dX7_trueOf_20 : decode cX7_trueOf 20 = .ok (.getfield 24, 3) := by decide +kernel
theorem dX7_trueOf_23 : decode cX7_trueOf 23 = .ok (.if_icmp .ge 162, 3) := by decide +kernel
theorem dX7_trueOf_26 : decode cX7_trueOf 26 = .ok (.aload_n 0, 1) := by decide +kernel
theorem dX7_trueOf_27 : decode cX7_trueOf 27 = .ok (.getfield 11, 3) := by decide +kernel
theorem dX7_trueOf_30 : decode cX7_trueOf 30 = .ok (.iload 4, 2) := by decide +kernel
theorem dX7_trueOf_32 : decode cX7_trueOf 32 = .ok (.iaload, 1) := by decide +kernel
theorem dX7_trueOf_33 : decode cX7_trueOf 33 = .ok (.bipush 12, 2) := by decide +kernel
theorem dX7_trueOf_35 : decode cX7_trueOf 35 = .ok (.if_icmp .ne 30, 3) := by decide +kernel
theorem dX7_trueOf_38 : decode cX7_trueOf 38 = .ok (.iload_n 3, 1) := by decide +kernel
theorem dX7_trueOf_39 : decode cX7_trueOf 39 = .ok (.ifCond .le 140, 3) := by decide +kernel
theorem dX7_trueOf_42 : decode cX7_trueOf 42 = .ok (.aload_n 0, 1) := by decide +kernel
theorem dX7_trueOf_43 : decode cX7_trueOf 43 = .ok (.getfield 21, 3) := by decide +kernel
theorem dX7_trueOf_46 : decode cX7_trueOf 46 = .ok (.iload_n 3, 1) := by decide +kernel
theorem dX7_trueOf_47 : decode cX7_trueOf 47 = .ok (.iconst 1, 1) := by decide +kernel
theorem dX7_trueOf_48 : decode cX7_trueOf 48 = .ok (.isub, 1) := by decide +kernel
theorem dX7_trueOf_49 : decode cX7_trueOf 49 = .ok (.iload_n 2, 1) := by decide +kernel
theorem dX7_trueOf_50 : decode cX7_trueOf 50 = .ok (.aload_n 0, 1) := by decide +kernel
theorem dX7_trueOf_51 : decode cX7_trueOf 51 = .ok (.getfield 21, 3) := by decide +kernel
theorem dX7_trueOf_54 : decode cX7_trueOf 54 = .ok (.iload_n 3, 1) := by decide +kernel
theorem dX7_trueOf_55 : decode cX7_trueOf 55 = .ok (.iconst 1, 1) := by decide +kernel
theorem dX7_trueOf_56 : decode cX7_trueOf 56 = .ok (.isub, 1) := by decide +kernel
theorem dX7_trueOf_57 : decode cX7_trueOf 57 = .ok (.iaload, 1) := by decide +kernel
theorem dX7_trueOf_58 : decode cX7_trueOf 58 = .ok (.iconst (-1), 1) := by decide +kernel
theorem dX7_trueOf_59 : decode cX7_trueOf 59 = .ok (.ixor, 1) := by decide +kernel
theorem dX7_trueOf_60 : decode cX7_trueOf 60 = .ok (.iand, 1) := by decide +kernel
theorem dX7_trueOf_61 : decode cX7_trueOf 61 = .ok (.iastore, 1) := by decide +kernel
theorem dX7_trueOf_62 : decode cX7_trueOf 62 = .ok (.goto 117, 3) := by decide +kernel
theorem dX7_trueOf_65 : decode cX7_trueOf 65 = .ok (.aload_n 0, 1) := by decide +kernel
theorem dX7_trueOf_66 : decode cX7_trueOf 66 = .ok (.getfield 11, 3) := by decide +kernel
theorem dX7_trueOf_69 : decode cX7_trueOf 69 = .ok (.iload 4, 2) := by decide +kernel
theorem dX7_trueOf_71 : decode cX7_trueOf 71 = .ok (.iaload, 1) := by decide +kernel
theorem dX7_trueOf_72 : decode cX7_trueOf 72 = .ok (.bipush 11, 2) := by decide +kernel
theorem dX7_trueOf_74 : decode cX7_trueOf 74 = .ok (.if_icmp .eq 15, 3) := by decide +kernel
theorem dX7_trueOf_77 : decode cX7_trueOf 77 = .ok (.aload_n 0, 1) := by decide +kernel
theorem dX7_trueOf_78 : decode cX7_trueOf 78 = .ok (.getfield 11, 3) := by decide +kernel
theorem dX7_trueOf_81 : decode cX7_trueOf 81 = .ok (.iload 4, 2) := by decide +kernel
theorem dX7_trueOf_83 : decode cX7_trueOf 83 = .ok (.iaload, 1) := by decide +kernel
theorem dX7_trueOf_84 : decode cX7_trueOf 84 = .ok (.bipush 10, 2) := by decide +kernel
theorem dX7_trueOf_86 : decode cX7_trueOf 86 = .ok (.if_icmp .ne 71, 3) := by decide +kernel
theorem dX7_trueOf_89 : decode cX7_trueOf 89 = .ok (.iload_n 3, 1) := by decide +kernel
theorem dX7_trueOf_90 : decode cX7_trueOf 90 = .ok (.iconst 1, 1) := by decide +kernel
theorem dX7_trueOf_91 : decode cX7_trueOf 91 = .ok (.if_icmp .le 88, 3) := by decide +kernel
theorem dX7_trueOf_94 : decode cX7_trueOf 94 = .ok (.iinc 3 (-1), 3) := by decide +kernel
theorem dX7_trueOf_97 : decode cX7_trueOf 97 = .ok (.aload_n 0, 1) := by decide +kernel
theorem dX7_trueOf_98 : decode cX7_trueOf 98 = .ok (.getfield 21, 3) := by decide +kernel
theorem dX7_trueOf_101 : decode cX7_trueOf 101 = .ok (.iload_n 3, 1) := by decide +kernel
theorem dX7_trueOf_102 : decode cX7_trueOf 102 = .ok (.iconst 1, 1) := by decide +kernel
theorem dX7_trueOf_103 : decode cX7_trueOf 103 = .ok (.isub, 1) := by decide +kernel
theorem dX7_trueOf_104 : decode cX7_trueOf 104 = .ok (.iaload, 1) := by decide +kernel
theorem dX7_trueOf_105 : decode cX7_trueOf 105 = .ok (.aload_n 0, 1) := by decide +kernel
theorem dX7_trueOf_106 : decode cX7_trueOf 106 = .ok (.getfield 21, 3) := by decide +kernel
theorem dX7_trueOf_109 : decode cX7_trueOf 109 = .ok (.iload_n 3, 1) := by decide +kernel
theorem dX7_trueOf_110 : decode cX7_trueOf 110 = .ok (.iaload, 1) := by decide +kernel
theorem dX7_trueOf_111 : decode cX7_trueOf 111 = .ok (.iand, 1) := by decide +kernel
theorem dX7_trueOf_112 : decode cX7_trueOf 112 = .ok (.istore 5, 2) := by decide +kernel
theorem dX7_trueOf_114 : decode cX7_trueOf 114 = .ok (.aload_n 0, 1) := by decide +kernel
theorem dX7_trueOf_115 : decode cX7_trueOf 115 = .ok (.getfield 21, 3) := by decide +kernel
theorem dX7_trueOf_118 : decode cX7_trueOf 118 = .ok (.iload_n 3, 1) := by decide +kernel
theorem dX7_trueOf_119 : decode cX7_trueOf 119 = .ok (.iconst 1, 1) := by decide +kernel
theorem dX7_trueOf_120 : decode cX7_trueOf 120 = .ok (.isub, 1) := by decide +kernel
theorem dX7_trueOf_121 : decode cX7_trueOf 121 = .ok (.aload_n 0, 1) := by decide +kernel
theorem dX7_trueOf_122 : decode cX7_trueOf 122 = .ok (.getfield 11, 3) := by decide +kernel
theorem dX7_trueOf_125 : decode cX7_trueOf 125 = .ok (.iload 4, 2) := by decide +kernel
theorem dX7_trueOf_127 : decode cX7_trueOf 127 = .ok (.iaload, 1) := by decide +kernel
theorem dX7_trueOf_128 : decode cX7_trueOf 128 = .ok (.bipush 11, 2) := by decide +kernel
theorem dX7_trueOf_130 : decode cX7_trueOf 130 = .ok (.if_icmp .ne 8, 3) := by decide +kernel
theorem dX7_trueOf_133 : decode cX7_trueOf 133 = .ok (.iload 5, 2) := by decide +kernel
theorem dX7_trueOf_135 : decode cX7_trueOf 135 = .ok (.goto 18, 3) := by decide +kernel
theorem dX7_trueOf_138 : decode cX7_trueOf 138 = .ok (.aload_n 0, 1) := by decide +kernel
theorem dX7_trueOf_139 : decode cX7_trueOf 139 = .ok (.getfield 21, 3) := by decide +kernel
theorem dX7_trueOf_142 : decode cX7_trueOf 142 = .ok (.iload_n 3, 1) := by decide +kernel
theorem dX7_trueOf_143 : decode cX7_trueOf 143 = .ok (.iconst 1, 1) := by decide +kernel
theorem dX7_trueOf_144 : decode cX7_trueOf 144 = .ok (.isub, 1) := by decide +kernel
theorem dX7_trueOf_145 : decode cX7_trueOf 145 = .ok (.iaload, 1) := by decide +kernel
theorem dX7_trueOf_146 : decode cX7_trueOf 146 = .ok (.aload_n 0, 1) := by decide +kernel
theorem dX7_trueOf_147 : decode cX7_trueOf 147 = .ok (.getfield 21, 3) := by decide +kernel
theorem dX7_trueOf_150 : decode cX7_trueOf 150 = .ok (.iload_n 3, 1) := by decide +kernel
theorem dX7_trueOf_151 : decode cX7_trueOf 151 = .ok (.iaload, 1) := by decide +kernel
theorem dX7_trueOf_152 : decode cX7_trueOf 152 = .ok (.ior, 1) := by decide +kernel
theorem dX7_trueOf_153 : decode cX7_trueOf 153 = .ok (.iastore, 1) := by decide +kernel
theorem dX7_trueOf_154 : decode cX7_trueOf 154 = .ok (.goto 25, 3) := by decide +kernel
theorem dX7_trueOf_157 : decode cX7_trueOf 157 = .ok (.iload_n 3, 1) := by decide +kernel
theorem dX7_trueOf_158 : decode cX7_trueOf 158 = .ok (.bipush 20, 2) := by decide +kernel
theorem dX7_trueOf_160 : decode cX7_trueOf 160 = .ok (.if_icmp .ge 19, 3) := by decide +kernel
theorem dX7_trueOf_163 : decode cX7_trueOf 163 = .ok (.aload_n 0, 1) := by decide +kernel
theorem dX7_trueOf_164 : decode cX7_trueOf 164 = .ok (.getfield 21, 3) := by decide +kernel
theorem dX7_trueOf_167 : decode cX7_trueOf 167 = .ok (.iload_n 3, 1) := by decide +kernel
theorem dX7_trueOf_168 : decode cX7_trueOf 168 = .ok (.aload_n 0, 1) := by decide +kernel
theorem dX7_trueOf_169 : decode cX7_trueOf 169 = .ok (.aload_n 1, 1) := by decide +kernel
theorem dX7_trueOf_170 : decode cX7_trueOf 170 = .ok (.iload 4, 2) := by decide +kernel
theorem dX7_trueOf_172 : decode cX7_trueOf 172 = .ok (.invokevirtual 48, 3) := by decide +kernel
theorem dX7_trueOf_175 : decode cX7_trueOf 175 = .ok (.iastore, 1) := by decide +kernel
theorem dX7_trueOf_176 : decode cX7_trueOf 176 = .ok (.iinc 3 1, 3) := by decide +kernel
theorem dX7_trueOf_179 : decode cX7_trueOf 179 = .ok (.iinc 4 1, 3) := by decide +kernel
theorem dX7_trueOf_182 : decode cX7_trueOf 182 = .ok (.goto (-165), 3) := by decide +kernel
theorem dX7_trueOf_185 : decode cX7_trueOf 185 = .ok (.iload_n 3, 1) := by decide +kernel
theorem dX7_trueOf_186 : decode cX7_trueOf 186 = .ok (.ifCond .le 12, 3) := by decide +kernel
theorem dX7_trueOf_189 : decode cX7_trueOf 189 = .ok (.aload_n 0, 1) := by decide +kernel
theorem dX7_trueOf_190 : decode cX7_trueOf 190 = .ok (.getfield 21, 3) := by decide +kernel
theorem dX7_trueOf_193 : decode cX7_trueOf 193 = .ok (.iconst 0, 1) := by decide +kernel
theorem dX7_trueOf_194 : decode cX7_trueOf 194 = .ok (.iaload, 1) := by decide +kernel
theorem dX7_trueOf_195 : decode cX7_trueOf 195 = .ok (.goto 4, 3) := by decide +kernel
theorem dX7_trueOf_198 : decode cX7_trueOf 198 = .ok (.iconst 0, 1) := by decide +kernel
theorem dX7_trueOf_199 : decode cX7_trueOf 199 = .ok (.ireturn, 1) := by decide +kernel
set_option maxRecDepth 20000 in
theorem ggX7_plainOne_X7_holds : GoodIn wsX7_plainOne wsX7_holds := goodIn_r _ [7, 8, 9, 10, 11, 1, 12, 13, 14, 15, 16, 17, 18, 19, 20, 21, 22, 23, 24, 25, 26, 27, 28, 29, 30, 31, 6, 32, 60, 61, 62, 63, 64, 65, 33, 34, 35, 36, 37, 38, 39, 40, 41, 42, 43, 44, 45, 46, 47, 48, 49, 50, 51, 52, 53, 54, 55, 56, 57, 58, 59] (by decide +kernel) (by decide +kernel)
set_option maxRecDepth 20000 in
theorem gX7_plainOne_X7_holds : GoodIn wsX7_plainOne (wsV RX7 52 RX7 yX7_holds wsX7_holds) := goodIn_app (goodIn_of _ (by decide +kernel)) ggX7_plainOne_X7_holds
theorem dX7_plainOne_0 : decode cX7_plainOne 0 = .ok (.iconst 0, 1) := by decide +kernel
theorem dX7_plainOne_1 : decode cX7_plainOne 1 = .ok (.istore_n 3, 1) := by decide +kernel
theorem dX7_plainOne_2 : decode cX7_plainOne 2 = .ok (.iconst 0, 1) := by decide +kernel
theorem dX7_plainOne_3 : decode cX7_plainOne 3 = .ok (.istore 4, 2) := by decide +kernel
theorem dX7_plainOne_5 : decode cX7_plainOne 5 = .ok (.iload 4, 2) := by decide +kernel
theorem dX7_plainOne_7 : decode cX7_plainOne 7 = .ok (.aload_n 1, 1) := by decide +kernel
theorem dX7_plainOne_8 : decode cX7_plainOne 8 = .ok (.getfield 37, 3) := by decide +kernel
theorem dX7_plainOne_11 : decode cX7_plainOne 11 = .ok (.getfield 43, 3) := by decide +kernel
theorem dX7_plainOne_14 : decode cX7_plainOne 14 = .ok (.if_icmp .ge 27, 3) := by decide +kernel
theorem dX7_plainOne_17 : decode cX7_plainOne 17 = .ok (.aload_n 0, 1) := by decide +kernel
theorem dX7_plainOne_18 : decode cX7_plainOne 18 = .ok (.aload_n 1, 1) := by decide +kernel
theorem dX7_plainOne_19 : decode cX7_plainOne 19 = .ok (.iload 4, 2) := by decide +kernel
theorem dX7_plainOne_21 : decode cX7_plainOne 21 = .ok (.iload_n 2, 1) := by decide +kernel
theorem dX7_plainOne_22 : decode cX7_plainOne 22 = .ok (.invokevirtual 52, 3) := by decide +kernel
theorem dX7_plainOne_25 : decode cX7_plainOne 25 = .ok (.ifCond .eq 10, 3) := by decide +kernel
theorem dX7_plainOne_28 : decode cX7_plainOne 28 = .ok (.iload_n 3, 1) := by decide +kernel
theorem dX7_plainOne_29 : decode cX7_plainOne 29 = .ok (.iconst 1, 1) := by decide +kernel
theorem dX7_plainOne_30 : decode cX7_plainOne 30 = .ok (.iload 4, 2) := by decide +kernel
theorem dX7_plainOne_32 : decode cX7_plainOne 32 = .ok (.ishl, 1) := by decide +kernel
theorem dX7_plainOne_33 : decode cX7_plainOne 33 = .ok (.ior, 1) := by decide +kernel
theorem dX7_plainOne_34 : decode cX7_plainOne 34 = .ok (.istore_n 3, 1) := by decide +kernel
theorem dX7_plainOne_35 : decode cX7_plainOne 35 = .ok (.iinc 4 1, 3) := by decide +kernel
theorem dX7_plainOne_38 : decode cX7_plainOne 38 = .ok (.goto (-33), 3) := by decide +kernel
theorem dX7_plainOne_41 : decode cX7_plainOne 41 = .ok (.iload_n 3, 1) := by decide +kernel
theorem dX7_plainOne_42 : decode cX7_plainOne 42 = .ok (.ireturn, 1) := by decide +kernel
set_option maxRecDepth 20000 in
theorem ggX7_holds_X1_isSeated : GoodIn wsX7_holds wsX1_isSeated := goodIn_r _ [16, 17, 34, 35, 36, 37, 38, 39, 40, 41, 42, 43, 44, 45, 46, 47, 48, 49] (by decide +kernel) (by decide +kernel)
set_option maxRecDepth 20000 in
theorem gX7_holds_X1_isSeated : GoodIn wsX7_holds (wsV RX7 56 RX1 yX1_isSeated wsX1_isSeated) := goodIn_app (goodIn_of _ (by decide +kernel)) ggX7_holds_X1_isSeated
set_option maxRecDepth 20000 in
theorem ggX7_holds_X2_hasGuest : GoodIn wsX7_holds wsX2_hasGuest := goodIn_r _ [22, 23, 50, 51, 52, 53, 54, 55, 56, 57, 58, 59, 60] (by decide +kernel) (by decide +kernel)
set_option maxRecDepth 20000 in
theorem gX7_holds_X2_hasGuest : GoodIn wsX7_holds (wsV RX7 69 RX2 yX2_hasGuest wsX2_hasGuest) := goodIn_app (goodIn_of _ (by decide +kernel)) ggX7_holds_X2_hasGuest
set_option maxRecDepth 20000 in
theorem ggX7_holds_X7_compares : GoodIn wsX7_holds wsX7_compares := goodIn_r _ [27] (by decide +kernel) (by decide +kernel)
set_option maxRecDepth 20000 in
theorem gX7_holds_X7_compares : GoodIn wsX7_holds (va_wsS RX7 81 yX7_compares wsX7_compares) := goodIn_app (goodIn_of _ (by decide +kernel)) ggX7_holds_X7_compares
theorem dX7_holds_0 : decode cX7_holds 0 = .ok (.aload_n 0, 1) := by decide +kernel
theorem dX7_holds_1 : decode cX7_holds 1 = .ok (.getfield 18, 3) := by decide +kernel
theorem dX7_holds_4 : decode cX7_holds 4 = .ok (.iload_n 3, 1) := by decide +kernel
theorem dX7_holds_5 : decode cX7_holds 5 = .ok (.iaload, 1) := by decide +kernel
theorem dX7_holds_6 : decode cX7_holds 6 = .ok (.istore 4, 2) := by decide +kernel
theorem dX7_holds_8 : decode cX7_holds 8 = .ok (.aload_n 0, 1) := by decide +kernel
theorem dX7_holds_9 : decode cX7_holds 9 = .ok (.getfield 11, 3) := by decide +kernel
theorem dX7_holds_12 : decode cX7_holds 12 = .ok (.iload_n 3, 1) := by decide +kernel
theorem dX7_holds_13 : decode cX7_holds 13 = .ok (.iaload, 1) := by decide +kernel
theorem dX7_holds_14 : decode cX7_holds 14 = .ok (.tableswitch 211 13 20 #[46, 52, 67, 91, 125, 157, 175, 193], 46) := by decide +kernel
theorem dX7_holds_60 : decode cX7_holds 60 = .ok (.aload_n 1, 1) := by decide +kernel
theorem dX7_holds_61 : decode cX7_holds 61 = .ok (.iload_n 2, 1) := by decide +kernel
theorem dX7_holds_62 : decode cX7_holds 62 = .ok (.invokevirtual 56, 3) := by decide +kernel
theorem dX7_holds_65 : decode cX7_holds 65 = .ok (.ireturn, 1) := by decide +kernel
theorem dX7_holds_66 : decode cX7_holds 66 = .ok (.aload_n 1, 1) := by decide +kernel
theorem dX7_holds_67 : decode cX7_holds 67 = .ok (.getfield 60, 3) := by decide +kernel
theorem dX7_holds_70 : decode cX7_holds 70 = .ok (.iload_n 2, 1) := by decide +kernel
theorem dX7_holds_71 : decode cX7_holds 71 = .ok (.iaload, 1) := by decide +kernel
theorem dX7_holds_72 : decode cX7_holds 72 = .ok (.ifCond .le 7, 3) := by decide +kernel
theorem dX7_holds_75 : decode cX7_holds 75 = .ok (.iconst 1, 1) := by decide +kernel
theorem dX7_holds_76 : decode cX7_holds 76 = .ok (.goto 4, 3) := by decide +kernel
theorem dX7_holds_79 : decode cX7_holds 79 = .ok (.iconst 0, 1) := by decide +kernel
theorem dX7_holds_80 : decode cX7_holds 80 = .ok (.ireturn, 1) := by decide +kernel
theorem dX7_holds_81 : decode cX7_holds 81 = .ok (.aload_n 1, 1) := by decide +kernel
theorem dX7_holds_82 : decode cX7_holds 82 = .ok (.getfield 63, 3) := by decide +kernel
theorem dX7_holds_85 : decode cX7_holds 85 = .ok (.iload_n 2, 1) := by decide +kernel
theorem dX7_holds_86 : decode cX7_holds 86 = .ok (.iaload, 1) := by decide +kernel
theorem dX7_holds_87 : decode cX7_holds 87 = .ok (.aload_n 1, 1) := by decide +kernel
theorem dX7_holds_88 : decode cX7_holds 88 = .ok (.getfield 37, 3) := by decide +kernel
theorem dX7_holds_91 : decode cX7_holds 91 = .ok (.getfield 66, 3) := by decide +kernel
theorem dX7_holds_94 : decode cX7_holds 94 = .ok (.iload_n 2, 1) := by decide +kernel
theorem dX7_holds_95 : decode cX7_holds 95 = .ok (.iaload, 1) := by decide +kernel
theorem dX7_holds_96 : decode cX7_holds 96 = .ok (.if_icmp .lt 7, 3) := by decide +kernel
theorem dX7_holds_99 : decode cX7_holds 99 = .ok (.iconst 1, 1) := by decide +kernel
theorem dX7_holds_100 : decode cX7_holds 100 = .ok (.goto 4, 3) := by decide +kernel
theorem dX7_holds_103 : decode cX7_holds 103 = .ok (.iconst 0, 1) := by decide +kernel
theorem dX7_holds_104 : decode cX7_holds 104 = .ok (.ireturn, 1) := by decide +kernel
theorem dX7_holds_105 : decode cX7_holds 105 = .ok (.aload_n 1, 1) := by decide +kernel
theorem dX7_holds_106 : decode cX7_holds 106 = .ok (.getfield 37, 3) := by decide +kernel
theorem dX7_holds_109 : decode cX7_holds 109 = .ok (.iload 4, 2) := by decide +kernel
theorem dX7_holds_111 : decode cX7_holds 111 = .ok (.invokevirtual 69, 3) := by decide +kernel
theorem dX7_holds_114 : decode cX7_holds 114 = .ok (.ifCond .eq 23, 3) := by decide +kernel
theorem dX7_holds_117 : decode cX7_holds 117 = .ok (.aload_n 1, 1) := by decide +kernel
theorem dX7_holds_118 : decode cX7_holds 118 = .ok (.getfield 72, 3) := by decide +kernel
theorem dX7_holds_121 : decode cX7_holds 121 = .ok (.iload_n 2, 1) := by decide +kernel
theorem dX7_holds_122 : decode cX7_holds 122 = .ok (.iaload, 1) := by decide +kernel
theorem dX7_holds_123 : decode cX7_holds 123 = .ok (.aload_n 1, 1) := by decide +kernel
theorem dX7_holds_124 : decode cX7_holds 124 = .ok (.getfield 72, 3) := by decide +kernel
theorem dX7_holds_127 : decode cX7_holds 127 = .ok (.iload 4, 2) := by decide +kernel
theorem dX7_holds_129 : decode cX7_holds 129 = .ok (.iaload, 1) := by decide +kernel
theorem dX7_holds_130 : decode cX7_holds 130 = .ok (.if_icmp .ne 7, 3) := by decide +kernel
theorem dX7_holds_133 : decode cX7_holds 133 = .ok (.iconst 1, 1) := by decide +kernel
theorem dX7_holds_134 : decode cX7_holds 134 = .ok (.goto 4, 3) := by decide +kernel
theorem dX7_holds_137 : decode cX7_holds 137 = .ok (.iconst 0, 1) := by decide +kernel
theorem dX7_holds_138 : decode cX7_holds 138 = .ok (.ireturn, 1) := by decide +kernel
theorem dX7_holds_139 : decode cX7_holds 139 = .ok (.aload_n 1, 1) := by decide +kernel
theorem dX7_holds_140 : decode cX7_holds 140 = .ok (.getfield 37, 3) := by decide +kernel
theorem dX7_holds_143 : decode cX7_holds 143 = .ok (.iload 4, 2) := by decide +kernel
theorem dX7_holds_145 : decode cX7_holds 145 = .ok (.invokevirtual 69, 3) := by decide +kernel
theorem dX7_holds_148 : decode cX7_holds 148 = .ok (.ifCond .eq 21, 3) := by decide +kernel
theorem dX7_holds_151 : decode cX7_holds 151 = .ok (.aload_n 1, 1) := by decide +kernel
theorem dX7_holds_152 : decode cX7_holds 152 = .ok (.getfield 37, 3) := by decide +kernel
theorem dX7_holds_155 : decode cX7_holds 155 = .ok (.getfield 75, 3) := by decide +kernel
theorem dX7_holds_158 : decode cX7_holds 158 = .ok (.iload 4, 2) := by decide +kernel
theorem dX7_holds_160 : decode cX7_holds 160 = .ok (.iaload, 1) := by decide +kernel
theorem dX7_holds_161 : decode cX7_holds 161 = .ok (.iload_n 2, 1) := by decide +kernel
theorem dX7_holds_162 : decode cX7_holds 162 = .ok (.if_icmp .ne 7, 3) := by decide +kernel
theorem dX7_holds_165 : decode cX7_holds 165 = .ok (.iconst 1, 1) := by decide +kernel
theorem dX7_holds_166 : decode cX7_holds 166 = .ok (.goto 4, 3) := by decide +kernel
theorem dX7_holds_169 : decode cX7_holds 169 = .ok (.iconst 0, 1) := by decide +kernel
theorem dX7_holds_170 : decode cX7_holds 170 = .ok (.ireturn, 1) := by decide +kernel
theorem dX7_holds_171 : decode cX7_holds 171 = .ok (.aload_n 1, 1) := by decide +kernel
theorem dX7_holds_172 : decode cX7_holds 172 = .ok (.getfield 78, 3) := by decide +kernel
theorem dX7_holds_175 : decode cX7_holds 175 = .ok (.iload_n 2, 1) := by decide +kernel
theorem dX7_holds_176 : decode cX7_holds 176 = .ok (.iaload, 1) := by decide +kernel
theorem dX7_holds_177 : decode cX7_holds 177 = .ok (.aload_n 0, 1) := by decide +kernel
theorem dX7_holds_178 : decode cX7_holds 178 = .ok (.getfield 15, 3) := by decide +kernel
theorem dX7_holds_181 : decode cX7_holds 181 = .ok (.iload_n 3, 1) := by decide +kernel
theorem dX7_holds_182 : decode cX7_holds 182 = .ok (.iaload, 1) := by decide +kernel
theorem dX7_holds_183 : decode cX7_holds 183 = .ok (.iload 4, 2) := by decide +kernel
theorem dX7_holds_185 : decode cX7_holds 185 = .ok (.invokestatic 81, 3) := by decide +kernel
theorem dX7_holds_188 : decode cX7_holds 188 = .ok (.ireturn, 1) := by decide +kernel
theorem dX7_holds_189 : decode cX7_holds 189 = .ok (.aload_n 1, 1) := by decide +kernel
theorem dX7_holds_190 : decode cX7_holds 190 = .ok (.getfield 63, 3) := by decide +kernel
theorem dX7_holds_193 : decode cX7_holds 193 = .ok (.iload_n 2, 1) := by decide +kernel
theorem dX7_holds_194 : decode cX7_holds 194 = .ok (.iaload, 1) := by decide +kernel
theorem dX7_holds_195 : decode cX7_holds 195 = .ok (.aload_n 0, 1) := by decide +kernel
theorem dX7_holds_196 : decode cX7_holds 196 = .ok (.getfield 15, 3) := by decide +kernel
theorem dX7_holds_199 : decode cX7_holds 199 = .ok (.iload_n 3, 1) := by decide +kernel
theorem dX7_holds_200 : decode cX7_holds 200 = .ok (.iaload, 1) := by decide +kernel
theorem dX7_holds_201 : decode cX7_holds 201 = .ok (.iload 4, 2) := by decide +kernel
theorem dX7_holds_203 : decode cX7_holds 203 = .ok (.invokestatic 81, 3) := by decide +kernel
theorem dX7_holds_206 : decode cX7_holds 206 = .ok (.ireturn, 1) := by decide +kernel
theorem dX7_holds_207 : decode cX7_holds 207 = .ok (.aload_n 1, 1) := by decide +kernel
theorem dX7_holds_208 : decode cX7_holds 208 = .ok (.getfield 85, 3) := by decide +kernel
theorem dX7_holds_211 : decode cX7_holds 211 = .ok (.iload_n 2, 1) := by decide +kernel
theorem dX7_holds_212 : decode cX7_holds 212 = .ok (.iaload, 1) := by decide +kernel
theorem dX7_holds_213 : decode cX7_holds 213 = .ok (.aload_n 0, 1) := by decide +kernel
theorem dX7_holds_214 : decode cX7_holds 214 = .ok (.getfield 15, 3) := by decide +kernel
theorem dX7_holds_217 : decode cX7_holds 217 = .ok (.iload_n 3, 1) := by decide +kernel
theorem dX7_holds_218 : decode cX7_holds 218 = .ok (.iaload, 1) := by decide +kernel
theorem dX7_holds_219 : decode cX7_holds 219 = .ok (.iload 4, 2) := by decide +kernel
theorem dX7_holds_221 : decode cX7_holds 221 = .ok (.invokestatic 81, 3) := by decide +kernel
theorem dX7_holds_224 : decode cX7_holds 224 = .ok (.ireturn, 1) := by decide +kernel
theorem dX7_holds_225 : decode cX7_holds 225 = .ok (.iload_n 2, 1) := by decide +kernel
theorem dX7_holds_226 : decode cX7_holds 226 = .ok (.aload_n 0, 1) := by decide +kernel
theorem dX7_holds_227 : decode cX7_holds 227 = .ok (.getfield 15, 3) := by decide +kernel
theorem dX7_holds_230 : decode cX7_holds 230 = .ok (.iload_n 3, 1) := by decide +kernel
theorem dX7_holds_231 : decode cX7_holds 231 = .ok (.iaload, 1) := by decide +kernel
theorem dX7_holds_232 : decode cX7_holds 232 = .ok (.iload 4, 2) := by decide +kernel
theorem dX7_holds_234 : decode cX7_holds 234 = .ok (.invokestatic 81, 3) := by decide +kernel
theorem dX7_holds_237 : decode cX7_holds 237 = .ok (.ireturn, 1) := by decide +kernel
theorem dX7_compares_0 : decode cX7_compares 0 = .ok (.iload_n 1, 1) := by decide +kernel
theorem dX7_compares_1 : decode cX7_compares 1 = .ok (.bipush 60, 2) := by decide +kernel
theorem dX7_compares_3 : decode cX7_compares 3 = .ok (.if_icmp .ne 16, 3) := by decide +kernel
theorem dX7_compares_6 : decode cX7_compares 6 = .ok (.iload_n 0, 1) := by decide +kernel
theorem dX7_compares_7 : decode cX7_compares 7 = .ok (.iload_n 2, 1) := by decide +kernel
theorem dX7_compares_8 : decode cX7_compares 8 = .ok (.if_icmp .ge 7, 3) := by decide +kernel
theorem dX7_compares_11 : decode cX7_compares 11 = .ok (.iconst 1, 1) := by decide +kernel
theorem dX7_compares_12 : decode cX7_compares 12 = .ok (.goto 36, 3) := by decide +kernel
theorem dX7_compares_15 : decode cX7_compares 15 = .ok (.iconst 0, 1) := by decide +kernel
theorem dX7_compares_16 : decode cX7_compares 16 = .ok (.goto 32, 3) := by decide +kernel
theorem dX7_compares_19 : decode cX7_compares 19 = .ok (.iload_n 1, 1) := by decide +kernel
theorem dX7_compares_20 : decode cX7_compares 20 = .ok (.bipush 62, 2) := by decide +kernel
theorem dX7_compares_22 : decode cX7_compares 22 = .ok (.if_icmp .ne 16, 3) := by decide +kernel
theorem dX7_compares_25 : decode cX7_compares 25 = .ok (.iload_n 0, 1) := by decide +kernel
theorem dX7_compares_26 : decode cX7_compares 26 = .ok (.iload_n 2, 1) := by decide +kernel
theorem dX7_compares_27 : decode cX7_compares 27 = .ok (.if_icmp .le 7, 3) := by decide +kernel
theorem dX7_compares_30 : decode cX7_compares 30 = .ok (.iconst 1, 1) := by decide +kernel
theorem dX7_compares_31 : decode cX7_compares 31 = .ok (.goto 17, 3) := by decide +kernel
theorem dX7_compares_34 : decode cX7_compares 34 = .ok (.iconst 0, 1) := by decide +kernel
theorem dX7_compares_35 : decode cX7_compares 35 = .ok (.goto 13, 3) := by decide +kernel
theorem dX7_compares_38 : decode cX7_compares 38 = .ok (.iload_n 0, 1) := by decide +kernel
theorem dX7_compares_39 : decode cX7_compares 39 = .ok (.iload_n 2, 1) := by decide +kernel
theorem dX7_compares_40 : decode cX7_compares 40 = .ok (.if_icmp .ne 7, 3) := by decide +kernel
theorem dX7_compares_43 : decode cX7_compares 43 = .ok (.iconst 1, 1) := by decide +kernel
theorem dX7_compares_44 : decode cX7_compares 44 = .ok (.goto 4, 3) := by decide +kernel
theorem dX7_compares_47 : decode cX7_compares 47 = .ok (.iconst 0, 1) := by decide +kernel
theorem dX7_compares_48 : decode cX7_compares 48 = .ok (.ireturn, 1) := by decide +kernel
set_option maxRecDepth 20000 in
theorem ggX8_init_X7_init : GoodIn wsX8_init wsX7_init := goodIn_r _ [12, 13, 2, 3, 14, 15, 16, 17, 18, 22, 23, 24, 25, 26, 27] (by decide +kernel) (by decide +kernel)
set_option maxRecDepth 20000 in
theorem gX8_init_X7_init : GoodIn wsX8_init (wsX7_init) := ggX8_init_X7_init
theorem dX8_init_0 : decode cX8_init 0 = .ok (.aload_n 0, 1) := by decide +kernel
theorem dX8_init_1 : decode cX8_init 1 = .ok (.invokespecial 3, 3) := by decide +kernel
theorem dX8_init_4 : decode cX8_init 4 = .ok (.aload_n 0, 1) := by decide +kernel
theorem dX8_init_5 : decode cX8_init 5 = .ok (.aload_n 1, 1) := by decide +kernel
theorem dX8_init_6 : decode cX8_init 6 = .ok (.putfield 9, 3) := by decide +kernel
theorem dX8_init_9 : decode cX8_init 9 = .ok (.aload_n 0, 1) := by decide +kernel
theorem dX8_init_10 : decode cX8_init 10 = .ok (.aload_n 2, 1) := by decide +kernel
theorem dX8_init_11 : decode cX8_init 11 = .ok (.putfield 15, 3) := by decide +kernel
theorem dX8_init_14 : decode cX8_init 14 = .ok (.aload_n 0, 1) := by decide +kernel
theorem dX8_init_15 : decode cX8_init 15 = .ok (.new 19, 3) := by decide +kernel
theorem dX8_init_18 : decode cX8_init 18 = .ok (.dup, 1) := by decide +kernel
theorem dX8_init_19 : decode cX8_init 19 = .ok (.invokespecial 21, 3) := by decide +kernel
theorem dX8_init_22 : decode cX8_init 22 = .ok (.putfield 22, 3) := by decide +kernel
theorem dX8_init_25 : decode cX8_init 25 = .ok (.return_, 1) := by decide +kernel
set_option maxRecDepth 20000 in
theorem ggX8_read_X6_open : GoodIn wsX8_read wsX6_open := goodIn_r _ [8, 9, 10, 11, 12, 13, 14, 15, 7, 16, 17, 18, 19, 20, 21, 22, 23, 24, 25, 26, 27, 28, 29, 30, 31, 32, 33, 34, 35, 36, 37, 38, 39, 40, 41, 42, 43, 44, 45, 115, 116, 117, 118, 119, 120, 121, 122, 123, 124, 125, 126, 127, 128] (by decide +kernel) (by decide +kernel)
set_option maxRecDepth 20000 in
theorem gX8_read_X6_open : GoodIn wsX8_read (wsV RX8 26 RX6 yX6_open wsX6_open) := goodIn_app (goodIn_of _ (by decide +kernel)) ggX8_read_X6_open
set_option maxRecDepth 20000 in
theorem ggX8_read_X7_clear : GoodIn wsX8_read wsX7_clear := goodIn_r _ [50, 51, 52, 129, 130, 131, 132, 133, 134] (by decide +kernel) (by decide +kernel)
set_option maxRecDepth 20000 in
theorem gX8_read_X7_clear : GoodIn wsX8_read (wsV RX8 32 RX7 yX7_clear wsX7_clear) := goodIn_app (goodIn_of _ (by decide +kernel)) ggX8_read_X7_clear
set_option maxRecDepth 20000 in
theorem ggX8_read_X8_readCond : GoodIn wsX8_read wsX8_readCond := goodIn_r _ [57, 1, 2, 58, 59, 60, 56, 61, 62, 63, 7, 64, 25, 24, 65, 14, 15, 16, 17, 10, 18, 9, 19, 20, 21, 22, 23, 26, 27, 28, 29, 30, 31, 32, 33, 34, 35, 36, 37, 38, 39, 40, 41, 42, 43, 44, 45, 66, 67, 68, 49, 69, 51, 70, 71, 72, 73, 74, 75, 76, 77, 3, 78, 79, 80, 81, 82, 83, 84, 85, 86, 11, 12, 53, 54, 55, 87, 88, 89, 90, 91, 13, 92, 93, 94, 95, 96, 97, 98, 99, 100, 101, 102, 103, 104, 105, 106, 107, 108, 109, 110, 111, 112, 113, 114, 115, 116, 117, 118, 119, 120, 121, 122, 123, 124, 125, 126, 127, 128, 129, 130, 131, 132, 133, 134, 135, 136, 137, 138, 139, 140, 141, 142, 143, 144, 145] (by decide +kernel) (by decide +kernel)
set_option maxRecDepth 20000 in
theorem gX8_read_X8_readCond : GoodIn wsX8_read (wsV RX8 35 RX8 yX8_readCond wsX8_readCond) := goodIn_app (goodIn_of _ (by decide +kernel)) ggX8_read_X8_readCond
set_option maxRecDepth 20000 in
theorem ggX8_read_X6_refuse : GoodIn wsX8_read wsX6_refuse := goodIn_r _ [86, 11, 23, 12, 115, 116, 117, 118, 119, 120, 121, 122, 123, 124, 125, 126] (by decide +kernel) (by decide +kernel)
set_option maxRecDepth 20000 in
theorem gX8_read_X6_refuse : GoodIn wsX8_read (wsV RX8 43 RX6 yX6_refuse wsX6_refuse) := goodIn_app (goodIn_of _ (by decide +kernel)) ggX8_read_X6_refuse
theorem dX8_read_0 : decode cX8_read 0 = .ok (.aload_n 0, 1) := by decide +kernel
theorem dX8_read_1 : decode cX8_read 1 = .ok (.getfield 9, 3) := by decide +kernel
theorem dX8_read_4 : decode cX8_read 4 = .ok (.sipush 200, 3) := by decide +kernel
theorem dX8_read_7 : decode cX8_read 7 = .ok (.invokevirtual 26, 3) := by decide +kernel
theorem dX8_read_10 : decode cX8_read 10 = .ok (.aload_n 0, 1) := by decide +kernel
theorem dX8_read_11 : decode cX8_read 11 = .ok (.getfield 22, 3) := by decide +kernel
theorem dX8_read_14 : decode cX8_read 14 = .ok (.invokevirtual 32, 3) := by decide +kernel
theorem dX8_read_17 : decode cX8_read 17 = .ok (.aload_n 0, 1) := by decide +kernel
theorem dX8_read_18 : decode cX8_read 18 = .ok (.iconst 1, 1) := by decide +kernel
theorem dX8_read_19 : decode cX8_read 19 = .ok (.invokevirtual 35, 3) := by decide +kernel
theorem dX8_read_22 : decode cX8_read 22 = .ok (.ifCond .ne 5, 3) := by decide +kernel
theorem dX8_read_25 : decode cX8_read 25 = .ok (.iconst 0, 1) := by decide +kernel
theorem dX8_read_26 : decode cX8_read 26 = .ok (.ireturn, 1) := by decide +kernel
theorem dX8_read_27 : decode cX8_read 27 = .ok (.aload_n 0, 1) := by decide +kernel
theorem dX8_read_28 : decode cX8_read 28 = .ok (.getfield 9, 3) := by decide +kernel
theorem dX8_read_31 : decode cX8_read 31 = .ok (.getfield 39, 3) := by decide +kernel
theorem dX8_read_34 : decode cX8_read 34 = .ok (.ifCond .eq 14, 3) := by decide +kernel
theorem dX8_read_37 : decode cX8_read 37 = .ok (.aload_n 0, 1) := by decide +kernel
theorem dX8_read_38 : decode cX8_read 38 = .ok (.getfield 9, 3) := by decide +kernel
theorem dX8_read_41 : decode cX8_read 41 = .ok (.iconst 1, 1) := by decide +kernel
theorem dX8_read_42 : decode cX8_read 42 = .ok (.invokevirtual 43, 3) := by decide +kernel
theorem dX8_read_45 : decode cX8_read 45 = .ok (.ifCond .eq 7, 3) := by decide +kernel
theorem dX8_read_48 : decode cX8_read 48 = .ok (.iconst 1, 1) := by decide +kernel
theorem dX8_read_49 : decode cX8_read 49 = .ok (.goto 4, 3) := by decide +kernel
theorem dX8_read_52 : decode cX8_read 52 = .ok (.iconst 0, 1) := by decide +kernel
theorem dX8_read_53 : decode cX8_read 53 = .ok (.ireturn, 1) := by decide +kernel
set_option maxRecDepth 20000 in
theorem ggX8_readCond_X8_readAll : GoodIn wsX8_readCond wsX8_readAll := goodIn_r _ [56, 1, 2, 57, 58, 59, 6, 7, 8, 9, 10, 11, 12, 13, 14, 15, 16, 17, 18, 19, 20, 21, 22, 23, 24, 25, 26, 27, 28, 29, 30, 31, 32, 33, 34, 35, 36, 37, 38, 39, 40, 41, 42, 43, 44, 45, 46, 47, 48, 49, 50, 51, 52, 53, 54, 55, 0, 3, 4, 5, 60, 61, 62, 63, 64, 65, 66, 67, 68, 69, 70, 71, 72, 73, 74, 75, 76, 77, 78, 79, 80, 81, 82, 83, 84, 85, 86, 87, 88, 89, 90, 91, 92, 93, 94, 95, 96, 97, 98, 99, 100, 101, 102, 103, 104, 105, 106, 107, 108, 109, 110, 111, 112, 113, 114, 115, 116, 117, 118, 119, 120, 121, 122, 123, 124, 125, 126, 127, 128, 129, 130, 131, 132, 133, 134, 135] (by decide +kernel) (by decide +kernel)
set_option maxRecDepth 20000 in
theorem gX8_readCond_X8_readAll : GoodIn wsX8_readCond (wsV RX8 46 RX8 yX8_readAll wsX8_readAll) := goodIn_app (goodIn_of _ (by decide +kernel)) ggX8_readCond_X8_readAll
set_option maxRecDepth 20000 in
theorem ggX8_readCond_X6_isKey : GoodIn wsX8_readCond wsX6_isKey := goodIn_r _ [11, 12, 13, 105, 106, 107, 108, 109, 110, 111, 112, 113, 114, 115, 116] (by decide +kernel) (by decide +kernel)
set_option maxRecDepth 20000 in
theorem gX8_readCond_X6_isKey : GoodIn wsX8_readCond (wsV RX8 49 RX6 yX6_isKey wsX6_isKey) := goodIn_app (goodIn_of _ (by decide +kernel)) ggX8_readCond_X6_isKey
set_option maxRecDepth 20000 in
theorem ggX8_readCond_X6_step : GoodIn wsX8_readCond wsX6_step := goodIn_r _ [17, 18, 19, 20, 21, 22, 23, 24, 25, 26, 13, 12, 27, 28, 29, 30, 31, 32, 33, 34, 35, 36, 37, 10, 38, 39, 40, 41, 42, 43, 44, 45, 46, 105, 106, 107, 108, 109, 110, 111, 112, 113, 114, 115, 116, 117, 118] (by decide +kernel) (by decide +kernel)
set_option maxRecDepth 20000 in
theorem gX8_readCond_X6_step : GoodIn wsX8_readCond (wsV RX8 52 RX6 yX6_step wsX6_step) := goodIn_app (goodIn_of _ (by decide +kernel)) ggX8_readCond_X6_step
set_option maxRecDepth 20000 in
theorem ggX8_readCond_X7_add : GoodIn wsX8_readCond wsX7_add := goodIn_r _ [51, 52, 53, 54, 55, 119, 120, 121, 122, 123, 124] (by decide +kernel) (by decide +kernel)
set_option maxRecDepth 20000 in
theorem gX8_readCond_X7_add : GoodIn wsX8_readCond (wsV RX8 55 RX7 yX7_add wsX7_add) := goodIn_app (goodIn_of _ (by decide +kernel)) ggX8_readCond_X7_add
theorem dX8_readCond_0 : decode cX8_readCond 0 = .ok (.aload_n 0, 1) := by decide +kernel
theorem dX8_readCond_1 : decode cX8_readCond 1 = .ok (.iload_n 1, 1) := by decide +kernel
theorem dX8_readCond_2 : decode cX8_readCond 2 = .ok (.invokevirtual 46, 3) := by decide +kernel
theorem dX8_readCond_5 : decode cX8_readCond 5 = .ok (.ifCond .ne 5, 3) := by decide +kernel
theorem dX8_readCond_8 : decode cX8_readCond 8 = .ok (.iconst 0, 1) := by decide +kernel
theorem dX8_readCond_9 : decode cX8_readCond 9 = .ok (.ireturn, 1) := by decide +kernel
theorem dX8_readCond_10 : decode cX8_readCond 10 = .ok (.iconst 0, 1) := by decide +kernel
theorem dX8_readCond_11 : decode cX8_readCond 11 = .ok (.istore_n 2, 1) := by decide +kernel
theorem dX8_readCond_12 : decode cX8_readCond 12 = .ok (.iload_n 2, 1) := by decide +kernel
theorem dX8_readCond_13 : decode cX8_readCond 13 = .ok (.bipush 20, 2) := by decide +kernel
theorem dX8_readCond_15 : decode cX8_readCond 15 = .ok (.if_icmp .ge 52, 3) := by decide +kernel
theorem dX8_readCond_18 : decode cX8_readCond 18 = .ok (.aload_n 0, 1) := by decide +kernel
theorem dX8_readCond_19 : decode cX8_readCond 19 = .ok (.getfield 9, 3) := by decide +kernel
theorem dX8_readCond_22 : decode cX8_readCond 22 = .ok (.bipush 10, 2) := by decide +kernel
theorem dX8_readCond_24 : decode cX8_readCond 24 = .ok (.invokevirtual 49, 3) := by decide +kernel
theorem dX8_readCond_27 : decode cX8_readCond 27 = .ok (.ifCond .eq 40, 3) := by decide +kernel
theorem dX8_readCond_30 : decode cX8_readCond 30 = .ok (.aload_n 0, 1) := by decide +kernel
theorem dX8_readCond_31 : decode cX8_readCond 31 = .ok (.getfield 9, 3) := by decide +kernel
theorem dX8_readCond_34 : decode cX8_readCond 34 = .ok (.invokevirtual 52, 3) := by decide +kernel
theorem dX8_readCond_37 : decode cX8_readCond 37 = .ok (.aload_n 0, 1) := by decide +kernel
theorem dX8_readCond_38 : decode cX8_readCond 38 = .ok (.iload_n 1, 1) := by decide +kernel
theorem dX8_readCond_39 : decode cX8_readCond 39 = .ok (.invokevirtual 46, 3) := by decide +kernel
theorem dX8_readCond_42 : decode cX8_readCond 42 = .ok (.ifCond .eq 17, 3) := by decide +kernel
theorem dX8_readCond_45 : decode cX8_readCond 45 = .ok (.aload_n 0, 1) := by decide +kernel
theorem dX8_readCond_46 : decode cX8_readCond 46 = .ok (.getfield 22, 3) := by decide +kernel
theorem dX8_readCond_49 : decode cX8_readCond 49 = .ok (.bipush 10, 2) := by decide +kernel
theorem dX8_readCond_51 : decode cX8_readCond 51 = .ok (.iconst 0, 1) := by decide +kernel
theorem dX8_readCond_52 : decode cX8_readCond 52 = .ok (.iconst 0, 1) := by decide +kernel
theorem dX8_readCond_53 : decode cX8_readCond 53 = .ok (.invokevirtual 55, 3) := by decide +kernel
theorem dX8_readCond_56 : decode cX8_readCond 56 = .ok (.ifCond .ne 5, 3) := by decide +kernel
theorem dX8_readCond_59 : decode cX8_readCond 59 = .ok (.iconst 0, 1) := by decide +kernel
theorem dX8_readCond_60 : decode cX8_readCond 60 = .ok (.ireturn, 1) := by decide +kernel
theorem dX8_readCond_61 : decode cX8_readCond 61 = .ok (.iinc 2 1, 3) := by decide +kernel
theorem dX8_readCond_64 : decode cX8_readCond 64 = .ok (.goto (-52), 3) := by decide +kernel
theorem dX8_readCond_67 : decode cX8_readCond 67 = .ok (.iconst 1, 1) := by decide +kernel
theorem dX8_readCond_68 : decode cX8_readCond 68 = .ok (.ireturn, 1) := by decide +kernel
set_option maxRecDepth 20000 in
theorem ggX8_readAll_X8_readOne : GoodIn wsX8_readAll wsX8_readOne := goodIn_r _ [60, 1, 61, 62, 2, 63, 64, 65, 66, 67, 68, 69, 10, 70, 71, 26, 72, 14, 15, 16, 17, 18, 19, 20, 21, 22, 23, 24, 25, 13, 12, 27, 28, 29, 30, 31, 32, 33, 34, 35, 36, 37, 38, 39, 40, 41, 42, 43, 44, 45, 46, 73, 74, 75, 6, 76, 77, 78, 79, 80, 81, 3, 4, 5, 47, 48, 49, 50, 51, 52, 53, 54, 55, 82, 83, 84, 85, 86, 87, 88, 89, 90, 91, 92, 93, 94, 95, 96, 97, 98, 99, 100, 101, 0, 7, 8, 9, 11, 56, 57, 58, 59, 102, 103, 104, 105, 106, 107, 108, 109, 110, 111, 112, 113, 114, 115, 116, 117, 118, 119, 120, 121, 122, 123, 124, 125, 126, 127, 128, 129, 130, 131, 132, 133, 134, 135] (by decide +kernel) (by decide +kernel)
set_option maxRecDepth 20000 in
theorem gX8_readAll_X8_readOne : GoodIn wsX8_readAll (wsV RX8 59 RX8 yX8_readOne wsX8_readOne) := goodIn_app (goodIn_of _ (by decide +kernel)) ggX8_readAll_X8_readOne
set_option maxRecDepth 20000 in
theorem ggX8_readAll_X6_isKey : GoodIn wsX8_readAll wsX6_isKey := goodIn_r _ [11, 12, 13, 105, 106, 107, 108, 109, 110, 111, 112, 113, 114, 115, 116] (by decide +kernel) (by decide +kernel)
set_option maxRecDepth 20000 in
theorem gX8_readAll_X6_isKey : GoodIn wsX8_readAll (wsV RX8 49 RX6 yX6_isKey wsX6_isKey) := goodIn_app (goodIn_of _ (by decide +kernel)) ggX8_readAll_X6_isKey
set_option maxRecDepth 20000 in
theorem ggX8_readAll_X6_step : GoodIn wsX8_readAll wsX6_step := goodIn_r _ [17, 18, 19, 20, 21, 22, 23, 24, 25, 26, 13, 12, 27, 28, 29, 30, 31, 32, 33, 34, 35, 36, 37, 10, 38, 39, 40, 41, 42, 43, 44, 45, 46, 105, 106, 107, 108, 109, 110, 111, 112, 113, 114, 115, 116, 117, 118] (by decide +kernel) (by decide +kernel)
set_option maxRecDepth 20000 in
theorem gX8_readAll_X6_step : GoodIn wsX8_readAll (wsV RX8 52 RX6 yX6_step wsX6_step) := goodIn_app (goodIn_of _ (by decide +kernel)) ggX8_readAll_X6_step
set_option maxRecDepth 20000 in
theorem ggX8_readAll_X7_add : GoodIn wsX8_readAll wsX7_add := goodIn_r _ [51, 52, 53, 54, 55, 119, 120, 121, 122, 123, 124] (by decide +kernel) (by decide +kernel)
set_option maxRecDepth 20000 in
theorem gX8_readAll_X7_add : GoodIn wsX8_readAll (wsV RX8 55 RX7 yX7_add wsX7_add) := goodIn_app (goodIn_of _ (by decide +kernel)) ggX8_readAll_X7_add
theorem dX8_readAll_0 : decode cX8_readAll 0 = .ok (.aload_n 0, 1) := by decide +kernel
theorem dX8_readAll_1 : decode cX8_readAll 1 = .ok (.iload_n 1, 1) := by decide +kernel
theorem dX8_readAll_2 : decode cX8_readAll 2 = .ok (.invokevirtual 59, 3) := by decide +kernel
theorem dX8_readAll_5 : decode cX8_readAll 5 = .ok (.ifCond .ne 5, 3) := by decide +kernel
theorem dX8_readAll_8 : decode cX8_readAll 8 = .ok (.iconst 0, 1) := by decide +kernel
theorem dX8_readAll_9 : decode cX8_readAll 9 = .ok (.ireturn, 1) := by decide +kernel
theorem dX8_readAll_10 : decode cX8_readAll 10 = .ok (.iconst 0, 1) := by decide +kernel
theorem dX8_readAll_11 : decode cX8_readAll 11 = .ok (.istore_n 2, 1) := by decide +kernel
theorem dX8_readAll_12 : decode cX8_readAll 12 = .ok (.iload_n 2, 1) := by decide +kernel
theorem dX8_readAll_13 : decode cX8_readAll 13 = .ok (.bipush 20, 2) := by decide +kernel
theorem dX8_readAll_15 : decode cX8_readAll 15 = .ok (.if_icmp .ge 52, 3) := by decide +kernel
theorem dX8_readAll_18 : decode cX8_readAll 18 = .ok (.aload_n 0, 1) := by decide +kernel
theorem dX8_readAll_19 : decode cX8_readAll 19 = .ok (.getfield 9, 3) := by decide +kernel
theorem dX8_readAll_22 : decode cX8_readAll 22 = .ok (.bipush 11, 2) := by decide +kernel
theorem dX8_readAll_24 : decode cX8_readAll 24 = .ok (.invokevirtual 49, 3) := by decide +kernel
theorem dX8_readAll_27 : decode cX8_readAll 27 = .ok (.ifCond .eq 40, 3) := by decide +kernel
theorem dX8_readAll_30 : decode cX8_readAll 30 = .ok (.aload_n 0, 1) := by decide +kernel
theorem dX8_readAll_31 : decode cX8_readAll 31 = .ok (.getfield 9, 3) := by decide +kernel
theorem dX8_readAll_34 : decode cX8_readAll 34 = .ok (.invokevirtual 52, 3) := by decide +kernel
theorem dX8_readAll_37 : decode cX8_readAll 37 = .ok (.aload_n 0, 1) := by decide +kernel
theorem dX8_readAll_38 : decode cX8_readAll 38 = .ok (.iload_n 1, 1) := by decide +kernel
theorem dX8_readAll_39 : decode cX8_readAll 39 = .ok (.invokevirtual 59, 3) := by decide +kernel
theorem dX8_readAll_42 : decode cX8_readAll 42 = .ok (.ifCond .eq 17, 3) := by decide +kernel
theorem dX8_readAll_45 : decode cX8_readAll 45 = .ok (.aload_n 0, 1) := by decide +kernel
theorem dX8_readAll_46 : decode cX8_readAll 46 = .ok (.getfield 22, 3) := by decide +kernel
theorem dX8_readAll_49 : decode cX8_readAll 49 = .ok (.bipush 11, 2) := by decide +kernel
theorem dX8_readAll_51 : decode cX8_readAll 51 = .ok (.iconst 0, 1) := by decide +kernel
theorem dX8_readAll_52 : decode cX8_readAll 52 = .ok (.iconst 0, 1) := by decide +kernel
theorem dX8_readAll_53 : decode cX8_readAll 53 = .ok (.invokevirtual 55, 3) := by decide +kernel
theorem dX8_readAll_56 : decode cX8_readAll 56 = .ok (.ifCond .ne 5, 3) := by decide +kernel
theorem dX8_readAll_59 : decode cX8_readAll 59 = .ok (.iconst 0, 1) := by decide +kernel
theorem dX8_readAll_60 : decode cX8_readAll 60 = .ok (.ireturn, 1) := by decide +kernel
theorem dX8_readAll_61 : decode cX8_readAll 61 = .ok (.iinc 2 1, 3) := by decide +kernel
theorem dX8_readAll_64 : decode cX8_readAll 64 = .ok (.goto (-52), 3) := by decide +kernel
theorem dX8_readAll_67 : decode cX8_readAll 67 = .ok (.iconst 1, 1) := by decide +kernel
theorem dX8_readAll_68 : decode cX8_readAll 68 = .ok (.ireturn, 1) := by decide +kernel
set_option maxRecDepth 20000 in
theorem ggX8_readOne_X6_refuse : GoodIn wsX8_readOne wsX6_refuse := goodIn_r _ [13, 14, 15, 16, 105, 106, 107, 108, 109, 110, 111, 112, 113, 114, 115, 116] (by decide +kernel) (by decide +kernel)
set_option maxRecDepth 20000 in
theorem gX8_readOne_X6_refuse : GoodIn wsX8_readOne (wsV RX8 43 RX6 yX6_refuse wsX6_refuse) := goodIn_app (goodIn_of _ (by decide +kernel)) ggX8_readOne_X6_refuse
set_option maxRecDepth 20000 in
theorem ggX8_readOne_X6_step : GoodIn wsX8_readOne wsX6_step := goodIn_r _ [20, 21, 22, 23, 24, 25, 26, 27, 28, 15, 29, 30, 31, 32, 33, 34, 35, 36, 37, 38, 39, 40, 41, 12, 42, 43, 44, 45, 46, 47, 48, 49, 50, 105, 106, 107, 108, 109, 110, 111, 112, 113, 114, 115, 116, 117, 118] (by decide +kernel) (by decide +kernel)
set_option maxRecDepth 20000 in
theorem gX8_readOne_X6_step : GoodIn wsX8_readOne (wsV RX8 52 RX6 yX6_step wsX6_step) := goodIn_app (goodIn_of _ (by decide +kernel)) ggX8_readOne_X6_step
set_option maxRecDepth 20000 in
theorem ggX8_readOne_X8_readCond : GoodIn wsX8_readOne wsX8_readCond := goodIn_r _ [98, 1, 4, 99, 100, 101, 54, 94, 95, 96, 12, 97, 30, 29, 17, 18, 19, 20, 21, 22, 23, 24, 25, 26, 27, 28, 15, 31, 32, 33, 34, 35, 36, 37, 38, 39, 40, 41, 42, 43, 44, 45, 46, 47, 48, 49, 50, 64, 65, 66, 67, 68, 69, 70, 71, 72, 93, 61, 62, 63, 0, 2, 3, 5, 6, 7, 8, 9, 10, 11, 13, 14, 16, 51, 52, 53, 55, 56, 57, 58, 59, 60, 73, 74, 75, 76, 77, 78, 79, 80, 81, 82, 83, 84, 85, 86, 87, 88, 89, 90, 91, 92, 102, 103, 104, 105, 106, 107, 108, 109, 110, 111, 112, 113, 114, 115, 116, 117, 118, 119, 120, 121, 122, 123, 124, 125, 126, 127, 128, 129, 130, 131, 132, 133, 134, 135] (by decide +kernel) (by decide +kernel)
set_option maxRecDepth 20000 in
theorem gX8_readOne_X8_readCond : GoodIn wsX8_readOne (wsV RX8 35 RX8 yX8_readCond wsX8_readCond) := goodIn_app (goodIn_of _ (by decide +kernel)) ggX8_readOne_X8_readCond
set_option maxRecDepth 20000 in
theorem ggX8_readOne_X6_takeSign : GoodIn wsX8_readOne wsX6_takeSign := goodIn_r _ [58, 30, 59, 10, 11, 12, 13, 14, 15, 16, 60, 18, 19, 20, 21, 22, 23, 24, 25, 26, 27, 28, 29, 31, 32, 33, 34, 35, 36, 37, 38, 39, 40, 41, 42, 43, 44, 45, 46, 47, 48, 49, 50, 105, 106, 107, 108, 109, 110, 111, 112, 113, 114, 115, 116, 117, 118] (by decide +kernel) (by decide +kernel)
set_option maxRecDepth 20000 in
theorem gX8_readOne_X6_takeSign : GoodIn wsX8_readOne (wsV RX8 68 RX6 yX6_takeSign wsX6_takeSign) := goodIn_app (goodIn_of _ (by decide +kernel)) ggX8_readOne_X6_takeSign
set_option maxRecDepth 20000 in
theorem ggX8_readOne_X8_readOne : GoodIn wsX8_readOne wsX8_readOne := goodIn_r _ [0, 1, 2, 3, 4, 5, 6, 7, 8, 9, 10, 11, 12, 13, 14, 15, 16, 17, 18, 19, 20, 21, 22, 23, 24, 25, 26, 27, 28, 29, 30, 31, 32, 33, 34, 35, 36, 37, 38, 39, 40, 41, 42, 43, 44, 45, 46, 47, 48, 49, 50, 51, 52, 53, 54, 55, 56, 57, 58, 59, 60, 61, 62, 63, 64, 65, 66, 67, 68, 69, 70, 71, 72, 73, 74, 75, 76, 77, 78, 79, 80, 81, 82, 83, 84, 85, 86, 87, 88, 89, 90, 91, 92, 93, 94, 95, 96, 97, 98, 99, 100, 101, 102, 103, 104, 105, 106, 107, 108, 109, 110, 111, 112, 113, 114, 115, 116, 117, 118, 119, 120, 121, 122, 123, 124, 125, 126, 127, 128, 129, 130, 131, 132, 133, 134, 135] (by decide +kernel) (by decide +kernel)
set_option maxRecDepth 20000 in
theorem gX8_readOne_X8_readOne : GoodIn wsX8_readOne (wsV RX8 59 RX8 yX8_readOne wsX8_readOne) := goodIn_app (goodIn_of _ (by decide +kernel)) ggX8_readOne_X8_readOne
set_option maxRecDepth 20000 in
theorem ggX8_readOne_X7_add : GoodIn wsX8_readOne wsX7_add := goodIn_r _ [68, 69, 70, 71, 72, 119, 120, 121, 122, 123, 124] (by decide +kernel) (by decide +kernel)
set_option maxRecDepth 20000 in
theorem gX8_readOne_X7_add : GoodIn wsX8_readOne (wsV RX8 55 RX7 yX7_add wsX7_add) := goodIn_app (goodIn_of _ (by decide +kernel)) ggX8_readOne_X7_add
set_option maxRecDepth 20000 in
theorem ggX8_readOne_X2_guestNamed : GoodIn wsX8_readOne wsX2_guestNamed := goodIn_r _ [77, 78, 79, 125, 126, 127, 128, 129, 130, 131, 132, 133, 134, 135] (by decide +kernel) (by decide +kernel)
set_option maxRecDepth 20000 in
theorem gX8_readOne_X2_guestNamed : GoodIn wsX8_readOne (wsV RX8 75 RX2 yX2_guestNamed wsX2_guestNamed) := goodIn_app (goodIn_of _ (by decide +kernel)) ggX8_readOne_X2_guestNamed
set_option maxRecDepth 20000 in
theorem ggX8_readOne_X6_takeNamed : GoodIn wsX8_readOne wsX6_takeNamed := goodIn_r _ [83, 84, 85, 86, 87, 12, 88, 30, 29, 59, 10, 11, 13, 14, 15, 16, 60, 18, 19, 20, 21, 22, 23, 24, 25, 26, 27, 28, 31, 32, 33, 34, 35, 36, 37, 38, 39, 40, 41, 42, 43, 44, 45, 46, 47, 48, 49, 50, 105, 106, 107, 108, 109, 110, 111, 112, 113, 114, 115, 116, 117, 118] (by decide +kernel) (by decide +kernel)
set_option maxRecDepth 20000 in
theorem gX8_readOne_X6_takeNamed : GoodIn wsX8_readOne (wsV RX8 81 RX6 yX6_takeNamed wsX6_takeNamed) := goodIn_app (goodIn_of _ (by decide +kernel)) ggX8_readOne_X6_takeNamed
set_option maxRecDepth 20000 in
theorem ggX8_readOne_X6_takeNumber : GoodIn wsX8_readOne wsX6_takeNumber := goodIn_r _ [92, 30, 43, 84, 59, 10, 11, 12, 13, 14, 15, 16, 60, 18, 19, 20, 21, 22, 23, 24, 25, 26, 27, 28, 29, 31, 32, 33, 34, 35, 36, 37, 38, 39, 40, 41, 42, 44, 45, 46, 47, 48, 49, 50, 105, 106, 107, 108, 109, 110, 111, 112, 113, 114, 115, 116, 117, 118] (by decide +kernel) (by decide +kernel)
set_option maxRecDepth 20000 in
theorem gX8_readOne_X6_takeNumber : GoodIn wsX8_readOne (wsV RX8 87 RX6 yX6_takeNumber wsX6_takeNumber) := goodIn_app (goodIn_of _ (by decide +kernel)) ggX8_readOne_X6_takeNumber
theorem dX8_readOne_0 : decode cX8_readOne 0 = .ok (.aload_n 0, 1) := by decide +kernel
theorem dX8_readOne_1 : decode cX8_readOne 1 = .ok (.getfield 9, 3) := by decide +kernel
theorem dX8_readOne_4 : decode cX8_readOne 4 = .ok (.getfield 39, 3) := by decide +kernel
theorem dX8_readOne_7 : decode cX8_readOne 7 = .ok (.bipush 40, 2) := by decide +kernel
theorem dX8_readOne_9 : decode cX8_readOne 9 = .ok (.if_icmp .ne 7, 3) := by decide +kernel
theorem dX8_readOne_12 : decode cX8_readOne 12 = .ok (.iconst 1, 1) := by decide +kernel
theorem dX8_readOne_13 : decode cX8_readOne 13 = .ok (.goto 4, 3) := by decide +kernel
theorem dX8_readOne_16 : decode cX8_readOne 16 = .ok (.iconst 0, 1) := by decide +kernel
theorem dX8_readOne_17 : decode cX8_readOne 17 = .ok (.istore_n 2, 1) := by decide +kernel
theorem dX8_readOne_18 : decode cX8_readOne 18 = .ok (.aload_n 0, 1) := by decide +kernel
theorem dX8_readOne_19 : decode cX8_readOne 19 = .ok (.getfield 9, 3) := by decide +kernel
theorem dX8_readOne_22 : decode cX8_readOne 22 = .ok (.getfield 62, 3) := by decide +kernel
theorem dX8_readOne_25 : decode cX8_readOne 25 = .ok (.istore_n 3, 1) := by decide +kernel
theorem dX8_readOne_26 : decode cX8_readOne 26 = .ok (.iload_n 2, 1) := by decide +kernel
theorem dX8_readOne_27 : decode cX8_readOne 27 = .ok (.ifCond .ne 24, 3) := by decide +kernel
theorem dX8_readOne_30 : decode cX8_readOne 30 = .ok (.iload_n 3, 1) := by decide +kernel
theorem dX8_readOne_31 : decode cX8_readOne 31 = .ok (.bipush 12, 2) := by decide +kernel
theorem dX8_readOne_33 : decode cX8_readOne 33 = .ok (.if_icmp .lt 9, 3) := by decide +kernel
theorem dX8_readOne_36 : decode cX8_readOne 36 = .ok (.iload_n 3, 1) := by decide +kernel
theorem dX8_readOne_37 : decode cX8_readOne 37 = .ok (.bipush 21, 2) := by decide +kernel
theorem dX8_readOne_39 : decode cX8_readOne 39 = .ok (.if_icmp .le 12, 3) := by decide +kernel
theorem dX8_readOne_42 : decode cX8_readOne 42 = .ok (.aload_n 0, 1) := by decide +kernel
theorem dX8_readOne_43 : decode cX8_readOne 43 = .ok (.getfield 9, 3) := by decide +kernel
theorem dX8_readOne_46 : decode cX8_readOne 46 = .ok (.iconst 1, 1) := by decide +kernel
theorem dX8_readOne_47 : decode cX8_readOne 47 = .ok (.invokevirtual 43, 3) := by decide +kernel
theorem dX8_readOne_50 : decode cX8_readOne 50 = .ok (.ireturn, 1) := by decide +kernel
theorem dX8_readOne_51 : decode cX8_readOne 51 = .ok (.aload_n 0, 1) := by decide +kernel
theorem dX8_readOne_52 : decode cX8_readOne 52 = .ok (.getfield 22, 3) := by decide +kernel
theorem dX8_readOne_55 : decode cX8_readOne 55 = .ok (.getfield 65, 3) := by decide +kernel
theorem dX8_readOne_58 : decode cX8_readOne 58 = .ok (.bipush 20, 2) := by decide +kernel
theorem dX8_readOne_60 : decode cX8_readOne 60 = .ok (.if_icmp .ge 9, 3) := by decide +kernel
theorem dX8_readOne_63 : decode cX8_readOne 63 = .ok (.iload_n 1, 1) := by decide +kernel
theorem dX8_readOne_64 : decode cX8_readOne 64 = .ok (.bipush 8, 2) := by decide +kernel
theorem dX8_readOne_66 : decode cX8_readOne 66 = .ok (.if_icmp .le 12, 3) := by decide +kernel
theorem dX8_readOne_69 : decode cX8_readOne 69 = .ok (.aload_n 0, 1) := by decide +kernel
theorem dX8_readOne_70 : decode cX8_readOne 70 = .ok (.getfield 9, 3) := by decide +kernel
theorem dX8_readOne_73 : decode cX8_readOne 73 = .ok (.iconst 4, 1) := by decide +kernel
theorem dX8_readOne_74 : decode cX8_readOne 74 = .ok (.invokevirtual 43, 3) := by decide +kernel
theorem dX8_readOne_77 : decode cX8_readOne 77 = .ok (.ireturn, 1) := by decide +kernel
theorem dX8_readOne_78 : decode cX8_readOne 78 = .ok (.aload_n 0, 1) := by decide +kernel
theorem dX8_readOne_79 : decode cX8_readOne 79 = .ok (.getfield 22, 3) := by decide +kernel
theorem dX8_readOne_82 : decode cX8_readOne 82 = .ok (.dup, 1) := by decide +kernel
theorem dX8_readOne_83 : decode cX8_readOne 83 = .ok (.getfield 65, 3) := by decide +kernel
theorem dX8_readOne_86 : decode cX8_readOne 86 = .ok (.iconst 1, 1) := by decide +kernel
theorem dX8_readOne_87 : decode cX8_readOne 87 = .ok (.iadd, 1) := by decide +kernel
theorem dX8_readOne_88 : decode cX8_readOne 88 = .ok (.putfield 65, 3) := by decide +kernel
theorem dX8_readOne_91 : decode cX8_readOne 91 = .ok (.aload_n 0, 1) := by decide +kernel
theorem dX8_readOne_92 : decode cX8_readOne 92 = .ok (.getfield 9, 3) := by decide +kernel
theorem dX8_readOne_95 : decode cX8_readOne 95 = .ok (.invokevirtual 52, 3) := by decide +kernel
theorem dX8_readOne_98 : decode cX8_readOne 98 = .ok (.iload_n 2, 1) := by decide +kernel
theorem dX8_readOne_99 : decode cX8_readOne 99 = .ok (.ifCond .eq 31, 3) := by decide +kernel
theorem dX8_readOne_102 : decode cX8_readOne 102 = .ok (.aload_n 0, 1) := by decide +kernel
theorem dX8_readOne_103 : decode cX8_readOne 103 = .ok (.iload_n 1, 1) := by decide +kernel
theorem dX8_readOne_104 : decode cX8_readOne 104 = .ok (.iconst 1, 1) := by decide +kernel
theorem dX8_readOne_105 : decode cX8_readOne 105 = .ok (.iadd, 1) := by decide +kernel
theorem dX8_readOne_106 : decode cX8_readOne 106 = .ok (.invokevirtual 35, 3) := by decide +kernel
theorem dX8_readOne_109 : decode cX8_readOne 109 = .ok (.ifCond .eq 19, 3) := by decide +kernel
theorem dX8_readOne_112 : decode cX8_readOne 112 = .ok (.aload_n 0, 1) := by decide +kernel
theorem dX8_readOne_113 : decode cX8_readOne 113 = .ok (.getfield 9, 3) := by decide +kernel
theorem dX8_readOne_116 : decode cX8_readOne 116 = .ok (.bipush 41, 2) := by decide +kernel
theorem dX8_readOne_118 : decode cX8_readOne 118 = .ok (.invokevirtual 68, 3) := by decide +kernel
theorem dX8_readOne_121 : decode cX8_readOne 121 = .ok (.ifCond .eq 7, 3) := by decide +kernel
theorem dX8_readOne_124 : decode cX8_readOne 124 = .ok (.iconst 1, 1) := by decide +kernel
theorem dX8_readOne_125 : decode cX8_readOne 125 = .ok (.goto 4, 3) := by decide +kernel
theorem dX8_readOne_128 : decode cX8_readOne 128 = .ok (.iconst 0, 1) := by decide +kernel
theorem dX8_readOne_129 : decode cX8_readOne 129 = .ok (.ireturn, 1) := by decide +kernel
theorem dX8_readOne_130 : decode cX8_readOne 130 = .ok (.aload_n 0, 1) := by decide +kernel
theorem dX8_readOne_131 : decode cX8_readOne 131 = .ok (.getfield 9, 3) := by decide +kernel
theorem dX8_readOne_134 : decode cX8_readOne 134 = .ok (.getfield 39, 3) := by decide +kernel
theorem dX8_readOne_137 : decode cX8_readOne 137 = .ok (.bipush 60, 2) := by decide +kernel
theorem dX8_readOne_139 : decode cX8_readOne 139 = .ok (.if_icmp .eq 15, 3) := by decide +kernel
theorem dX8_readOne_142 : decode cX8_readOne 142 = .ok (.aload_n 0, 1) := by decide +kernel
theorem dX8_readOne_143 : decode cX8_readOne 143 = .ok (.getfield 9, 3) := by decide +kernel
theorem dX8_readOne_146 : decode cX8_readOne 146 = .ok (.getfield 39, 3) := by decide +kernel
theorem dX8_readOne_149 : decode cX8_readOne 149 = .ok (.bipush 62, 2) := by decide +kernel
theorem dX8_readOne_151 : decode cX8_readOne 151 = .ok (.if_icmp .ne 13, 3) := by decide +kernel
theorem dX8_readOne_154 : decode cX8_readOne 154 = .ok (.aload_n 0, 1) := by decide +kernel
theorem dX8_readOne_155 : decode cX8_readOne 155 = .ok (.getfield 9, 3) := by decide +kernel
theorem dX8_readOne_158 : decode cX8_readOne 158 = .ok (.getfield 39, 3) := by decide +kernel
theorem dX8_readOne_161 : decode cX8_readOne 161 = .ok (.goto 5, 3) := by decide +kernel
theorem dX8_readOne_164 : decode cX8_readOne 164 = .ok (.bipush 61, 2) := by decide +kernel
theorem dX8_readOne_166 : decode cX8_readOne 166 = .ok (.istore 4, 2) := by decide +kernel
theorem dX8_readOne_168 : decode cX8_readOne 168 = .ok (.iload_n 3, 1) := by decide +kernel
theorem dX8_readOne_169 : decode cX8_readOne 169 = .ok (.tableswitch 186 12 21 #[55, 186, 186, 186, 85, 85, 134, 134, 134, 134], 55) := by decide +kernel
theorem dX8_readOne_224 : decode cX8_readOne 224 = .ok (.aload_n 0, 1) := by decide +kernel
theorem dX8_readOne_225 : decode cX8_readOne 225 = .ok (.iload_n 1, 1) := by decide +kernel
theorem dX8_readOne_226 : decode cX8_readOne 226 = .ok (.iconst 1, 1) := by decide +kernel
theorem dX8_readOne_227 : decode cX8_readOne 227 = .ok (.iadd, 1) := by decide +kernel
theorem dX8_readOne_228 : decode cX8_readOne 228 = .ok (.invokevirtual 59, 3) := by decide +kernel
theorem dX8_readOne_231 : decode cX8_readOne 231 = .ok (.ifCond .eq 21, 3) := by decide +kernel
theorem dX8_readOne_234 : decode cX8_readOne 234 = .ok (.aload_n 0, 1) := by decide +kernel
theorem dX8_readOne_235 : decode cX8_readOne 235 = .ok (.getfield 22, 3) := by decide +kernel
theorem dX8_readOne_238 : decode cX8_readOne 238 = .ok (.bipush 12, 2) := by decide +kernel
theorem dX8_readOne_240 : decode cX8_readOne 240 = .ok (.iconst 0, 1) := by decide +kernel
theorem dX8_readOne_241 : decode cX8_readOne 241 = .ok (.iconst 0, 1) := by decide +kernel
theorem dX8_readOne_242 : decode cX8_readOne 242 = .ok (.invokevirtual 55, 3) := by decide +kernel
theorem dX8_readOne_245 : decode cX8_readOne 245 = .ok (.ifCond .eq 7, 3) := by decide +kernel
theorem dX8_readOne_248 : decode cX8_readOne 248 = .ok (.iconst 1, 1) := by decide +kernel
theorem dX8_readOne_249 : decode cX8_readOne 249 = .ok (.goto 4, 3) := by decide +kernel
theorem dX8_readOne_252 : decode cX8_readOne 252 = .ok (.iconst 0, 1) := by decide +kernel
theorem dX8_readOne_253 : decode cX8_readOne 253 = .ok (.ireturn, 1) := by decide +kernel
theorem dX8_readOne_254 : decode cX8_readOne 254 = .ok (.aload_n 0, 1) := by decide +kernel
theorem dX8_readOne_255 : decode cX8_readOne 255 = .ok (.getfield 9, 3) := by decide +kernel
theorem dX8_readOne_258 : decode cX8_readOne 258 = .ok (.aload_n 0, 1) := by decide +kernel
theorem dX8_readOne_259 : decode cX8_readOne 259 = .ok (.getfield 15, 3) := by decide +kernel
theorem dX8_readOne_262 : decode cX8_readOne 262 = .ok (.aload_n 0, 1) := by decide +kernel
theorem dX8_readOne_263 : decode cX8_readOne 263 = .ok (.getfield 9, 3) := by decide +kernel
theorem dX8_readOne_266 : decode cX8_readOne 266 = .ok (.getfield 71, 3) := by decide +kernel
theorem dX8_readOne_269 : decode cX8_readOne 269 = .ok (.invokevirtual 75, 3) := by decide +kernel
theorem dX8_readOne_272 : decode cX8_readOne 272 = .ok (.invokevirtual 81, 3) := by decide +kernel
theorem dX8_readOne_275 : decode cX8_readOne 275 = .ok (.ifCond .eq 26, 3) := by decide +kernel
theorem dX8_readOne_278 : decode cX8_readOne 278 = .ok (.aload_n 0, 1) := by decide +kernel
theorem dX8_readOne_279 : decode cX8_readOne 279 = .ok (.getfield 22, 3) := by decide +kernel
theorem dX8_readOne_282 : decode cX8_readOne 282 = .ok (.iload_n 3, 1) := by decide +kernel
theorem dX8_readOne_283 : decode cX8_readOne 283 = .ok (.iconst 0, 1) := by decide +kernel
theorem dX8_readOne_284 : decode cX8_readOne 284 = .ok (.aload_n 0, 1) := by decide +kernel
theorem dX8_readOne_285 : decode cX8_readOne 285 = .ok (.getfield 9, 3) := by decide +kernel
theorem dX8_readOne_288 : decode cX8_readOne 288 = .ok (.getfield 84, 3) := by decide +kernel
theorem dX8_readOne_291 : decode cX8_readOne 291 = .ok (.invokevirtual 55, 3) := by decide +kernel
theorem dX8_readOne_294 : decode cX8_readOne 294 = .ok (.ifCond .eq 7, 3) := by decide +kernel
theorem dX8_readOne_297 : decode cX8_readOne 297 = .ok (.iconst 1, 1) := by decide +kernel
theorem dX8_readOne_298 : decode cX8_readOne 298 = .ok (.goto 4, 3) := by decide +kernel
theorem dX8_readOne_301 : decode cX8_readOne 301 = .ok (.iconst 0, 1) := by decide +kernel
theorem dX8_readOne_302 : decode cX8_readOne 302 = .ok (.ireturn, 1) := by decide +kernel
theorem dX8_readOne_303 : decode cX8_readOne 303 = .ok (.aload_n 0, 1) := by decide +kernel
theorem dX8_readOne_304 : decode cX8_readOne 304 = .ok (.getfield 9, 3) := by decide +kernel
theorem dX8_readOne_307 : decode cX8_readOne 307 = .ok (.iload 4, 2) := by decide +kernel
theorem dX8_readOne_309 : decode cX8_readOne 309 = .ok (.invokevirtual 68, 3) := by decide +kernel
theorem dX8_readOne_312 : decode cX8_readOne 312 = .ok (.ifCond .eq 41, 3) := by decide +kernel
theorem dX8_readOne_315 : decode cX8_readOne 315 = .ok (.aload_n 0, 1) := by decide +kernel
theorem dX8_readOne_316 : decode cX8_readOne 316 = .ok (.getfield 9, 3) := by decide +kernel
theorem dX8_readOne_319 : decode cX8_readOne 319 = .ok (.iconst 0, 1) := by decide +kernel
theorem dX8_readOne_320 : decode cX8_readOne 320 = .ok (.sipush 999, 3) := by decide +kernel
theorem dX8_readOne_323 : decode cX8_readOne 323 = .ok (.invokevirtual 87, 3) := by decide +kernel
theorem dX8_readOne_326 : decode cX8_readOne 326 = .ok (.ifCond .eq 27, 3) := by decide +kernel
theorem dX8_readOne_329 : decode cX8_readOne 329 = .ok (.aload_n 0, 1) := by decide +kernel
theorem dX8_readOne_330 : decode cX8_readOne 330 = .ok (.getfield 22, 3) := by decide +kernel
theorem dX8_readOne_333 : decode cX8_readOne 333 = .ok (.iload_n 3, 1) := by decide +kernel
theorem dX8_readOne_334 : decode cX8_readOne 334 = .ok (.iload 4, 2) := by decide +kernel
theorem dX8_readOne_336 : decode cX8_readOne 336 = .ok (.aload_n 0, 1) := by decide +kernel
theorem dX8_readOne_337 : decode cX8_readOne 337 = .ok (.getfield 9, 3) := by decide +kernel
theorem dX8_readOne_340 : decode cX8_readOne 340 = .ok (.getfield 84, 3) := by decide +kernel
theorem dX8_readOne_343 : decode cX8_readOne 343 = .ok (.invokevirtual 55, 3) := by decide +kernel
theorem dX8_readOne_346 : decode cX8_readOne 346 = .ok (.ifCond .eq 7, 3) := by decide +kernel
theorem dX8_readOne_349 : decode cX8_readOne 349 = .ok (.iconst 1, 1) := by decide +kernel
theorem dX8_readOne_350 : decode cX8_readOne 350 = .ok (.goto 4, 3) := by decide +kernel
theorem dX8_readOne_353 : decode cX8_readOne 353 = .ok (.iconst 0, 1) := by decide +kernel
theorem dX8_readOne_354 : decode cX8_readOne 354 = .ok (.ireturn, 1) := by decide +kernel
theorem dX8_readOne_355 : decode cX8_readOne 355 = .ok (.aload_n 0, 1) := by decide +kernel
theorem dX8_readOne_356 : decode cX8_readOne 356 = .ok (.getfield 22, 3) := by decide +kernel
theorem dX8_readOne_359 : decode cX8_readOne 359 = .ok (.iload_n 3, 1) := by decide +kernel
theorem dX8_readOne_360 : decode cX8_readOne 360 = .ok (.iconst 0, 1) := by decide +kernel
theorem dX8_readOne_361 : decode cX8_readOne 361 = .ok (.iconst 0, 1) := by decide +kernel
theorem dX8_readOne_362 : decode cX8_readOne 362 = .ok (.invokevirtual 55, 3) := by decide +kernel
theorem dX8_readOne_365 : decode cX8_readOne 365 = .ok (.ireturn, 1) := by decide +kernel
set_option maxRecDepth 20000 in
theorem ggX9_init_X1_init : GoodIn wsX9_init wsX1_init := goodIn_r _ [20, 21, 2, 3, 22, 11, 23, 24, 25, 26, 27, 28, 29, 40, 41, 42, 43, 44, 45, 46, 47, 48, 49, 50, 51, 52, 53, 54, 55] (by decide +kernel) (by decide +kernel)
set_option maxRecDepth 20000 in
theorem gX9_init_X1_init : GoodIn wsX9_init (wsX1_init) := ggX9_init_X1_init
theorem dX9_init_0 : decode cX9_init 0 = .ok (.aload_n 0, 1) := by decide +kernel
theorem dX9_init_1 : decode cX9_init 1 = .ok (.invokespecial 3, 3) := by decide +kernel
theorem dX9_init_4 : decode cX9_init 4 = .ok (.aload_n 0, 1) := by decide +kernel
theorem dX9_init_5 : decode cX9_init 5 = .ok (.aload_n 1, 1) := by decide +kernel
theorem dX9_init_6 : decode cX9_init 6 = .ok (.putfield 9, 3) := by decide +kernel
theorem dX9_init_9 : decode cX9_init 9 = .ok (.aload_n 0, 1) := by decide +kernel
theorem dX9_init_10 : decode cX9_init 10 = .ok (.aload_n 1, 1) := by decide +kernel
theorem dX9_init_11 : decode cX9_init 11 = .ok (.getfield 15, 3) := by decide +kernel
theorem dX9_init_14 : decode cX9_init 14 = .ok (.putfield 21, 3) := by decide +kernel
theorem dX9_init_17 : decode cX9_init 17 = .ok (.aload_n 0, 1) := by decide +kernel
theorem dX9_init_18 : decode cX9_init 18 = .ok (.new 16, 3) := by decide +kernel
theorem dX9_init_21 : decode cX9_init 21 = .ok (.dup, 1) := by decide +kernel
theorem dX9_init_22 : decode cX9_init 22 = .ok (.aload_n 1, 1) := by decide +kernel
theorem dX9_init_23 : decode cX9_init 23 = .ok (.getfield 15, 3) := by decide +kernel
theorem dX9_init_26 : decode cX9_init 26 = .ok (.invokespecial 22, 3) := by decide +kernel
theorem dX9_init_29 : decode cX9_init 29 = .ok (.putfield 25, 3) := by decide +kernel
theorem dX9_init_32 : decode cX9_init 32 = .ok (.aload_n 0, 1) := by decide +kernel
theorem dX9_init_33 : decode cX9_init 33 = .ok (.bipush 99, 2) := by decide +kernel
theorem dX9_init_35 : decode cX9_init 35 = .ok (.newarray .int, 2) := by decide +kernel
theorem dX9_init_37 : decode cX9_init 37 = .ok (.putfield 28, 3) := by decide +kernel
theorem dX9_init_40 : decode cX9_init 40 = .ok (.aload_n 0, 1) := by decide +kernel
theorem dX9_init_41 : decode cX9_init 41 = .ok (.iconst (-1), 1) := by decide +kernel
theorem dX9_init_42 : decode cX9_init 42 = .ok (.putfield 32, 3) := by decide +kernel
theorem dX9_init_45 : decode cX9_init 45 = .ok (.aload_n 0, 1) := by decide +kernel
theorem dX9_init_46 : decode cX9_init 46 = .ok (.iconst (-1), 1) := by decide +kernel
theorem dX9_init_47 : decode cX9_init 47 = .ok (.putfield 36, 3) := by decide +kernel
theorem dX9_init_50 : decode cX9_init 50 = .ok (.aload_n 0, 1) := by decide +kernel
theorem dX9_init_51 : decode cX9_init 51 = .ok (.iconst (-1), 1) := by decide +kernel
theorem dX9_init_52 : decode cX9_init 52 = .ok (.putfield 39, 3) := by decide +kernel
theorem dX9_init_55 : decode cX9_init 55 = .ok (.aload_n 0, 1) := by decide +kernel
theorem dX9_init_56 : decode cX9_init 56 = .ok (.iconst (-1), 1) := by decide +kernel
theorem dX9_init_57 : decode cX9_init 57 = .ok (.putfield 42, 3) := by decide +kernel
theorem dX9_init_60 : decode cX9_init 60 = .ok (.aload_n 0, 1) := by decide +kernel
theorem dX9_init_61 : decode cX9_init 61 = .ok (.iconst (-1), 1) := by decide +kernel
theorem dX9_init_62 : decode cX9_init 62 = .ok (.putfield 45, 3) := by decide +kernel
theorem dX9_init_65 : decode cX9_init 65 = .ok (.return_, 1) := by decide +kernel
set_option maxRecDepth 20000 in
theorem ggX9_hostNext_X1_copyFrom : GoodIn wsX9_hostNext wsX1_copyFrom := goodIn_r _ [9, 10, 11, 12, 13, 14, 15, 16, 17, 18, 19, 20, 21, 22, 23, 24, 25, 26, 27, 100, 101, 102, 103, 104, 105, 106, 107, 108, 109, 110, 111, 112, 113, 114, 115] (by decide +kernel) (by decide +kernel)
set_option maxRecDepth 20000 in
theorem gX9_hostNext_X1_copyFrom : GoodIn wsX9_hostNext (wsV RX9 48 RX1 yX1_copyFrom wsX1_copyFrom) := goodIn_app (goodIn_of _ (by decide +kernel)) ggX9_hostNext_X1_copyFrom
set_option maxRecDepth 20000 in
theorem ggX9_hostNext_X9_hostOfTrial : GoodIn wsX9_hostNext wsX9_hostOfTrial := goodIn_r _ [32, 1, 3, 33, 34, 35, 36, 37, 38, 39, 8, 40, 25, 24, 41, 42, 15, 16, 43, 44, 45, 46, 47, 48, 49, 50, 51, 20, 52, 53, 54, 55, 56, 57, 58, 59, 60, 61, 21, 23, 62, 63, 64, 65, 66, 67, 68, 69, 70, 71, 72, 73, 74, 75, 76, 22, 26, 17, 77, 78, 79, 80, 81, 82, 83, 84, 85, 86, 87, 88, 10, 19, 27, 18, 89, 90, 91, 92, 93, 94, 95, 96, 97, 98, 99, 100, 101, 102, 103, 104, 105, 106, 107, 108, 109, 110, 111, 112, 113, 114, 115, 116, 117, 118, 119, 120, 121, 122, 123, 124, 125, 126] (by decide +kernel) (by decide +kernel)
set_option maxRecDepth 20000 in
theorem gX9_hostNext_X9_hostOfTrial : GoodIn wsX9_hostNext (wsV RX9 52 RX9 yX9_hostOfTrial wsX9_hostOfTrial) := goodIn_app (goodIn_of _ (by decide +kernel)) ggX9_hostNext_X9_hostOfTrial
theorem dX9_hostNext_0 : decode cX9_hostNext 0 = .ok (.aload_n 0, 1) := by decide +kernel
theorem dX9_hostNext_1 : decode cX9_hostNext 1 = .ok (.getfield 25, 3) := by decide +kernel
theorem dX9_hostNext_4 : decode cX9_hostNext 4 = .ok (.aload_n 0, 1) := by decide +kernel
theorem dX9_hostNext_5 : decode cX9_hostNext 5 = .ok (.getfield 9, 3) := by decide +kernel
theorem dX9_hostNext_8 : decode cX9_hostNext 8 = .ok (.invokevirtual 48, 3) := by decide +kernel
theorem dX9_hostNext_11 : decode cX9_hostNext 11 = .ok (.aload_n 0, 1) := by decide +kernel
theorem dX9_hostNext_12 : decode cX9_hostNext 12 = .ok (.invokevirtual 52, 3) := by decide +kernel
theorem dX9_hostNext_15 : decode cX9_hostNext 15 = .ok (.istore_n 1, 1) := by decide +kernel
theorem dX9_hostNext_16 : decode cX9_hostNext 16 = .ok (.iload_n 1, 1) := by decide +kernel
theorem dX9_hostNext_17 : decode cX9_hostNext 17 = .ok (.iconst (-1), 1) := by decide +kernel
theorem dX9_hostNext_18 : decode cX9_hostNext 18 = .ok (.if_icmp .eq 22, 3) := by decide +kernel
theorem dX9_hostNext_21 : decode cX9_hostNext 21 = .ok (.aload_n 0, 1) := by decide +kernel
theorem dX9_hostNext_22 : decode cX9_hostNext 22 = .ok (.aload_n 0, 1) := by decide +kernel
theorem dX9_hostNext_23 : decode cX9_hostNext 23 = .ok (.getfield 25, 3) := by decide +kernel
theorem dX9_hostNext_26 : decode cX9_hostNext 26 = .ok (.getfield 56, 3) := by decide +kernel
theorem dX9_hostNext_29 : decode cX9_hostNext 29 = .ok (.aload_n 0, 1) := by decide +kernel
theorem dX9_hostNext_30 : decode cX9_hostNext 30 = .ok (.getfield 9, 3) := by decide +kernel
theorem dX9_hostNext_33 : decode cX9_hostNext 33 = .ok (.getfield 56, 3) := by decide +kernel
theorem dX9_hostNext_36 : decode cX9_hostNext 36 = .ok (.isub, 1) := by decide +kernel
theorem dX9_hostNext_37 : decode cX9_hostNext 37 = .ok (.putfield 32, 3) := by decide +kernel
theorem dX9_hostNext_40 : decode cX9_hostNext 40 = .ok (.iload_n 1, 1) := by decide +kernel
theorem dX9_hostNext_41 : decode cX9_hostNext 41 = .ok (.ireturn, 1) := by decide +kernel
set_option maxRecDepth 20000 in
theorem ggX9_hostOfTrial_X1_goRound : GoodIn wsX9_hostOfTrial wsX1_goRound := goodIn_r _ [11, 12, 13, 14, 15, 16, 17, 18, 19, 20, 21, 22, 23, 24, 25, 10, 26, 27, 28, 29, 30, 31, 32, 33, 34, 35, 36, 37, 38, 39, 40, 41, 42, 43, 44, 45, 46, 47, 48, 49, 50, 51, 52, 53, 54, 55, 56, 57, 58, 59, 60, 61, 62, 63, 64, 65, 66, 67, 68, 69, 70, 71, 72, 73, 74, 85, 86, 87, 88, 89, 90, 91, 92, 93, 94, 95, 96, 97, 98, 99, 100, 101, 102, 103, 104, 105, 106, 107, 108, 109, 110, 111] (by decide +kernel) (by decide +kernel)
set_option maxRecDepth 20000 in
theorem gX9_hostOfTrial_X1_goRound : GoodIn wsX9_hostOfTrial (wsV RX9 67 RX1 yX1_goRound wsX1_goRound) := goodIn_app (goodIn_of _ (by decide +kernel)) ggX9_hostOfTrial_X1_goRound
theorem dX9_hostOfTrial_0 : decode cX9_hostOfTrial 0 = .ok (.iconst 0, 1) := by decide +kernel
theorem dX9_hostOfTrial_1 : decode cX9_hostOfTrial 1 = .ok (.istore_n 1, 1) := by decide +kernel
theorem dX9_hostOfTrial_2 : decode cX9_hostOfTrial 2 = .ok (.iconst 0, 1) := by decide +kernel
theorem dX9_hostOfTrial_3 : decode cX9_hostOfTrial 3 = .ok (.istore_n 2, 1) := by decide +kernel
theorem dX9_hostOfTrial_4 : decode cX9_hostOfTrial 4 = .ok (.iload_n 2, 1) := by decide +kernel
theorem dX9_hostOfTrial_5 : decode cX9_hostOfTrial 5 = .ok (.bipush 99, 2) := by decide +kernel
theorem dX9_hostOfTrial_7 : decode cX9_hostOfTrial 7 = .ok (.if_icmp .ge 82, 3) := by decide +kernel
theorem dX9_hostOfTrial_10 : decode cX9_hostOfTrial 10 = .ok (.aload_n 0, 1) := by decide +kernel
theorem dX9_hostOfTrial_11 : decode cX9_hostOfTrial 11 = .ok (.getfield 25, 3) := by decide +kernel
theorem dX9_hostOfTrial_14 : decode cX9_hostOfTrial 14 = .ok (.getfield 56, 3) := by decide +kernel
theorem dX9_hostOfTrial_17 : decode cX9_hostOfTrial 17 = .ok (.sipush 400, 3) := by decide +kernel
theorem dX9_hostOfTrial_20 : decode cX9_hostOfTrial 20 = .ok (.if_icmp .ge 69, 3) := by decide +kernel
theorem dX9_hostOfTrial_23 : decode cX9_hostOfTrial 23 = .ok (.iload_n 1, 1) := by decide +kernel
theorem dX9_hostOfTrial_24 : decode cX9_hostOfTrial 24 = .ok (.bipush 9, 2) := by decide +kernel
theorem dX9_hostOfTrial_26 : decode cX9_hostOfTrial 26 = .ok (.aload_n 0, 1) := by decide +kernel
theorem dX9_hostOfTrial_27 : decode cX9_hostOfTrial 27 = .ok (.getfield 21, 3) := by decide +kernel
theorem dX9_hostOfTrial_30 : decode cX9_hostOfTrial 30 = .ok (.getfield 59, 3) := by decide +kernel
theorem dX9_hostOfTrial_33 : decode cX9_hostOfTrial 33 = .ok (.iadd, 1) := by decide +kernel
theorem dX9_hostOfTrial_34 : decode cX9_hostOfTrial 34 = .ok (.if_icmp .ge 55, 3) := by decide +kernel
theorem dX9_hostOfTrial_37 : decode cX9_hostOfTrial 37 = .ok (.aload_n 0, 1) := by decide +kernel
theorem dX9_hostOfTrial_38 : decode cX9_hostOfTrial 38 = .ok (.getfield 25, 3) := by decide +kernel
theorem dX9_hostOfTrial_41 : decode cX9_hostOfTrial 41 = .ok (.getfield 64, 3) := by decide +kernel
theorem dX9_hostOfTrial_44 : decode cX9_hostOfTrial 44 = .ok (.istore_n 3, 1) := by decide +kernel
theorem dX9_hostOfTrial_45 : decode cX9_hostOfTrial 45 = .ok (.aload_n 0, 1) := by decide +kernel
theorem dX9_hostOfTrial_46 : decode cX9_hostOfTrial 46 = .ok (.getfield 25, 3) := by decide +kernel
theorem dX9_hostOfTrial_49 : decode cX9_hostOfTrial 49 = .ok (.iconst (-1), 1) := by decide +kernel
theorem dX9_hostOfTrial_50 : decode cX9_hostOfTrial 50 = .ok (.invokevirtual 67, 3) := by decide +kernel
theorem dX9_hostOfTrial_53 : decode cX9_hostOfTrial 53 = .ok (.ifCond .eq 11, 3) := by decide +kernel
theorem dX9_hostOfTrial_56 : decode cX9_hostOfTrial 56 = .ok (.aload_n 0, 1) := by decide +kernel
theorem dX9_hostOfTrial_57 : decode cX9_hostOfTrial 57 = .ok (.getfield 25, 3) := by decide +kernel
theorem dX9_hostOfTrial_60 : decode cX9_hostOfTrial 60 = .ok (.getfield 71, 3) := by decide +kernel
theorem dX9_hostOfTrial_63 : decode cX9_hostOfTrial 63 = .ok (.ireturn, 1) := by decide +kernel
theorem dX9_hostOfTrial_64 : decode cX9_hostOfTrial 64 = .ok (.aload_n 0, 1) := by decide +kernel
theorem dX9_hostOfTrial_65 : decode cX9_hostOfTrial 65 = .ok (.getfield 25, 3) := by decide +kernel
theorem dX9_hostOfTrial_68 : decode cX9_hostOfTrial 68 = .ok (.getfield 64, 3) := by decide +kernel
theorem dX9_hostOfTrial_71 : decode cX9_hostOfTrial 71 = .ok (.iload_n 3, 1) := by decide +kernel
theorem dX9_hostOfTrial_72 : decode cX9_hostOfTrial 72 = .ok (.if_icmp .ne 9, 3) := by decide +kernel
theorem dX9_hostOfTrial_75 : decode cX9_hostOfTrial 75 = .ok (.iload_n 1, 1) := by decide +kernel
theorem dX9_hostOfTrial_76 : decode cX9_hostOfTrial 76 = .ok (.iconst 1, 1) := by decide +kernel
theorem dX9_hostOfTrial_77 : decode cX9_hostOfTrial 77 = .ok (.iadd, 1) := by decide +kernel
theorem dX9_hostOfTrial_78 : decode cX9_hostOfTrial 78 = .ok (.goto 4, 3) := by decide +kernel
theorem dX9_hostOfTrial_81 : decode cX9_hostOfTrial 81 = .ok (.iconst 0, 1) := by decide +kernel
theorem dX9_hostOfTrial_82 : decode cX9_hostOfTrial 82 = .ok (.istore_n 1, 1) := by decide +kernel
theorem dX9_hostOfTrial_83 : decode cX9_hostOfTrial 83 = .ok (.iinc 2 1, 3) := by decide +kernel
theorem dX9_hostOfTrial_86 : decode cX9_hostOfTrial 86 = .ok (.goto (-82), 3) := by decide +kernel
theorem dX9_hostOfTrial_89 : decode cX9_hostOfTrial 89 = .ok (.iconst (-1), 1) := by decide +kernel
theorem dX9_hostOfTrial_90 : decode cX9_hostOfTrial 90 = .ok (.ireturn, 1) := by decide +kernel
set_option maxRecDepth 20000 in
theorem ggX9_longestLinger_X1_copyFrom : GoodIn wsX9_longestLinger wsX1_copyFrom := goodIn_r _ [7, 8, 9, 10, 11, 12, 13, 14, 15, 16, 17, 18, 19, 20, 21, 22, 23, 24, 25, 90, 91, 92, 93, 94, 95, 96, 97, 98, 99, 100, 101, 102, 103, 104, 105] (by decide +kernel) (by decide +kernel)
set_option maxRecDepth 20000 in
theorem gX9_longestLinger_X1_copyFrom : GoodIn wsX9_longestLinger (wsV RX9 48 RX1 yX1_copyFrom wsX1_copyFrom) := goodIn_app (goodIn_of _ (by decide +kernel)) ggX9_longestLinger_X1_copyFrom
set_option maxRecDepth 20000 in
theorem ggX9_longestLinger_X1_whyNotSit : GoodIn wsX9_longestLinger wsX1_whyNotSit := goodIn_r _ [29, 19, 13, 21, 30, 31, 32, 6, 33, 18, 90, 91, 92, 93, 94, 95, 96, 97, 98, 99, 100, 101, 102, 103, 104, 105] (by decide +kernel) (by decide +kernel)
set_option maxRecDepth 20000 in
theorem gX9_longestLinger_X1_whyNotSit : GoodIn wsX9_longestLinger (wsV RX9 74 RX1 yX1_whyNotSit wsX1_whyNotSit) := goodIn_app (goodIn_of _ (by decide +kernel)) ggX9_longestLinger_X1_whyNotSit
set_option maxRecDepth 20000 in
theorem ggX9_longestLinger_X1_goRound : GoodIn wsX9_longestLinger wsX1_goRound := goodIn_r _ [37, 23, 22, 38, 39, 13, 14, 40, 41, 42, 43, 44, 30, 31, 32, 6, 33, 18, 45, 46, 47, 48, 49, 50, 51, 27, 28, 29, 19, 21, 52, 53, 54, 55, 56, 57, 58, 59, 60, 61, 62, 63, 64, 65, 66, 20, 24, 15, 67, 68, 69, 70, 71, 72, 73, 74, 75, 76, 77, 78, 8, 17, 25, 16, 79, 90, 91, 92, 93, 94, 95, 96, 97, 98, 99, 100, 101, 102, 103, 104, 105, 106, 107, 108, 109, 110, 111, 112, 113, 114, 115, 116] (by decide +kernel) (by decide +kernel)
set_option maxRecDepth 20000 in
theorem gX9_longestLinger_X1_goRound : GoodIn wsX9_longestLinger (wsV RX9 67 RX1 yX1_goRound wsX1_goRound) := goodIn_app (goodIn_of _ (by decide +kernel)) ggX9_longestLinger_X1_goRound
theorem dX9_longestLinger_0 : decode cX9_longestLinger 0 = .ok (.aload_n 0, 1) := by decide +kernel
theorem dX9_longestLinger_1 : decode cX9_longestLinger 1 = .ok (.getfield 25, 3) := by decide +kernel
theorem dX9_longestLinger_4 : decode cX9_longestLinger 4 = .ok (.aload_n 0, 1) := by decide +kernel
theorem dX9_longestLinger_5 : decode cX9_longestLinger 5 = .ok (.getfield 9, 3) := by decide +kernel
theorem dX9_longestLinger_8 : decode cX9_longestLinger 8 = .ok (.invokevirtual 48, 3) := by decide +kernel
theorem dX9_longestLinger_11 : decode cX9_longestLinger 11 = .ok (.iconst (-1), 1) := by decide +kernel
theorem dX9_longestLinger_12 : decode cX9_longestLinger 12 = .ok (.istore_n 2, 1) := by decide +kernel
theorem dX9_longestLinger_13 : decode cX9_longestLinger 13 = .ok (.iconst 0, 1) := by decide +kernel
theorem dX9_longestLinger_14 : decode cX9_longestLinger 14 = .ok (.istore_n 3, 1) := by decide +kernel
theorem dX9_longestLinger_15 : decode cX9_longestLinger 15 = .ok (.iload_n 3, 1) := by decide +kernel
theorem dX9_longestLinger_16 : decode cX9_longestLinger 16 = .ok (.bipush 20, 2) := by decide +kernel
theorem dX9_longestLinger_18 : decode cX9_longestLinger 18 = .ok (.if_icmp .gt 35, 3) := by decide +kernel
theorem dX9_longestLinger_21 : decode cX9_longestLinger 21 = .ok (.aload_n 0, 1) := by decide +kernel
theorem dX9_longestLinger_22 : decode cX9_longestLinger 22 = .ok (.getfield 25, 3) := by decide +kernel
theorem dX9_longestLinger_25 : decode cX9_longestLinger 25 = .ok (.iload_n 1, 1) := by decide +kernel
theorem dX9_longestLinger_26 : decode cX9_longestLinger 26 = .ok (.invokevirtual 74, 3) := by decide +kernel
theorem dX9_longestLinger_29 : decode cX9_longestLinger 29 = .ok (.ifCond .ne 5, 3) := by decide +kernel
theorem dX9_longestLinger_32 : decode cX9_longestLinger 32 = .ok (.iload_n 3, 1) := by decide +kernel
theorem dX9_longestLinger_33 : decode cX9_longestLinger 33 = .ok (.istore_n 2, 1) := by decide +kernel
theorem dX9_longestLinger_34 : decode cX9_longestLinger 34 = .ok (.aload_n 0, 1) := by decide +kernel
theorem dX9_longestLinger_35 : decode cX9_longestLinger 35 = .ok (.getfield 25, 3) := by decide +kernel
theorem dX9_longestLinger_38 : decode cX9_longestLinger 38 = .ok (.iload_n 1, 1) := by decide +kernel
theorem dX9_longestLinger_39 : decode cX9_longestLinger 39 = .ok (.invokevirtual 67, 3) := by decide +kernel
theorem dX9_longestLinger_42 : decode cX9_longestLinger 42 = .ok (.ifCond .eq 5, 3) := by decide +kernel
theorem dX9_longestLinger_45 : decode cX9_longestLinger 45 = .ok (.iload_n 2, 1) := by decide +kernel
theorem dX9_longestLinger_46 : decode cX9_longestLinger 46 = .ok (.ireturn, 1) := by decide +kernel
theorem dX9_longestLinger_47 : decode cX9_longestLinger 47 = .ok (.iinc 3 1, 3) := by decide +kernel
theorem dX9_longestLinger_50 : decode cX9_longestLinger 50 = .ok (.goto (-35), 3) := by decide +kernel
theorem dX9_longestLinger_53 : decode cX9_longestLinger 53 = .ok (.iload_n 2, 1) := by decide +kernel
theorem dX9_longestLinger_54 : decode cX9_longestLinger 54 = .ok (.ireturn, 1) := by decide +kernel
set_option maxRecDepth 20000 in
theorem ggX9_fewestHidden_X1_canStillBeHidden : GoodIn wsX9_fewestHidden wsX1_canStillBeHidden := goodIn_r _ [11, 12, 13, 14, 15, 16, 17, 18, 19, 20, 21, 22, 111, 112, 113, 114, 115, 116, 117, 118, 119, 120, 121, 122, 123, 124, 125, 126, 127, 128, 129, 130, 131, 132, 133, 134, 135, 136, 137] (by decide +kernel) (by decide +kernel)
set_option maxRecDepth 20000 in
theorem gX9_fewestHidden_X1_canStillBeHidden : GoodIn wsX9_fewestHidden (wsV RX9 84 RX1 yX1_canStillBeHidden wsX1_canStillBeHidden) := goodIn_app (goodIn_of _ (by decide +kernel)) ggX9_fewestHidden_X1_canStillBeHidden
set_option maxRecDepth 20000 in
theorem ggX9_fewestHidden_J6_bitCount_0f7a4 : GoodIn wsX9_fewestHidden wsJ6_bitCount_0f7a4 := goodIn_r _ [19, 20, 21, 22] (by decide +kernel) (by decide +kernel)
set_option maxRecDepth 20000 in
theorem gX9_fewestHidden_J6_bitCount_0f7a4 : GoodIn wsX9_fewestHidden (va_wsS RX9 87 yJ6_bitCount_0f7a4 wsJ6_bitCount_0f7a4) := goodIn_app (goodIn_of _ (by decide +kernel)) ggX9_fewestHidden_J6_bitCount_0f7a4
set_option maxRecDepth 20000 in
theorem ggX9_fewestHidden_X9_isNextBehind : GoodIn wsX9_fewestHidden wsX9_isNextBehind := goodIn_r _ [28, 29, 1, 2, 30, 31, 32, 10, 33, 34, 35, 36, 37, 38, 39, 40, 41, 42, 43, 44, 45, 46, 14, 47, 48, 49, 50, 51, 52, 53, 27, 54, 55, 4, 5, 56, 57, 58, 59, 60, 61, 12, 15, 62, 63, 64, 65, 66, 67, 68, 69, 70, 71, 72, 73, 74, 13, 75, 76, 77, 78, 79, 80, 81, 82, 83, 16, 17, 18, 19, 20, 21, 22, 84, 85, 86, 87, 88, 89, 90, 91, 92, 93, 94, 95, 96, 97, 98, 99, 100, 101, 102, 103, 104, 105, 106, 107, 108, 109, 110, 111, 112, 113, 114, 115, 116, 117, 118, 119, 120, 121, 122, 123, 124, 125, 126, 127, 128, 129, 130, 131, 132, 133, 134, 135, 136, 137] (by decide +kernel) (by decide +kernel)
set_option maxRecDepth 20000 in
theorem gX9_fewestHidden_X9_isNextBehind : GoodIn wsX9_fewestHidden (wsV RX9 92 RX9 yX9_isNextBehind wsX9_isNextBehind) := goodIn_app (goodIn_of _ (by decide +kernel)) ggX9_fewestHidden_X9_isNextBehind
theorem dX9_fewestHidden_0 : decode cX9_fewestHidden 0 = .ok (.aload_n 0, 1) := by decide +kernel
theorem dX9_fewestHidden_1 : decode cX9_fewestHidden 1 = .ok (.getfield 9, 3) := by decide +kernel
theorem dX9_fewestHidden_4 : decode cX9_fewestHidden 4 = .ok (.getfield 78, 3) := by decide +kernel
theorem dX9_fewestHidden_7 : decode cX9_fewestHidden 7 = .ok (.aload_n 0, 1) := by decide +kernel
theorem dX9_fewestHidden_8 : decode cX9_fewestHidden 8 = .ok (.getfield 9, 3) := by decide +kernel
theorem dX9_fewestHidden_11 : decode cX9_fewestHidden 11 = .ok (.getfield 81, 3) := by decide +kernel
theorem dX9_fewestHidden_14 : decode cX9_fewestHidden 14 = .ok (.ior, 1) := by decide +kernel
theorem dX9_fewestHidden_15 : decode cX9_fewestHidden 15 = .ok (.istore_n 2, 1) := by decide +kernel
theorem dX9_fewestHidden_16 : decode cX9_fewestHidden 16 = .ok (.aload_n 0, 1) := by decide +kernel
theorem dX9_fewestHidden_17 : decode cX9_fewestHidden 17 = .ok (.getfield 9, 3) := by decide +kernel
theorem dX9_fewestHidden_20 : decode cX9_fewestHidden 20 = .ok (.invokevirtual 84, 3) := by decide +kernel
theorem dX9_fewestHidden_23 : decode cX9_fewestHidden 23 = .ok (.istore_n 3, 1) := by decide +kernel
theorem dX9_fewestHidden_24 : decode cX9_fewestHidden 24 = .ok (.iconst 0, 1) := by decide +kernel
theorem dX9_fewestHidden_25 : decode cX9_fewestHidden 25 = .ok (.istore 4, 2) := by decide +kernel
theorem dX9_fewestHidden_27 : decode cX9_fewestHidden 27 = .ok (.iload 4, 2) := by decide +kernel
theorem dX9_fewestHidden_29 : decode cX9_fewestHidden 29 = .ok (.iload_n 3, 1) := by decide +kernel
theorem dX9_fewestHidden_30 : decode cX9_fewestHidden 30 = .ok (.if_icmp .gt 68, 3) := by decide +kernel
theorem dX9_fewestHidden_33 : decode cX9_fewestHidden 33 = .ok (.iconst 0, 1) := by decide +kernel
theorem dX9_fewestHidden_34 : decode cX9_fewestHidden 34 = .ok (.istore 5, 2) := by decide +kernel
theorem dX9_fewestHidden_36 : decode cX9_fewestHidden 36 = .ok (.iload 5, 2) := by decide +kernel
theorem dX9_fewestHidden_38 : decode cX9_fewestHidden 38 = .ok (.iconst 1, 1) := by decide +kernel
theorem dX9_fewestHidden_39 : decode cX9_fewestHidden 39 = .ok (.aload_n 0, 1) := by decide +kernel
theorem dX9_fewestHidden_40 : decode cX9_fewestHidden 40 = .ok (.getfield 21, 3) := by decide +kernel
theorem dX9_fewestHidden_43 : decode cX9_fewestHidden 43 = .ok (.getfield 59, 3) := by decide +kernel
theorem dX9_fewestHidden_46 : decode cX9_fewestHidden 46 = .ok (.ishl, 1) := by decide +kernel
theorem dX9_fewestHidden_47 : decode cX9_fewestHidden 47 = .ok (.if_icmp .ge 45, 3) := by decide +kernel
theorem dX9_fewestHidden_50 : decode cX9_fewestHidden 50 = .ok (.iload 5, 2) := by decide +kernel
theorem dX9_fewestHidden_52 : decode cX9_fewestHidden 52 = .ok (.iload_n 2, 1) := by decide +kernel
theorem dX9_fewestHidden_53 : decode cX9_fewestHidden 53 = .ok (.iand, 1) := by decide +kernel
theorem dX9_fewestHidden_54 : decode cX9_fewestHidden 54 = .ok (.ifCond .ne 32, 3) := by decide +kernel
theorem dX9_fewestHidden_57 : decode cX9_fewestHidden 57 = .ok (.iload 5, 2) := by decide +kernel
theorem dX9_fewestHidden_59 : decode cX9_fewestHidden 59 = .ok (.invokestatic 87, 3) := by decide +kernel
theorem dX9_fewestHidden_62 : decode cX9_fewestHidden 62 = .ok (.iload 4, 2) := by decide +kernel
theorem dX9_fewestHidden_64 : decode cX9_fewestHidden 64 = .ok (.if_icmp .ne 22, 3) := by decide +kernel
theorem dX9_fewestHidden_67 : decode cX9_fewestHidden 67 = .ok (.aload_n 0, 1) := by decide +kernel
theorem dX9_fewestHidden_68 : decode cX9_fewestHidden 68 = .ok (.iload_n 1, 1) := by decide +kernel
theorem dX9_fewestHidden_69 : decode cX9_fewestHidden 69 = .ok (.iload 5, 2) := by decide +kernel
theorem dX9_fewestHidden_71 : decode cX9_fewestHidden 71 = .ok (.invokevirtual 92, 3) := by decide +kernel
theorem dX9_fewestHidden_74 : decode cX9_fewestHidden 74 = .ok (.ifCond .eq 12, 3) := by decide +kernel
theorem dX9_fewestHidden_77 : decode cX9_fewestHidden 77 = .ok (.aload_n 0, 1) := by decide +kernel
theorem dX9_fewestHidden_78 : decode cX9_fewestHidden 78 = .ok (.iload 5, 2) := by decide +kernel
theorem dX9_fewestHidden_80 : decode cX9_fewestHidden 80 = .ok (.putfield 36, 3) := by decide +kernel
theorem dX9_fewestHidden_83 : decode cX9_fewestHidden 83 = .ok (.iload 4, 2) := by decide +kernel
theorem dX9_fewestHidden_85 : decode cX9_fewestHidden 85 = .ok (.ireturn, 1) := by decide +kernel
theorem dX9_fewestHidden_86 : decode cX9_fewestHidden 86 = .ok (.iinc 5 1, 3) := by decide +kernel
theorem dX9_fewestHidden_89 : decode cX9_fewestHidden 89 = .ok (.goto (-53), 3) := by decide +kernel
theorem dX9_fewestHidden_92 : decode cX9_fewestHidden 92 = .ok (.iinc 4 1, 3) := by decide +kernel
theorem dX9_fewestHidden_95 : decode cX9_fewestHidden 95 = .ok (.goto (-68), 3) := by decide +kernel
theorem dX9_fewestHidden_98 : decode cX9_fewestHidden 98 = .ok (.iconst (-1), 1) := by decide +kernel
theorem dX9_fewestHidden_99 : decode cX9_fewestHidden 99 = .ok (.ireturn, 1) := by decide +kernel
set_option maxRecDepth 20000 in
theorem ggX9_isNextBehind_X1_copyFrom : GoodIn wsX9_isNextBehind wsX1_copyFrom := goodIn_r _ [8, 9, 10, 11, 12, 13, 14, 15, 16, 17, 18, 19, 20, 21, 22, 23, 24, 25, 26, 100, 101, 102, 103, 104, 105, 106, 107, 108, 109, 110, 111, 112, 113, 114, 115] (by decide +kernel) (by decide +kernel)
set_option maxRecDepth 20000 in
theorem gX9_isNextBehind_X1_copyFrom : GoodIn wsX9_isNextBehind (wsV RX9 48 RX1 yX1_copyFrom wsX1_copyFrom) := goodIn_app (goodIn_of _ (by decide +kernel)) ggX9_isNextBehind_X1_copyFrom
set_option maxRecDepth 20000 in
theorem ggX9_isNextBehind_X9_hostOfTrial : GoodIn wsX9_isNextBehind wsX9_hostOfTrial := goodIn_r _ [31, 1, 32, 33, 34, 35, 36, 37, 38, 39, 7, 40, 24, 23, 41, 42, 14, 15, 43, 44, 45, 46, 47, 48, 49, 50, 51, 19, 52, 53, 54, 55, 56, 57, 58, 59, 60, 61, 20, 22, 62, 63, 64, 65, 66, 67, 68, 69, 70, 71, 72, 73, 74, 75, 76, 21, 25, 16, 77, 78, 79, 80, 81, 82, 83, 84, 85, 86, 87, 88, 9, 18, 26, 17, 89, 90, 91, 92, 93, 94, 95, 96, 97, 98, 99, 100, 101, 102, 103, 104, 105, 106, 107, 108, 109, 110, 111, 112, 113, 114, 115, 116, 117, 118, 119, 120, 121, 122, 123, 124, 125, 126] (by decide +kernel) (by decide +kernel)
set_option maxRecDepth 20000 in
theorem gX9_isNextBehind_X9_hostOfTrial : GoodIn wsX9_isNextBehind (wsV RX9 52 RX9 yX9_hostOfTrial wsX9_hostOfTrial) := goodIn_app (goodIn_of _ (by decide +kernel)) ggX9_isNextBehind_X9_hostOfTrial
theorem dX9_isNextBehind_0 : decode cX9_isNextBehind 0 = .ok (.aload_n 0, 1) := by decide +kernel
theorem dX9_isNextBehind_1 : decode cX9_isNextBehind 1 = .ok (.getfield 25, 3) := by decide +kernel
theorem dX9_isNextBehind_4 : decode cX9_isNextBehind 4 = .ok (.aload_n 0, 1) := by decide +kernel
theorem dX9_isNextBehind_5 : decode cX9_isNextBehind 5 = .ok (.getfield 9, 3) := by decide +kernel
theorem dX9_isNextBehind_8 : decode cX9_isNextBehind 8 = .ok (.invokevirtual 48, 3) := by decide +kernel
theorem dX9_isNextBehind_11 : decode cX9_isNextBehind 11 = .ok (.aload_n 0, 1) := by decide +kernel
theorem dX9_isNextBehind_12 : decode cX9_isNextBehind 12 = .ok (.getfield 25, 3) := by decide +kernel
theorem dX9_isNextBehind_15 : decode cX9_isNextBehind 15 = .ok (.dup, 1) := by decide +kernel
theorem dX9_isNextBehind_16 : decode cX9_isNextBehind 16 = .ok (.getfield 78, 3) := by decide +kernel
theorem dX9_isNextBehind_19 : decode cX9_isNextBehind 19 = .ok (.iload_n 2, 1) := by decide +kernel
theorem dX9_isNextBehind_20 : decode cX9_isNextBehind 20 = .ok (.ior, 1) := by decide +kernel
theorem dX9_isNextBehind_21 : decode cX9_isNextBehind 21 = .ok (.putfield 78, 3) := by decide +kernel
theorem dX9_isNextBehind_24 : decode cX9_isNextBehind 24 = .ok (.aload_n 0, 1) := by decide +kernel
theorem dX9_isNextBehind_25 : decode cX9_isNextBehind 25 = .ok (.invokevirtual 52, 3) := by decide +kernel
theorem dX9_isNextBehind_28 : decode cX9_isNextBehind 28 = .ok (.iload_n 1, 1) := by decide +kernel
theorem dX9_isNextBehind_29 : decode cX9_isNextBehind 29 = .ok (.if_icmp .ne 7, 3) := by decide +kernel
theorem dX9_isNextBehind_32 : decode cX9_isNextBehind 32 = .ok (.iconst 1, 1) := by decide +kernel
theorem dX9_isNextBehind_33 : decode cX9_isNextBehind 33 = .ok (.goto 4, 3) := by decide +kernel
theorem dX9_isNextBehind_36 : decode cX9_isNextBehind 36 = .ok (.iconst 0, 1) := by decide +kernel
theorem dX9_isNextBehind_37 : decode cX9_isNextBehind 37 = .ok (.ireturn, 1) := by decide +kernel
set_option maxRecDepth 20000 in
theorem ggX9_fewestPushed_J6_bitCount_0f7a4 : GoodIn wsX9_fewestPushed wsJ6_bitCount_0f7a4 := goodIn_r _ [9, 10, 11, 12] (by decide +kernel) (by decide +kernel)
set_option maxRecDepth 20000 in
theorem gX9_fewestPushed_J6_bitCount_0f7a4 : GoodIn wsX9_fewestPushed (va_wsS RX9 87 yJ6_bitCount_0f7a4 wsJ6_bitCount_0f7a4) := goodIn_app (goodIn_of _ (by decide +kernel)) ggX9_fewestPushed_J6_bitCount_0f7a4
set_option maxRecDepth 20000 in
theorem ggX9_fewestPushed_X9_isHostBy : GoodIn wsX9_fewestPushed wsX9_isHostBy := goodIn_r _ [17, 18, 1, 3, 4, 19, 20, 21, 22, 23, 24, 25, 26, 27, 28, 29, 30, 31, 32, 33, 34, 35, 36, 37, 38, 39, 40, 41, 42, 43, 44, 45, 46, 47, 48, 49, 50, 51, 52, 53, 54, 55, 56, 57, 58, 7, 8, 9, 10, 11, 12, 59, 60, 61, 62, 63, 64, 65, 66, 67, 68, 69, 70, 71, 72, 73, 74, 75, 76, 77, 78, 79, 80, 81, 82, 16, 83, 84, 85, 2, 86, 87, 88, 89, 90, 91, 92, 93, 94, 95, 96, 97, 98, 99, 100, 101, 102, 103, 104, 105, 106, 107, 108, 125, 126, 127, 128, 129, 130, 131, 132, 133, 134, 135, 109, 110, 111, 112, 113, 114, 115, 116, 117, 118, 119, 120, 121, 122, 123, 124] (by decide +kernel) (by decide +kernel)
set_option maxRecDepth 20000 in
theorem gX9_fewestPushed_X9_isHostBy : GoodIn wsX9_fewestPushed (wsV RX9 99 RX9 yX9_isHostBy wsX9_isHostBy) := goodIn_app (goodIn_of _ (by decide +kernel)) ggX9_fewestPushed_X9_isHostBy
theorem dX9_fewestPushed_0 : decode cX9_fewestPushed 0 = .ok (.aload_n 0, 1) := by decide +kernel
theorem dX9_fewestPushed_1 : decode cX9_fewestPushed 1 = .ok (.getfield 9, 3) := by decide +kernel
theorem dX9_fewestPushed_4 : decode cX9_fewestPushed 4 = .ok (.getfield 64, 3) := by decide +kernel
theorem dX9_fewestPushed_7 : decode cX9_fewestPushed 7 = .ok (.iconst 1, 1) := by decide +kernel
theorem dX9_fewestPushed_8 : decode cX9_fewestPushed 8 = .ok (.iload_n 1, 1) := by decide +kernel
theorem dX9_fewestPushed_9 : decode cX9_fewestPushed 9 = .ok (.ishl, 1) := by decide +kernel
theorem dX9_fewestPushed_10 : decode cX9_fewestPushed 10 = .ok (.ior, 1) := by decide +kernel
theorem dX9_fewestPushed_11 : decode cX9_fewestPushed 11 = .ok (.istore_n 2, 1) := by decide +kernel
theorem dX9_fewestPushed_12 : decode cX9_fewestPushed 12 = .ok (.iconst 0, 1) := by decide +kernel
theorem dX9_fewestPushed_13 : decode cX9_fewestPushed 13 = .ok (.istore_n 3, 1) := by decide +kernel
theorem dX9_fewestPushed_14 : decode cX9_fewestPushed 14 = .ok (.iload_n 3, 1) := by decide +kernel
theorem dX9_fewestPushed_15 : decode cX9_fewestPushed 15 = .ok (.aload_n 0, 1) := by decide +kernel
theorem dX9_fewestPushed_16 : decode cX9_fewestPushed 16 = .ok (.getfield 21, 3) := by decide +kernel
theorem dX9_fewestPushed_19 : decode cX9_fewestPushed 19 = .ok (.getfield 96, 3) := by decide +kernel
theorem dX9_fewestPushed_22 : decode cX9_fewestPushed 22 = .ok (.if_icmp .ge 66, 3) := by decide +kernel
theorem dX9_fewestPushed_25 : decode cX9_fewestPushed 25 = .ok (.iconst 0, 1) := by decide +kernel
theorem dX9_fewestPushed_26 : decode cX9_fewestPushed 26 = .ok (.istore 4, 2) := by decide +kernel
theorem dX9_fewestPushed_28 : decode cX9_fewestPushed 28 = .ok (.iload 4, 2) := by decide +kernel
theorem dX9_fewestPushed_30 : decode cX9_fewestPushed 30 = .ok (.iconst 1, 1) := by decide +kernel
theorem dX9_fewestPushed_31 : decode cX9_fewestPushed 31 = .ok (.aload_n 0, 1) := by decide +kernel
theorem dX9_fewestPushed_32 : decode cX9_fewestPushed 32 = .ok (.getfield 21, 3) := by decide +kernel
theorem dX9_fewestPushed_35 : decode cX9_fewestPushed 35 = .ok (.getfield 96, 3) := by decide +kernel
theorem dX9_fewestPushed_38 : decode cX9_fewestPushed 38 = .ok (.ishl, 1) := by decide +kernel
theorem dX9_fewestPushed_39 : decode cX9_fewestPushed 39 = .ok (.if_icmp .ge 43, 3) := by decide +kernel
theorem dX9_fewestPushed_42 : decode cX9_fewestPushed 42 = .ok (.iload 4, 2) := by decide +kernel
theorem dX9_fewestPushed_44 : decode cX9_fewestPushed 44 = .ok (.iload_n 2, 1) := by decide +kernel
theorem dX9_fewestPushed_45 : decode cX9_fewestPushed 45 = .ok (.iand, 1) := by decide +kernel
theorem dX9_fewestPushed_46 : decode cX9_fewestPushed 46 = .ok (.ifCond .ne 30, 3) := by decide +kernel
theorem dX9_fewestPushed_49 : decode cX9_fewestPushed 49 = .ok (.iload 4, 2) := by decide +kernel
theorem dX9_fewestPushed_51 : decode cX9_fewestPushed 51 = .ok (.invokestatic 87, 3) := by decide +kernel
theorem dX9_fewestPushed_54 : decode cX9_fewestPushed 54 = .ok (.iload_n 3, 1) := by decide +kernel
theorem dX9_fewestPushed_55 : decode cX9_fewestPushed 55 = .ok (.if_icmp .ne 21, 3) := by decide +kernel
theorem dX9_fewestPushed_58 : decode cX9_fewestPushed 58 = .ok (.aload_n 0, 1) := by decide +kernel
theorem dX9_fewestPushed_59 : decode cX9_fewestPushed 59 = .ok (.iload_n 1, 1) := by decide +kernel
theorem dX9_fewestPushed_60 : decode cX9_fewestPushed 60 = .ok (.iload 4, 2) := by decide +kernel
theorem dX9_fewestPushed_62 : decode cX9_fewestPushed 62 = .ok (.invokevirtual 99, 3) := by decide +kernel
theorem dX9_fewestPushed_65 : decode cX9_fewestPushed 65 = .ok (.ifCond .eq 11, 3) := by decide +kernel
theorem dX9_fewestPushed_68 : decode cX9_fewestPushed 68 = .ok (.aload_n 0, 1) := by decide +kernel
theorem dX9_fewestPushed_69 : decode cX9_fewestPushed 69 = .ok (.iload 4, 2) := by decide +kernel
theorem dX9_fewestPushed_71 : decode cX9_fewestPushed 71 = .ok (.putfield 39, 3) := by decide +kernel
theorem dX9_fewestPushed_74 : decode cX9_fewestPushed 74 = .ok (.iload_n 3, 1) := by decide +kernel
theorem dX9_fewestPushed_75 : decode cX9_fewestPushed 75 = .ok (.ireturn, 1) := by decide +kernel
theorem dX9_fewestPushed_76 : decode cX9_fewestPushed 76 = .ok (.iinc 4 1, 3) := by decide +kernel
theorem dX9_fewestPushed_79 : decode cX9_fewestPushed 79 = .ok (.goto (-51), 3) := by decide +kernel
theorem dX9_fewestPushed_82 : decode cX9_fewestPushed 82 = .ok (.iinc 3 1, 3) := by decide +kernel
theorem dX9_fewestPushed_85 : decode cX9_fewestPushed 85 = .ok (.goto (-71), 3) := by decide +kernel
theorem dX9_fewestPushed_88 : decode cX9_fewestPushed 88 = .ok (.iconst (-1), 1) := by decide +kernel
theorem dX9_fewestPushed_89 : decode cX9_fewestPushed 89 = .ok (.ireturn, 1) := by decide +kernel
set_option maxRecDepth 20000 in
theorem ggX9_isHostBy_X1_copyFrom : GoodIn wsX9_isHostBy wsX1_copyFrom := goodIn_r _ [11, 12, 13, 14, 15, 16, 17, 18, 19, 20, 21, 22, 23, 24, 25, 26, 27, 28, 29, 114, 115, 116, 117, 118, 119, 120, 121, 122, 123, 124, 125, 126, 127, 128, 129] (by decide +kernel) (by decide +kernel)
set_option maxRecDepth 20000 in
theorem gX9_isHostBy_X1_copyFrom : GoodIn wsX9_isHostBy (wsV RX9 48 RX1 yX1_copyFrom wsX1_copyFrom) := goodIn_app (goodIn_of _ (by decide +kernel)) ggX9_isHostBy_X1_copyFrom
set_option maxRecDepth 20000 in
theorem ggX9_isHostBy_X1_whyNotSit : GoodIn wsX9_isHostBy wsX1_whyNotSit := goodIn_r _ [33, 23, 17, 25, 34, 35, 36, 10, 37, 22, 114, 115, 116, 117, 118, 119, 120, 121, 122, 123, 124, 125, 126, 127, 128, 129] (by decide +kernel) (by decide +kernel)
set_option maxRecDepth 20000 in
theorem gX9_isHostBy_X1_whyNotSit : GoodIn wsX9_isHostBy (wsV RX9 74 RX1 yX1_whyNotSit wsX1_whyNotSit) := goodIn_app (goodIn_of _ (by decide +kernel)) ggX9_isHostBy_X1_whyNotSit
set_option maxRecDepth 20000 in
theorem ggX9_isHostBy_X1_sitDown : GoodIn wsX9_isHostBy wsX1_sitDown := goodIn_r _ [41, 22, 23, 17, 42, 43, 44, 45, 46, 47, 48, 49, 50, 51, 52, 53, 10, 54, 24, 28, 19, 55, 18, 27, 56, 57, 58, 59, 60, 61, 62, 34, 35, 36, 37, 63, 64, 65, 66, 12, 67, 68, 69, 70, 21, 29, 20, 71, 114, 115, 116, 117, 118, 119, 120, 121, 122, 123, 124, 125, 126, 127, 128, 129, 103, 104, 105, 106, 107, 108, 109, 110, 111, 112, 113] (by decide +kernel) (by decide +kernel)
set_option maxRecDepth 20000 in
theorem gX9_isHostBy_X1_sitDown : GoodIn wsX9_isHostBy (wsV RX9 102 RX1 yX1_sitDown wsX1_sitDown) := goodIn_app (goodIn_of _ (by decide +kernel)) ggX9_isHostBy_X1_sitDown
set_option maxRecDepth 20000 in
theorem ggX9_isHostBy_X9_hostOfTrial : GoodIn wsX9_isHostBy wsX9_hostOfTrial := goodIn_r _ [76, 1, 77, 3, 78, 79, 6, 80, 81, 82, 10, 83, 27, 26, 42, 43, 17, 18, 67, 68, 69, 70, 84, 34, 35, 36, 37, 22, 85, 86, 87, 88, 89, 90, 91, 31, 32, 33, 23, 25, 92, 39, 40, 41, 44, 45, 46, 47, 48, 49, 50, 51, 52, 53, 54, 24, 28, 19, 55, 56, 57, 58, 59, 60, 61, 62, 63, 64, 65, 66, 12, 21, 29, 20, 71, 93, 94, 95, 96, 97, 98, 99, 100, 101, 102, 114, 115, 116, 117, 118, 119, 120, 121, 122, 123, 124, 125, 126, 127, 128, 129, 103, 104, 105, 106, 107, 108, 109, 110, 111, 112, 113] (by decide +kernel) (by decide +kernel)
set_option maxRecDepth 20000 in
theorem gX9_isHostBy_X9_hostOfTrial : GoodIn wsX9_isHostBy (wsV RX9 52 RX9 yX9_hostOfTrial wsX9_hostOfTrial) := goodIn_app (goodIn_of _ (by decide +kernel)) ggX9_isHostBy_X9_hostOfTrial
theorem dX9_isHostBy_0 : decode cX9_isHostBy 0 = .ok (.aload_n 0, 1) := by decide +kernel
theorem dX9_isHostBy_1 : decode cX9_isHostBy 1 = .ok (.getfield 25, 3) := by decide +kernel
theorem dX9_isHostBy_4 : decode cX9_isHostBy 4 = .ok (.aload_n 0, 1) := by decide +kernel
theorem dX9_isHostBy_5 : decode cX9_isHostBy 5 = .ok (.getfield 9, 3) := by decide +kernel
theorem dX9_isHostBy_8 : decode cX9_isHostBy 8 = .ok (.invokevirtual 48, 3) := by decide +kernel
theorem dX9_isHostBy_11 : decode cX9_isHostBy 11 = .ok (.iconst 0, 1) := by decide +kernel
theorem dX9_isHostBy_12 : decode cX9_isHostBy 12 = .ok (.istore_n 3, 1) := by decide +kernel
theorem dX9_isHostBy_13 : decode cX9_isHostBy 13 = .ok (.iload_n 3, 1) := by decide +kernel
theorem dX9_isHostBy_14 : decode cX9_isHostBy 14 = .ok (.aload_n 0, 1) := by decide +kernel
theorem dX9_isHostBy_15 : decode cX9_isHostBy 15 = .ok (.getfield 21, 3) := by decide +kernel
theorem dX9_isHostBy_18 : decode cX9_isHostBy 18 = .ok (.getfield 96, 3) := by decide +kernel
theorem dX9_isHostBy_21 : decode cX9_isHostBy 21 = .ok (.if_icmp .ge 39, 3) := by decide +kernel
theorem dX9_isHostBy_24 : decode cX9_isHostBy 24 = .ok (.iload_n 2, 1) := by decide +kernel
theorem dX9_isHostBy_25 : decode cX9_isHostBy 25 = .ok (.iload_n 3, 1) := by decide +kernel
theorem dX9_isHostBy_26 : decode cX9_isHostBy 26 = .ok (.ishr, 1) := by decide +kernel
theorem dX9_isHostBy_27 : decode cX9_isHostBy 27 = .ok (.iconst 1, 1) := by decide +kernel
theorem dX9_isHostBy_28 : decode cX9_isHostBy 28 = .ok (.iand, 1) := by decide +kernel
theorem dX9_isHostBy_29 : decode cX9_isHostBy 29 = .ok (.iconst 1, 1) := by decide +kernel
theorem dX9_isHostBy_30 : decode cX9_isHostBy 30 = .ok (.if_icmp .ne 24, 3) := by decide +kernel
theorem dX9_isHostBy_33 : decode cX9_isHostBy 33 = .ok (.aload_n 0, 1) := by decide +kernel
theorem dX9_isHostBy_34 : decode cX9_isHostBy 34 = .ok (.getfield 25, 3) := by decide +kernel
theorem dX9_isHostBy_37 : decode cX9_isHostBy 37 = .ok (.iload_n 3, 1) := by decide +kernel
theorem dX9_isHostBy_38 : decode cX9_isHostBy 38 = .ok (.invokevirtual 74, 3) := by decide +kernel
theorem dX9_isHostBy_41 : decode cX9_isHostBy 41 = .ok (.ifCond .eq 5, 3) := by decide +kernel
theorem dX9_isHostBy_44 : decode cX9_isHostBy 44 = .ok (.iconst 0, 1) := by decide +kernel
theorem dX9_isHostBy_45 : decode cX9_isHostBy 45 = .ok (.ireturn, 1) := by decide +kernel
theorem dX9_isHostBy_46 : decode cX9_isHostBy 46 = .ok (.aload_n 0, 1) := by decide +kernel
theorem dX9_isHostBy_47 : decode cX9_isHostBy 47 = .ok (.getfield 25, 3) := by decide +kernel
theorem dX9_isHostBy_50 : decode cX9_isHostBy 50 = .ok (.iload_n 3, 1) := by decide +kernel
theorem dX9_isHostBy_51 : decode cX9_isHostBy 51 = .ok (.invokevirtual 102, 3) := by decide +kernel
theorem dX9_isHostBy_54 : decode cX9_isHostBy 54 = .ok (.iinc 3 1, 3) := by decide +kernel
theorem dX9_isHostBy_57 : decode cX9_isHostBy 57 = .ok (.goto (-44), 3) := by decide +kernel
theorem dX9_isHostBy_60 : decode cX9_isHostBy 60 = .ok (.aload_n 0, 1) := by decide +kernel
theorem dX9_isHostBy_61 : decode cX9_isHostBy 61 = .ok (.getfield 25, 3) := by decide +kernel
theorem dX9_isHostBy_64 : decode cX9_isHostBy 64 = .ok (.getfield 106, 3) := by decide +kernel
theorem dX9_isHostBy_67 : decode cX9_isHostBy 67 = .ok (.aload_n 0, 1) := by decide +kernel
theorem dX9_isHostBy_68 : decode cX9_isHostBy 68 = .ok (.getfield 9, 3) := by decide +kernel
theorem dX9_isHostBy_71 : decode cX9_isHostBy 71 = .ok (.getfield 106, 3) := by decide +kernel
theorem dX9_isHostBy_74 : decode cX9_isHostBy 74 = .ok (.if_icmp .eq 13, 3) := by decide +kernel
theorem dX9_isHostBy_77 : decode cX9_isHostBy 77 = .ok (.aload_n 0, 1) := by decide +kernel
theorem dX9_isHostBy_78 : decode cX9_isHostBy 78 = .ok (.getfield 25, 3) := by decide +kernel
theorem dX9_isHostBy_81 : decode cX9_isHostBy 81 = .ok (.getfield 71, 3) := by decide +kernel
theorem dX9_isHostBy_84 : decode cX9_isHostBy 84 = .ok (.goto 7, 3) := by decide +kernel
theorem dX9_isHostBy_87 : decode cX9_isHostBy 87 = .ok (.aload_n 0, 1) := by decide +kernel
theorem dX9_isHostBy_88 : decode cX9_isHostBy 88 = .ok (.invokevirtual 52, 3) := by decide +kernel
theorem dX9_isHostBy_91 : decode cX9_isHostBy 91 = .ok (.iload_n 1, 1) := by decide +kernel
theorem dX9_isHostBy_92 : decode cX9_isHostBy 92 = .ok (.if_icmp .ne 7, 3) := by decide +kernel
theorem dX9_isHostBy_95 : decode cX9_isHostBy 95 = .ok (.iconst 1, 1) := by decide +kernel
theorem dX9_isHostBy_96 : decode cX9_isHostBy 96 = .ok (.goto 4, 3) := by decide +kernel
theorem dX9_isHostBy_99 : decode cX9_isHostBy 99 = .ok (.iconst 0, 1) := by decide +kernel
theorem dX9_isHostBy_100 : decode cX9_isHostBy 100 = .ok (.ireturn, 1) := by decide +kernel
set_option maxRecDepth 20000 in
theorem ggX9_safeChairs_X1_copyFrom : GoodIn wsX9_safeChairs wsX1_copyFrom := goodIn_r _ [10, 11, 12, 13, 14, 15, 16, 17, 18, 19, 20, 21, 22, 23, 24, 25, 26, 27, 28, 111, 112, 113, 114, 115, 116, 117, 118, 119, 120, 121, 122, 123, 124, 125, 126] (by decide +kernel) (by decide +kernel)
set_option maxRecDepth 20000 in
theorem gX9_safeChairs_X1_copyFrom : GoodIn wsX9_safeChairs (wsV RX9 48 RX1 yX1_copyFrom wsX1_copyFrom) := goodIn_app (goodIn_of _ (by decide +kernel)) ggX9_safeChairs_X1_copyFrom
set_option maxRecDepth 20000 in
theorem ggX9_safeChairs_X9_hostOfTrial : GoodIn wsX9_safeChairs wsX9_hostOfTrial := goodIn_r _ [33, 3, 34, 1, 2, 35, 36, 37, 38, 39, 9, 40, 26, 25, 41, 42, 16, 17, 43, 44, 45, 46, 47, 48, 49, 50, 51, 21, 52, 53, 54, 55, 56, 57, 58, 59, 60, 61, 22, 24, 62, 63, 64, 65, 66, 67, 68, 69, 70, 71, 72, 73, 74, 75, 76, 23, 27, 18, 77, 78, 79, 80, 81, 82, 83, 84, 85, 86, 87, 88, 11, 20, 28, 19, 89, 90, 91, 92, 93, 94, 95, 96, 97, 98, 99, 111, 112, 113, 114, 115, 116, 117, 118, 119, 120, 121, 122, 123, 124, 125, 126, 100, 101, 102, 103, 104, 105, 106, 107, 108, 109, 110] (by decide +kernel) (by decide +kernel)
set_option maxRecDepth 20000 in
theorem gX9_safeChairs_X9_hostOfTrial : GoodIn wsX9_safeChairs (wsV RX9 52 RX9 yX9_hostOfTrial wsX9_hostOfTrial) := goodIn_app (goodIn_of _ (by decide +kernel)) ggX9_safeChairs_X9_hostOfTrial
theorem dX9_safeChairs_0 : decode cX9_safeChairs 0 = .ok (.iconst 0, 1) := by decide +kernel
theorem dX9_safeChairs_1 : decode cX9_safeChairs 1 = .ok (.istore_n 2, 1) := by decide +kernel
theorem dX9_safeChairs_2 : decode cX9_safeChairs 2 = .ok (.iconst 0, 1) := by decide +kernel
theorem dX9_safeChairs_3 : decode cX9_safeChairs 3 = .ok (.istore_n 3, 1) := by decide +kernel
theorem dX9_safeChairs_4 : decode cX9_safeChairs 4 = .ok (.iload_n 3, 1) := by decide +kernel
theorem dX9_safeChairs_5 : decode cX9_safeChairs 5 = .ok (.aload_n 0, 1) := by decide +kernel
theorem dX9_safeChairs_6 : decode cX9_safeChairs 6 = .ok (.getfield 21, 3) := by decide +kernel
theorem dX9_safeChairs_9 : decode cX9_safeChairs 9 = .ok (.getfield 59, 3) := by decide +kernel
theorem dX9_safeChairs_12 : decode cX9_safeChairs 12 = .ok (.if_icmp .ge 44, 3) := by decide +kernel
theorem dX9_safeChairs_15 : decode cX9_safeChairs 15 = .ok (.aload_n 0, 1) := by decide +kernel
theorem dX9_safeChairs_16 : decode cX9_safeChairs 16 = .ok (.getfield 25, 3) := by decide +kernel
theorem dX9_safeChairs_19 : decode cX9_safeChairs 19 = .ok (.aload_n 0, 1) := by decide +kernel
theorem dX9_safeChairs_20 : decode cX9_safeChairs 20 = .ok (.getfield 9, 3) := by decide +kernel
theorem dX9_safeChairs_23 : decode cX9_safeChairs 23 = .ok (.invokevirtual 48, 3) := by decide +kernel
theorem dX9_safeChairs_26 : decode cX9_safeChairs 26 = .ok (.aload_n 0, 1) := by decide +kernel
theorem dX9_safeChairs_27 : decode cX9_safeChairs 27 = .ok (.getfield 25, 3) := by decide +kernel
theorem dX9_safeChairs_30 : decode cX9_safeChairs 30 = .ok (.getfield 109, 3) := by decide +kernel
theorem dX9_safeChairs_33 : decode cX9_safeChairs 33 = .ok (.iload_n 1, 1) := by decide +kernel
theorem dX9_safeChairs_34 : decode cX9_safeChairs 34 = .ok (.iload_n 3, 1) := by decide +kernel
theorem dX9_safeChairs_35 : decode cX9_safeChairs 35 = .ok (.iastore, 1) := by decide +kernel
theorem dX9_safeChairs_36 : decode cX9_safeChairs 36 = .ok (.aload_n 0, 1) := by decide +kernel
theorem dX9_safeChairs_37 : decode cX9_safeChairs 37 = .ok (.invokevirtual 52, 3) := by decide +kernel
theorem dX9_safeChairs_40 : decode cX9_safeChairs 40 = .ok (.iload_n 1, 1) := by decide +kernel
theorem dX9_safeChairs_41 : decode cX9_safeChairs 41 = .ok (.if_icmp .eq 9, 3) := by decide +kernel
theorem dX9_safeChairs_44 : decode cX9_safeChairs 44 = .ok (.iload_n 2, 1) := by decide +kernel
theorem dX9_safeChairs_45 : decode cX9_safeChairs 45 = .ok (.iconst 1, 1) := by decide +kernel
theorem dX9_safeChairs_46 : decode cX9_safeChairs 46 = .ok (.iload_n 3, 1) := by decide +kernel
theorem dX9_safeChairs_47 : decode cX9_safeChairs 47 = .ok (.ishl, 1) := by decide +kernel
theorem dX9_safeChairs_48 : decode cX9_safeChairs 48 = .ok (.ior, 1) := by decide +kernel
theorem dX9_safeChairs_49 : decode cX9_safeChairs 49 = .ok (.istore_n 2, 1) := by decide +kernel
theorem dX9_safeChairs_50 : decode cX9_safeChairs 50 = .ok (.iinc 3 1, 3) := by decide +kernel
theorem dX9_safeChairs_53 : decode cX9_safeChairs 53 = .ok (.goto (-49), 3) := by decide +kernel
theorem dX9_safeChairs_56 : decode cX9_safeChairs 56 = .ok (.iload_n 2, 1) := by decide +kernel
theorem dX9_safeChairs_57 : decode cX9_safeChairs 57 = .ok (.ireturn, 1) := by decide +kernel
set_option maxRecDepth 20000 in
theorem ggX9_hostList_X1_copyFrom : GoodIn wsX9_hostList wsX1_copyFrom := goodIn_r _ [12, 13, 14, 15, 16, 17, 18, 19, 20, 21, 22, 23, 24, 25, 26, 27, 28, 29, 30, 47, 48, 49, 50, 51, 52, 53, 54, 55, 56, 57, 58, 59, 60, 61, 62] (by decide +kernel) (by decide +kernel)
set_option maxRecDepth 20000 in
theorem gX9_hostList_X1_copyFrom : GoodIn wsX9_hostList (wsV RX9 48 RX1 yX1_copyFrom wsX1_copyFrom) := goodIn_app (goodIn_of _ (by decide +kernel)) ggX9_hostList_X1_copyFrom
set_option maxRecDepth 20000 in
theorem ggX9_hostList_X9_richestPaidFor : GoodIn wsX9_hostList wsX9_richestPaidFor := goodIn_r _ [35, 5, 36, 1, 4, 6, 37, 38, 39, 40, 41, 42, 43, 44, 45, 46, 63, 64, 65, 66, 67, 68, 69, 70, 71, 72, 73, 47, 48, 49, 50, 51, 52, 53, 54, 55, 56, 57, 58, 59, 60, 61, 62] (by decide +kernel) (by decide +kernel)
set_option maxRecDepth 20000 in
theorem gX9_hostList_X9_richestPaidFor : GoodIn wsX9_hostList (wsV RX9 115 RX9 yX9_richestPaidFor wsX9_richestPaidFor) := goodIn_app (goodIn_of _ (by decide +kernel)) ggX9_hostList_X9_richestPaidFor
theorem dX9_hostList_0 : decode cX9_hostList 0 = .ok (.aload_n 0, 1) := by decide +kernel
theorem dX9_hostList_1 : decode cX9_hostList 1 = .ok (.getfield 25, 3) := by decide +kernel
theorem dX9_hostList_4 : decode cX9_hostList 4 = .ok (.aload_n 0, 1) := by decide +kernel
theorem dX9_hostList_5 : decode cX9_hostList 5 = .ok (.getfield 9, 3) := by decide +kernel
theorem dX9_hostList_8 : decode cX9_hostList 8 = .ok (.invokevirtual 48, 3) := by decide +kernel
theorem dX9_hostList_11 : decode cX9_hostList 11 = .ok (.aload_n 0, 1) := by decide +kernel
theorem dX9_hostList_12 : decode cX9_hostList 12 = .ok (.iconst 0, 1) := by decide +kernel
theorem dX9_hostList_13 : decode cX9_hostList 13 = .ok (.putfield 112, 3) := by decide +kernel
theorem dX9_hostList_16 : decode cX9_hostList 16 = .ok (.iconst 0, 1) := by decide +kernel
theorem dX9_hostList_17 : decode cX9_hostList 17 = .ok (.istore_n 2, 1) := by decide +kernel
theorem dX9_hostList_18 : decode cX9_hostList 18 = .ok (.iload_n 2, 1) := by decide +kernel
theorem dX9_hostList_19 : decode cX9_hostList 19 = .ok (.bipush 99, 2) := by decide +kernel
theorem dX9_hostList_21 : decode cX9_hostList 21 = .ok (.if_icmp .ge 83, 3) := by decide +kernel
theorem dX9_hostList_24 : decode cX9_hostList 24 = .ok (.aload_n 0, 1) := by decide +kernel
theorem dX9_hostList_25 : decode cX9_hostList 25 = .ok (.invokevirtual 115, 3) := by decide +kernel
theorem dX9_hostList_28 : decode cX9_hostList 28 = .ok (.istore_n 3, 1) := by decide +kernel
theorem dX9_hostList_29 : decode cX9_hostList 29 = .ok (.iload_n 3, 1) := by decide +kernel
theorem dX9_hostList_30 : decode cX9_hostList 30 = .ok (.iconst (-1), 1) := by decide +kernel
theorem dX9_hostList_31 : decode cX9_hostList 31 = .ok (.if_icmp .eq 24, 3) := by decide +kernel
theorem dX9_hostList_34 : decode cX9_hostList 34 = .ok (.aload_n 0, 1) := by decide +kernel
theorem dX9_hostList_35 : decode cX9_hostList 35 = .ok (.getfield 25, 3) := by decide +kernel
theorem dX9_hostList_38 : decode cX9_hostList 38 = .ok (.getfield 118, 3) := by decide +kernel
theorem dX9_hostList_41 : decode cX9_hostList 41 = .ok (.aload_n 0, 1) := by decide +kernel
theorem dX9_hostList_42 : decode cX9_hostList 42 = .ok (.getfield 21, 3) := by decide +kernel
theorem dX9_hostList_45 : decode cX9_hostList 45 = .ok (.getfield 121, 3) := by decide +kernel
theorem dX9_hostList_48 : decode cX9_hostList 48 = .ok (.iload_n 3, 1) := by decide +kernel
theorem dX9_hostList_49 : decode cX9_hostList 49 = .ok (.iaload, 1) := by decide +kernel
theorem dX9_hostList_50 : decode cX9_hostList 50 = .ok (.iaload, 1) := by decide +kernel
theorem dX9_hostList_51 : decode cX9_hostList 51 = .ok (.iload_n 1, 1) := by decide +kernel
theorem dX9_hostList_52 : decode cX9_hostList 52 = .ok (.if_icmp .ge 8, 3) := by decide +kernel
theorem dX9_hostList_55 : decode cX9_hostList 55 = .ok (.aload_n 0, 1) := by decide +kernel
theorem dX9_hostList_56 : decode cX9_hostList 56 = .ok (.getfield 112, 3) := by decide +kernel
theorem dX9_hostList_59 : decode cX9_hostList 59 = .ok (.ireturn, 1) := by decide +kernel
theorem dX9_hostList_60 : decode cX9_hostList 60 = .ok (.aload_n 0, 1) := by decide +kernel
theorem dX9_hostList_61 : decode cX9_hostList 61 = .ok (.getfield 25, 3) := by decide +kernel
theorem dX9_hostList_64 : decode cX9_hostList 64 = .ok (.getfield 118, 3) := by decide +kernel
theorem dX9_hostList_67 : decode cX9_hostList 67 = .ok (.aload_n 0, 1) := by decide +kernel
theorem dX9_hostList_68 : decode cX9_hostList 68 = .ok (.getfield 21, 3) := by decide +kernel
theorem dX9_hostList_71 : decode cX9_hostList 71 = .ok (.getfield 121, 3) := by decide +kernel
theorem dX9_hostList_74 : decode cX9_hostList 74 = .ok (.iload_n 3, 1) := by decide +kernel
theorem dX9_hostList_75 : decode cX9_hostList 75 = .ok (.iaload, 1) := by decide +kernel
theorem dX9_hostList_76 : decode cX9_hostList 76 = .ok (.dup2, 1) := by decide +kernel
theorem dX9_hostList_77 : decode cX9_hostList 77 = .ok (.iaload, 1) := by decide +kernel
theorem dX9_hostList_78 : decode cX9_hostList 78 = .ok (.iload_n 1, 1) := by decide +kernel
theorem dX9_hostList_79 : decode cX9_hostList 79 = .ok (.isub, 1) := by decide +kernel
theorem dX9_hostList_80 : decode cX9_hostList 80 = .ok (.iastore, 1) := by decide +kernel
theorem dX9_hostList_81 : decode cX9_hostList 81 = .ok (.aload_n 0, 1) := by decide +kernel
theorem dX9_hostList_82 : decode cX9_hostList 82 = .ok (.getfield 28, 3) := by decide +kernel
theorem dX9_hostList_85 : decode cX9_hostList 85 = .ok (.iload_n 2, 1) := by decide +kernel
theorem dX9_hostList_86 : decode cX9_hostList 86 = .ok (.iload_n 3, 1) := by decide +kernel
theorem dX9_hostList_87 : decode cX9_hostList 87 = .ok (.iastore, 1) := by decide +kernel
theorem dX9_hostList_88 : decode cX9_hostList 88 = .ok (.aload_n 0, 1) := by decide +kernel
theorem dX9_hostList_89 : decode cX9_hostList 89 = .ok (.dup, 1) := by decide +kernel
theorem dX9_hostList_90 : decode cX9_hostList 90 = .ok (.getfield 112, 3) := by decide +kernel
theorem dX9_hostList_93 : decode cX9_hostList 93 = .ok (.iconst 1, 1) := by decide +kernel
theorem dX9_hostList_94 : decode cX9_hostList 94 = .ok (.iadd, 1) := by decide +kernel
theorem dX9_hostList_95 : decode cX9_hostList 95 = .ok (.putfield 112, 3) := by decide +kernel
theorem dX9_hostList_98 : decode cX9_hostList 98 = .ok (.iinc 2 1, 3) := by decide +kernel
theorem dX9_hostList_101 : decode cX9_hostList 101 = .ok (.goto (-83), 3) := by decide +kernel
theorem dX9_hostList_104 : decode cX9_hostList 104 = .ok (.aload_n 0, 1) := by decide +kernel
theorem dX9_hostList_105 : decode cX9_hostList 105 = .ok (.getfield 112, 3) := by decide +kernel
theorem dX9_hostList_108 : decode cX9_hostList 108 = .ok (.ireturn, 1) := by decide +kernel
theorem dX9_richestPaidFor_0 : decode cX9_richestPaidFor 0 = .ok (.iconst (-1), 1) := by decide +kernel
theorem dX9_richestPaidFor_1 : decode cX9_richestPaidFor 1 = .ok (.istore_n 1, 1) := by decide +kernel
theorem dX9_richestPaidFor_2 : decode cX9_richestPaidFor 2 = .ok (.iconst 0, 1) := by decide +kernel
theorem dX9_richestPaidFor_3 : decode cX9_richestPaidFor 3 = .ok (.istore_n 2, 1) := by decide +kernel
theorem dX9_richestPaidFor_4 : decode cX9_richestPaidFor 4 = .ok (.iload_n 2, 1) := by decide +kernel
theorem dX9_richestPaidFor_5 : decode cX9_richestPaidFor 5 = .ok (.aload_n 0, 1) := by decide +kernel
theorem dX9_richestPaidFor_6 : decode cX9_richestPaidFor 6 = .ok (.getfield 21, 3) := by decide +kernel
theorem dX9_richestPaidFor_9 : decode cX9_richestPaidFor 9 = .ok (.getfield 96, 3) := by decide +kernel
theorem dX9_richestPaidFor_12 : decode cX9_richestPaidFor 12 = .ok (.if_icmp .ge 53, 3) := by decide +kernel
theorem dX9_richestPaidFor_15 : decode cX9_richestPaidFor 15 = .ok (.iload_n 1, 1) := by decide +kernel
theorem dX9_richestPaidFor_16 : decode cX9_richestPaidFor 16 = .ok (.iconst (-1), 1) := by decide +kernel
theorem dX9_richestPaidFor_17 : decode cX9_richestPaidFor 17 = .ok (.if_icmp .eq 40, 3) := by decide +kernel
theorem dX9_richestPaidFor_20 : decode cX9_richestPaidFor 20 = .ok (.aload_n 0, 1) := by decide +kernel
theorem dX9_richestPaidFor_21 : decode cX9_richestPaidFor 21 = .ok (.getfield 25, 3) := by decide +kernel
theorem dX9_richestPaidFor_24 : decode cX9_richestPaidFor 24 = .ok (.getfield 118, 3) := by decide +kernel
theorem dX9_richestPaidFor_27 : decode cX9_richestPaidFor 27 = .ok (.aload_n 0, 1) := by decide +kernel
theorem dX9_richestPaidFor_28 : decode cX9_richestPaidFor 28 = .ok (.getfield 21, 3) := by decide +kernel
theorem dX9_richestPaidFor_31 : decode cX9_richestPaidFor 31 = .ok (.getfield 121, 3) := by decide +kernel
theorem dX9_richestPaidFor_34 : decode cX9_richestPaidFor 34 = .ok (.iload_n 2, 1) := by decide +kernel
theorem dX9_richestPaidFor_35 : decode cX9_richestPaidFor 35 = .ok (.iaload, 1) := by decide +kernel
theorem dX9_richestPaidFor_36 : decode cX9_richestPaidFor 36 = .ok (.iaload, 1) := by decide +kernel
theorem dX9_richestPaidFor_37 : decode cX9_richestPaidFor 37 = .ok (.aload_n 0, 1) := by decide +kernel
theorem dX9_richestPaidFor_38 : decode cX9_richestPaidFor 38 = .ok (.getfield 25, 3) := by decide +kernel
theorem dX9_richestPaidFor_41 : decode cX9_richestPaidFor 41 = .ok (.getfield 118, 3) := by decide +kernel
theorem dX9_richestPaidFor_44 : decode cX9_richestPaidFor 44 = .ok (.aload_n 0, 1) := by decide +kernel
theorem dX9_richestPaidFor_45 : decode cX9_richestPaidFor 45 = .ok (.getfield 21, 3) := by decide +kernel
theorem dX9_richestPaidFor_48 : decode cX9_richestPaidFor 48 = .ok (.getfield 121, 3) := by decide +kernel
theorem dX9_richestPaidFor_51 : decode cX9_richestPaidFor 51 = .ok (.iload_n 1, 1) := by decide +kernel
theorem dX9_richestPaidFor_52 : decode cX9_richestPaidFor 52 = .ok (.iaload, 1) := by decide +kernel
theorem dX9_richestPaidFor_53 : decode cX9_richestPaidFor 53 = .ok (.iaload, 1) := by decide +kernel
theorem dX9_richestPaidFor_54 : decode cX9_richestPaidFor 54 = .ok (.if_icmp .le 5, 3) := by decide +kernel
theorem dX9_richestPaidFor_57 : decode cX9_richestPaidFor 57 = .ok (.iload_n 2, 1) := by decide +kernel
theorem dX9_richestPaidFor_58 : decode cX9_richestPaidFor 58 = .ok (.istore_n 1, 1) := by decide +kernel
theorem dX9_richestPaidFor_59 : decode cX9_richestPaidFor 59 = .ok (.iinc 2 1, 3) := by decide +kernel
theorem dX9_richestPaidFor_62 : decode cX9_richestPaidFor 62 = .ok (.goto (-58), 3) := by decide +kernel
theorem dX9_richestPaidFor_65 : decode cX9_richestPaidFor 65 = .ok (.iload_n 1, 1) := by decide +kernel
theorem dX9_richestPaidFor_66 : decode cX9_richestPaidFor 66 = .ok (.ireturn, 1) := by decide +kernel
set_option maxRecDepth 20000 in
theorem ggX9_chairsGone_X9_sitBehind : GoodIn wsX9_chairsGone wsX9_sitBehind := goodIn_r _ [7, 8, 9, 10, 11, 12, 13, 14, 15, 16, 17, 18, 19, 20, 21, 22, 23, 24, 25, 26, 27, 28, 29, 30, 31, 32, 33, 34, 35, 36, 37, 38, 39, 40, 41, 42, 43, 44, 45, 46, 47, 48, 49, 50, 51, 52, 53, 54, 55, 56, 57, 58, 59, 60, 61, 62, 63, 64, 65, 66, 67, 68, 69, 70, 71, 72, 73, 74, 75, 76, 77, 78, 79, 80, 81, 82, 83, 84, 85, 86, 87, 88, 89, 90, 91, 92, 93, 94, 95, 96, 97, 109, 110, 111, 112, 113, 114, 115, 116, 117, 118, 119, 120, 121, 122, 123, 124, 98, 99, 100, 101, 102, 103, 104, 105, 106, 107, 108] (by decide +kernel) (by decide +kernel)
set_option maxRecDepth 20000 in
theorem gX9_chairsGone_X9_sitBehind : GoodIn wsX9_chairsGone (wsV RX9 124 RX9 yX9_sitBehind wsX9_sitBehind) := goodIn_app (goodIn_of _ (by decide +kernel)) ggX9_chairsGone_X9_sitBehind
theorem dX9_chairsGone_0 : decode cX9_chairsGone 0 = .ok (.aload_n 0, 1) := by decide +kernel
theorem dX9_chairsGone_1 : decode cX9_chairsGone 1 = .ok (.iconst 0, 1) := by decide +kernel
theorem dX9_chairsGone_2 : decode cX9_chairsGone 2 = .ok (.iload_n 1, 1) := by decide +kernel
theorem dX9_chairsGone_3 : decode cX9_chairsGone 3 = .ok (.invokevirtual 124, 3) := by decide +kernel
theorem dX9_chairsGone_6 : decode cX9_chairsGone 6 = .ok (.iload_n 2, 1) := by decide +kernel
theorem dX9_chairsGone_7 : decode cX9_chairsGone 7 = .ok (.if_icmp .ne 9, 3) := by decide +kernel
theorem dX9_chairsGone_10 : decode cX9_chairsGone 10 = .ok (.sipush 512, 3) := by decide +kernel
theorem dX9_chairsGone_13 : decode cX9_chairsGone 13 = .ok (.goto 4, 3) := by decide +kernel
theorem dX9_chairsGone_16 : decode cX9_chairsGone 16 = .ok (.iconst 0, 1) := by decide +kernel
theorem dX9_chairsGone_17 : decode cX9_chairsGone 17 = .ok (.istore_n 3, 1) := by decide +kernel
theorem dX9_chairsGone_18 : decode cX9_chairsGone 18 = .ok (.iconst 0, 1) := by decide +kernel
theorem dX9_chairsGone_19 : decode cX9_chairsGone 19 = .ok (.istore 4, 2) := by decide +kernel
theorem dX9_chairsGone_21 : decode cX9_chairsGone 21 = .ok (.iload 4, 2) := by decide +kernel
theorem dX9_chairsGone_23 : decode cX9_chairsGone 23 = .ok (.aload_n 0, 1) := by decide +kernel
theorem dX9_chairsGone_24 : decode cX9_chairsGone 24 = .ok (.getfield 21, 3) := by decide +kernel
theorem dX9_chairsGone_27 : decode cX9_chairsGone 27 = .ok (.getfield 59, 3) := by decide +kernel
theorem dX9_chairsGone_30 : decode cX9_chairsGone 30 = .ok (.if_icmp .ge 29, 3) := by decide +kernel
theorem dX9_chairsGone_33 : decode cX9_chairsGone 33 = .ok (.aload_n 0, 1) := by decide +kernel
theorem dX9_chairsGone_34 : decode cX9_chairsGone 34 = .ok (.iconst 1, 1) := by decide +kernel
theorem dX9_chairsGone_35 : decode cX9_chairsGone 35 = .ok (.iload 4, 2) := by decide +kernel
theorem dX9_chairsGone_37 : decode cX9_chairsGone 37 = .ok (.ishl, 1) := by decide +kernel
theorem dX9_chairsGone_38 : decode cX9_chairsGone 38 = .ok (.iload_n 1, 1) := by decide +kernel
theorem dX9_chairsGone_39 : decode cX9_chairsGone 39 = .ok (.invokevirtual 124, 3) := by decide +kernel
theorem dX9_chairsGone_42 : decode cX9_chairsGone 42 = .ok (.iload_n 2, 1) := by decide +kernel
theorem dX9_chairsGone_43 : decode cX9_chairsGone 43 = .ok (.if_icmp .ne 10, 3) := by decide +kernel
theorem dX9_chairsGone_46 : decode cX9_chairsGone 46 = .ok (.iload_n 3, 1) := by decide +kernel
theorem dX9_chairsGone_47 : decode cX9_chairsGone 47 = .ok (.iconst 1, 1) := by decide +kernel
theorem dX9_chairsGone_48 : decode cX9_chairsGone 48 = .ok (.iload 4, 2) := by decide +kernel
theorem dX9_chairsGone_50 : decode cX9_chairsGone 50 = .ok (.ishl, 1) := by decide +kernel
theorem dX9_chairsGone_51 : decode cX9_chairsGone 51 = .ok (.ior, 1) := by decide +kernel
theorem dX9_chairsGone_52 : decode cX9_chairsGone 52 = .ok (.istore_n 3, 1) := by decide +kernel
theorem dX9_chairsGone_53 : decode cX9_chairsGone 53 = .ok (.iinc 4 1, 3) := by decide +kernel
theorem dX9_chairsGone_56 : decode cX9_chairsGone 56 = .ok (.goto (-35), 3) := by decide +kernel
theorem dX9_chairsGone_59 : decode cX9_chairsGone 59 = .ok (.iload_n 3, 1) := by decide +kernel
theorem dX9_chairsGone_60 : decode cX9_chairsGone 60 = .ok (.ireturn, 1) := by decide +kernel
set_option maxRecDepth 20000 in
theorem ggX9_sitBehind_X1_copyFrom : GoodIn wsX9_sitBehind wsX1_copyFrom := goodIn_r _ [9, 10, 11, 12, 13, 14, 15, 16, 17, 18, 19, 20, 21, 22, 23, 24, 25, 26, 27, 91, 92, 93, 94, 95, 96, 97, 98, 99, 100, 101, 102, 103, 104, 105, 106] (by decide +kernel) (by decide +kernel)
set_option maxRecDepth 20000 in
theorem gX9_sitBehind_X1_copyFrom : GoodIn wsX9_sitBehind (wsV RX9 48 RX1 yX1_copyFrom wsX1_copyFrom) := goodIn_app (goodIn_of _ (by decide +kernel)) ggX9_sitBehind_X1_copyFrom
set_option maxRecDepth 20000 in
theorem ggX9_sitBehind_X1_goRound : GoodIn wsX9_sitBehind wsX1_goRound := goodIn_r _ [31, 25, 24, 32, 33, 15, 16, 34, 35, 36, 37, 38, 39, 40, 41, 8, 42, 20, 43, 44, 45, 46, 47, 48, 49, 50, 51, 52, 21, 23, 53, 54, 55, 56, 57, 58, 59, 60, 61, 62, 63, 64, 65, 66, 67, 22, 26, 17, 68, 69, 70, 71, 72, 73, 74, 75, 76, 77, 78, 79, 10, 19, 27, 18, 80, 91, 92, 93, 94, 95, 96, 97, 98, 99, 100, 101, 102, 103, 104, 105, 106, 107, 108, 109, 110, 111, 112, 113, 114, 115, 116, 117] (by decide +kernel) (by decide +kernel)
set_option maxRecDepth 20000 in
theorem gX9_sitBehind_X1_goRound : GoodIn wsX9_sitBehind (wsV RX9 67 RX1 yX1_goRound wsX1_goRound) := goodIn_app (goodIn_of _ (by decide +kernel)) ggX9_sitBehind_X1_goRound
theorem dX9_sitBehind_0 : decode cX9_sitBehind 0 = .ok (.aload_n 0, 1) := by decide +kernel
theorem dX9_sitBehind_1 : decode cX9_sitBehind 1 = .ok (.getfield 25, 3) := by decide +kernel
theorem dX9_sitBehind_4 : decode cX9_sitBehind 4 = .ok (.aload_n 0, 1) := by decide +kernel
theorem dX9_sitBehind_5 : decode cX9_sitBehind 5 = .ok (.getfield 9, 3) := by decide +kernel
theorem dX9_sitBehind_8 : decode cX9_sitBehind 8 = .ok (.invokevirtual 48, 3) := by decide +kernel
theorem dX9_sitBehind_11 : decode cX9_sitBehind 11 = .ok (.aload_n 0, 1) := by decide +kernel
theorem dX9_sitBehind_12 : decode cX9_sitBehind 12 = .ok (.getfield 25, 3) := by decide +kernel
theorem dX9_sitBehind_15 : decode cX9_sitBehind 15 = .ok (.dup, 1) := by decide +kernel
theorem dX9_sitBehind_16 : decode cX9_sitBehind 16 = .ok (.getfield 78, 3) := by decide +kernel
theorem dX9_sitBehind_19 : decode cX9_sitBehind 19 = .ok (.iload_n 1, 1) := by decide +kernel
theorem dX9_sitBehind_20 : decode cX9_sitBehind 20 = .ok (.ior, 1) := by decide +kernel
theorem dX9_sitBehind_21 : decode cX9_sitBehind 21 = .ok (.putfield 78, 3) := by decide +kernel
theorem dX9_sitBehind_24 : decode cX9_sitBehind 24 = .ok (.iconst 0, 1) := by decide +kernel
theorem dX9_sitBehind_25 : decode cX9_sitBehind 25 = .ok (.istore_n 3, 1) := by decide +kernel
theorem dX9_sitBehind_26 : decode cX9_sitBehind 26 = .ok (.iload_n 3, 1) := by decide +kernel
theorem dX9_sitBehind_27 : decode cX9_sitBehind 27 = .ok (.iload_n 2, 1) := by decide +kernel
theorem dX9_sitBehind_28 : decode cX9_sitBehind 28 = .ok (.if_icmp .ge 18, 3) := by decide +kernel
theorem dX9_sitBehind_31 : decode cX9_sitBehind 31 = .ok (.aload_n 0, 1) := by decide +kernel
theorem dX9_sitBehind_32 : decode cX9_sitBehind 32 = .ok (.getfield 25, 3) := by decide +kernel
theorem dX9_sitBehind_35 : decode cX9_sitBehind 35 = .ok (.iconst (-1), 1) := by decide +kernel
theorem dX9_sitBehind_36 : decode cX9_sitBehind 36 = .ok (.invokevirtual 67, 3) := by decide +kernel
theorem dX9_sitBehind_39 : decode cX9_sitBehind 39 = .ok (.pop, 1) := by decide +kernel
theorem dX9_sitBehind_40 : decode cX9_sitBehind 40 = .ok (.iinc 3 1, 3) := by decide +kernel
theorem dX9_sitBehind_43 : decode cX9_sitBehind 43 = .ok (.goto (-17), 3) := by decide +kernel
theorem dX9_sitBehind_46 : decode cX9_sitBehind 46 = .ok (.aload_n 0, 1) := by decide +kernel
theorem dX9_sitBehind_47 : decode cX9_sitBehind 47 = .ok (.getfield 25, 3) := by decide +kernel
theorem dX9_sitBehind_50 : decode cX9_sitBehind 50 = .ok (.getfield 64, 3) := by decide +kernel
theorem dX9_sitBehind_53 : decode cX9_sitBehind 53 = .ok (.ireturn, 1) := by decide +kernel
set_option maxRecDepth 20000 in
theorem ggX9_mostDishes_X9_fewestCoinsOfPayers : GoodIn wsX9_mostDishes wsX9_fewestCoinsOfPayers := goodIn_r _ [8, 1, 9, 10, 11, 12, 13, 14, 15, 16, 31, 32, 33, 34, 35, 36, 37, 38, 39, 40, 41, 42, 43, 44, 45, 46, 47, 48, 49, 50, 51, 52, 53, 54, 55, 56, 57, 58, 59, 60, 61, 62, 63, 64, 65, 66, 67] (by decide +kernel) (by decide +kernel)
set_option maxRecDepth 20000 in
theorem gX9_mostDishes_X9_fewestCoinsOfPayers : GoodIn wsX9_mostDishes (wsV RX9 128 RX9 yX9_fewestCoinsOfPayers wsX9_fewestCoinsOfPayers) := goodIn_app (goodIn_of _ (by decide +kernel)) ggX9_mostDishes_X9_fewestCoinsOfPayers
set_option maxRecDepth 20000 in
theorem ggX9_mostDishes_X2_costOf : GoodIn wsX9_mostDishes wsX2_costOf := goodIn_r _ [21, 22, 23, 41, 42, 43, 44, 45, 46, 47, 48, 49, 50, 51] (by decide +kernel) (by decide +kernel)
set_option maxRecDepth 20000 in
theorem gX9_mostDishes_X2_costOf : GoodIn wsX9_mostDishes (wsV RX9 134 RX2 yX2_costOf wsX2_costOf) := goodIn_app (goodIn_of _ (by decide +kernel)) ggX9_mostDishes_X2_costOf
set_option maxRecDepth 20000 in
theorem ggX9_mostDishes_J6_bitCount_0f7a4 : GoodIn wsX9_mostDishes wsJ6_bitCount_0f7a4 := goodIn_r _ [27, 28, 29, 30] (by decide +kernel) (by decide +kernel)
set_option maxRecDepth 20000 in
theorem gX9_mostDishes_J6_bitCount_0f7a4 : GoodIn wsX9_mostDishes (va_wsS RX9 87 yJ6_bitCount_0f7a4 wsJ6_bitCount_0f7a4) := goodIn_app (goodIn_of _ (by decide +kernel)) ggX9_mostDishes_J6_bitCount_0f7a4
theorem dX9_mostDishes_0 : decode cX9_mostDishes 0 = .ok (.aload_n 0, 1) := by decide +kernel
theorem dX9_mostDishes_1 : decode cX9_mostDishes 1 = .ok (.invokevirtual 128, 3) := by decide +kernel
theorem dX9_mostDishes_4 : decode cX9_mostDishes 4 = .ok (.istore_n 1, 1) := by decide +kernel
theorem dX9_mostDishes_5 : decode cX9_mostDishes 5 = .ok (.iconst 0, 1) := by decide +kernel
theorem dX9_mostDishes_6 : decode cX9_mostDishes 6 = .ok (.istore_n 2, 1) := by decide +kernel
theorem dX9_mostDishes_7 : decode cX9_mostDishes 7 = .ok (.iconst 1, 1) := by decide +kernel
theorem dX9_mostDishes_8 : decode cX9_mostDishes 8 = .ok (.istore_n 3, 1) := by decide +kernel
theorem dX9_mostDishes_9 : decode cX9_mostDishes 9 = .ok (.iload_n 3, 1) := by decide +kernel
theorem dX9_mostDishes_10 : decode cX9_mostDishes 10 = .ok (.iconst 1, 1) := by decide +kernel
theorem dX9_mostDishes_11 : decode cX9_mostDishes 11 = .ok (.aload_n 0, 1) := by decide +kernel
theorem dX9_mostDishes_12 : decode cX9_mostDishes 12 = .ok (.getfield 21, 3) := by decide +kernel
theorem dX9_mostDishes_15 : decode cX9_mostDishes 15 = .ok (.getfield 131, 3) := by decide +kernel
theorem dX9_mostDishes_18 : decode cX9_mostDishes 18 = .ok (.ishl, 1) := by decide +kernel
theorem dX9_mostDishes_19 : decode cX9_mostDishes 19 = .ok (.if_icmp .ge 61, 3) := by decide +kernel
theorem dX9_mostDishes_22 : decode cX9_mostDishes 22 = .ok (.aload_n 0, 1) := by decide +kernel
theorem dX9_mostDishes_23 : decode cX9_mostDishes 23 = .ok (.getfield 21, 3) := by decide +kernel
theorem dX9_mostDishes_26 : decode cX9_mostDishes 26 = .ok (.iload_n 3, 1) := by decide +kernel
theorem dX9_mostDishes_27 : decode cX9_mostDishes 27 = .ok (.invokevirtual 134, 3) := by decide +kernel
theorem dX9_mostDishes_30 : decode cX9_mostDishes 30 = .ok (.istore 4, 2) := by decide +kernel
theorem dX9_mostDishes_32 : decode cX9_mostDishes 32 = .ok (.iload_n 3, 1) := by decide +kernel
theorem dX9_mostDishes_33 : decode cX9_mostDishes 33 = .ok (.invokestatic 87, 3) := by decide +kernel
theorem dX9_mostDishes_36 : decode cX9_mostDishes 36 = .ok (.iload_n 2, 1) := by decide +kernel
theorem dX9_mostDishes_37 : decode cX9_mostDishes 37 = .ok (.invokestatic 87, 3) := by decide +kernel
theorem dX9_mostDishes_40 : decode cX9_mostDishes 40 = .ok (.isub, 1) := by decide +kernel
theorem dX9_mostDishes_41 : decode cX9_mostDishes 41 = .ok (.istore 5, 2) := by decide +kernel
theorem dX9_mostDishes_43 : decode cX9_mostDishes 43 = .ok (.iload 4, 2) := by decide +kernel
theorem dX9_mostDishes_45 : decode cX9_mostDishes 45 = .ok (.iload_n 1, 1) := by decide +kernel
theorem dX9_mostDishes_46 : decode cX9_mostDishes 46 = .ok (.if_icmp .gt 28, 3) := by decide +kernel
theorem dX9_mostDishes_49 : decode cX9_mostDishes 49 = .ok (.iload 5, 2) := by decide +kernel
theorem dX9_mostDishes_51 : decode cX9_mostDishes 51 = .ok (.ifCond .gt 21, 3) := by decide +kernel
theorem dX9_mostDishes_54 : decode cX9_mostDishes 54 = .ok (.iload 5, 2) := by decide +kernel
theorem dX9_mostDishes_56 : decode cX9_mostDishes 56 = .ok (.ifCond .ne 18, 3) := by decide +kernel
theorem dX9_mostDishes_59 : decode cX9_mostDishes 59 = .ok (.iload 4, 2) := by decide +kernel
theorem dX9_mostDishes_61 : decode cX9_mostDishes 61 = .ok (.aload_n 0, 1) := by decide +kernel
theorem dX9_mostDishes_62 : decode cX9_mostDishes 62 = .ok (.getfield 21, 3) := by decide +kernel
theorem dX9_mostDishes_65 : decode cX9_mostDishes 65 = .ok (.iload_n 2, 1) := by decide +kernel
theorem dX9_mostDishes_66 : decode cX9_mostDishes 66 = .ok (.invokevirtual 134, 3) := by decide +kernel
theorem dX9_mostDishes_69 : decode cX9_mostDishes 69 = .ok (.if_icmp .ge 5, 3) := by decide +kernel
theorem dX9_mostDishes_72 : decode cX9_mostDishes 72 = .ok (.iload_n 3, 1) := by decide +kernel
theorem dX9_mostDishes_73 : decode cX9_mostDishes 73 = .ok (.istore_n 2, 1) := by decide +kernel
theorem dX9_mostDishes_74 : decode cX9_mostDishes 74 = .ok (.iinc 3 1, 3) := by decide +kernel
theorem dX9_mostDishes_77 : decode cX9_mostDishes 77 = .ok (.goto (-68), 3) := by decide +kernel
theorem dX9_mostDishes_80 : decode cX9_mostDishes 80 = .ok (.aload_n 0, 1) := by decide +kernel
theorem dX9_mostDishes_81 : decode cX9_mostDishes 81 = .ok (.iload_n 2, 1) := by decide +kernel
theorem dX9_mostDishes_82 : decode cX9_mostDishes 82 = .ok (.putfield 42, 3) := by decide +kernel
theorem dX9_mostDishes_85 : decode cX9_mostDishes 85 = .ok (.iload_n 2, 1) := by decide +kernel
theorem dX9_mostDishes_86 : decode cX9_mostDishes 86 = .ok (.invokestatic 87, 3) := by decide +kernel
theorem dX9_mostDishes_89 : decode cX9_mostDishes 89 = .ok (.ireturn, 1) := by decide +kernel
theorem dX9_fewestCoinsOfPayers_0 : decode cX9_fewestCoinsOfPayers 0 = .ok (.sipush 9999, 3) := by decide +kernel
theorem dX9_fewestCoinsOfPayers_3 : decode cX9_fewestCoinsOfPayers 3 = .ok (.istore_n 1, 1) := by decide +kernel
theorem dX9_fewestCoinsOfPayers_4 : decode cX9_fewestCoinsOfPayers 4 = .ok (.iconst 0, 1) := by decide +kernel
theorem dX9_fewestCoinsOfPayers_5 : decode cX9_fewestCoinsOfPayers 5 = .ok (.istore_n 2, 1) := by decide +kernel
theorem dX9_fewestCoinsOfPayers_6 : decode cX9_fewestCoinsOfPayers 6 = .ok (.iload_n 2, 1) := by decide +kernel
theorem dX9_fewestCoinsOfPayers_7 : decode cX9_fewestCoinsOfPayers 7 = .ok (.aload_n 0, 1) := by decide +kernel
theorem dX9_fewestCoinsOfPayers_8 : decode cX9_fewestCoinsOfPayers 8 = .ok (.getfield 21, 3) := by decide +kernel
theorem dX9_fewestCoinsOfPayers_11 : decode cX9_fewestCoinsOfPayers 11 = .ok (.getfield 96, 3) := by decide +kernel
theorem dX9_fewestCoinsOfPayers_14 : decode cX9_fewestCoinsOfPayers 14 = .ok (.if_icmp .ge 31, 3) := by decide +kernel
theorem dX9_fewestCoinsOfPayers_17 : decode cX9_fewestCoinsOfPayers 17 = .ok (.iload_n 1, 1) := by decide +kernel
theorem dX9_fewestCoinsOfPayers_18 : decode cX9_fewestCoinsOfPayers 18 = .ok (.aload_n 0, 1) := by decide +kernel
theorem dX9_fewestCoinsOfPayers_19 : decode cX9_fewestCoinsOfPayers 19 = .ok (.getfield 9, 3) := by decide +kernel
theorem dX9_fewestCoinsOfPayers_22 : decode cX9_fewestCoinsOfPayers 22 = .ok (.getfield 118, 3) := by decide +kernel
theorem dX9_fewestCoinsOfPayers_25 : decode cX9_fewestCoinsOfPayers 25 = .ok (.aload_n 0, 1) := by decide +kernel
theorem dX9_fewestCoinsOfPayers_26 : decode cX9_fewestCoinsOfPayers 26 = .ok (.getfield 21, 3) := by decide +kernel
theorem dX9_fewestCoinsOfPayers_29 : decode cX9_fewestCoinsOfPayers 29 = .ok (.getfield 121, 3) := by decide +kernel
theorem dX9_fewestCoinsOfPayers_32 : decode cX9_fewestCoinsOfPayers 32 = .ok (.iload_n 2, 1) := by decide +kernel
theorem dX9_fewestCoinsOfPayers_33 : decode cX9_fewestCoinsOfPayers 33 = .ok (.iaload, 1) := by decide +kernel
theorem dX9_fewestCoinsOfPayers_34 : decode cX9_fewestCoinsOfPayers 34 = .ok (.iaload, 1) := by decide +kernel
theorem dX9_fewestCoinsOfPayers_35 : decode cX9_fewestCoinsOfPayers 35 = .ok (.invokestatic 137, 3) := by decide +kernel
theorem dX9_fewestCoinsOfPayers_38 : decode cX9_fewestCoinsOfPayers 38 = .ok (.istore_n 1, 1) := by decide +kernel
theorem dX9_fewestCoinsOfPayers_39 : decode cX9_fewestCoinsOfPayers 39 = .ok (.iinc 2 1, 3) := by decide +kernel
theorem dX9_fewestCoinsOfPayers_42 : decode cX9_fewestCoinsOfPayers 42 = .ok (.goto (-36), 3) := by decide +kernel
theorem dX9_fewestCoinsOfPayers_45 : decode cX9_fewestCoinsOfPayers 45 = .ok (.iload_n 1, 1) := by decide +kernel
theorem dX9_fewestCoinsOfPayers_46 : decode cX9_fewestCoinsOfPayers 46 = .ok (.ireturn, 1) := by decide +kernel
set_option maxRecDepth 20000 in
theorem ggX9_pridesBy_X10_at : GoodIn wsX9_pridesBy wsX10_at := goodIn_r _ [7, 8, 9, 31, 32] (by decide +kernel) (by decide +kernel)
set_option maxRecDepth 20000 in
theorem gX9_pridesBy_X10_at : GoodIn wsX9_pridesBy (wsV RX9 147 RX10 yX10_at wsX10_at) := goodIn_app (goodIn_of _ (by decide +kernel)) ggX9_pridesBy_X10_at
set_option maxRecDepth 20000 in
theorem ggX9_pridesBy_X9_pridesUpTo : GoodIn wsX9_pridesBy wsX9_pridesUpTo := goodIn_r _ [13, 14, 15, 16, 17] (by decide +kernel) (by decide +kernel)
set_option maxRecDepth 20000 in
theorem gX9_pridesBy_X9_pridesUpTo : GoodIn wsX9_pridesBy (va_wsS RX9 150 yX9_pridesUpTo wsX9_pridesUpTo) := goodIn_app (goodIn_of _ (by decide +kernel)) ggX9_pridesBy_X9_pridesUpTo
set_option maxRecDepth 20000 in
theorem ggX9_pridesBy_X9_bestWatch : GoodIn wsX9_pridesBy wsX9_bestWatch := goodIn_r _ [20, 21, 22, 16, 23, 10, 11, 12, 13, 14, 15, 17, 24, 25, 26, 27, 28, 29, 30] (by decide +kernel) (by decide +kernel)
set_option maxRecDepth 20000 in
theorem gX9_pridesBy_X9_bestWatch : GoodIn wsX9_pridesBy (va_wsS RX9 153 yX9_bestWatch wsX9_bestWatch) := goodIn_app (goodIn_of _ (by decide +kernel)) ggX9_pridesBy_X9_bestWatch
theorem dX9_pridesBy_0 : decode cX9_pridesBy 0 = .ok (.aload_n 1, 1) := by decide +kernel
theorem dX9_pridesBy_1 : decode cX9_pridesBy 1 = .ok (.getfield 142, 3) := by decide +kernel
theorem dX9_pridesBy_4 : decode cX9_pridesBy 4 = .ok (.iconst 2, 1) := by decide +kernel
theorem dX9_pridesBy_5 : decode cX9_pridesBy 5 = .ok (.idiv, 1) := by decide +kernel
theorem dX9_pridesBy_6 : decode cX9_pridesBy 6 = .ok (.istore_n 2, 1) := by decide +kernel
theorem dX9_pridesBy_7 : decode cX9_pridesBy 7 = .ok (.aload_n 1, 1) := by decide +kernel
theorem dX9_pridesBy_8 : decode cX9_pridesBy 8 = .ok (.getfield 142, 3) := by decide +kernel
theorem dX9_pridesBy_11 : decode cX9_pridesBy 11 = .ok (.iconst 2, 1) := by decide +kernel
theorem dX9_pridesBy_12 : decode cX9_pridesBy 12 = .ok (.irem, 1) := by decide +kernel
theorem dX9_pridesBy_13 : decode cX9_pridesBy 13 = .ok (.ifCond .ne 14, 3) := by decide +kernel
theorem dX9_pridesBy_16 : decode cX9_pridesBy 16 = .ok (.iload_n 2, 1) := by decide +kernel
theorem dX9_pridesBy_17 : decode cX9_pridesBy 17 = .ok (.iconst 1, 1) := by decide +kernel
theorem dX9_pridesBy_18 : decode cX9_pridesBy 18 = .ok (.if_icmp .lt 9, 3) := by decide +kernel
theorem dX9_pridesBy_21 : decode cX9_pridesBy 21 = .ok (.iload_n 2, 1) := by decide +kernel
theorem dX9_pridesBy_22 : decode cX9_pridesBy 22 = .ok (.bipush 8, 2) := by decide +kernel
theorem dX9_pridesBy_24 : decode cX9_pridesBy 24 = .ok (.if_icmp .le 5, 3) := by decide +kernel
theorem dX9_pridesBy_27 : decode cX9_pridesBy 27 = .ok (.iconst (-1), 1) := by decide +kernel
theorem dX9_pridesBy_28 : decode cX9_pridesBy 28 = .ok (.ireturn, 1) := by decide +kernel
theorem dX9_pridesBy_29 : decode cX9_pridesBy 29 = .ok (.sipush 1023, 3) := by decide +kernel
theorem dX9_pridesBy_32 : decode cX9_pridesBy 32 = .ok (.istore_n 3, 1) := by decide +kernel
theorem dX9_pridesBy_33 : decode cX9_pridesBy 33 = .ok (.iconst 0, 1) := by decide +kernel
theorem dX9_pridesBy_34 : decode cX9_pridesBy 34 = .ok (.istore 4, 2) := by decide +kernel
theorem dX9_pridesBy_36 : decode cX9_pridesBy 36 = .ok (.iload 4, 2) := by decide +kernel
theorem dX9_pridesBy_38 : decode cX9_pridesBy 38 = .ok (.iload_n 2, 1) := by decide +kernel
theorem dX9_pridesBy_39 : decode cX9_pridesBy 39 = .ok (.if_icmp .ge 60, 3) := by decide +kernel
theorem dX9_pridesBy_42 : decode cX9_pridesBy 42 = .ok (.aload_n 1, 1) := by decide +kernel
theorem dX9_pridesBy_43 : decode cX9_pridesBy 43 = .ok (.iconst 2, 1) := by decide +kernel
theorem dX9_pridesBy_44 : decode cX9_pridesBy 44 = .ok (.iload 4, 2) := by decide +kernel
theorem dX9_pridesBy_46 : decode cX9_pridesBy 46 = .ok (.imul, 1) := by decide +kernel
theorem dX9_pridesBy_47 : decode cX9_pridesBy 47 = .ok (.iconst 1, 1) := by decide +kernel
theorem dX9_pridesBy_48 : decode cX9_pridesBy 48 = .ok (.iadd, 1) := by decide +kernel
theorem dX9_pridesBy_49 : decode cX9_pridesBy 49 = .ok (.invokevirtual 147, 3) := by decide +kernel
theorem dX9_pridesBy_52 : decode cX9_pridesBy 52 = .ok (.istore 5, 2) := by decide +kernel
theorem dX9_pridesBy_54 : decode cX9_pridesBy 54 = .ok (.iload 5, 2) := by decide +kernel
theorem dX9_pridesBy_56 : decode cX9_pridesBy 56 = .ok (.iconst 1, 1) := by decide +kernel
theorem dX9_pridesBy_57 : decode cX9_pridesBy 57 = .ok (.if_icmp .le 5, 3) := by decide +kernel
theorem dX9_pridesBy_60 : decode cX9_pridesBy 60 = .ok (.iconst (-1), 1) := by decide +kernel
theorem dX9_pridesBy_61 : decode cX9_pridesBy 61 = .ok (.ireturn, 1) := by decide +kernel
theorem dX9_pridesBy_62 : decode cX9_pridesBy 62 = .ok (.aload_n 1, 1) := by decide +kernel
theorem dX9_pridesBy_63 : decode cX9_pridesBy 63 = .ok (.iconst 2, 1) := by decide +kernel
theorem dX9_pridesBy_64 : decode cX9_pridesBy 64 = .ok (.iload 4, 2) := by decide +kernel
theorem dX9_pridesBy_66 : decode cX9_pridesBy 66 = .ok (.imul, 1) := by decide +kernel
theorem dX9_pridesBy_67 : decode cX9_pridesBy 67 = .ok (.invokevirtual 147, 3) := by decide +kernel
theorem dX9_pridesBy_70 : decode cX9_pridesBy 70 = .ok (.invokestatic 150, 3) := by decide +kernel
theorem dX9_pridesBy_73 : decode cX9_pridesBy 73 = .ok (.istore 6, 2) := by decide +kernel
theorem dX9_pridesBy_75 : decode cX9_pridesBy 75 = .ok (.iload_n 3, 1) := by decide +kernel
theorem dX9_pridesBy_76 : decode cX9_pridesBy 76 = .ok (.iload 5, 2) := by decide +kernel
theorem dX9_pridesBy_78 : decode cX9_pridesBy 78 = .ok (.iconst 1, 1) := by decide +kernel
theorem dX9_pridesBy_79 : decode cX9_pridesBy 79 = .ok (.if_icmp .ne 8, 3) := by decide +kernel
theorem dX9_pridesBy_82 : decode cX9_pridesBy 82 = .ok (.iload 6, 2) := by decide +kernel
theorem dX9_pridesBy_84 : decode cX9_pridesBy 84 = .ok (.goto 7, 3) := by decide +kernel
theorem dX9_pridesBy_87 : decode cX9_pridesBy 87 = .ok (.iload 6, 2) := by decide +kernel
theorem dX9_pridesBy_89 : decode cX9_pridesBy 89 = .ok (.iconst (-1), 1) := by decide +kernel
theorem dX9_pridesBy_90 : decode cX9_pridesBy 90 = .ok (.ixor, 1) := by decide +kernel
theorem dX9_pridesBy_91 : decode cX9_pridesBy 91 = .ok (.iand, 1) := by decide +kernel
theorem dX9_pridesBy_92 : decode cX9_pridesBy 92 = .ok (.istore_n 3, 1) := by decide +kernel
theorem dX9_pridesBy_93 : decode cX9_pridesBy 93 = .ok (.iinc 4 1, 3) := by decide +kernel
theorem dX9_pridesBy_96 : decode cX9_pridesBy 96 = .ok (.goto (-60), 3) := by decide +kernel
theorem dX9_pridesBy_99 : decode cX9_pridesBy 99 = .ok (.iload_n 3, 1) := by decide +kernel
theorem dX9_pridesBy_100 : decode cX9_pridesBy 100 = .ok (.ifCond .le 11, 3) := by decide +kernel
theorem dX9_pridesBy_103 : decode cX9_pridesBy 103 = .ok (.aload_n 0, 1) := by decide +kernel
theorem dX9_pridesBy_104 : decode cX9_pridesBy 104 = .ok (.iload_n 3, 1) := by decide +kernel
theorem dX9_pridesBy_105 : decode cX9_pridesBy 105 = .ok (.invokestatic 153, 3) := by decide +kernel
theorem dX9_pridesBy_108 : decode cX9_pridesBy 108 = .ok (.putfield 45, 3) := by decide +kernel
theorem dX9_pridesBy_111 : decode cX9_pridesBy 111 = .ok (.iload_n 3, 1) := by decide +kernel
theorem dX9_pridesBy_112 : decode cX9_pridesBy 112 = .ok (.ireturn, 1) := by decide +kernel
theorem dX9_pridesUpTo_0 : decode cX9_pridesUpTo 0 = .ok (.iconst 1, 1) := by decide +kernel
theorem dX9_pridesUpTo_1 : decode cX9_pridesUpTo 1 = .ok (.iload_n 0, 1) := by decide +kernel
theorem dX9_pridesUpTo_2 : decode cX9_pridesUpTo 2 = .ok (.bipush 9, 2) := by decide +kernel
theorem dX9_pridesUpTo_4 : decode cX9_pridesUpTo 4 = .ok (.invokestatic 137, 3) := by decide +kernel
theorem dX9_pridesUpTo_7 : decode cX9_pridesUpTo 7 = .ok (.iconst 1, 1) := by decide +kernel
theorem dX9_pridesUpTo_8 : decode cX9_pridesUpTo 8 = .ok (.iadd, 1) := by decide +kernel
theorem dX9_pridesUpTo_9 : decode cX9_pridesUpTo 9 = .ok (.ishl, 1) := by decide +kernel
theorem dX9_pridesUpTo_10 : decode cX9_pridesUpTo 10 = .ok (.iconst 1, 1) := by decide +kernel
theorem dX9_pridesUpTo_11 : decode cX9_pridesUpTo 11 = .ok (.isub, 1) := by decide +kernel
theorem dX9_pridesUpTo_12 : decode cX9_pridesUpTo 12 = .ok (.ireturn, 1) := by decide +kernel
set_option maxRecDepth 20000 in
theorem ggX9_bestWatch_X9_pridesUpTo : GoodIn wsX9_bestWatch wsX9_pridesUpTo := goodIn_r _ [8, 9, 10, 3, 11] (by decide +kernel) (by decide +kernel)
set_option maxRecDepth 20000 in
theorem gX9_bestWatch_X9_pridesUpTo : GoodIn wsX9_bestWatch (va_wsS RX9 150 yX9_pridesUpTo wsX9_pridesUpTo) := goodIn_app (goodIn_of _ (by decide +kernel)) ggX9_bestWatch_X9_pridesUpTo
set_option maxRecDepth 20000 in
theorem ggX9_bestWatch_J6_bitCount_0f7a4 : GoodIn wsX9_bestWatch wsJ6_bitCount_0f7a4 := goodIn_r _ [15, 16, 17, 18] (by decide +kernel) (by decide +kernel)
set_option maxRecDepth 20000 in
theorem gX9_bestWatch_J6_bitCount_0f7a4 : GoodIn wsX9_bestWatch (va_wsS RX9 87 yJ6_bitCount_0f7a4 wsJ6_bitCount_0f7a4) := goodIn_app (goodIn_of _ (by decide +kernel)) ggX9_bestWatch_J6_bitCount_0f7a4
theorem dX9_bestWatch_0 : decode cX9_bestWatch 0 = .ok (.iconst 0, 1) := by decide +kernel
theorem dX9_bestWatch_1 : decode cX9_bestWatch 1 = .ok (.istore_n 1, 1) := by decide +kernel
theorem dX9_bestWatch_2 : decode cX9_bestWatch 2 = .ok (.bipush 11, 2) := by decide +kernel
theorem dX9_bestWatch_4 : decode cX9_bestWatch 4 = .ok (.istore_n 2, 1) := by decide +kernel
theorem dX9_bestWatch_5 : decode cX9_bestWatch 5 = .ok (.iconst 0, 1) := by decide +kernel
theorem dX9_bestWatch_6 : decode cX9_bestWatch 6 = .ok (.istore_n 3, 1) := by decide +kernel
theorem dX9_bestWatch_7 : decode cX9_bestWatch 7 = .ok (.iload_n 3, 1) := by decide +kernel
theorem dX9_bestWatch_8 : decode cX9_bestWatch 8 = .ok (.bipush 9, 2) := by decide +kernel
theorem dX9_bestWatch_10 : decode cX9_bestWatch 10 = .ok (.if_icmp .gt 45, 3) := by decide +kernel
theorem dX9_bestWatch_13 : decode cX9_bestWatch 13 = .ok (.iload_n 0, 1) := by decide +kernel
theorem dX9_bestWatch_14 : decode cX9_bestWatch 14 = .ok (.iload_n 3, 1) := by decide +kernel
theorem dX9_bestWatch_15 : decode cX9_bestWatch 15 = .ok (.invokestatic 150, 3) := by decide +kernel
theorem dX9_bestWatch_18 : decode cX9_bestWatch 18 = .ok (.iand, 1) := by decide +kernel
theorem dX9_bestWatch_19 : decode cX9_bestWatch 19 = .ok (.invokestatic 87, 3) := by decide +kernel
theorem dX9_bestWatch_22 : decode cX9_bestWatch 22 = .ok (.istore 4, 2) := by decide +kernel
theorem dX9_bestWatch_24 : decode cX9_bestWatch 24 = .ok (.iload 4, 2) := by decide +kernel
theorem dX9_bestWatch_26 : decode cX9_bestWatch 26 = .ok (.iload_n 0, 1) := by decide +kernel
theorem dX9_bestWatch_27 : decode cX9_bestWatch 27 = .ok (.invokestatic 87, 3) := by decide +kernel
theorem dX9_bestWatch_30 : decode cX9_bestWatch 30 = .ok (.iload 4, 2) := by decide +kernel
theorem dX9_bestWatch_32 : decode cX9_bestWatch 32 = .ok (.isub, 1) := by decide +kernel
theorem dX9_bestWatch_33 : decode cX9_bestWatch 33 = .ok (.invokestatic 156, 3) := by decide +kernel
theorem dX9_bestWatch_36 : decode cX9_bestWatch 36 = .ok (.istore 5, 2) := by decide +kernel
theorem dX9_bestWatch_38 : decode cX9_bestWatch 38 = .ok (.iload 5, 2) := by decide +kernel
theorem dX9_bestWatch_40 : decode cX9_bestWatch 40 = .ok (.iload_n 2, 1) := by decide +kernel
theorem dX9_bestWatch_41 : decode cX9_bestWatch 41 = .ok (.if_icmp .ge 8, 3) := by decide +kernel
theorem dX9_bestWatch_44 : decode cX9_bestWatch 44 = .ok (.iload 5, 2) := by decide +kernel
theorem dX9_bestWatch_46 : decode cX9_bestWatch 46 = .ok (.istore_n 2, 1) := by decide +kernel
theorem dX9_bestWatch_47 : decode cX9_bestWatch 47 = .ok (.iload_n 3, 1) := by decide +kernel
theorem dX9_bestWatch_48 : decode cX9_bestWatch 48 = .ok (.istore_n 1, 1) := by decide +kernel
theorem dX9_bestWatch_49 : decode cX9_bestWatch 49 = .ok (.iinc 3 1, 3) := by decide +kernel
theorem dX9_bestWatch_52 : decode cX9_bestWatch 52 = .ok (.goto (-45), 3) := by decide +kernel
theorem dX9_bestWatch_55 : decode cX9_bestWatch 55 = .ok (.iload_n 1, 1) := by decide +kernel
theorem dX9_bestWatch_56 : decode cX9_bestWatch 56 = .ok (.ireturn, 1) := by decide +kernel
set_option maxRecDepth 20000 in
theorem ggX9_seedsThatMakeHost_X1_copyFrom : GoodIn wsX9_seedsThatMakeHost wsX1_copyFrom := goodIn_r _ [8, 9, 10, 11, 12, 13, 14, 15, 16, 17, 18, 19, 20, 21, 22, 23, 24, 25, 26, 113, 114, 115, 116, 117, 118, 119, 120, 121, 122, 123, 124, 125, 126, 127, 128] (by decide +kernel) (by decide +kernel)
set_option maxRecDepth 20000 in
theorem gX9_seedsThatMakeHost_X1_copyFrom : GoodIn wsX9_seedsThatMakeHost (wsV RX9 48 RX1 yX1_copyFrom wsX1_copyFrom) := goodIn_app (goodIn_of _ (by decide +kernel)) ggX9_seedsThatMakeHost_X1_copyFrom
set_option maxRecDepth 20000 in
theorem ggX9_seedsThatMakeHost_X1_goDrawn : GoodIn wsX9_seedsThatMakeHost wsX1_goDrawn := goodIn_r _ [30, 31, 23, 32, 33, 34, 7, 35, 36, 37, 38, 39, 40, 41, 42, 43, 44, 45, 46, 47, 21, 48, 49, 50, 51, 20, 14, 22, 52, 53, 54, 55, 19, 56, 57, 58, 59, 60, 61, 62, 63, 64, 65, 66, 67, 68, 69, 70, 25, 16, 71, 15, 24, 72, 73, 74, 75, 76, 77, 78, 79, 80, 81, 82, 9, 83, 84, 85, 86, 18, 26, 17, 87, 88, 89, 90, 91, 92, 93, 94, 95, 96, 97, 98, 99, 100, 101, 102, 113, 114, 115, 116, 117, 118, 119, 120, 121, 122, 123, 124, 125, 126, 127, 128, 129, 130, 131, 132, 133, 134, 135, 136, 137, 138, 139] (by decide +kernel) (by decide +kernel)
set_option maxRecDepth 20000 in
theorem gX9_seedsThatMakeHost_X1_goDrawn : GoodIn wsX9_seedsThatMakeHost (wsV RX9 159 RX1 yX1_goDrawn wsX1_goDrawn) := goodIn_app (goodIn_of _ (by decide +kernel)) ggX9_seedsThatMakeHost_X1_goDrawn
theorem dX9_seedsThatMakeHost_0 : decode cX9_seedsThatMakeHost 0 = .ok (.iconst 0, 1) := by decide +kernel
theorem dX9_seedsThatMakeHost_1 : decode cX9_seedsThatMakeHost 1 = .ok (.istore 4, 2) := by decide +kernel
theorem dX9_seedsThatMakeHost_3 : decode cX9_seedsThatMakeHost 3 = .ok (.iconst 0, 1) := by decide +kernel
theorem dX9_seedsThatMakeHost_4 : decode cX9_seedsThatMakeHost 4 = .ok (.istore 5, 2) := by decide +kernel
theorem dX9_seedsThatMakeHost_6 : decode cX9_seedsThatMakeHost 6 = .ok (.iload 5, 2) := by decide +kernel
theorem dX9_seedsThatMakeHost_8 : decode cX9_seedsThatMakeHost 8 = .ok (.iload_n 2, 1) := by decide +kernel
theorem dX9_seedsThatMakeHost_9 : decode cX9_seedsThatMakeHost 9 = .ok (.if_icmp .ge 58, 3) := by decide +kernel
theorem dX9_seedsThatMakeHost_12 : decode cX9_seedsThatMakeHost 12 = .ok (.aload_n 0, 1) := by decide +kernel
theorem dX9_seedsThatMakeHost_13 : decode cX9_seedsThatMakeHost 13 = .ok (.getfield 25, 3) := by decide +kernel
theorem dX9_seedsThatMakeHost_16 : decode cX9_seedsThatMakeHost 16 = .ok (.aload_n 0, 1) := by decide +kernel
theorem dX9_seedsThatMakeHost_17 : decode cX9_seedsThatMakeHost 17 = .ok (.getfield 9, 3) := by decide +kernel
theorem dX9_seedsThatMakeHost_20 : decode cX9_seedsThatMakeHost 20 = .ok (.invokevirtual 48, 3) := by decide +kernel
theorem dX9_seedsThatMakeHost_23 : decode cX9_seedsThatMakeHost 23 = .ok (.aload_n 0, 1) := by decide +kernel
theorem dX9_seedsThatMakeHost_24 : decode cX9_seedsThatMakeHost 24 = .ok (.getfield 25, 3) := by decide +kernel
theorem dX9_seedsThatMakeHost_27 : decode cX9_seedsThatMakeHost 27 = .ok (.bipush 20, 2) := by decide +kernel
theorem dX9_seedsThatMakeHost_29 : decode cX9_seedsThatMakeHost 29 = .ok (.iload_n 3, 1) := by decide +kernel
theorem dX9_seedsThatMakeHost_30 : decode cX9_seedsThatMakeHost 30 = .ok (.iload 5, 2) := by decide +kernel
theorem dX9_seedsThatMakeHost_32 : decode cX9_seedsThatMakeHost 32 = .ok (.iadd, 1) := by decide +kernel
theorem dX9_seedsThatMakeHost_33 : decode cX9_seedsThatMakeHost 33 = .ok (.invokevirtual 159, 3) := by decide +kernel
theorem dX9_seedsThatMakeHost_36 : decode cX9_seedsThatMakeHost 36 = .ok (.pop, 1) := by decide +kernel
theorem dX9_seedsThatMakeHost_37 : decode cX9_seedsThatMakeHost 37 = .ok (.aload_n 0, 1) := by decide +kernel
theorem dX9_seedsThatMakeHost_38 : decode cX9_seedsThatMakeHost 38 = .ok (.getfield 25, 3) := by decide +kernel
theorem dX9_seedsThatMakeHost_41 : decode cX9_seedsThatMakeHost 41 = .ok (.getfield 162, 3) := by decide +kernel
theorem dX9_seedsThatMakeHost_44 : decode cX9_seedsThatMakeHost 44 = .ok (.iload_n 1, 1) := by decide +kernel
theorem dX9_seedsThatMakeHost_45 : decode cX9_seedsThatMakeHost 45 = .ok (.iaload, 1) := by decide +kernel
theorem dX9_seedsThatMakeHost_46 : decode cX9_seedsThatMakeHost 46 = .ok (.aload_n 0, 1) := by decide +kernel
theorem dX9_seedsThatMakeHost_47 : decode cX9_seedsThatMakeHost 47 = .ok (.getfield 9, 3) := by decide +kernel
theorem dX9_seedsThatMakeHost_50 : decode cX9_seedsThatMakeHost 50 = .ok (.getfield 162, 3) := by decide +kernel
theorem dX9_seedsThatMakeHost_53 : decode cX9_seedsThatMakeHost 53 = .ok (.iload_n 1, 1) := by decide +kernel
theorem dX9_seedsThatMakeHost_54 : decode cX9_seedsThatMakeHost 54 = .ok (.iaload, 1) := by decide +kernel
theorem dX9_seedsThatMakeHost_55 : decode cX9_seedsThatMakeHost 55 = .ok (.if_icmp .le 6, 3) := by decide +kernel
theorem dX9_seedsThatMakeHost_58 : decode cX9_seedsThatMakeHost 58 = .ok (.iinc 4 1, 3) := by decide +kernel
theorem dX9_seedsThatMakeHost_61 : decode cX9_seedsThatMakeHost 61 = .ok (.iinc 5 1, 3) := by decide +kernel
theorem dX9_seedsThatMakeHost_64 : decode cX9_seedsThatMakeHost 64 = .ok (.goto (-58), 3) := by decide +kernel
theorem dX9_seedsThatMakeHost_67 : decode cX9_seedsThatMakeHost 67 = .ok (.iload 4, 2) := by decide +kernel
theorem dX9_seedsThatMakeHost_69 : decode cX9_seedsThatMakeHost 69 = .ok (.ireturn, 1) := by decide +kernel
