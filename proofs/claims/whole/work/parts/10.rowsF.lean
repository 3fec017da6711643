theorem dX12_plate_45 : decode cX12_plate 45 = .ok (.ldc2_w 369, 3) := by decide +kernel
theorem dX12_plate_48 : decode cX12_plate 48 = .ok (.invokevirtual 371, 3) := by decide +kernel
theorem dX12_plate_51 : decode cX12_plate 51 = .ok (.aload_n 0, 1) := by decide +kernel
theorem dX12_plate_52 : decode cX12_plate 52 = .ok (.ldc2_w 374, 3) := by decide +kernel
theorem dX12_plate_55 : decode cX12_plate 55 = .ok (.invokevirtual 371, 3) := by decide +kernel
theorem dX12_plate_58 : decode cX12_plate 58 = .ok (.aload_n 0, 1) := by decide +kernel
theorem dX12_plate_59 : decode cX12_plate 59 = .ok (.bipush 32, 2) := by decide +kernel
theorem dX12_plate_61 : decode cX12_plate 61 = .ok (.invokevirtual 362, 3) := by decide +kernel
theorem dX12_plate_64 : decode cX12_plate 64 = .ok (.aload_n 0, 1) := by decide +kernel
theorem dX12_plate_65 : decode cX12_plate 65 = .ok (.bipush 48, 2) := by decide +kernel
theorem dX12_plate_67 : decode cX12_plate 67 = .ok (.aload_n 0, 1) := by decide +kernel
theorem dX12_plate_68 : decode cX12_plate 68 = .ok (.getfield 33, 3) := by decide +kernel
theorem dX12_plate_71 : decode cX12_plate 71 = .ok (.bipush 56, 2) := by decide +kernel
theorem dX12_plate_73 : decode cX12_plate 73 = .ok (.iload_n 1, 1) := by decide +kernel
theorem dX12_plate_74 : decode cX12_plate 74 = .ok (.iadd, 1) := by decide +kernel
theorem dX12_plate_75 : decode cX12_plate 75 = .ok (.iaload, 1) := by decide +kernel
theorem dX12_plate_76 : decode cX12_plate 76 = .ok (.iadd, 1) := by decide +kernel
theorem dX12_plate_77 : decode cX12_plate 77 = .ok (.invokevirtual 362, 3) := by decide +kernel
theorem dX12_plate_80 : decode cX12_plate 80 = .ok (.aload_n 0, 1) := by decide +kernel
theorem dX12_plate_81 : decode cX12_plate 81 = .ok (.getfield 33, 3) := by decide +kernel
theorem dX12_plate_84 : decode cX12_plate 84 = .ok (.bipush 78, 2) := by decide +kernel
theorem dX12_plate_86 : decode cX12_plate 86 = .ok (.iload_n 1, 1) := by decide +kernel
theorem dX12_plate_87 : decode cX12_plate 87 = .ok (.iadd, 1) := by decide +kernel
theorem dX12_plate_88 : decode cX12_plate 88 = .ok (.iaload, 1) := by decide +kernel
theorem dX12_plate_89 : decode cX12_plate 89 = .ok (.istore_n 2, 1) := by decide +kernel
theorem dX12_plate_90 : decode cX12_plate 90 = .ok (.iload_n 2, 1) := by decide +kernel
theorem dX12_plate_91 : decode cX12_plate 91 = .ok (.ifCond .ne 8, 3) := by decide +kernel
theorem dX12_plate_94 : decode cX12_plate 94 = .ok (.aload_n 0, 1) := by decide +kernel
theorem dX12_plate_95 : decode cX12_plate 95 = .ok (.getfield 357, 3) := by decide +kernel
theorem dX12_plate_98 : decode cX12_plate 98 = .ok (.ireturn, 1) := by decide +kernel
theorem dX12_plate_99 : decode cX12_plate 99 = .ok (.aload_n 0, 1) := by decide +kernel
theorem dX12_plate_100 : decode cX12_plate 100 = .ok (.ldc2_w 376, 3) := by decide +kernel
theorem dX12_plate_103 : decode cX12_plate 103 = .ok (.invokevirtual 371, 3) := by decide +kernel
theorem dX12_plate_106 : decode cX12_plate 106 = .ok (.aload_n 0, 1) := by decide +kernel
theorem dX12_plate_107 : decode cX12_plate 107 = .ok (.bipush 32, 2) := by decide +kernel
theorem dX12_plate_109 : decode cX12_plate 109 = .ok (.invokevirtual 362, 3) := by decide +kernel
theorem dX12_plate_112 : decode cX12_plate 112 = .ok (.sipush 10000, 3) := by decide +kernel
theorem dX12_plate_115 : decode cX12_plate 115 = .ok (.istore_n 3, 1) := by decide +kernel
theorem dX12_plate_116 : decode cX12_plate 116 = .ok (.iload_n 3, 1) := by decide +kernel
theorem dX12_plate_117 : decode cX12_plate 117 = .ok (.ifCond .le 29, 3) := by decide +kernel
theorem dX12_plate_120 : decode cX12_plate 120 = .ok (.iload_n 2, 1) := by decide +kernel
theorem dX12_plate_121 : decode cX12_plate 121 = .ok (.iload_n 3, 1) := by decide +kernel
theorem dX12_plate_122 : decode cX12_plate 122 = .ok (.if_icmp .lt 16, 3) := by decide +kernel
theorem dX12_plate_125 : decode cX12_plate 125 = .ok (.aload_n 0, 1) := by decide +kernel
theorem dX12_plate_126 : decode cX12_plate 126 = .ok (.bipush 48, 2) := by decide +kernel
theorem dX12_plate_128 : decode cX12_plate 128 = .ok (.iload_n 2, 1) := by decide +kernel
theorem dX12_plate_129 : decode cX12_plate 129 = .ok (.iload_n 3, 1) := by decide +kernel
theorem dX12_plate_130 : decode cX12_plate 130 = .ok (.idiv, 1) := by decide +kernel
theorem dX12_plate_131 : decode cX12_plate 131 = .ok (.bipush 10, 2) := by decide +kernel
theorem dX12_plate_133 : decode cX12_plate 133 = .ok (.irem, 1) := by decide +kernel
theorem dX12_plate_134 : decode cX12_plate 134 = .ok (.iadd, 1) := by decide +kernel
theorem dX12_plate_135 : decode cX12_plate 135 = .ok (.invokevirtual 362, 3) := by decide +kernel
theorem dX12_plate_138 : decode cX12_plate 138 = .ok (.iload_n 3, 1) := by decide +kernel
theorem dX12_plate_139 : decode cX12_plate 139 = .ok (.bipush 10, 2) := by decide +kernel
theorem dX12_plate_141 : decode cX12_plate 141 = .ok (.idiv, 1) := by decide +kernel
theorem dX12_plate_142 : decode cX12_plate 142 = .ok (.istore_n 3, 1) := by decide +kernel
theorem dX12_plate_143 : decode cX12_plate 143 = .ok (.goto (-27), 3) := by decide +kernel
theorem dX12_plate_146 : decode cX12_plate 146 = .ok (.aload_n 0, 1) := by decide +kernel
theorem dX12_plate_147 : decode cX12_plate 147 = .ok (.getfield 357, 3) := by decide +kernel
theorem dX12_plate_150 : decode cX12_plate 150 = .ok (.ireturn, 1) := by decide +kernel
set_option maxRecDepth 20000 in
theorem ggX12_byteAt_X12_isIn : GoodIn wsX12_byteAt wsX12_isIn := goodIn_r _ [7] (by decide +kernel) (by decide +kernel)
set_option maxRecDepth 20000 in
theorem gX12_byteAt_X12_isIn : GoodIn wsX12_byteAt (va_wsS RX12 182 yX12_isIn wsX12_isIn) := goodIn_app (goodIn_of _ (by decide +kernel)) ggX12_byteAt_X12_isIn
theorem dX12_byteAt_0 : decode cX12_byteAt 0 = .ok (.aload_n 0, 1) := by decide +kernel
theorem dX12_byteAt_1 : decode cX12_byteAt 1 = .ok (.iconst 0, 1) := by decide +kernel
theorem dX12_byteAt_2 : decode cX12_byteAt 2 = .ok (.putfield 1, 3) := by decide +kernel
theorem dX12_byteAt_5 : decode cX12_byteAt 5 = .ok (.iload_n 1, 1) := by decide +kernel
theorem dX12_byteAt_6 : decode cX12_byteAt 6 = .ok (.iconst 0, 1) := by decide +kernel
theorem dX12_byteAt_7 : decode cX12_byteAt 7 = .ok (.aload_n 0, 1) := by decide +kernel
theorem dX12_byteAt_8 : decode cX12_byteAt 8 = .ok (.getfield 357, 3) := by decide +kernel
theorem dX12_byteAt_11 : decode cX12_byteAt 11 = .ok (.iconst 1, 1) := by decide +kernel
theorem dX12_byteAt_12 : decode cX12_byteAt 12 = .ok (.isub, 1) := by decide +kernel
theorem dX12_byteAt_13 : decode cX12_byteAt 13 = .ok (.invokestatic 182, 3) := by decide +kernel
theorem dX12_byteAt_16 : decode cX12_byteAt 16 = .ok (.ifCond .eq 12, 3) := by decide +kernel
theorem dX12_byteAt_19 : decode cX12_byteAt 19 = .ok (.aload_n 0, 1) := by decide +kernel
theorem dX12_byteAt_20 : decode cX12_byteAt 20 = .ok (.getfield 71, 3) := by decide +kernel
theorem dX12_byteAt_23 : decode cX12_byteAt 23 = .ok (.iload_n 1, 1) := by decide +kernel
theorem dX12_byteAt_24 : decode cX12_byteAt 24 = .ok (.baload, 1) := by decide +kernel
theorem dX12_byteAt_25 : decode cX12_byteAt 25 = .ok (.goto 4, 3) := by decide +kernel
theorem dX12_byteAt_28 : decode cX12_byteAt 28 = .ok (.iconst (-1), 1) := by decide +kernel
theorem dX12_byteAt_29 : decode cX12_byteAt 29 = .ok (.ireturn, 1) := by decide +kernel
theorem dX12_draw_0 : decode cX12_draw 0 = .ok (.aload_n 0, 1) := by decide +kernel
theorem dX12_draw_1 : decode cX12_draw 1 = .ok (.aload_n 0, 1) := by decide +kernel
theorem dX12_draw_2 : decode cX12_draw 2 = .ok (.getfield 378, 3) := by decide +kernel
theorem dX12_draw_5 : decode cX12_draw 5 = .ok (.ldc_w 381, 3) := by decide +kernel
theorem dX12_draw_8 : decode cX12_draw 8 = .ok (.imul, 1) := by decide +kernel
theorem dX12_draw_9 : decode cX12_draw 9 = .ok (.sipush 12345, 3) := by decide +kernel
theorem dX12_draw_12 : decode cX12_draw 12 = .ok (.iadd, 1) := by decide +kernel
theorem dX12_draw_13 : decode cX12_draw 13 = .ok (.putfield 378, 3) := by decide +kernel
theorem dX12_draw_16 : decode cX12_draw 16 = .ok (.aload_n 0, 1) := by decide +kernel
theorem dX12_draw_17 : decode cX12_draw 17 = .ok (.getfield 378, 3) := by decide +kernel
theorem dX12_draw_20 : decode cX12_draw 20 = .ok (.bipush 8, 2) := by decide +kernel
theorem dX12_draw_22 : decode cX12_draw 22 = .ok (.iushr, 1) := by decide +kernel
theorem dX12_draw_23 : decode cX12_draw 23 = .ok (.iload_n 1, 1) := by decide +kernel
theorem dX12_draw_24 : decode cX12_draw 24 = .ok (.irem, 1) := by decide +kernel
theorem dX12_draw_25 : decode cX12_draw 25 = .ok (.ireturn, 1) := by decide +kernel
set_option maxRecDepth 20000 in
theorem ggX12_draws_X12_draw : GoodIn wsX12_draws wsX12_draw := goodIn_r _ [7, 1, 8, 47, 48, 49, 50, 51, 52, 53, 54, 55, 56, 57, 58, 59, 60, 61, 62, 63, 64, 65, 66, 67, 68, 69, 70, 71, 72, 73, 74, 75, 76, 77, 78, 79, 80, 81, 82, 83, 84, 85, 86, 87, 88, 89, 90, 91, 92, 93, 94, 95, 96, 97, 98] (by decide +kernel) (by decide +kernel)
set_option maxRecDepth 20000 in
theorem gX12_draws_X12_draw : GoodIn wsX12_draws (wsV RX12 382 RX12 yX12_draw wsX12_draw) := goodIn_app (goodIn_of _ (by decide +kernel)) ggX12_draws_X12_draw
set_option maxRecDepth 20000 in
theorem ggX12_draws_X12_whySit : GoodIn wsX12_draws wsX12_whySit := goodIn_r _ [12, 2, 13, 14, 15, 6, 16, 17, 18, 19, 20, 21, 22, 23, 47, 48, 49, 50, 51, 52, 53, 54, 55, 56, 57, 58, 59, 60, 61, 62, 63, 64, 65, 66, 67, 68, 69, 70, 71, 72, 73, 74, 75, 76, 77, 78, 79, 80, 81, 82, 83, 84, 85, 86, 87, 88, 89, 90, 91, 92, 93, 94, 95, 96, 97, 98] (by decide +kernel) (by decide +kernel)
set_option maxRecDepth 20000 in
theorem gX12_draws_X12_whySit : GoodIn wsX12_draws (wsV RX12 284 RX12 yX12_whySit wsX12_whySit) := goodIn_app (goodIn_of _ (by decide +kernel)) ggX12_draws_X12_whySit
set_option maxRecDepth 20000 in
theorem ggX12_draws_X12_sits : GoodIn wsX12_draws wsX12_sits := goodIn_r _ [27, 2, 28, 29, 30, 6, 31, 17, 18, 19, 32, 33, 34, 35, 36, 37, 38, 39, 40, 41, 42, 47, 48, 49, 50, 51, 52, 53, 54, 55, 56, 57, 58, 59, 60, 61, 62, 63, 64, 65, 66, 67, 68, 69, 70, 71, 72, 73, 74, 75, 76, 77, 78, 79, 80, 81, 82, 83, 84, 85, 86, 87, 88, 89, 90, 91, 92, 93, 94, 95, 96, 97, 98] (by decide +kernel) (by decide +kernel)
set_option maxRecDepth 20000 in
theorem gX12_draws_X12_sits : GoodIn wsX12_draws (wsV RX12 287 RX12 yX12_sits wsX12_sits) := goodIn_app (goodIn_of _ (by decide +kernel)) ggX12_draws_X12_sits
set_option maxRecDepth 20000 in
theorem ggX12_draws_X12_round : GoodIn wsX12_draws wsX12_round := goodIn_r _ [46, 2, 13, 14, 15, 6, 16, 17, 18, 19, 40, 41, 42, 9, 10, 11, 12, 20, 21, 22, 23, 24, 25, 26, 27, 28, 29, 30, 31, 32, 33, 34, 35, 36, 37, 38, 39, 47, 48, 49, 50, 51, 52, 53, 54, 55, 56, 57, 58, 59, 60, 61, 62, 63, 64, 65, 66, 67, 68, 69, 70, 71, 72, 73, 74, 75, 76, 77, 78, 79, 80, 81, 82, 83, 84, 85, 86, 87, 88, 89, 90, 91, 92, 93, 94, 95, 96, 97, 98] (by decide +kernel) (by decide +kernel)
set_option maxRecDepth 20000 in
theorem gX12_draws_X12_round : GoodIn wsX12_draws (wsV RX12 290 RX12 yX12_round wsX12_round) := goodIn_app (goodIn_of _ (by decide +kernel)) ggX12_draws_X12_round
theorem dX12_draws_0 : decode cX12_draws 0 = .ok (.aload_n 0, 1) := by decide +kernel
theorem dX12_draws_1 : decode cX12_draws 1 = .ok (.iload_n 2, 1) := by decide +kernel
theorem dX12_draws_2 : decode cX12_draws 2 = .ok (.putfield 378, 3) := by decide +kernel
theorem dX12_draws_5 : decode cX12_draws 5 = .ok (.iconst 0, 1) := by decide +kernel
theorem dX12_draws_6 : decode cX12_draws 6 = .ok (.istore_n 3, 1) := by decide +kernel
theorem dX12_draws_7 : decode cX12_draws 7 = .ok (.iload_n 3, 1) := by decide +kernel
theorem dX12_draws_8 : decode cX12_draws 8 = .ok (.iload_n 1, 1) := by decide +kernel
theorem dX12_draws_9 : decode cX12_draws 9 = .ok (.if_icmp .ge 138, 3) := by decide +kernel
theorem dX12_draws_12 : decode cX12_draws 12 = .ok (.aload_n 0, 1) := by decide +kernel
theorem dX12_draws_13 : decode cX12_draws 13 = .ok (.getfield 33, 3) := by decide +kernel
theorem dX12_draws_16 : decode cX12_draws 16 = .ok (.bipush 44, 2) := by decide +kernel
theorem dX12_draws_18 : decode cX12_draws 18 = .ok (.iaload, 1) := by decide +kernel
theorem dX12_draws_19 : decode cX12_draws 19 = .ok (.sipush 400, 3) := by decide +kernel
theorem dX12_draws_22 : decode cX12_draws 22 = .ok (.if_icmp .ge 125, 3) := by decide +kernel
theorem dX12_draws_25 : decode cX12_draws 25 = .ok (.aload_n 0, 1) := by decide +kernel
theorem dX12_draws_26 : decode cX12_draws 26 = .ok (.getfield 33, 3) := by decide +kernel
theorem dX12_draws_29 : decode cX12_draws 29 = .ok (.iconst 2, 1) := by decide +kernel
theorem dX12_draws_30 : decode cX12_draws 30 = .ok (.iaload, 1) := by decide +kernel
theorem dX12_draws_31 : decode cX12_draws 31 = .ok (.ifCond .le 33, 3) := by decide +kernel
theorem dX12_draws_34 : decode cX12_draws 34 = .ok (.aload_n 0, 1) := by decide +kernel
theorem dX12_draws_35 : decode cX12_draws 35 = .ok (.iconst 2, 1) := by decide +kernel
theorem dX12_draws_36 : decode cX12_draws 36 = .ok (.invokevirtual 382, 3) := by decide +kernel
theorem dX12_draws_39 : decode cX12_draws 39 = .ok (.ifCond .ne 25, 3) := by decide +kernel
theorem dX12_draws_42 : decode cX12_draws 42 = .ok (.aload_n 0, 1) := by decide +kernel
theorem dX12_draws_43 : decode cX12_draws 43 = .ok (.getfield 33, 3) := by decide +kernel
theorem dX12_draws_46 : decode cX12_draws 46 = .ok (.bipush 45, 2) := by decide +kernel
theorem dX12_draws_48 : decode cX12_draws 48 = .ok (.dup2, 1) := by decide +kernel
theorem dX12_draws_49 : decode cX12_draws 49 = .ok (.iaload, 1) := by decide +kernel
theorem dX12_draws_50 : decode cX12_draws 50 = .ok (.iconst 1, 1) := by decide +kernel
theorem dX12_draws_51 : decode cX12_draws 51 = .ok (.aload_n 0, 1) := by decide +kernel
theorem dX12_draws_52 : decode cX12_draws 52 = .ok (.aload_n 0, 1) := by decide +kernel
theorem dX12_draws_53 : decode cX12_draws 53 = .ok (.getfield 33, 3) := by decide +kernel
theorem dX12_draws_56 : decode cX12_draws 56 = .ok (.iconst 2, 1) := by decide +kernel
theorem dX12_draws_57 : decode cX12_draws 57 = .ok (.iaload, 1) := by decide +kernel
theorem dX12_draws_58 : decode cX12_draws 58 = .ok (.invokevirtual 382, 3) := by decide +kernel
theorem dX12_draws_61 : decode cX12_draws 61 = .ok (.ishl, 1) := by decide +kernel
theorem dX12_draws_62 : decode cX12_draws 62 = .ok (.ior, 1) := by decide +kernel
theorem dX12_draws_63 : decode cX12_draws 63 = .ok (.iastore, 1) := by decide +kernel
theorem dX12_draws_64 : decode cX12_draws 64 = .ok (.iconst 0, 1) := by decide +kernel
theorem dX12_draws_65 : decode cX12_draws 65 = .ok (.istore 4, 2) := by decide +kernel
theorem dX12_draws_67 : decode cX12_draws 67 = .ok (.iload 4, 2) := by decide +kernel
theorem dX12_draws_69 : decode cX12_draws 69 = .ok (.aload_n 0, 1) := by decide +kernel
theorem dX12_draws_70 : decode cX12_draws 70 = .ok (.getfield 33, 3) := by decide +kernel
theorem dX12_draws_73 : decode cX12_draws 73 = .ok (.iconst 1, 1) := by decide +kernel
theorem dX12_draws_74 : decode cX12_draws 74 = .ok (.iaload, 1) := by decide +kernel
theorem dX12_draws_75 : decode cX12_draws 75 = .ok (.if_icmp .ge 60, 3) := by decide +kernel
theorem dX12_draws_78 : decode cX12_draws 78 = .ok (.aload_n 0, 1) := by decide +kernel
theorem dX12_draws_79 : decode cX12_draws 79 = .ok (.bipush 8, 2) := by decide +kernel
theorem dX12_draws_81 : decode cX12_draws 81 = .ok (.invokevirtual 382, 3) := by decide +kernel
theorem dX12_draws_84 : decode cX12_draws 84 = .ok (.istore 5, 2) := by decide +kernel
theorem dX12_draws_86 : decode cX12_draws 86 = .ok (.iload 5, 2) := by decide +kernel
theorem dX12_draws_88 : decode cX12_draws 88 = .ok (.ifCond .ne 19, 3) := by decide +kernel
theorem dX12_draws_91 : decode cX12_draws 91 = .ok (.aload_n 0, 1) := by decide +kernel
theorem dX12_draws_92 : decode cX12_draws 92 = .ok (.iload 4, 2) := by decide +kernel
theorem dX12_draws_94 : decode cX12_draws 94 = .ok (.invokevirtual 284, 3) := by decide +kernel
theorem dX12_draws_97 : decode cX12_draws 97 = .ok (.ifCond .ne 10, 3) := by decide +kernel
theorem dX12_draws_100 : decode cX12_draws 100 = .ok (.aload_n 0, 1) := by decide +kernel
theorem dX12_draws_101 : decode cX12_draws 101 = .ok (.iload 4, 2) := by decide +kernel
theorem dX12_draws_103 : decode cX12_draws 103 = .ok (.invokevirtual 287, 3) := by decide +kernel
theorem dX12_draws_106 : decode cX12_draws 106 = .ok (.pop, 1) := by decide +kernel
theorem dX12_draws_107 : decode cX12_draws 107 = .ok (.iload 5, 2) := by decide +kernel
theorem dX12_draws_109 : decode cX12_draws 109 = .ok (.iconst 1, 1) := by decide +kernel
theorem dX12_draws_110 : decode cX12_draws 110 = .ok (.if_icmp .ne 19, 3) := by decide +kernel
theorem dX12_draws_113 : decode cX12_draws 113 = .ok (.aload_n 0, 1) := by decide +kernel
theorem dX12_draws_114 : decode cX12_draws 114 = .ok (.getfield 33, 3) := by decide +kernel
theorem dX12_draws_117 : decode cX12_draws 117 = .ok (.bipush 63, 2) := by decide +kernel
theorem dX12_draws_119 : decode cX12_draws 119 = .ok (.dup2, 1) := by decide +kernel
theorem dX12_draws_120 : decode cX12_draws 120 = .ok (.iaload, 1) := by decide +kernel
theorem dX12_draws_121 : decode cX12_draws 121 = .ok (.iconst 1, 1) := by decide +kernel
theorem dX12_draws_122 : decode cX12_draws 122 = .ok (.iload 4, 2) := by decide +kernel
theorem dX12_draws_124 : decode cX12_draws 124 = .ok (.ishl, 1) := by decide +kernel
theorem dX12_draws_125 : decode cX12_draws 125 = .ok (.iconst (-1), 1) := by decide +kernel
theorem dX12_draws_126 : decode cX12_draws 126 = .ok (.ixor, 1) := by decide +kernel
theorem dX12_draws_127 : decode cX12_draws 127 = .ok (.iand, 1) := by decide +kernel
theorem dX12_draws_128 : decode cX12_draws 128 = .ok (.iastore, 1) := by decide +kernel
theorem dX12_draws_129 : decode cX12_draws 129 = .ok (.iinc 4 1, 3) := by decide +kernel
theorem dX12_draws_132 : decode cX12_draws 132 = .ok (.goto (-65), 3) := by decide +kernel
theorem dX12_draws_135 : decode cX12_draws 135 = .ok (.aload_n 0, 1) := by decide +kernel
theorem dX12_draws_136 : decode cX12_draws 136 = .ok (.iconst (-1), 1) := by decide +kernel
theorem dX12_draws_137 : decode cX12_draws 137 = .ok (.invokevirtual 290, 3) := by decide +kernel
theorem dX12_draws_140 : decode cX12_draws 140 = .ok (.pop, 1) := by decide +kernel
theorem dX12_draws_141 : decode cX12_draws 141 = .ok (.iinc 3 1, 3) := by decide +kernel
theorem dX12_draws_144 : decode cX12_draws 144 = .ok (.goto (-137), 3) := by decide +kernel
theorem dX12_draws_147 : decode cX12_draws 147 = .ok (.iload_n 3, 1) := by decide +kernel
theorem dX12_draws_148 : decode cX12_draws 148 = .ok (.ireturn, 1) := by decide +kernel
set_option maxRecDepth 20000 in
theorem ggX12_drawn_X12_isIn : GoodIn wsX12_drawn wsX12_isIn := goodIn_r _ [6] (by decide +kernel) (by decide +kernel)
set_option maxRecDepth 20000 in
theorem gX12_drawn_X12_isIn : GoodIn wsX12_drawn (va_wsS RX12 182 yX12_isIn wsX12_isIn) := goodIn_app (goodIn_of _ (by decide +kernel)) ggX12_drawn_X12_isIn
set_option maxRecDepth 20000 in
theorem ggX12_drawn_X12_keep : GoodIn wsX12_drawn wsX12_keep := goodIn_r _ [10, 11, 12, 2, 61, 62, 63, 64, 65, 66, 67, 68, 69, 70, 71, 72, 73, 74, 75, 76, 77, 78, 79, 80, 81, 82, 83, 84, 85, 86, 87, 88, 89, 90, 91, 92, 93, 94, 95, 96, 97, 98, 99, 100, 101, 102, 103, 104, 105, 106, 107, 108, 109, 110, 111, 112] (by decide +kernel) (by decide +kernel)
set_option maxRecDepth 20000 in
theorem gX12_drawn_X12_keep : GoodIn wsX12_drawn (wsV RX12 293 RX12 yX12_keep wsX12_keep) := goodIn_app (goodIn_of _ (by decide +kernel)) ggX12_drawn_X12_keep
set_option maxRecDepth 20000 in
theorem ggX12_drawn_X12_draws : GoodIn wsX12_drawn wsX12_draws := goodIn_r _ [16, 17, 2, 18, 19, 20, 5, 21, 22, 23, 24, 25, 26, 27, 28, 29, 30, 31, 32, 33, 34, 35, 36, 37, 38, 39, 40, 41, 42, 43, 44, 45, 46, 47, 48, 49, 50, 51, 52, 53, 54, 55, 56, 57, 58, 59, 60, 61, 62, 63, 64, 65, 66, 67, 68, 69, 70, 71, 72, 73, 74, 75, 76, 77, 78, 79, 80, 81, 82, 83, 84, 85, 86, 87, 88, 89, 90, 91, 92, 93, 94, 95, 96, 97, 98, 99, 100, 101, 102, 103, 104, 105, 106, 107, 108, 109, 110, 111, 112] (by decide +kernel) (by decide +kernel)
set_option maxRecDepth 20000 in
theorem gX12_drawn_X12_draws : GoodIn wsX12_drawn (wsV RX12 385 RX12 yX12_draws wsX12_draws) := goodIn_app (goodIn_of _ (by decide +kernel)) ggX12_drawn_X12_draws
theorem dX12_drawn_0 : decode cX12_drawn 0 = .ok (.aload_n 0, 1) := by decide +kernel
theorem dX12_drawn_1 : decode cX12_drawn 1 = .ok (.iconst 0, 1) := by decide +kernel
theorem dX12_drawn_2 : decode cX12_drawn 2 = .ok (.putfield 1, 3) := by decide +kernel
theorem dX12_drawn_5 : decode cX12_drawn 5 = .ok (.iload_n 1, 1) := by decide +kernel
theorem dX12_drawn_6 : decode cX12_drawn 6 = .ok (.iconst 1, 1) := by decide +kernel
theorem dX12_drawn_7 : decode cX12_drawn 7 = .ok (.bipush 60, 2) := by decide +kernel
theorem dX12_drawn_9 : decode cX12_drawn 9 = .ok (.invokestatic 182, 3) := by decide +kernel
theorem dX12_drawn_12 : decode cX12_drawn 12 = .ok (.ifCond .ne 5, 3) := by decide +kernel
theorem dX12_drawn_15 : decode cX12_drawn 15 = .ok (.iconst (-1), 1) := by decide +kernel
theorem dX12_drawn_16 : decode cX12_drawn 16 = .ok (.ireturn, 1) := by decide +kernel
theorem dX12_drawn_17 : decode cX12_drawn 17 = .ok (.aload_n 0, 1) := by decide +kernel
theorem dX12_drawn_18 : decode cX12_drawn 18 = .ok (.getfield 33, 3) := by decide +kernel
theorem dX12_drawn_21 : decode cX12_drawn 21 = .ok (.bipush 44, 2) := by decide +kernel
theorem dX12_drawn_23 : decode cX12_drawn 23 = .ok (.iaload, 1) := by decide +kernel
theorem dX12_drawn_24 : decode cX12_drawn 24 = .ok (.sipush 400, 3) := by decide +kernel
theorem dX12_drawn_27 : decode cX12_drawn 27 = .ok (.if_icmp .ge 7, 3) := by decide +kernel
theorem dX12_drawn_30 : decode cX12_drawn 30 = .ok (.aload_n 0, 1) := by decide +kernel
theorem dX12_drawn_31 : decode cX12_drawn 31 = .ok (.invokevirtual 293, 3) := by decide +kernel
theorem dX12_drawn_34 : decode cX12_drawn 34 = .ok (.aload_n 0, 1) := by decide +kernel
theorem dX12_drawn_35 : decode cX12_drawn 35 = .ok (.iload_n 1, 1) := by decide +kernel
theorem dX12_drawn_36 : decode cX12_drawn 36 = .ok (.iload_n 2, 1) := by decide +kernel
theorem dX12_drawn_37 : decode cX12_drawn 37 = .ok (.invokevirtual 385, 3) := by decide +kernel
theorem dX12_drawn_40 : decode cX12_drawn 40 = .ok (.ireturn, 1) := by decide +kernel
set_option maxRecDepth 20000 in
theorem ggX12_odds_X12_isGuest : GoodIn wsX12_odds wsX12_isGuest := goodIn_r _ [7, 2, 8, 9, 6, 10, 68, 69, 70, 71, 72, 73, 74, 75, 76, 77, 78, 79, 80, 81, 82, 83, 84, 85, 86, 87, 88, 89, 90, 91, 92, 93, 94, 95, 96, 97, 98, 99, 100, 101, 102, 103, 104, 105, 106, 107, 108, 109, 110, 111, 112, 113, 114, 115, 116, 117, 118, 119] (by decide +kernel) (by decide +kernel)
set_option maxRecDepth 20000 in
theorem gX12_odds_X12_isGuest : GoodIn wsX12_odds (wsV RX12 254 RX12 yX12_isGuest wsX12_isGuest) := goodIn_app (goodIn_of _ (by decide +kernel)) ggX12_odds_X12_isGuest
set_option maxRecDepth 20000 in
theorem ggX12_odds_X12_isIn : GoodIn wsX12_odds wsX12_isIn := goodIn_r _ [10] (by decide +kernel) (by decide +kernel)
set_option maxRecDepth 20000 in
theorem gX12_odds_X12_isIn : GoodIn wsX12_odds (va_wsS RX12 182 yX12_isIn wsX12_isIn) := goodIn_app (goodIn_of _ (by decide +kernel)) ggX12_odds_X12_isIn
set_option maxRecDepth 20000 in
theorem ggX12_odds_X12_tries : GoodIn wsX12_odds wsX12_tries := goodIn_r _ [14, 15, 2, 68, 69, 70, 71, 72, 73, 74, 75, 76, 77, 78, 79, 80, 81, 82, 83, 84, 85, 86, 87, 88, 89, 90, 91, 92, 93, 94, 95, 96, 97, 98, 99, 100, 101, 102, 103, 104, 105, 106, 107, 108, 109, 110, 111, 112, 113, 114, 115, 116, 117, 118, 119] (by decide +kernel) (by decide +kernel)
set_option maxRecDepth 20000 in
theorem gX12_odds_X12_tries : GoodIn wsX12_odds (wsV RX12 314 RX12 yX12_tries wsX12_tries) := goodIn_app (goodIn_of _ (by decide +kernel)) ggX12_odds_X12_tries
set_option maxRecDepth 20000 in
theorem ggX12_odds_X12_draws : GoodIn wsX12_odds wsX12_draws := goodIn_r _ [19, 20, 2, 21, 22, 23, 6, 24, 25, 26, 27, 28, 29, 30, 31, 32, 33, 34, 35, 36, 37, 38, 39, 40, 41, 42, 43, 44, 45, 46, 47, 48, 49, 50, 51, 52, 53, 54, 55, 56, 57, 58, 59, 60, 61, 62, 63, 68, 69, 70, 71, 72, 73, 74, 75, 76, 77, 78, 79, 80, 81, 82, 83, 84, 85, 86, 87, 88, 89, 90, 91, 92, 93, 94, 95, 96, 97, 98, 99, 100, 101, 102, 103, 104, 105, 106, 107, 108, 109, 110, 111, 112, 113, 114, 115, 116, 117, 118, 119] (by decide +kernel) (by decide +kernel)
set_option maxRecDepth 20000 in
theorem gX12_odds_X12_draws : GoodIn wsX12_odds (wsV RX12 385 RX12 yX12_draws wsX12_draws) := goodIn_app (goodIn_of _ (by decide +kernel)) ggX12_odds_X12_draws
set_option maxRecDepth 20000 in
theorem ggX12_odds_X12_back : GoodIn wsX12_odds wsX12_back := goodIn_r _ [67, 2, 15, 68, 69, 70, 71, 72, 73, 74, 75, 76, 77, 78, 79, 80, 81, 82, 83, 84, 85, 86, 87, 88, 89, 90, 91, 92, 93, 94, 95, 96, 97, 98, 99, 100, 101, 102, 103, 104, 105, 106, 107, 108, 109, 110, 111, 112, 113, 114, 115, 116, 117, 118, 119] (by decide +kernel) (by decide +kernel)
set_option maxRecDepth 20000 in
theorem gX12_odds_X12_back : GoodIn wsX12_odds (wsV RX12 320 RX12 yX12_back wsX12_back) := goodIn_app (goodIn_of _ (by decide +kernel)) ggX12_odds_X12_back
theorem dX12_odds_0 : decode cX12_odds 0 = .ok (.aload_n 0, 1) := by decide +kernel
theorem dX12_odds_1 : decode cX12_odds 1 = .ok (.iconst 0, 1) := by decide +kernel
theorem dX12_odds_2 : decode cX12_odds 2 = .ok (.putfield 1, 3) := by decide +kernel
theorem dX12_odds_5 : decode cX12_odds 5 = .ok (.aload_n 0, 1) := by decide +kernel
theorem dX12_odds_6 : decode cX12_odds 6 = .ok (.iload_n 1, 1) := by decide +kernel
theorem dX12_odds_7 : decode cX12_odds 7 = .ok (.invokevirtual 254, 3) := by decide +kernel
theorem dX12_odds_10 : decode cX12_odds 10 = .ok (.ifCond .eq 13, 3) := by decide +kernel
theorem dX12_odds_13 : decode cX12_odds 13 = .ok (.iload_n 2, 1) := by decide +kernel
theorem dX12_odds_14 : decode cX12_odds 14 = .ok (.iconst 1, 1) := by decide +kernel
theorem dX12_odds_15 : decode cX12_odds 15 = .ok (.bipush 30, 2) := by decide +kernel
theorem dX12_odds_17 : decode cX12_odds 17 = .ok (.invokestatic 182, 3) := by decide +kernel
theorem dX12_odds_20 : decode cX12_odds 20 = .ok (.ifCond .ne 5, 3) := by decide +kernel
theorem dX12_odds_23 : decode cX12_odds 23 = .ok (.iconst (-1), 1) := by decide +kernel
theorem dX12_odds_24 : decode cX12_odds 24 = .ok (.ireturn, 1) := by decide +kernel
theorem dX12_odds_25 : decode cX12_odds 25 = .ok (.aload_n 0, 1) := by decide +kernel
theorem dX12_odds_26 : decode cX12_odds 26 = .ok (.invokevirtual 314, 3) := by decide +kernel
theorem dX12_odds_29 : decode cX12_odds 29 = .ok (.aload_n 0, 1) := by decide +kernel
theorem dX12_odds_30 : decode cX12_odds 30 = .ok (.getfield 33, 3) := by decide +kernel
theorem dX12_odds_33 : decode cX12_odds 33 = .ok (.bipush 71, 2) := by decide +kernel
theorem dX12_odds_35 : decode cX12_odds 35 = .ok (.iload_n 1, 1) := by decide +kernel
theorem dX12_odds_36 : decode cX12_odds 36 = .ok (.iadd, 1) := by decide +kernel
theorem dX12_odds_37 : decode cX12_odds 37 = .ok (.iaload, 1) := by decide +kernel
theorem dX12_odds_38 : decode cX12_odds 38 = .ok (.istore 4, 2) := by decide +kernel
theorem dX12_odds_40 : decode cX12_odds 40 = .ok (.iconst 0, 1) := by decide +kernel
theorem dX12_odds_41 : decode cX12_odds 41 = .ok (.istore 5, 2) := by decide +kernel
theorem dX12_odds_43 : decode cX12_odds 43 = .ok (.iconst 0, 1) := by decide +kernel
theorem dX12_odds_44 : decode cX12_odds 44 = .ok (.istore 6, 2) := by decide +kernel
theorem dX12_odds_46 : decode cX12_odds 46 = .ok (.iload 6, 2) := by decide +kernel
theorem dX12_odds_48 : decode cX12_odds 48 = .ok (.iload_n 2, 1) := by decide +kernel
theorem dX12_odds_49 : decode cX12_odds 49 = .ok (.if_icmp .ge 48, 3) := by decide +kernel
theorem dX12_odds_52 : decode cX12_odds 52 = .ok (.aload_n 0, 1) := by decide +kernel
theorem dX12_odds_53 : decode cX12_odds 53 = .ok (.bipush 20, 2) := by decide +kernel
theorem dX12_odds_55 : decode cX12_odds 55 = .ok (.iload_n 3, 1) := by decide +kernel
theorem dX12_odds_56 : decode cX12_odds 56 = .ok (.iload 6, 2) := by decide +kernel
theorem dX12_odds_58 : decode cX12_odds 58 = .ok (.iadd, 1) := by decide +kernel
theorem dX12_odds_59 : decode cX12_odds 59 = .ok (.invokevirtual 385, 3) := by decide +kernel
theorem dX12_odds_62 : decode cX12_odds 62 = .ok (.pop, 1) := by decide +kernel
theorem dX12_odds_63 : decode cX12_odds 63 = .ok (.iload 5, 2) := by decide +kernel
theorem dX12_odds_65 : decode cX12_odds 65 = .ok (.aload_n 0, 1) := by decide +kernel
theorem dX12_odds_66 : decode cX12_odds 66 = .ok (.getfield 33, 3) := by decide +kernel
theorem dX12_odds_69 : decode cX12_odds 69 = .ok (.bipush 71, 2) := by decide +kernel
theorem dX12_odds_71 : decode cX12_odds 71 = .ok (.iload_n 1, 1) := by decide +kernel
theorem dX12_odds_72 : decode cX12_odds 72 = .ok (.iadd, 1) := by decide +kernel
theorem dX12_odds_73 : decode cX12_odds 73 = .ok (.iaload, 1) := by decide +kernel
theorem dX12_odds_74 : decode cX12_odds 74 = .ok (.iload 4, 2) := by decide +kernel
theorem dX12_odds_76 : decode cX12_odds 76 = .ok (.if_icmp .le 7, 3) := by decide +kernel
theorem dX12_odds_79 : decode cX12_odds 79 = .ok (.iconst 1, 1) := by decide +kernel
theorem dX12_odds_80 : decode cX12_odds 80 = .ok (.goto 4, 3) := by decide +kernel
theorem dX12_odds_83 : decode cX12_odds 83 = .ok (.iconst 0, 1) := by decide +kernel
theorem dX12_odds_84 : decode cX12_odds 84 = .ok (.iadd, 1) := by decide +kernel
theorem dX12_odds_85 : decode cX12_odds 85 = .ok (.istore 5, 2) := by decide +kernel
theorem dX12_odds_87 : decode cX12_odds 87 = .ok (.aload_n 0, 1) := by decide +kernel
theorem dX12_odds_88 : decode cX12_odds 88 = .ok (.invokevirtual 320, 3) := by decide +kernel
theorem dX12_odds_91 : decode cX12_odds 91 = .ok (.iinc 6 1, 3) := by decide +kernel
theorem dX12_odds_94 : decode cX12_odds 94 = .ok (.goto (-48), 3) := by decide +kernel
theorem dX12_odds_97 : decode cX12_odds 97 = .ok (.iload 5, 2) := by decide +kernel
theorem dX12_odds_99 : decode cX12_odds 99 = .ok (.ireturn, 1) := by decide +kernel
set_option maxRecDepth 20000 in
theorem ggX12_bookLine_X12_isWord : GoodIn wsX12_bookLine wsX12_isWord := goodIn_r _ [15, 16, 17, 70, 71, 72, 73, 74, 75, 76, 77, 78, 79, 80, 81, 82, 83, 84, 85, 86, 87, 88, 89, 90, 91, 92, 93, 94, 95, 96, 97, 98, 99, 100, 101, 102, 103, 104, 105, 106, 107, 108, 109, 110, 111, 112, 113, 114, 115, 116, 117, 118, 119, 120, 121] (by decide +kernel) (by decide +kernel)
set_option maxRecDepth 20000 in
theorem gX12_bookLine_X12_isWord : GoodIn wsX12_bookLine (wsV RX12 204 RX12 yX12_isWord wsX12_isWord) := goodIn_app (goodIn_of _ (by decide +kernel)) ggX12_bookLine_X12_isWord
set_option maxRecDepth 20000 in
theorem ggX12_bookLine_X12_looksAt : GoodIn wsX12_bookLine wsX12_looksAt := goodIn_r _ [21, 7, 22, 23, 24, 14, 25, 16, 17, 26, 27, 28, 29, 30, 31, 32, 33, 34, 35, 36, 37, 38, 70, 71, 72, 73, 74, 75, 76, 77, 78, 79, 80, 81, 82, 83, 84, 85, 86, 87, 88, 89, 90, 91, 92, 93, 94, 95, 96, 97, 98, 99, 100, 101, 102, 103, 104, 105, 106, 107, 108, 109, 110, 111, 112, 113, 114, 115, 116, 117, 118, 119, 120, 121] (by decide +kernel) (by decide +kernel)
set_option maxRecDepth 20000 in
theorem gX12_bookLine_X12_looksAt : GoodIn wsX12_bookLine (wsV RX12 201 RX12 yX12_looksAt wsX12_looksAt) := goodIn_app (goodIn_of _ (by decide +kernel)) ggX12_bookLine_X12_looksAt
set_option maxRecDepth 20000 in
theorem ggX12_bookLine_X12_bad : GoodIn wsX12_bookLine wsX12_bad := goodIn_r _ [30, 31, 32, 33, 70, 71, 72, 73, 74, 75, 76, 77, 78, 79, 80, 81, 82, 83, 84, 85, 86, 87, 88, 89, 90, 91, 92, 93, 94, 95, 96, 97, 98, 99, 100, 101, 102, 103, 104, 105, 106, 107, 108, 109, 110, 111, 112, 113, 114, 115, 116, 117, 118, 119, 120, 121] (by decide +kernel) (by decide +kernel)
set_option maxRecDepth 20000 in
theorem gX12_bookLine_X12_bad : GoodIn wsX12_bookLine (wsV RX12 176 RX12 yX12_bad wsX12_bad) := goodIn_app (goodIn_of _ (by decide +kernel)) ggX12_bookLine_X12_bad
set_option maxRecDepth 20000 in
theorem ggX12_bookLine_X12_step : GoodIn wsX12_bookLine wsX12_step := goodIn_r _ [42, 43, 32, 44, 45, 46, 16, 47, 17, 48, 49, 50, 14, 51, 52, 53, 54, 55, 56, 57, 58, 70, 71, 72, 73, 74, 75, 76, 77, 78, 79, 80, 81, 82, 83, 84, 85, 86, 87, 88, 89, 90, 91, 92, 93, 94, 95, 96, 97, 98, 99, 100, 101, 102, 103, 104, 105, 106, 107, 108, 109, 110, 111, 112, 113, 114, 115, 116, 117, 118, 119, 120, 121] (by decide +kernel) (by decide +kernel)
set_option maxRecDepth 20000 in
theorem gX12_bookLine_X12_step : GoodIn wsX12_bookLine (wsV RX12 179 RX12 yX12_step wsX12_step) := goodIn_app (goodIn_of _ (by decide +kernel)) ggX12_bookLine_X12_step
set_option maxRecDepth 20000 in
theorem ggX12_bookLine_X12_takesName : GoodIn wsX12_bookLine wsX12_takesName := goodIn_r _ [62, 18, 19, 20, 14, 21, 7, 22, 23, 24, 25, 16, 17, 26, 27, 28, 29, 30, 31, 32, 33, 34, 35, 36, 37, 38, 39, 40, 41, 42, 43, 44, 45, 46, 47, 48, 49, 50, 51, 52, 53, 54, 55, 56, 57, 58, 70, 71, 72, 73, 74, 75, 76, 77, 78, 79, 80, 81, 82, 83, 84, 85, 86, 87, 88, 89, 90, 91, 92, 93, 94, 95, 96, 97, 98, 99, 100, 101, 102, 103, 104, 105, 106, 107, 108, 109, 110, 111, 112, 113, 114, 115, 116, 117, 118, 119, 120, 121] (by decide +kernel) (by decide +kernel)
set_option maxRecDepth 20000 in
theorem gX12_bookLine_X12_takesName : GoodIn wsX12_bookLine (wsV RX12 230 RX12 yX12_takesName wsX12_takesName) := goodIn_app (goodIn_of _ (by decide +kernel)) ggX12_bookLine_X12_takesName
set_option maxRecDepth 20000 in
theorem ggX12_bookLine_X12_takes : GoodIn wsX12_bookLine wsX12_takes := goodIn_r _ [66, 16, 47, 7, 27, 28, 29, 14, 30, 31, 32, 33, 67, 68, 69, 39, 40, 41, 42, 43, 44, 45, 46, 17, 48, 49, 50, 51, 52, 53, 54, 55, 56, 57, 58, 70, 71, 72, 73, 74, 75, 76, 77, 78, 79, 80, 81, 82, 83, 84, 85, 86, 87, 88, 89, 90, 91, 92, 93, 94, 95, 96, 97, 98, 99, 100, 101, 102, 103, 104, 105, 106, 107, 108, 109, 110, 111, 112, 113, 114, 115, 116, 117, 118, 119, 120, 121] (by decide +kernel) (by decide +kernel)
set_option maxRecDepth 20000 in
theorem gX12_bookLine_X12_takes : GoodIn wsX12_bookLine (wsV RX12 189 RX12 yX12_takes wsX12_takes) := goodIn_app (goodIn_of _ (by decide +kernel)) ggX12_bookLine_X12_takes
theorem dX12_bookLine_0 : decode cX12_bookLine 0 = .ok (.iconst 3, 1) := by decide +kernel
theorem dX12_bookLine_1 : decode cX12_bookLine 1 = .ok (.aload_n 0, 1) := by decide +kernel
theorem dX12_bookLine_2 : decode cX12_bookLine 2 = .ok (.getfield 388, 3) := by decide +kernel
theorem dX12_bookLine_5 : decode cX12_bookLine 5 = .ok (.imul, 1) := by decide +kernel
theorem dX12_bookLine_6 : decode cX12_bookLine 6 = .ok (.istore_n 1, 1) := by decide +kernel
theorem dX12_bookLine_7 : decode cX12_bookLine 7 = .ok (.aload_n 0, 1) := by decide +kernel
theorem dX12_bookLine_8 : decode cX12_bookLine 8 = .ok (.ldc2_w 105, 3) := by decide +kernel
theorem dX12_bookLine_11 : decode cX12_bookLine 11 = .ok (.invokevirtual 204, 3) := by decide +kernel
theorem dX12_bookLine_14 : decode cX12_bookLine 14 = .ok (.ifCond .eq 7, 3) := by decide +kernel
theorem dX12_bookLine_17 : decode cX12_bookLine 17 = .ok (.iconst 2, 1) := by decide +kernel
theorem dX12_bookLine_18 : decode cX12_bookLine 18 = .ok (.goto 46, 3) := by decide +kernel
theorem dX12_bookLine_21 : decode cX12_bookLine 21 = .ok (.aload_n 0, 1) := by decide +kernel
theorem dX12_bookLine_22 : decode cX12_bookLine 22 = .ok (.ldc2_w 107, 3) := by decide +kernel
theorem dX12_bookLine_25 : decode cX12_bookLine 25 = .ok (.invokevirtual 204, 3) := by decide +kernel
theorem dX12_bookLine_28 : decode cX12_bookLine 28 = .ok (.ifCond .eq 7, 3) := by decide +kernel
theorem dX12_bookLine_31 : decode cX12_bookLine 31 = .ok (.iconst 3, 1) := by decide +kernel
theorem dX12_bookLine_32 : decode cX12_bookLine 32 = .ok (.goto 32, 3) := by decide +kernel
theorem dX12_bookLine_35 : decode cX12_bookLine 35 = .ok (.aload_n 0, 1) := by decide +kernel
theorem dX12_bookLine_36 : decode cX12_bookLine 36 = .ok (.ldc2_w 109, 3) := by decide +kernel
theorem dX12_bookLine_39 : decode cX12_bookLine 39 = .ok (.invokevirtual 204, 3) := by decide +kernel
theorem dX12_bookLine_42 : decode cX12_bookLine 42 = .ok (.ifCond .eq 7, 3) := by decide +kernel
theorem dX12_bookLine_45 : decode cX12_bookLine 45 = .ok (.iconst 4, 1) := by decide +kernel
theorem dX12_bookLine_46 : decode cX12_bookLine 46 = .ok (.goto 18, 3) := by decide +kernel
theorem dX12_bookLine_49 : decode cX12_bookLine 49 = .ok (.aload_n 0, 1) := by decide +kernel
theorem dX12_bookLine_50 : decode cX12_bookLine 50 = .ok (.ldc2_w 111, 3) := by decide +kernel
theorem dX12_bookLine_53 : decode cX12_bookLine 53 = .ok (.invokevirtual 204, 3) := by decide +kernel
theorem dX12_bookLine_56 : decode cX12_bookLine 56 = .ok (.ifCond .eq 7, 3) := by decide +kernel
theorem dX12_bookLine_59 : decode cX12_bookLine 59 = .ok (.iconst 5, 1) := by decide +kernel
theorem dX12_bookLine_60 : decode cX12_bookLine 60 = .ok (.goto 4, 3) := by decide +kernel
theorem dX12_bookLine_63 : decode cX12_bookLine 63 = .ok (.iconst 0, 1) := by decide +kernel
theorem dX12_bookLine_64 : decode cX12_bookLine 64 = .ok (.istore_n 2, 1) := by decide +kernel
theorem dX12_bookLine_65 : decode cX12_bookLine 65 = .ok (.iload_n 2, 1) := by decide +kernel
theorem dX12_bookLine_66 : decode cX12_bookLine 66 = .ok (.ifCond .ne 19, 3) := by decide +kernel
theorem dX12_bookLine_69 : decode cX12_bookLine 69 = .ok (.aload_n 0, 1) := by decide +kernel
theorem dX12_bookLine_70 : decode cX12_bookLine 70 = .ok (.iconst 0, 1) := by decide +kernel
theorem dX12_bookLine_71 : decode cX12_bookLine 71 = .ok (.aload_n 0, 1) := by decide +kernel
theorem dX12_bookLine_72 : decode cX12_bookLine 72 = .ok (.getfield 33, 3) := by decide +kernel
theorem dX12_bookLine_75 : decode cX12_bookLine 75 = .ok (.iconst 1, 1) := by decide +kernel
theorem dX12_bookLine_76 : decode cX12_bookLine 76 = .ok (.iaload, 1) := by decide +kernel
theorem dX12_bookLine_77 : decode cX12_bookLine 77 = .ok (.invokevirtual 201, 3) := by decide +kernel
theorem dX12_bookLine_80 : decode cX12_bookLine 80 = .ok (.ifCond .ne 5, 3) := by decide +kernel
theorem dX12_bookLine_83 : decode cX12_bookLine 83 = .ok (.iconst 0, 1) := by decide +kernel
theorem dX12_bookLine_84 : decode cX12_bookLine 84 = .ok (.ireturn, 1) := by decide +kernel
theorem dX12_bookLine_85 : decode cX12_bookLine 85 = .ok (.aload_n 0, 1) := by decide +kernel
theorem dX12_bookLine_86 : decode cX12_bookLine 86 = .ok (.getfield 388, 3) := by decide +kernel
theorem dX12_bookLine_89 : decode cX12_bookLine 89 = .ok (.bipush 40, 2) := by decide +kernel
theorem dX12_bookLine_91 : decode cX12_bookLine 91 = .ok (.if_icmp .ne 9, 3) := by decide +kernel
theorem dX12_bookLine_94 : decode cX12_bookLine 94 = .ok (.aload_n 0, 1) := by decide +kernel
theorem dX12_bookLine_95 : decode cX12_bookLine 95 = .ok (.iconst 4, 1) := by decide +kernel
theorem dX12_bookLine_96 : decode cX12_bookLine 96 = .ok (.invokevirtual 176, 3) := by decide +kernel
theorem dX12_bookLine_99 : decode cX12_bookLine 99 = .ok (.ireturn, 1) := by decide +kernel
theorem dX12_bookLine_100 : decode cX12_bookLine 100 = .ok (.aload_n 0, 1) := by decide +kernel
theorem dX12_bookLine_101 : decode cX12_bookLine 101 = .ok (.getfield 186, 3) := by decide +kernel
theorem dX12_bookLine_104 : decode cX12_bookLine 104 = .ok (.istore_n 3, 1) := by decide +kernel
theorem dX12_bookLine_105 : decode cX12_bookLine 105 = .ok (.aload_n 0, 1) := by decide +kernel
theorem dX12_bookLine_106 : decode cX12_bookLine 106 = .ok (.invokevirtual 179, 3) := by decide +kernel
theorem dX12_bookLine_109 : decode cX12_bookLine 109 = .ok (.aload_n 0, 1) := by decide +kernel
theorem dX12_bookLine_110 : decode cX12_bookLine 110 = .ok (.getfield 40, 3) := by decide +kernel
theorem dX12_bookLine_113 : decode cX12_bookLine 113 = .ok (.iload_n 1, 1) := by decide +kernel
theorem dX12_bookLine_114 : decode cX12_bookLine 114 = .ok (.iload_n 2, 1) := by decide +kernel
theorem dX12_bookLine_115 : decode cX12_bookLine 115 = .ok (.iastore, 1) := by decide +kernel
theorem dX12_bookLine_116 : decode cX12_bookLine 116 = .ok (.aload_n 0, 1) := by decide +kernel
theorem dX12_bookLine_117 : decode cX12_bookLine 117 = .ok (.getfield 40, 3) := by decide +kernel
theorem dX12_bookLine_120 : decode cX12_bookLine 120 = .ok (.iload_n 1, 1) := by decide +kernel
theorem dX12_bookLine_121 : decode cX12_bookLine 121 = .ok (.iconst 1, 1) := by decide +kernel
theorem dX12_bookLine_122 : decode cX12_bookLine 122 = .ok (.iadd, 1) := by decide +kernel
theorem dX12_bookLine_123 : decode cX12_bookLine 123 = .ok (.iload_n 3, 1) := by decide +kernel
theorem dX12_bookLine_124 : decode cX12_bookLine 124 = .ok (.iastore, 1) := by decide +kernel
theorem dX12_bookLine_125 : decode cX12_bookLine 125 = .ok (.iload_n 2, 1) := by decide +kernel
theorem dX12_bookLine_126 : decode cX12_bookLine 126 = .ok (.ifCond .ne 55, 3) := by decide +kernel
theorem dX12_bookLine_129 : decode cX12_bookLine 129 = .ok (.aload_n 0, 1) := by decide +kernel
theorem dX12_bookLine_130 : decode cX12_bookLine 130 = .ok (.ldc2_w 103, 3) := by decide +kernel
theorem dX12_bookLine_133 : decode cX12_bookLine 133 = .ok (.invokevirtual 204, 3) := by decide +kernel
theorem dX12_bookLine_136 : decode cX12_bookLine 136 = .ok (.istore 4, 2) := by decide +kernel
theorem dX12_bookLine_138 : decode cX12_bookLine 138 = .ok (.iload 4, 2) := by decide +kernel
theorem dX12_bookLine_140 : decode cX12_bookLine 140 = .ok (.ifCond .ne 19, 3) := by decide +kernel
theorem dX12_bookLine_143 : decode cX12_bookLine 143 = .ok (.aload_n 0, 1) := by decide +kernel
theorem dX12_bookLine_144 : decode cX12_bookLine 144 = .ok (.ldc2_w 101, 3) := by decide +kernel
theorem dX12_bookLine_147 : decode cX12_bookLine 147 = .ok (.invokevirtual 204, 3) := by decide +kernel
theorem dX12_bookLine_150 : decode cX12_bookLine 150 = .ok (.ifCond .ne 9, 3) := by decide +kernel
theorem dX12_bookLine_153 : decode cX12_bookLine 153 = .ok (.aload_n 0, 1) := by decide +kernel
theorem dX12_bookLine_154 : decode cX12_bookLine 154 = .ok (.iconst 1, 1) := by decide +kernel
theorem dX12_bookLine_155 : decode cX12_bookLine 155 = .ok (.invokevirtual 176, 3) := by decide +kernel
theorem dX12_bookLine_158 : decode cX12_bookLine 158 = .ok (.ireturn, 1) := by decide +kernel
theorem dX12_bookLine_159 : decode cX12_bookLine 159 = .ok (.aload_n 0, 1) := by decide +kernel
theorem dX12_bookLine_160 : decode cX12_bookLine 160 = .ok (.invokevirtual 179, 3) := by decide +kernel
theorem dX12_bookLine_163 : decode cX12_bookLine 163 = .ok (.aload_n 0, 1) := by decide +kernel
theorem dX12_bookLine_164 : decode cX12_bookLine 164 = .ok (.getfield 40, 3) := by decide +kernel
theorem dX12_bookLine_167 : decode cX12_bookLine 167 = .ok (.iload_n 1, 1) := by decide +kernel
theorem dX12_bookLine_168 : decode cX12_bookLine 168 = .ok (.iload 4, 2) := by decide +kernel
theorem dX12_bookLine_170 : decode cX12_bookLine 170 = .ok (.ifCond .eq 7, 3) := by decide +kernel
theorem dX12_bookLine_173 : decode cX12_bookLine 173 = .ok (.iconst 1, 1) := by decide +kernel
theorem dX12_bookLine_174 : decode cX12_bookLine 174 = .ok (.goto 4, 3) := by decide +kernel
theorem dX12_bookLine_177 : decode cX12_bookLine 177 = .ok (.iconst 0, 1) := by decide +kernel
theorem dX12_bookLine_178 : decode cX12_bookLine 178 = .ok (.iastore, 1) := by decide +kernel
theorem dX12_bookLine_179 : decode cX12_bookLine 179 = .ok (.iconst 1, 1) := by decide +kernel
theorem dX12_bookLine_180 : decode cX12_bookLine 180 = .ok (.ireturn, 1) := by decide +kernel
theorem dX12_bookLine_181 : decode cX12_bookLine 181 = .ok (.iload_n 2, 1) := by decide +kernel
theorem dX12_bookLine_182 : decode cX12_bookLine 182 = .ok (.iconst 2, 1) := by decide +kernel
theorem dX12_bookLine_183 : decode cX12_bookLine 183 = .ok (.if_icmp .ne 18, 3) := by decide +kernel
theorem dX12_bookLine_186 : decode cX12_bookLine 186 = .ok (.aload_n 0, 1) := by decide +kernel
theorem dX12_bookLine_187 : decode cX12_bookLine 187 = .ok (.bipush 7, 2) := by decide +kernel
theorem dX12_bookLine_189 : decode cX12_bookLine 189 = .ok (.aload_n 0, 1) := by decide +kernel
theorem dX12_bookLine_190 : decode cX12_bookLine 190 = .ok (.getfield 33, 3) := by decide +kernel
theorem dX12_bookLine_193 : decode cX12_bookLine 193 = .ok (.iconst 2, 1) := by decide +kernel
theorem dX12_bookLine_194 : decode cX12_bookLine 194 = .ok (.iaload, 1) := by decide +kernel
theorem dX12_bookLine_195 : decode cX12_bookLine 195 = .ok (.invokevirtual 230, 3) := by decide +kernel
theorem dX12_bookLine_198 : decode cX12_bookLine 198 = .ok (.goto 25, 3) := by decide +kernel
theorem dX12_bookLine_201 : decode cX12_bookLine 201 = .ok (.iload_n 2, 1) := by decide +kernel
theorem dX12_bookLine_202 : decode cX12_bookLine 202 = .ok (.iconst 5, 1) := by decide +kernel
theorem dX12_bookLine_203 : decode cX12_bookLine 203 = .ok (.if_icmp .ne 13, 3) := by decide +kernel
theorem dX12_bookLine_206 : decode cX12_bookLine 206 = .ok (.aload_n 0, 1) := by decide +kernel
theorem dX12_bookLine_207 : decode cX12_bookLine 207 = .ok (.iconst 1, 1) := by decide +kernel
theorem dX12_bookLine_208 : decode cX12_bookLine 208 = .ok (.bipush 60, 2) := by decide +kernel
theorem dX12_bookLine_210 : decode cX12_bookLine 210 = .ok (.invokevirtual 189, 3) := by decide +kernel
theorem dX12_bookLine_213 : decode cX12_bookLine 213 = .ok (.goto 10, 3) := by decide +kernel
theorem dX12_bookLine_216 : decode cX12_bookLine 216 = .ok (.aload_n 0, 1) := by decide +kernel
theorem dX12_bookLine_217 : decode cX12_bookLine 217 = .ok (.iconst 0, 1) := by decide +kernel
theorem dX12_bookLine_218 : decode cX12_bookLine 218 = .ok (.bipush 8, 2) := by decide +kernel
theorem dX12_bookLine_220 : decode cX12_bookLine 220 = .ok (.invokevirtual 189, 3) := by decide +kernel
theorem dX12_bookLine_223 : decode cX12_bookLine 223 = .ok (.istore 4, 2) := by decide +kernel
theorem dX12_bookLine_225 : decode cX12_bookLine 225 = .ok (.aload_n 0, 1) := by decide +kernel
theorem dX12_bookLine_226 : decode cX12_bookLine 226 = .ok (.getfield 40, 3) := by decide +kernel
theorem dX12_bookLine_229 : decode cX12_bookLine 229 = .ok (.iload_n 1, 1) := by decide +kernel
theorem dX12_bookLine_230 : decode cX12_bookLine 230 = .ok (.iconst 1, 1) := by decide +kernel
theorem dX12_bookLine_231 : decode cX12_bookLine 231 = .ok (.iadd, 1) := by decide +kernel
theorem dX12_bookLine_232 : decode cX12_bookLine 232 = .ok (.aload_n 0, 1) := by decide +kernel
theorem dX12_bookLine_233 : decode cX12_bookLine 233 = .ok (.getfield 186, 3) := by decide +kernel
theorem dX12_bookLine_236 : decode cX12_bookLine 236 = .ok (.iastore, 1) := by decide +kernel
theorem dX12_bookLine_237 : decode cX12_bookLine 237 = .ok (.iload 4, 2) := by decide +kernel
theorem dX12_bookLine_239 : decode cX12_bookLine 239 = .ok (.ireturn, 1) := by decide +kernel
set_option maxRecDepth 20000 in
theorem ggX12_does_X12_whySit : GoodIn wsX12_does wsX12_whySit := goodIn_r _ [6, 1, 7, 8, 9, 5, 10, 11, 12, 13, 14, 15, 16, 17, 60, 61, 62, 63, 64, 65, 66, 67, 68, 69, 70, 71, 72, 73, 74, 75, 76, 77, 78, 79, 80, 81, 82, 83, 84, 85, 86, 87, 88, 89, 90, 91, 92, 93, 94, 95, 96, 97, 98, 99, 100, 101, 102, 103, 104, 105, 106, 107, 108, 109, 110, 111] (by decide +kernel) (by decide +kernel)
set_option maxRecDepth 20000 in
theorem gX12_does_X12_whySit : GoodIn wsX12_does (wsV RX12 284 RX12 yX12_whySit wsX12_whySit) := goodIn_app (goodIn_of _ (by decide +kernel)) ggX12_does_X12_whySit
set_option maxRecDepth 20000 in
theorem ggX12_does_X12_sits : GoodIn wsX12_does wsX12_sits := goodIn_r _ [21, 1, 22, 23, 24, 5, 25, 11, 12, 13, 26, 27, 28, 29, 30, 31, 32, 33, 34, 35, 36, 60, 61, 62, 63, 64, 65, 66, 67, 68, 69, 70, 71, 72, 73, 74, 75, 76, 77, 78, 79, 80, 81, 82, 83, 84, 85, 86, 87, 88, 89, 90, 91, 92, 93, 94, 95, 96, 97, 98, 99, 100, 101, 102, 103, 104, 105, 106, 107, 108, 109, 110, 111] (by decide +kernel) (by decide +kernel)
set_option maxRecDepth 20000 in
theorem gX12_does_X12_sits : GoodIn wsX12_does (wsV RX12 287 RX12 yX12_sits wsX12_sits) := goodIn_app (goodIn_of _ (by decide +kernel)) ggX12_does_X12_sits
set_option maxRecDepth 20000 in
theorem ggX12_does_X12_doesSit : GoodIn wsX12_does wsX12_doesSit := goodIn_r _ [10, 1, 11, 12, 5, 13, 60, 61, 62, 63, 64, 65, 66, 67, 68, 69, 70, 71, 72, 73, 74, 75, 76, 77, 78, 79, 80, 81, 82, 83, 84, 85, 86, 87, 88, 89, 90, 91, 92, 93, 94, 95, 96, 97, 98, 99, 100, 101, 102, 103, 104, 105, 106, 107, 108, 109, 110, 111] (by decide +kernel) (by decide +kernel)
set_option maxRecDepth 20000 in
theorem gX12_does_X12_doesSit : GoodIn wsX12_does (wsV RX12 251 RX12 yX12_doesSit wsX12_doesSit) := goodIn_app (goodIn_of _ (by decide +kernel)) ggX12_does_X12_doesSit
set_option maxRecDepth 20000 in
theorem ggX12_does_X12_bitOf : GoodIn wsX12_does wsX12_bitOf := goodIn_r _ [13] (by decide +kernel) (by decide +kernel)
set_option maxRecDepth 20000 in
theorem gX12_does_X12_bitOf : GoodIn wsX12_does (va_wsS RX12 248 yX12_bitOf wsX12_bitOf) := goodIn_app (goodIn_of _ (by decide +kernel)) ggX12_does_X12_bitOf
set_option maxRecDepth 20000 in
theorem ggX12_does_X12_whyHide : GoodIn wsX12_does wsX12_whyHide := goodIn_r _ [40, 1, 41, 42, 43, 5, 44, 45, 46, 47, 11, 12, 13, 14, 15, 16, 17, 7, 8, 9, 10, 23, 24, 25, 60, 61, 62, 63, 64, 65, 66, 67, 68, 69, 70, 71, 72, 73, 74, 75, 76, 77, 78, 79, 80, 81, 82, 83, 84, 85, 86, 87, 88, 89, 90, 91, 92, 93, 94, 95, 96, 97, 98, 99, 100, 101, 102, 103, 104, 105, 106, 107, 108, 109, 110, 111] (by decide +kernel) (by decide +kernel)
set_option maxRecDepth 20000 in
theorem gX12_does_X12_whyHide : GoodIn wsX12_does (wsV RX12 299 RX12 yX12_whyHide wsX12_whyHide) := goodIn_app (goodIn_of _ (by decide +kernel)) ggX12_does_X12_whyHide
set_option maxRecDepth 20000 in
theorem ggX12_does_X12_whyShow : GoodIn wsX12_does wsX12_whyShow := goodIn_r _ [51, 1, 41, 42, 43, 5, 44, 45, 46, 47, 11, 12, 13, 60, 61, 62, 63, 64, 65, 66, 67, 68, 69, 70, 71, 72, 73, 74, 75, 76, 77, 78, 79, 80, 81, 82, 83, 84, 85, 86, 87, 88, 89, 90, 91, 92, 93, 94, 95, 96, 97, 98, 99, 100, 101, 102, 103, 104, 105, 106, 107, 108, 109, 110, 111] (by decide +kernel) (by decide +kernel)
set_option maxRecDepth 20000 in
theorem gX12_does_X12_whyShow : GoodIn wsX12_does (wsV RX12 305 RX12 yX12_whyShow wsX12_whyShow) := goodIn_app (goodIn_of _ (by decide +kernel)) ggX12_does_X12_whyShow
set_option maxRecDepth 20000 in
theorem ggX12_does_X12_goesOn : GoodIn wsX12_does wsX12_goesOn := goodIn_r _ [55, 1, 56, 57, 58, 5, 59, 7, 8, 9, 10, 11, 12, 13, 34, 35, 36, 2, 3, 4, 6, 14, 15, 16, 17, 18, 19, 20, 21, 22, 23, 24, 25, 26, 27, 28, 29, 30, 31, 32, 33, 60, 61, 62, 63, 64, 65, 66, 67, 68, 69, 70, 71, 72, 73, 74, 75, 76, 77, 78, 79, 80, 81, 82, 83, 84, 85, 86, 87, 88, 89, 90, 91, 92, 93, 94, 95, 96, 97, 98, 99, 100, 101, 102, 103, 104, 105, 106, 107, 108, 109, 110, 111] (by decide +kernel) (by decide +kernel)
set_option maxRecDepth 20000 in
theorem gX12_does_X12_goesOn : GoodIn wsX12_does (wsV RX12 308 RX12 yX12_goesOn wsX12_goesOn) := goodIn_app (goodIn_of _ (by decide +kernel)) ggX12_does_X12_goesOn
theorem dX12_does_0 : decode cX12_does 0 = .ok (.iconst 0, 1) := by decide +kernel
theorem dX12_does_1 : decode cX12_does 1 = .ok (.istore_n 3, 1) := by decide +kernel
theorem dX12_does_2 : decode cX12_does 2 = .ok (.iload_n 1, 1) := by decide +kernel
theorem dX12_does_3 : decode cX12_does 3 = .ok (.tableswitch 172 0 4 #[33, 52, 84, 120, 146], 33) := by decide +kernel
theorem dX12_does_36 : decode cX12_does 36 = .ok (.aload_n 0, 1) := by decide +kernel
theorem dX12_does_37 : decode cX12_does 37 = .ok (.iload_n 2, 1) := by decide +kernel
theorem dX12_does_38 : decode cX12_does 38 = .ok (.invokevirtual 284, 3) := by decide +kernel
theorem dX12_does_41 : decode cX12_does 41 = .ok (.istore_n 3, 1) := by decide +kernel
theorem dX12_does_42 : decode cX12_does 42 = .ok (.iload_n 3, 1) := by decide +kernel
theorem dX12_does_43 : decode cX12_does 43 = .ok (.ifCond .ne 163, 3) := by decide +kernel
theorem dX12_does_46 : decode cX12_does 46 = .ok (.aload_n 0, 1) := by decide +kernel
theorem dX12_does_47 : decode cX12_does 47 = .ok (.iload_n 2, 1) := by decide +kernel
theorem dX12_does_48 : decode cX12_does 48 = .ok (.invokevirtual 287, 3) := by decide +kernel
theorem dX12_does_51 : decode cX12_does 51 = .ok (.pop, 1) := by decide +kernel
theorem dX12_does_52 : decode cX12_does 52 = .ok (.goto 154, 3) := by decide +kernel
theorem dX12_does_55 : decode cX12_does 55 = .ok (.aload_n 0, 1) := by decide +kernel
theorem dX12_does_56 : decode cX12_does 56 = .ok (.iload_n 2, 1) := by decide +kernel
theorem dX12_does_57 : decode cX12_does 57 = .ok (.invokevirtual 251, 3) := by decide +kernel
theorem dX12_does_60 : decode cX12_does 60 = .ok (.ifCond .eq 7, 3) := by decide +kernel
theorem dX12_does_63 : decode cX12_does 63 = .ok (.iconst 0, 1) := by decide +kernel
theorem dX12_does_64 : decode cX12_does 64 = .ok (.goto 4, 3) := by decide +kernel
theorem dX12_does_67 : decode cX12_does 67 = .ok (.iconst 1, 1) := by decide +kernel
theorem dX12_does_68 : decode cX12_does 68 = .ok (.istore_n 3, 1) := by decide +kernel
theorem dX12_does_69 : decode cX12_does 69 = .ok (.aload_n 0, 1) := by decide +kernel
theorem dX12_does_70 : decode cX12_does 70 = .ok (.getfield 33, 3) := by decide +kernel
theorem dX12_does_73 : decode cX12_does 73 = .ok (.bipush 63, 2) := by decide +kernel
theorem dX12_does_75 : decode cX12_does 75 = .ok (.dup2, 1) := by decide +kernel
theorem dX12_does_76 : decode cX12_does 76 = .ok (.iaload, 1) := by decide +kernel
theorem dX12_does_77 : decode cX12_does 77 = .ok (.iconst 1, 1) := by decide +kernel
theorem dX12_does_78 : decode cX12_does 78 = .ok (.iload_n 2, 1) := by decide +kernel
theorem dX12_does_79 : decode cX12_does 79 = .ok (.ishl, 1) := by decide +kernel
theorem dX12_does_80 : decode cX12_does 80 = .ok (.iconst (-1), 1) := by decide +kernel
theorem dX12_does_81 : decode cX12_does 81 = .ok (.ixor, 1) := by decide +kernel
theorem dX12_does_82 : decode cX12_does 82 = .ok (.iand, 1) := by decide +kernel
theorem dX12_does_83 : decode cX12_does 83 = .ok (.iastore, 1) := by decide +kernel
theorem dX12_does_84 : decode cX12_does 84 = .ok (.goto 122, 3) := by decide +kernel
theorem dX12_does_87 : decode cX12_does 87 = .ok (.aload_n 0, 1) := by decide +kernel
theorem dX12_does_88 : decode cX12_does 88 = .ok (.getfield 33, 3) := by decide +kernel
theorem dX12_does_91 : decode cX12_does 91 = .ok (.bipush 45, 2) := by decide +kernel
theorem dX12_does_93 : decode cX12_does 93 = .ok (.iaload, 1) := by decide +kernel
theorem dX12_does_94 : decode cX12_does 94 = .ok (.iload_n 2, 1) := by decide +kernel
theorem dX12_does_95 : decode cX12_does 95 = .ok (.invokestatic 248, 3) := by decide +kernel
theorem dX12_does_98 : decode cX12_does 98 = .ok (.ifCond .eq 7, 3) := by decide +kernel
theorem dX12_does_101 : decode cX12_does 101 = .ok (.iconst 1, 1) := by decide +kernel
theorem dX12_does_102 : decode cX12_does 102 = .ok (.goto 4, 3) := by decide +kernel
theorem dX12_does_105 : decode cX12_does 105 = .ok (.iconst 0, 1) := by decide +kernel
theorem dX12_does_106 : decode cX12_does 106 = .ok (.istore_n 3, 1) := by decide +kernel
theorem dX12_does_107 : decode cX12_does 107 = .ok (.aload_n 0, 1) := by decide +kernel
theorem dX12_does_108 : decode cX12_does 108 = .ok (.getfield 33, 3) := by decide +kernel
theorem dX12_does_111 : decode cX12_does 111 = .ok (.bipush 45, 2) := by decide +kernel
theorem dX12_does_113 : decode cX12_does 113 = .ok (.dup2, 1) := by decide +kernel
theorem dX12_does_114 : decode cX12_does 114 = .ok (.iaload, 1) := by decide +kernel
theorem dX12_does_115 : decode cX12_does 115 = .ok (.iconst 1, 1) := by decide +kernel
theorem dX12_does_116 : decode cX12_does 116 = .ok (.iload_n 2, 1) := by decide +kernel
theorem dX12_does_117 : decode cX12_does 117 = .ok (.ishl, 1) := by decide +kernel
theorem dX12_does_118 : decode cX12_does 118 = .ok (.ior, 1) := by decide +kernel
theorem dX12_does_119 : decode cX12_does 119 = .ok (.iastore, 1) := by decide +kernel
theorem dX12_does_120 : decode cX12_does 120 = .ok (.goto 86, 3) := by decide +kernel
theorem dX12_does_123 : decode cX12_does 123 = .ok (.aload_n 0, 1) := by decide +kernel
theorem dX12_does_124 : decode cX12_does 124 = .ok (.iload_n 2, 1) := by decide +kernel
theorem dX12_does_125 : decode cX12_does 125 = .ok (.invokevirtual 299, 3) := by decide +kernel
theorem dX12_does_128 : decode cX12_does 128 = .ok (.istore_n 3, 1) := by decide +kernel
theorem dX12_does_129 : decode cX12_does 129 = .ok (.iload_n 3, 1) := by decide +kernel
theorem dX12_does_130 : decode cX12_does 130 = .ok (.ifCond .ne 76, 3) := by decide +kernel
theorem dX12_does_133 : decode cX12_does 133 = .ok (.aload_n 0, 1) := by decide +kernel
theorem dX12_does_134 : decode cX12_does 134 = .ok (.getfield 33, 3) := by decide +kernel
theorem dX12_does_137 : decode cX12_does 137 = .ok (.bipush 47, 2) := by decide +kernel
theorem dX12_does_139 : decode cX12_does 139 = .ok (.dup2, 1) := by decide +kernel
theorem dX12_does_140 : decode cX12_does 140 = .ok (.iaload, 1) := by decide +kernel
theorem dX12_does_141 : decode cX12_does 141 = .ok (.iconst 1, 1) := by decide +kernel
theorem dX12_does_142 : decode cX12_does 142 = .ok (.iload_n 2, 1) := by decide +kernel
theorem dX12_does_143 : decode cX12_does 143 = .ok (.ishl, 1) := by decide +kernel
theorem dX12_does_144 : decode cX12_does 144 = .ok (.ior, 1) := by decide +kernel
theorem dX12_does_145 : decode cX12_does 145 = .ok (.iastore, 1) := by decide +kernel
theorem dX12_does_146 : decode cX12_does 146 = .ok (.goto 60, 3) := by decide +kernel
theorem dX12_does_149 : decode cX12_does 149 = .ok (.aload_n 0, 1) := by decide +kernel
theorem dX12_does_150 : decode cX12_does 150 = .ok (.iload_n 2, 1) := by decide +kernel
theorem dX12_does_151 : decode cX12_does 151 = .ok (.invokevirtual 305, 3) := by decide +kernel
theorem dX12_does_154 : decode cX12_does 154 = .ok (.istore_n 3, 1) := by decide +kernel
theorem dX12_does_155 : decode cX12_does 155 = .ok (.iload_n 3, 1) := by decide +kernel
theorem dX12_does_156 : decode cX12_does 156 = .ok (.ifCond .ne 50, 3) := by decide +kernel
theorem dX12_does_159 : decode cX12_does 159 = .ok (.aload_n 0, 1) := by decide +kernel
theorem dX12_does_160 : decode cX12_does 160 = .ok (.getfield 33, 3) := by decide +kernel
theorem dX12_does_163 : decode cX12_does 163 = .ok (.bipush 47, 2) := by decide +kernel
theorem dX12_does_165 : decode cX12_does 165 = .ok (.dup2, 1) := by decide +kernel
theorem dX12_does_166 : decode cX12_does 166 = .ok (.iaload, 1) := by decide +kernel
theorem dX12_does_167 : decode cX12_does 167 = .ok (.iconst 1, 1) := by decide +kernel
theorem dX12_does_168 : decode cX12_does 168 = .ok (.iload_n 2, 1) := by decide +kernel
theorem dX12_does_169 : decode cX12_does 169 = .ok (.ishl, 1) := by decide +kernel
theorem dX12_does_170 : decode cX12_does 170 = .ok (.ixor, 1) := by decide +kernel
theorem dX12_does_171 : decode cX12_does 171 = .ok (.iastore, 1) := by decide +kernel
theorem dX12_does_172 : decode cX12_does 172 = .ok (.goto 34, 3) := by decide +kernel
theorem dX12_does_175 : decode cX12_does 175 = .ok (.aload_n 0, 1) := by decide +kernel
theorem dX12_does_176 : decode cX12_does 176 = .ok (.getfield 33, 3) := by decide +kernel
theorem dX12_does_179 : decode cX12_does 179 = .ok (.bipush 44, 2) := by decide +kernel
theorem dX12_does_181 : decode cX12_does 181 = .ok (.iaload, 1) := by decide +kernel
theorem dX12_does_182 : decode cX12_does 182 = .ok (.iload_n 2, 1) := by decide +kernel
theorem dX12_does_183 : decode cX12_does 183 = .ok (.iadd, 1) := by decide +kernel
theorem dX12_does_184 : decode cX12_does 184 = .ok (.sipush 400, 3) := by decide +kernel
theorem dX12_does_187 : decode cX12_does 187 = .ok (.if_icmp .le 7, 3) := by decide +kernel
theorem dX12_does_190 : decode cX12_does 190 = .ok (.iconst 1, 1) := by decide +kernel
theorem dX12_does_191 : decode cX12_does 191 = .ok (.goto 4, 3) := by decide +kernel
theorem dX12_does_194 : decode cX12_does 194 = .ok (.iconst 0, 1) := by decide +kernel
theorem dX12_does_195 : decode cX12_does 195 = .ok (.istore_n 3, 1) := by decide +kernel
theorem dX12_does_196 : decode cX12_does 196 = .ok (.iload_n 3, 1) := by decide +kernel
theorem dX12_does_197 : decode cX12_does 197 = .ok (.ifCond .ne 9, 3) := by decide +kernel
theorem dX12_does_200 : decode cX12_does 200 = .ok (.aload_n 0, 1) := by decide +kernel
theorem dX12_does_201 : decode cX12_does 201 = .ok (.iload_n 2, 1) := by decide +kernel
theorem dX12_does_202 : decode cX12_does 202 = .ok (.invokevirtual 308, 3) := by decide +kernel
theorem dX12_does_205 : decode cX12_does 205 = .ok (.pop, 1) := by decide +kernel
theorem dX12_does_206 : decode cX12_does 206 = .ok (.iload_n 3, 1) := by decide +kernel
theorem dX12_does_207 : decode cX12_does 207 = .ok (.ifCond .le 12, 3) := by decide +kernel
theorem dX12_does_210 : decode cX12_does 210 = .ok (.bipush 10, 2) := by decide +kernel
theorem dX12_does_212 : decode cX12_does 212 = .ok (.iload_n 1, 1) := by decide +kernel
theorem dX12_does_213 : decode cX12_does 213 = .ok (.imul, 1) := by decide +kernel
theorem dX12_does_214 : decode cX12_does 214 = .ok (.iload_n 3, 1) := by decide +kernel
theorem dX12_does_215 : decode cX12_does 215 = .ok (.iadd, 1) := by decide +kernel
theorem dX12_does_216 : decode cX12_does 216 = .ok (.goto 4, 3) := by decide +kernel
theorem dX12_does_219 : decode cX12_does 219 = .ok (.iconst 0, 1) := by decide +kernel
theorem dX12_does_220 : decode cX12_does 220 = .ok (.ireturn, 1) := by decide +kernel
set_option maxRecDepth 20000 in
theorem ggX12_book_X12_isIn : GoodIn wsX12_book wsX12_isIn := goodIn_r _ [16] (by decide +kernel) (by decide +kernel)
set_option maxRecDepth 20000 in
theorem gX12_book_X12_isIn : GoodIn wsX12_book (va_wsS RX12 182 yX12_isIn wsX12_isIn) := goodIn_app (goodIn_of _ (by decide +kernel)) ggX12_book_X12_isIn
set_option maxRecDepth 20000 in
theorem ggX12_book_X12_taken : GoodIn wsX12_book wsX12_taken := goodIn_r _ [20, 21, 22, 23, 24, 163, 164, 165, 166, 167, 168, 169, 170, 171, 172, 173, 174, 175, 176, 177, 178, 179, 180, 181, 182, 183, 184, 185, 186, 187, 188, 189, 190, 191, 192, 193, 194, 195, 196, 197, 198, 199, 200, 201, 202, 203, 204, 205, 206, 207, 208, 209, 210, 211, 212, 213, 214] (by decide +kernel) (by decide +kernel)
set_option maxRecDepth 20000 in
theorem gX12_book_X12_taken : GoodIn wsX12_book (wsV RX12 233 RX12 yX12_taken wsX12_taken) := goodIn_app (goodIn_of _ (by decide +kernel)) ggX12_book_X12_taken
set_option maxRecDepth 20000 in
theorem ggX12_book_X12_step : GoodIn wsX12_book wsX12_step := goodIn_r _ [28, 23, 29, 30, 22, 24, 4, 31, 32, 33, 34, 35, 15, 36, 37, 38, 39, 40, 41, 42, 43, 163, 164, 165, 166, 167, 168, 169, 170, 171, 172, 173, 174, 175, 176, 177, 178, 179, 180, 181, 182, 183, 184, 185, 186, 187, 188, 189, 190, 191, 192, 193, 194, 195, 196, 197, 198, 199, 200, 201, 202, 203, 204, 205, 206, 207, 208, 209, 210, 211, 212, 213, 214] (by decide +kernel) (by decide +kernel)
set_option maxRecDepth 20000 in
theorem gX12_book_X12_step : GoodIn wsX12_book (wsV RX12 179 RX12 yX12_step wsX12_step) := goodIn_app (goodIn_of _ (by decide +kernel)) ggX12_book_X12_step
set_option maxRecDepth 20000 in
theorem ggX12_book_X12_bookLine : GoodIn wsX12_book wsX12_bookLine := goodIn_r _ [47, 3, 48, 49, 50, 51, 8, 52, 7, 53, 54, 55, 56, 57, 15, 58, 4, 32, 59, 60, 61, 62, 63, 64, 65, 66, 67, 68, 69, 70, 71, 2, 29, 5, 72, 73, 74, 75, 76, 25, 26, 27, 28, 23, 30, 22, 24, 31, 33, 34, 35, 36, 37, 38, 39, 40, 41, 42, 43, 77, 78, 79, 80, 81, 82, 83, 84, 13, 14, 16, 163, 164, 165, 166, 167, 168, 169, 170, 171, 172, 173, 174, 175, 176, 177, 178, 179, 180, 181, 182, 183, 184, 185, 186, 187, 188, 189, 190, 191, 192, 193, 194, 195, 196, 197, 198, 199, 200, 201, 202, 203, 204, 205, 206, 207, 208, 209, 210, 211, 212, 213, 214] (by decide +kernel) (by decide +kernel)
set_option maxRecDepth 20000 in
theorem gX12_book_X12_bookLine : GoodIn wsX12_book (wsV RX12 391 RX12 yX12_bookLine wsX12_bookLine) := goodIn_app (goodIn_of _ (by decide +kernel)) ggX12_book_X12_bookLine
set_option maxRecDepth 20000 in
theorem ggX12_book_X12_sign : GoodIn wsX12_book wsX12_sign := goodIn_r _ [88, 89, 90, 91, 15, 92, 4, 31, 68, 69, 70, 71, 2, 29, 5, 25, 26, 27, 28, 23, 30, 22, 24, 32, 33, 34, 35, 36, 37, 38, 39, 40, 41, 42, 43, 163, 164, 165, 166, 167, 168, 169, 170, 171, 172, 173, 174, 175, 176, 177, 178, 179, 180, 181, 182, 183, 184, 185, 186, 187, 188, 189, 190, 191, 192, 193, 194, 195, 196, 197, 198, 199, 200, 201, 202, 203, 204, 205, 206, 207, 208, 209, 210, 211, 212, 213, 214] (by decide +kernel) (by decide +kernel)
set_option maxRecDepth 20000 in
theorem gX12_book_X12_sign : GoodIn wsX12_book (wsV RX12 242 RX12 yX12_sign wsX12_sign) := goodIn_app (goodIn_of _ (by decide +kernel)) ggX12_book_X12_sign
set_option maxRecDepth 20000 in
theorem ggX12_book_X12_tries : GoodIn wsX12_book wsX12_tries := goodIn_r _ [96, 12, 8, 163, 164, 165, 166, 167, 168, 169, 170, 171, 172, 173, 174, 175, 176, 177, 178, 179, 180, 181, 182, 183, 184, 185, 186, 187, 188, 189, 190, 191, 192, 193, 194, 195, 196, 197, 198, 199, 200, 201, 202, 203, 204, 205, 206, 207, 208, 209, 210, 211, 212, 213, 214] (by decide +kernel) (by decide +kernel)
set_option maxRecDepth 20000 in
theorem gX12_book_X12_tries : GoodIn wsX12_book (wsV RX12 314 RX12 yX12_tries wsX12_tries) := goodIn_app (goodIn_of _ (by decide +kernel)) ggX12_book_X12_tries
set_option maxRecDepth 20000 in
theorem ggX12_book_X12_does : GoodIn wsX12_book wsX12_does := goodIn_r _ [100, 8, 101, 102, 103, 15, 104, 105, 106, 107, 108, 109, 110, 111, 112, 113, 114, 115, 116, 117, 118, 119, 120, 121, 122, 123, 124, 125, 126, 127, 128, 129, 130, 131, 132, 133, 134, 135, 136, 137, 138, 139, 140, 141, 142, 13, 14, 16, 143, 144, 145, 146, 147, 148, 149, 150, 151, 152, 153, 154, 163, 164, 165, 166, 167, 168, 169, 170, 171, 172, 173, 174, 175, 176, 177, 178, 179, 180, 181, 182, 183, 184, 185, 186, 187, 188, 189, 190, 191, 192, 193, 194, 195, 196, 197, 198, 199, 200, 201, 202, 203, 204, 205, 206, 207, 208, 209, 210, 211, 212, 213, 214] (by decide +kernel) (by decide +kernel)
set_option maxRecDepth 20000 in
theorem gX12_book_X12_does : GoodIn wsX12_book (wsV RX12 394 RX12 yX12_does wsX12_does) := goodIn_app (goodIn_of _ (by decide +kernel)) ggX12_book_X12_does
set_option maxRecDepth 20000 in
theorem ggX12_book_X12_keep : GoodIn wsX12_book wsX12_keep := goodIn_r _ [158, 11, 10, 8, 163, 164, 165, 166, 167, 168, 169, 170, 171, 172, 173, 174, 175, 176, 177, 178, 179, 180, 181, 182, 183, 184, 185, 186, 187, 188, 189, 190, 191, 192, 193, 194, 195, 196, 197, 198, 199, 200, 201, 202, 203, 204, 205, 206, 207, 208, 209, 210, 211, 212, 213, 214] (by decide +kernel) (by decide +kernel)
set_option maxRecDepth 20000 in
theorem gX12_book_X12_keep : GoodIn wsX12_book (wsV RX12 293 RX12 yX12_keep wsX12_keep) := goodIn_app (goodIn_of _ (by decide +kernel)) ggX12_book_X12_keep
set_option maxRecDepth 20000 in
theorem ggX12_book_X12_back : GoodIn wsX12_book wsX12_back := goodIn_r _ [162, 8, 12, 163, 164, 165, 166, 167, 168, 169, 170, 171, 172, 173, 174, 175, 176, 177, 178, 179, 180, 181, 182, 183, 184, 185, 186, 187, 188, 189, 190, 191, 192, 193, 194, 195, 196, 197, 198, 199, 200, 201, 202, 203, 204, 205, 206, 207, 208, 209, 210, 211, 212, 213, 214] (by decide +kernel) (by decide +kernel)
set_option maxRecDepth 20000 in
theorem gX12_book_X12_back : GoodIn wsX12_book (wsV RX12 320 RX12 yX12_back wsX12_back) := goodIn_app (goodIn_of _ (by decide +kernel)) ggX12_book_X12_back
theorem dX12_book_0 : decode cX12_book 0 = .ok (.aload_n 0, 1) := by decide +kernel
theorem dX12_book_1 : decode cX12_book 1 = .ok (.iconst 0, 1) := by decide +kernel
theorem dX12_book_2 : decode cX12_book 2 = .ok (.putfield 1, 3) := by decide +kernel
theorem dX12_book_5 : decode cX12_book 5 = .ok (.iload_n 1, 1) := by decide +kernel
theorem dX12_book_6 : decode cX12_book 6 = .ok (.iconst 0, 1) := by decide +kernel
theorem dX12_book_7 : decode cX12_book 7 = .ok (.iconst 1, 1) := by decide +kernel
theorem dX12_book_8 : decode cX12_book 8 = .ok (.invokestatic 182, 3) := by decide +kernel
theorem dX12_book_11 : decode cX12_book 11 = .ok (.ifCond .ne 7, 3) := by decide +kernel
theorem dX12_book_14 : decode cX12_book 14 = .ok (.sipush (-1000), 3) := by decide +kernel
theorem dX12_book_17 : decode cX12_book 17 = .ok (.ireturn, 1) := by decide +kernel
theorem dX12_book_18 : decode cX12_book 18 = .ok (.aload_n 0, 1) := by decide +kernel
theorem dX12_book_19 : decode cX12_book 19 = .ok (.sipush 400, 3) := by decide +kernel
theorem dX12_book_22 : decode cX12_book 22 = .ok (.invokevirtual 233, 3) := by decide +kernel
theorem dX12_book_25 : decode cX12_book 25 = .ok (.aload_n 0, 1) := by decide +kernel
theorem dX12_book_26 : decode cX12_book 26 = .ok (.iconst 0, 1) := by decide +kernel
theorem dX12_book_27 : decode cX12_book 27 = .ok (.putfield 167, 3) := by decide +kernel
theorem dX12_book_30 : decode cX12_book 30 = .ok (.aload_n 0, 1) := by decide +kernel
theorem dX12_book_31 : decode cX12_book 31 = .ok (.iconst 0, 1) := by decide +kernel
theorem dX12_book_32 : decode cX12_book 32 = .ok (.putfield 388, 3) := by decide +kernel
theorem dX12_book_35 : decode cX12_book 35 = .ok (.aload_n 0, 1) := by decide +kernel
theorem dX12_book_36 : decode cX12_book 36 = .ok (.invokevirtual 179, 3) := by decide +kernel
theorem dX12_book_39 : decode cX12_book 39 = .ok (.aload_n 0, 1) := by decide +kernel
theorem dX12_book_40 : decode cX12_book 40 = .ok (.getfield 150, 3) := by decide +kernel
theorem dX12_book_43 : decode cX12_book 43 = .ok (.ifCond .eq 40, 3) := by decide +kernel
theorem dX12_book_46 : decode cX12_book 46 = .ok (.aload_n 0, 1) := by decide +kernel
theorem dX12_book_47 : decode cX12_book 47 = .ok (.invokevirtual 391, 3) := by decide +kernel
theorem dX12_book_50 : decode cX12_book 50 = .ok (.ifCond .eq 12, 3) := by decide +kernel
theorem dX12_book_53 : decode cX12_book 53 = .ok (.aload_n 0, 1) := by decide +kernel
theorem dX12_book_54 : decode cX12_book 54 = .ok (.bipush 59, 2) := by decide +kernel
theorem dX12_book_56 : decode cX12_book 56 = .ok (.invokevirtual 242, 3) := by decide +kernel
theorem dX12_book_59 : decode cX12_book 59 = .ok (.ifCond .ne 11, 3) := by decide +kernel
theorem dX12_book_62 : decode cX12_book 62 = .ok (.bipush (-2), 2) := by decide +kernel
theorem dX12_book_64 : decode cX12_book 64 = .ok (.aload_n 0, 1) := by decide +kernel
theorem dX12_book_65 : decode cX12_book 65 = .ok (.getfield 170, 3) := by decide +kernel
theorem dX12_book_68 : decode cX12_book 68 = .ok (.isub, 1) := by decide +kernel
theorem dX12_book_69 : decode cX12_book 69 = .ok (.ireturn, 1) := by decide +kernel
theorem dX12_book_70 : decode cX12_book 70 = .ok (.aload_n 0, 1) := by decide +kernel
theorem dX12_book_71 : decode cX12_book 71 = .ok (.dup, 1) := by decide +kernel
theorem dX12_book_72 : decode cX12_book 72 = .ok (.getfield 388, 3) := by decide +kernel
theorem dX12_book_75 : decode cX12_book 75 = .ok (.iconst 1, 1) := by decide +kernel
theorem dX12_book_76 : decode cX12_book 76 = .ok (.iadd, 1) := by decide +kernel
theorem dX12_book_77 : decode cX12_book 77 = .ok (.putfield 388, 3) := by decide +kernel
theorem dX12_book_80 : decode cX12_book 80 = .ok (.goto (-41), 3) := by decide +kernel
theorem dX12_book_83 : decode cX12_book 83 = .ok (.aload_n 0, 1) := by decide +kernel
theorem dX12_book_84 : decode cX12_book 84 = .ok (.invokevirtual 314, 3) := by decide +kernel
theorem dX12_book_87 : decode cX12_book 87 = .ok (.iconst 0, 1) := by decide +kernel
theorem dX12_book_88 : decode cX12_book 88 = .ok (.istore_n 2, 1) := by decide +kernel
theorem dX12_book_89 : decode cX12_book 89 = .ok (.iload_n 2, 1) := by decide +kernel
theorem dX12_book_90 : decode cX12_book 90 = .ok (.iconst 4, 1) := by decide +kernel
theorem dX12_book_91 : decode cX12_book 91 = .ok (.if_icmp .ge 16, 3) := by decide +kernel
theorem dX12_book_94 : decode cX12_book 94 = .ok (.aload_n 0, 1) := by decide +kernel
theorem dX12_book_95 : decode cX12_book 95 = .ok (.getfield 74, 3) := by decide +kernel
theorem dX12_book_98 : decode cX12_book 98 = .ok (.iload_n 2, 1) := by decide +kernel
theorem dX12_book_99 : decode cX12_book 99 = .ok (.iconst 0, 1) := by decide +kernel
theorem dX12_book_100 : decode cX12_book 100 = .ok (.iastore, 1) := by decide +kernel
theorem dX12_book_101 : decode cX12_book 101 = .ok (.iinc 2 1, 3) := by decide +kernel
theorem dX12_book_104 : decode cX12_book 104 = .ok (.goto (-15), 3) := by decide +kernel
theorem dX12_book_107 : decode cX12_book 107 = .ok (.iconst (-1), 1) := by decide +kernel
theorem dX12_book_108 : decode cX12_book 108 = .ok (.istore_n 2, 1) := by decide +kernel
theorem dX12_book_109 : decode cX12_book 109 = .ok (.iconst 0, 1) := by decide +kernel
theorem dX12_book_110 : decode cX12_book 110 = .ok (.istore_n 3, 1) := by decide +kernel
theorem dX12_book_111 : decode cX12_book 111 = .ok (.iload_n 3, 1) := by decide +kernel
theorem dX12_book_112 : decode cX12_book 112 = .ok (.aload_n 0, 1) := by decide +kernel
theorem dX12_book_113 : decode cX12_book 113 = .ok (.getfield 388, 3) := by decide +kernel
theorem dX12_book_116 : decode cX12_book 116 = .ok (.if_icmp .ge 65, 3) := by decide +kernel
theorem dX12_book_119 : decode cX12_book 119 = .ok (.iload_n 2, 1) := by decide +kernel
theorem dX12_book_120 : decode cX12_book 120 = .ok (.ifCond .ge 61, 3) := by decide +kernel
theorem dX12_book_123 : decode cX12_book 123 = .ok (.aload_n 0, 1) := by decide +kernel
theorem dX12_book_124 : decode cX12_book 124 = .ok (.getfield 74, 3) := by decide +kernel
theorem dX12_book_127 : decode cX12_book 127 = .ok (.iconst 0, 1) := by decide +kernel
theorem dX12_book_128 : decode cX12_book 128 = .ok (.aload_n 0, 1) := by decide +kernel
theorem dX12_book_129 : decode cX12_book 129 = .ok (.aload_n 0, 1) := by decide +kernel
theorem dX12_book_130 : decode cX12_book 130 = .ok (.getfield 40, 3) := by decide +kernel
theorem dX12_book_133 : decode cX12_book 133 = .ok (.iconst 3, 1) := by decide +kernel
theorem dX12_book_134 : decode cX12_book 134 = .ok (.iload_n 3, 1) := by decide +kernel
theorem dX12_book_135 : decode cX12_book 135 = .ok (.imul, 1) := by decide +kernel
theorem dX12_book_136 : decode cX12_book 136 = .ok (.iaload, 1) := by decide +kernel
theorem dX12_book_137 : decode cX12_book 137 = .ok (.aload_n 0, 1) := by decide +kernel
theorem dX12_book_138 : decode cX12_book 138 = .ok (.getfield 40, 3) := by decide +kernel
theorem dX12_book_141 : decode cX12_book 141 = .ok (.iconst 3, 1) := by decide +kernel
theorem dX12_book_142 : decode cX12_book 142 = .ok (.iload_n 3, 1) := by decide +kernel
theorem dX12_book_143 : decode cX12_book 143 = .ok (.imul, 1) := by decide +kernel
theorem dX12_book_144 : decode cX12_book 144 = .ok (.iconst 1, 1) := by decide +kernel
theorem dX12_book_145 : decode cX12_book 145 = .ok (.iadd, 1) := by decide +kernel
theorem dX12_book_146 : decode cX12_book 146 = .ok (.iaload, 1) := by decide +kernel
theorem dX12_book_147 : decode cX12_book 147 = .ok (.invokevirtual 394, 3) := by decide +kernel
theorem dX12_book_150 : decode cX12_book 150 = .ok (.iastore, 1) := by decide +kernel
theorem dX12_book_151 : decode cX12_book 151 = .ok (.aload_n 0, 1) := by decide +kernel
theorem dX12_book_152 : decode cX12_book 152 = .ok (.getfield 74, 3) := by decide +kernel
theorem dX12_book_155 : decode cX12_book 155 = .ok (.iconst 0, 1) := by decide +kernel
theorem dX12_book_156 : decode cX12_book 156 = .ok (.iaload, 1) := by decide +kernel
theorem dX12_book_157 : decode cX12_book 157 = .ok (.ifCond .le 8, 3) := by decide +kernel
theorem dX12_book_160 : decode cX12_book 160 = .ok (.iload_n 3, 1) := by decide +kernel
theorem dX12_book_161 : decode cX12_book 161 = .ok (.istore_n 2, 1) := by decide +kernel
theorem dX12_book_162 : decode cX12_book 162 = .ok (.goto 13, 3) := by decide +kernel
theorem dX12_book_165 : decode cX12_book 165 = .ok (.aload_n 0, 1) := by decide +kernel
theorem dX12_book_166 : decode cX12_book 166 = .ok (.getfield 74, 3) := by decide +kernel
theorem dX12_book_169 : decode cX12_book 169 = .ok (.iconst 1, 1) := by decide +kernel
theorem dX12_book_170 : decode cX12_book 170 = .ok (.dup2, 1) := by decide +kernel
theorem dX12_book_171 : decode cX12_book 171 = .ok (.iaload, 1) := by decide +kernel
theorem dX12_book_172 : decode cX12_book 172 = .ok (.iconst 1, 1) := by decide +kernel
theorem dX12_book_173 : decode cX12_book 173 = .ok (.iadd, 1) := by decide +kernel
theorem dX12_book_174 : decode cX12_book 174 = .ok (.iastore, 1) := by decide +kernel
theorem dX12_book_175 : decode cX12_book 175 = .ok (.iinc 3 1, 3) := by decide +kernel
theorem dX12_book_178 : decode cX12_book 178 = .ok (.goto (-67), 3) := by decide +kernel
theorem dX12_book_181 : decode cX12_book 181 = .ok (.aload_n 0, 1) := by decide +kernel
theorem dX12_book_182 : decode cX12_book 182 = .ok (.getfield 74, 3) := by decide +kernel
theorem dX12_book_185 : decode cX12_book 185 = .ok (.iconst 2, 1) := by decide +kernel
theorem dX12_book_186 : decode cX12_book 186 = .ok (.aload_n 0, 1) := by decide +kernel
theorem dX12_book_187 : decode cX12_book 187 = .ok (.getfield 33, 3) := by decide +kernel
theorem dX12_book_190 : decode cX12_book 190 = .ok (.bipush 44, 2) := by decide +kernel
theorem dX12_book_192 : decode cX12_book 192 = .ok (.iaload, 1) := by decide +kernel
theorem dX12_book_193 : decode cX12_book 193 = .ok (.iastore, 1) := by decide +kernel
theorem dX12_book_194 : decode cX12_book 194 = .ok (.aload_n 0, 1) := by decide +kernel
theorem dX12_book_195 : decode cX12_book 195 = .ok (.getfield 74, 3) := by decide +kernel
theorem dX12_book_198 : decode cX12_book 198 = .ok (.iconst 3, 1) := by decide +kernel
theorem dX12_book_199 : decode cX12_book 199 = .ok (.aload_n 0, 1) := by decide +kernel
theorem dX12_book_200 : decode cX12_book 200 = .ok (.getfield 33, 3) := by decide +kernel
theorem dX12_book_203 : decode cX12_book 203 = .ok (.bipush 63, 2) := by decide +kernel
theorem dX12_book_205 : decode cX12_book 205 = .ok (.iaload, 1) := by decide +kernel
theorem dX12_book_206 : decode cX12_book 206 = .ok (.iastore, 1) := by decide +kernel
theorem dX12_book_207 : decode cX12_book 207 = .ok (.aload_n 0, 1) := by decide +kernel
theorem dX12_book_208 : decode cX12_book 208 = .ok (.iconst 1, 1) := by decide +kernel
theorem dX12_book_209 : decode cX12_book 209 = .ok (.putfield 397, 3) := by decide +kernel
theorem dX12_book_212 : decode cX12_book 212 = .ok (.iload_n 1, 1) := by decide +kernel
theorem dX12_book_213 : decode cX12_book 213 = .ok (.iconst 1, 1) := by decide +kernel
theorem dX12_book_214 : decode cX12_book 214 = .ok (.if_icmp .ne 52, 3) := by decide +kernel
theorem dX12_book_217 : decode cX12_book 217 = .ok (.aload_n 0, 1) := by decide +kernel
theorem dX12_book_218 : decode cX12_book 218 = .ok (.getfield 74, 3) := by decide +kernel
theorem dX12_book_221 : decode cX12_book 221 = .ok (.iconst 1, 1) := by decide +kernel
theorem dX12_book_222 : decode cX12_book 222 = .ok (.iaload, 1) := by decide +kernel
theorem dX12_book_223 : decode cX12_book 223 = .ok (.ifCond .le 43, 3) := by decide +kernel
theorem dX12_book_226 : decode cX12_book 226 = .ok (.aload_n 0, 1) := by decide +kernel
theorem dX12_book_227 : decode cX12_book 227 = .ok (.invokevirtual 293, 3) := by decide +kernel
theorem dX12_book_230 : decode cX12_book 230 = .ok (.iconst 0, 1) := by decide +kernel
theorem dX12_book_231 : decode cX12_book 231 = .ok (.istore_n 3, 1) := by decide +kernel
theorem dX12_book_232 : decode cX12_book 232 = .ok (.iload_n 3, 1) := by decide +kernel
theorem dX12_book_233 : decode cX12_book 233 = .ok (.bipush 48, 2) := by decide +kernel
theorem dX12_book_235 : decode cX12_book 235 = .ok (.if_icmp .ge 31, 3) := by decide +kernel
theorem dX12_book_238 : decode cX12_book 238 = .ok (.aload_n 0, 1) := by decide +kernel
theorem dX12_book_239 : decode cX12_book 239 = .ok (.getfield 50, 3) := by decide +kernel
theorem dX12_book_242 : decode cX12_book 242 = .ok (.bipush 48, 2) := by decide +kernel
theorem dX12_book_244 : decode cX12_book 244 = .ok (.aload_n 0, 1) := by decide +kernel
theorem dX12_book_245 : decode cX12_book 245 = .ok (.getfield 245, 3) := by decide +kernel
theorem dX12_book_248 : decode cX12_book 248 = .ok (.iconst 1, 1) := by decide +kernel
theorem dX12_book_249 : decode cX12_book 249 = .ok (.isub, 1) := by decide +kernel
theorem dX12_book_250 : decode cX12_book 250 = .ok (.imul, 1) := by decide +kernel
theorem dX12_book_251 : decode cX12_book 251 = .ok (.iload_n 3, 1) := by decide +kernel
theorem dX12_book_252 : decode cX12_book 252 = .ok (.iadd, 1) := by decide +kernel
theorem dX12_book_253 : decode cX12_book 253 = .ok (.aload_n 0, 1) := by decide +kernel
theorem dX12_book_254 : decode cX12_book 254 = .ok (.getfield 53, 3) := by decide +kernel
theorem dX12_book_257 : decode cX12_book 257 = .ok (.iload_n 3, 1) := by decide +kernel
theorem dX12_book_258 : decode cX12_book 258 = .ok (.iaload, 1) := by decide +kernel
theorem dX12_book_259 : decode cX12_book 259 = .ok (.iastore, 1) := by decide +kernel
theorem dX12_book_260 : decode cX12_book 260 = .ok (.iinc 3 1, 3) := by decide +kernel
theorem dX12_book_263 : decode cX12_book 263 = .ok (.goto (-31), 3) := by decide +kernel
theorem dX12_book_266 : decode cX12_book 266 = .ok (.iload_n 1, 1) := by decide +kernel
theorem dX12_book_267 : decode cX12_book 267 = .ok (.ifCond .ne 7, 3) := by decide +kernel
theorem dX12_book_270 : decode cX12_book 270 = .ok (.aload_n 0, 1) := by decide +kernel
theorem dX12_book_271 : decode cX12_book 271 = .ok (.invokevirtual 320, 3) := by decide +kernel
theorem dX12_book_274 : decode cX12_book 274 = .ok (.iload_n 2, 1) := by decide +kernel
theorem dX12_book_275 : decode cX12_book 275 = .ok (.ireturn, 1) := by decide +kernel
set_option maxRecDepth 20000 in
theorem ggX12_told_X12_isIn : GoodIn wsX12_told wsX12_isIn := goodIn_r _ [7] (by decide +kernel) (by decide +kernel)
set_option maxRecDepth 20000 in
theorem gX12_told_X12_isIn : GoodIn wsX12_told (va_wsS RX12 182 yX12_isIn wsX12_isIn) := goodIn_app (goodIn_of _ (by decide +kernel)) ggX12_told_X12_isIn
theorem dX12_told_0 : decode cX12_told 0 = .ok (.aload_n 0, 1) := by decide +kernel
theorem dX12_told_1 : decode cX12_told 1 = .ok (.iconst 0, 1) := by decide +kernel
theorem dX12_told_2 : decode cX12_told 2 = .ok (.putfield 1, 3) := by decide +kernel
theorem dX12_told_5 : decode cX12_told 5 = .ok (.aload_n 0, 1) := by decide +kernel
theorem dX12_told_6 : decode cX12_told 6 = .ok (.getfield 397, 3) := by decide +kernel
theorem dX12_told_9 : decode cX12_told 9 = .ok (.ifCond .eq 21, 3) := by decide +kernel
theorem dX12_told_12 : decode cX12_told 12 = .ok (.iload_n 1, 1) := by decide +kernel
theorem dX12_told_13 : decode cX12_told 13 = .ok (.iconst 0, 1) := by decide +kernel
theorem dX12_told_14 : decode cX12_told 14 = .ok (.iconst 3, 1) := by decide +kernel
theorem dX12_told_15 : decode cX12_told 15 = .ok (.invokestatic 182, 3) := by decide +kernel
theorem dX12_told_18 : decode cX12_told 18 = .ok (.ifCond .eq 12, 3) := by decide +kernel
theorem dX12_told_21 : decode cX12_told 21 = .ok (.aload_n 0, 1) := by decide +kernel
theorem dX12_told_22 : decode cX12_told 22 = .ok (.getfield 74, 3) := by decide +kernel
theorem dX12_told_25 : decode cX12_told 25 = .ok (.iload_n 1, 1) := by decide +kernel
theorem dX12_told_26 : decode cX12_told 26 = .ok (.iaload, 1) := by decide +kernel
theorem dX12_told_27 : decode cX12_told 27 = .ok (.goto 4, 3) := by decide +kernel
theorem dX12_told_30 : decode cX12_told 30 = .ok (.iconst (-1), 1) := by decide +kernel
theorem dX12_told_31 : decode cX12_told 31 = .ok (.ireturn, 1) := by decide +kernel
theorem dX12_code_0 : decode cX12_code 0 = .ok (.aload_n 0, 1) := by decide +kernel
theorem dX12_code_1 : decode cX12_code 1 = .ok (.getfield 40, 3) := by decide +kernel
theorem dX12_code_4 : decode cX12_code 4 = .ok (.iconst 3, 1) := by decide +kernel
theorem dX12_code_5 : decode cX12_code 5 = .ok (.aload_n 0, 1) := by decide +kernel
theorem dX12_code_6 : decode cX12_code 6 = .ok (.getfield 400, 3) := by decide +kernel
theorem dX12_code_9 : decode cX12_code 9 = .ok (.imul, 1) := by decide +kernel
theorem dX12_code_10 : decode cX12_code 10 = .ok (.iload_n 1, 1) := by decide +kernel
theorem dX12_code_11 : decode cX12_code 11 = .ok (.iastore, 1) := by decide +kernel
theorem dX12_code_12 : decode cX12_code 12 = .ok (.aload_n 0, 1) := by decide +kernel
theorem dX12_code_13 : decode cX12_code 13 = .ok (.getfield 40, 3) := by decide +kernel
theorem dX12_code_16 : decode cX12_code 16 = .ok (.iconst 3, 1) := by decide +kernel
theorem dX12_code_17 : decode cX12_code 17 = .ok (.aload_n 0, 1) := by decide +kernel
theorem dX12_code_18 : decode cX12_code 18 = .ok (.getfield 400, 3) := by decide +kernel
theorem dX12_code_21 : decode cX12_code 21 = .ok (.imul, 1) := by decide +kernel
theorem dX12_code_22 : decode cX12_code 22 = .ok (.iconst 1, 1) := by decide +kernel
theorem dX12_code_23 : decode cX12_code 23 = .ok (.iadd, 1) := by decide +kernel
theorem dX12_code_24 : decode cX12_code 24 = .ok (.iload_n 2, 1) := by decide +kernel
theorem dX12_code_25 : decode cX12_code 25 = .ok (.iastore, 1) := by decide +kernel
theorem dX12_code_26 : decode cX12_code 26 = .ok (.aload_n 0, 1) := by decide +kernel
theorem dX12_code_27 : decode cX12_code 27 = .ok (.getfield 40, 3) := by decide +kernel
theorem dX12_code_30 : decode cX12_code 30 = .ok (.iconst 3, 1) := by decide +kernel
theorem dX12_code_31 : decode cX12_code 31 = .ok (.aload_n 0, 1) := by decide +kernel
theorem dX12_code_32 : decode cX12_code 32 = .ok (.getfield 400, 3) := by decide +kernel
theorem dX12_code_35 : decode cX12_code 35 = .ok (.imul, 1) := by decide +kernel
theorem dX12_code_36 : decode cX12_code 36 = .ok (.iconst 2, 1) := by decide +kernel
theorem dX12_code_37 : decode cX12_code 37 = .ok (.iadd, 1) := by decide +kernel
theorem dX12_code_38 : decode cX12_code 38 = .ok (.iload_n 3, 1) := by decide +kernel
theorem dX12_code_39 : decode cX12_code 39 = .ok (.iastore, 1) := by decide +kernel
theorem dX12_code_40 : decode cX12_code 40 = .ok (.aload_n 0, 1) := by decide +kernel
theorem dX12_code_41 : decode cX12_code 41 = .ok (.dup, 1) := by decide +kernel
theorem dX12_code_42 : decode cX12_code 42 = .ok (.getfield 400, 3) := by decide +kernel
theorem dX12_code_45 : decode cX12_code 45 = .ok (.iconst 1, 1) := by decide +kernel
theorem dX12_code_46 : decode cX12_code 46 = .ok (.iadd, 1) := by decide +kernel
theorem dX12_code_47 : decode cX12_code 47 = .ok (.putfield 400, 3) := by decide +kernel
theorem dX12_code_50 : decode cX12_code 50 = .ok (.return_, 1) := by decide +kernel
set_option maxRecDepth 20000 in
theorem ggX12_joins_X12_code : GoodIn wsX12_joins wsX12_code := goodIn_r _ [7, 8, 9, 10, 11, 12, 13, 14, 15, 16, 17, 18, 19, 20, 21, 22, 23, 24, 25, 26, 27, 28, 29, 30, 31, 32, 33, 34, 35, 36, 37, 38, 39, 40, 41, 42, 43, 44, 45, 46, 47, 48, 49, 50, 51, 52, 53, 54, 55, 56, 57, 58, 59, 60, 61] (by decide +kernel) (by decide +kernel)
set_option maxRecDepth 20000 in
theorem gX12_joins_X12_code : GoodIn wsX12_joins (wsV RX12 406 RX12 yX12_code wsX12_code) := goodIn_app (goodIn_of _ (by decide +kernel)) ggX12_joins_X12_code
theorem dX12_joins_0 : decode cX12_joins 0 = .ok (.aload_n 0, 1) := by decide +kernel
theorem dX12_joins_1 : decode cX12_joins 1 = .ok (.getfield 403, 3) := by decide +kernel
theorem dX12_joins_4 : decode cX12_joins 4 = .ok (.ifCond .le 69, 3) := by decide +kernel
theorem dX12_joins_7 : decode cX12_joins 7 = .ok (.aload_n 0, 1) := by decide +kernel
theorem dX12_joins_8 : decode cX12_joins 8 = .ok (.getfield 77, 3) := by decide +kernel
theorem dX12_joins_11 : decode cX12_joins 11 = .ok (.aload_n 0, 1) := by decide +kernel
theorem dX12_joins_12 : decode cX12_joins 12 = .ok (.getfield 403, 3) := by decide +kernel
theorem dX12_joins_15 : decode cX12_joins 15 = .ok (.iconst 1, 1) := by decide +kernel
theorem dX12_joins_16 : decode cX12_joins 16 = .ok (.isub, 1) := by decide +kernel
theorem dX12_joins_17 : decode cX12_joins 17 = .ok (.iaload, 1) := by decide +kernel
theorem dX12_joins_18 : decode cX12_joins 18 = .ok (.bipush 21, 2) := by decide +kernel
theorem dX12_joins_20 : decode cX12_joins 20 = .ok (.if_icmp .eq 25, 3) := by decide +kernel
theorem dX12_joins_23 : decode cX12_joins 23 = .ok (.aload_n 0, 1) := by decide +kernel
theorem dX12_joins_24 : decode cX12_joins 24 = .ok (.getfield 77, 3) := by decide +kernel
theorem dX12_joins_27 : decode cX12_joins 27 = .ok (.aload_n 0, 1) := by decide +kernel
theorem dX12_joins_28 : decode cX12_joins 28 = .ok (.getfield 403, 3) := by decide +kernel
theorem dX12_joins_31 : decode cX12_joins 31 = .ok (.iconst 1, 1) := by decide +kernel
theorem dX12_joins_32 : decode cX12_joins 32 = .ok (.isub, 1) := by decide +kernel
theorem dX12_joins_33 : decode cX12_joins 33 = .ok (.iaload, 1) := by decide +kernel
theorem dX12_joins_34 : decode cX12_joins 34 = .ok (.bipush 22, 2) := by decide +kernel
theorem dX12_joins_36 : decode cX12_joins 36 = .ok (.if_icmp .ne 37, 3) := by decide +kernel
theorem dX12_joins_39 : decode cX12_joins 39 = .ok (.iload_n 1, 1) := by decide +kernel
theorem dX12_joins_40 : decode cX12_joins 40 = .ok (.bipush 22, 2) := by decide +kernel
theorem dX12_joins_42 : decode cX12_joins 42 = .ok (.if_icmp .ne 31, 3) := by decide +kernel
theorem dX12_joins_45 : decode cX12_joins 45 = .ok (.aload_n 0, 1) := by decide +kernel
theorem dX12_joins_46 : decode cX12_joins 46 = .ok (.dup, 1) := by decide +kernel
theorem dX12_joins_47 : decode cX12_joins 47 = .ok (.getfield 403, 3) := by decide +kernel
theorem dX12_joins_50 : decode cX12_joins 50 = .ok (.iconst 1, 1) := by decide +kernel
theorem dX12_joins_51 : decode cX12_joins 51 = .ok (.isub, 1) := by decide +kernel
theorem dX12_joins_52 : decode cX12_joins 52 = .ok (.putfield 403, 3) := by decide +kernel
theorem dX12_joins_55 : decode cX12_joins 55 = .ok (.aload_n 0, 1) := by decide +kernel
theorem dX12_joins_56 : decode cX12_joins 56 = .ok (.aload_n 0, 1) := by decide +kernel
theorem dX12_joins_57 : decode cX12_joins 57 = .ok (.getfield 77, 3) := by decide +kernel
theorem dX12_joins_60 : decode cX12_joins 60 = .ok (.aload_n 0, 1) := by decide +kernel
theorem dX12_joins_61 : decode cX12_joins 61 = .ok (.getfield 403, 3) := by decide +kernel
theorem dX12_joins_64 : decode cX12_joins 64 = .ok (.iaload, 1) := by decide +kernel
theorem dX12_joins_65 : decode cX12_joins 65 = .ok (.iconst 0, 1) := by decide +kernel
theorem dX12_joins_66 : decode cX12_joins 66 = .ok (.iconst 0, 1) := by decide +kernel
theorem dX12_joins_67 : decode cX12_joins 67 = .ok (.invokevirtual 406, 3) := by decide +kernel
theorem dX12_joins_70 : decode cX12_joins 70 = .ok (.goto (-70), 3) := by decide +kernel
theorem dX12_joins_73 : decode cX12_joins 73 = .ok (.return_, 1) := by decide +kernel
set_option maxRecDepth 20000 in
theorem ggX12_nots_X12_code : GoodIn wsX12_nots wsX12_code := goodIn_r _ [8, 9, 10, 11, 12, 13, 14, 15, 16, 17, 18, 19, 20, 21, 22, 23, 24, 25, 26, 27, 28, 29, 30, 31, 32, 33, 34, 35, 36, 37, 38, 39, 40, 41, 42, 43, 44, 45, 46, 47, 48, 49, 50, 51, 52, 53, 54, 55, 56, 57, 58, 59, 60, 61, 62] (by decide +kernel) (by decide +kernel)
set_option maxRecDepth 20000 in
theorem gX12_nots_X12_code : GoodIn wsX12_nots (wsV RX12 406 RX12 yX12_code wsX12_code) := goodIn_app (goodIn_of _ (by decide +kernel)) ggX12_nots_X12_code
theorem dX12_nots_0 : decode cX12_nots 0 = .ok (.aload_n 0, 1) := by decide +kernel
theorem dX12_nots_1 : decode cX12_nots 1 = .ok (.getfield 403, 3) := by decide +kernel
theorem dX12_nots_4 : decode cX12_nots 4 = .ok (.ifCond .le 50, 3) := by decide +kernel
theorem dX12_nots_7 : decode cX12_nots 7 = .ok (.aload_n 0, 1) := by decide +kernel
theorem dX12_nots_8 : decode cX12_nots 8 = .ok (.getfield 77, 3) := by decide +kernel
theorem dX12_nots_11 : decode cX12_nots 11 = .ok (.aload_n 0, 1) := by decide +kernel
theorem dX12_nots_12 : decode cX12_nots 12 = .ok (.getfield 403, 3) := by decide +kernel
theorem dX12_nots_15 : decode cX12_nots 15 = .ok (.iconst 1, 1) := by decide +kernel
theorem dX12_nots_16 : decode cX12_nots 16 = .ok (.isub, 1) := by decide +kernel
theorem dX12_nots_17 : decode cX12_nots 17 = .ok (.iaload, 1) := by decide +kernel
theorem dX12_nots_18 : decode cX12_nots 18 = .ok (.bipush 20, 2) := by decide +kernel
theorem dX12_nots_20 : decode cX12_nots 20 = .ok (.if_icmp .ne 34, 3) := by decide +kernel
theorem dX12_nots_23 : decode cX12_nots 23 = .ok (.aload_n 0, 1) := by decide +kernel
theorem dX12_nots_24 : decode cX12_nots 24 = .ok (.dup, 1) := by decide +kernel
theorem dX12_nots_25 : decode cX12_nots 25 = .ok (.getfield 403, 3) := by decide +kernel
theorem dX12_nots_28 : decode cX12_nots 28 = .ok (.iconst 1, 1) := by decide +kernel
theorem dX12_nots_29 : decode cX12_nots 29 = .ok (.isub, 1) := by decide +kernel
theorem dX12_nots_30 : decode cX12_nots 30 = .ok (.putfield 403, 3) := by decide +kernel
theorem dX12_nots_33 : decode cX12_nots 33 = .ok (.aload_n 0, 1) := by decide +kernel
theorem dX12_nots_34 : decode cX12_nots 34 = .ok (.dup, 1) := by decide +kernel
theorem dX12_nots_35 : decode cX12_nots 35 = .ok (.getfield 410, 3) := by decide +kernel
theorem dX12_nots_38 : decode cX12_nots 38 = .ok (.iconst 1, 1) := by decide +kernel
theorem dX12_nots_39 : decode cX12_nots 39 = .ok (.isub, 1) := by decide +kernel
theorem dX12_nots_40 : decode cX12_nots 40 = .ok (.putfield 410, 3) := by decide +kernel
theorem dX12_nots_43 : decode cX12_nots 43 = .ok (.aload_n 0, 1) := by decide +kernel
theorem dX12_nots_44 : decode cX12_nots 44 = .ok (.bipush 20, 2) := by decide +kernel
theorem dX12_nots_46 : decode cX12_nots 46 = .ok (.iconst 0, 1) := by decide +kernel
theorem dX12_nots_47 : decode cX12_nots 47 = .ok (.iconst 0, 1) := by decide +kernel
theorem dX12_nots_48 : decode cX12_nots 48 = .ok (.invokevirtual 406, 3) := by decide +kernel
theorem dX12_nots_51 : decode cX12_nots 51 = .ok (.goto (-51), 3) := by decide +kernel
theorem dX12_nots_54 : decode cX12_nots 54 = .ok (.return_, 1) := by decide +kernel
set_option maxRecDepth 20000 in
theorem ggX12_leafOf_X12_isWord : GoodIn wsX12_leafOf wsX12_isWord := goodIn_r _ [14, 15, 16, 17, 18, 19, 20, 21, 22, 23, 24, 25, 26, 27, 28, 29, 30, 31, 32, 33, 34, 35, 36, 37, 38, 39, 40, 41, 42, 43, 44, 45, 46, 47, 48, 49, 50, 51, 52, 53, 54, 55, 56, 57, 58, 59, 60, 61, 62, 63, 64, 65, 66, 67, 68] (by decide +kernel) (by decide +kernel)
set_option maxRecDepth 20000 in
theorem gX12_leafOf_X12_isWord : GoodIn wsX12_leafOf (wsV RX12 204 RX12 yX12_isWord wsX12_isWord) := goodIn_app (goodIn_of _ (by decide +kernel)) ggX12_leafOf_X12_isWord
theorem dX12_leafOf_0 : decode cX12_leafOf 0 = .ok (.aload_n 0, 1) := by decide +kernel
theorem dX12_leafOf_1 : decode cX12_leafOf 1 = .ok (.ldc2_w 119, 3) := by decide +kernel
theorem dX12_leafOf_4 : decode cX12_leafOf 4 = .ok (.invokevirtual 204, 3) := by decide +kernel
theorem dX12_leafOf_7 : decode cX12_leafOf 7 = .ok (.ifCond .eq 7, 3) := by decide +kernel
theorem dX12_leafOf_10 : decode cX12_leafOf 10 = .ok (.iconst 0, 1) := by decide +kernel
theorem dX12_leafOf_11 : decode cX12_leafOf 11 = .ok (.goto 119, 3) := by decide +kernel
theorem dX12_leafOf_14 : decode cX12_leafOf 14 = .ok (.aload_n 0, 1) := by decide +kernel
theorem dX12_leafOf_15 : decode cX12_leafOf 15 = .ok (.ldc2_w 121, 3) := by decide +kernel
theorem dX12_leafOf_18 : decode cX12_leafOf 18 = .ok (.invokevirtual 204, 3) := by decide +kernel
theorem dX12_leafOf_21 : decode cX12_leafOf 21 = .ok (.ifCond .eq 7, 3) := by decide +kernel
theorem dX12_leafOf_24 : decode cX12_leafOf 24 = .ok (.iconst 1, 1) := by decide +kernel
theorem dX12_leafOf_25 : decode cX12_leafOf 25 = .ok (.goto 105, 3) := by decide +kernel
theorem dX12_leafOf_28 : decode cX12_leafOf 28 = .ok (.aload_n 0, 1) := by decide +kernel
theorem dX12_leafOf_29 : decode cX12_leafOf 29 = .ok (.ldc2_w 123, 3) := by decide +kernel
theorem dX12_leafOf_32 : decode cX12_leafOf 32 = .ok (.invokevirtual 204, 3) := by decide +kernel
theorem dX12_leafOf_35 : decode cX12_leafOf 35 = .ok (.ifCond .eq 7, 3) := by decide +kernel
theorem dX12_leafOf_38 : decode cX12_leafOf 38 = .ok (.iconst 2, 1) := by decide +kernel
theorem dX12_leafOf_39 : decode cX12_leafOf 39 = .ok (.goto 91, 3) := by decide +kernel
theorem dX12_leafOf_42 : decode cX12_leafOf 42 = .ok (.aload_n 0, 1) := by decide +kernel
theorem dX12_leafOf_43 : decode cX12_leafOf 43 = .ok (.ldc2_w 125, 3) := by decide +kernel
theorem dX12_leafOf_46 : decode cX12_leafOf 46 = .ok (.invokevirtual 204, 3) := by decide +kernel
theorem dX12_leafOf_49 : decode cX12_leafOf 49 = .ok (.ifCond .eq 7, 3) := by decide +kernel
theorem dX12_leafOf_52 : decode cX12_leafOf 52 = .ok (.iconst 3, 1) := by decide +kernel
theorem dX12_leafOf_53 : decode cX12_leafOf 53 = .ok (.goto 77, 3) := by decide +kernel
theorem dX12_leafOf_56 : decode cX12_leafOf 56 = .ok (.aload_n 0, 1) := by decide +kernel
theorem dX12_leafOf_57 : decode cX12_leafOf 57 = .ok (.ldc2_w 127, 3) := by decide +kernel
theorem dX12_leafOf_60 : decode cX12_leafOf 60 = .ok (.invokevirtual 204, 3) := by decide +kernel
theorem dX12_leafOf_63 : decode cX12_leafOf 63 = .ok (.ifCond .eq 7, 3) := by decide +kernel
theorem dX12_leafOf_66 : decode cX12_leafOf 66 = .ok (.iconst 4, 1) := by decide +kernel
theorem dX12_leafOf_67 : decode cX12_leafOf 67 = .ok (.goto 63, 3) := by decide +kernel
theorem dX12_leafOf_70 : decode cX12_leafOf 70 = .ok (.aload_n 0, 1) := by decide +kernel
theorem dX12_leafOf_71 : decode cX12_leafOf 71 = .ok (.ldc2_w 129, 3) := by decide +kernel
theorem dX12_leafOf_74 : decode cX12_leafOf 74 = .ok (.invokevirtual 204, 3) := by decide +kernel
theorem dX12_leafOf_77 : decode cX12_leafOf 77 = .ok (.ifCond .eq 7, 3) := by decide +kernel
theorem dX12_leafOf_80 : decode cX12_leafOf 80 = .ok (.iconst 5, 1) := by decide +kernel
theorem dX12_leafOf_81 : decode cX12_leafOf 81 = .ok (.goto 49, 3) := by decide +kernel
theorem dX12_leafOf_84 : decode cX12_leafOf 84 = .ok (.aload_n 0, 1) := by decide +kernel
theorem dX12_leafOf_85 : decode cX12_leafOf 85 = .ok (.ldc2_w 131, 3) := by decide +kernel
theorem dX12_leafOf_88 : decode cX12_leafOf 88 = .ok (.invokevirtual 204, 3) := by decide +kernel
theorem dX12_leafOf_91 : decode cX12_leafOf 91 = .ok (.ifCond .eq 8, 3) := by decide +kernel
theorem dX12_leafOf_94 : decode cX12_leafOf 94 = .ok (.bipush 6, 2) := by decide +kernel
theorem dX12_leafOf_96 : decode cX12_leafOf 96 = .ok (.goto 34, 3) := by decide +kernel
theorem dX12_leafOf_99 : decode cX12_leafOf 99 = .ok (.aload_n 0, 1) := by decide +kernel
theorem dX12_leafOf_100 : decode cX12_leafOf 100 = .ok (.ldc2_w 133, 3) := by decide +kernel
theorem dX12_leafOf_103 : decode cX12_leafOf 103 = .ok (.invokevirtual 204, 3) := by decide +kernel
theorem dX12_leafOf_106 : decode cX12_leafOf 106 = .ok (.ifCond .eq 8, 3) := by decide +kernel
theorem dX12_leafOf_109 : decode cX12_leafOf 109 = .ok (.bipush 7, 2) := by decide +kernel
theorem dX12_leafOf_111 : decode cX12_leafOf 111 = .ok (.goto 19, 3) := by decide +kernel
theorem dX12_leafOf_114 : decode cX12_leafOf 114 = .ok (.aload_n 0, 1) := by decide +kernel
theorem dX12_leafOf_115 : decode cX12_leafOf 115 = .ok (.ldc2_w 135, 3) := by decide +kernel
theorem dX12_leafOf_118 : decode cX12_leafOf 118 = .ok (.invokevirtual 204, 3) := by decide +kernel
theorem dX12_leafOf_121 : decode cX12_leafOf 121 = .ok (.ifCond .eq 8, 3) := by decide +kernel
theorem dX12_leafOf_124 : decode cX12_leafOf 124 = .ok (.bipush 8, 2) := by decide +kernel
theorem dX12_leafOf_126 : decode cX12_leafOf 126 = .ok (.goto 4, 3) := by decide +kernel
theorem dX12_leafOf_129 : decode cX12_leafOf 129 = .ok (.iconst (-1), 1) := by decide +kernel
theorem dX12_leafOf_130 : decode cX12_leafOf 130 = .ok (.ireturn, 1) := by decide +kernel
set_option maxRecDepth 20000 in
theorem ggX12_operand_X12_isWord : GoodIn wsX12_operand wsX12_isWord := goodIn_r _ [15, 9, 16, 80, 81, 82, 83, 84, 85, 86, 87, 88, 89, 90, 91, 92, 93, 94, 95, 96, 97, 98, 99, 100, 101, 102, 103, 104, 105, 106, 107, 108, 109, 110, 111, 112, 113, 114, 115, 116, 117, 118, 119, 120, 121, 122, 123, 124, 125, 126, 127, 128, 129, 130, 131] (by decide +kernel) (by decide +kernel)
set_option maxRecDepth 20000 in
theorem gX12_operand_X12_isWord : GoodIn wsX12_operand (wsV RX12 204 RX12 yX12_isWord wsX12_isWord) := goodIn_app (goodIn_of _ (by decide +kernel)) ggX12_operand_X12_isWord
set_option maxRecDepth 20000 in
theorem ggX12_operand_X12_isSign : GoodIn wsX12_operand wsX12_isSign := goodIn_r _ [20, 9, 10, 80, 81, 82, 83, 84, 85, 86, 87, 88, 89, 90, 91, 92, 93, 94, 95, 96, 97, 98, 99, 100, 101, 102, 103, 104, 105, 106, 107, 108, 109, 110, 111, 112, 113, 114, 115, 116, 117, 118, 119, 120, 121, 122, 123, 124, 125, 126, 127, 128, 129, 130, 131] (by decide +kernel) (by decide +kernel)
set_option maxRecDepth 20000 in
theorem gX12_operand_X12_isSign : GoodIn wsX12_operand (wsV RX12 173 RX12 yX12_isSign wsX12_isSign) := goodIn_app (goodIn_of _ (by decide +kernel)) ggX12_operand_X12_isSign
set_option maxRecDepth 20000 in
theorem ggX12_operand_X12_leafOf : GoodIn wsX12_operand wsX12_leafOf := goodIn_r _ [24, 25, 26, 27, 28, 29, 30, 31, 32, 33, 11, 12, 13, 14, 15, 9, 16, 80, 81, 82, 83, 84, 85, 86, 87, 88, 89, 90, 91, 92, 93, 94, 95, 96, 97, 98, 99, 100, 101, 102, 103, 104, 105, 106, 107, 108, 109, 110, 111, 112, 113, 114, 115, 116, 117, 118, 119, 120, 121, 122, 123, 124, 125, 126, 127, 128, 129, 130, 131] (by decide +kernel) (by decide +kernel)
set_option maxRecDepth 20000 in
theorem gX12_operand_X12_leafOf : GoodIn wsX12_operand (wsV RX12 413 RX12 yX12_leafOf wsX12_leafOf) := goodIn_app (goodIn_of _ (by decide +kernel)) ggX12_operand_X12_leafOf
set_option maxRecDepth 20000 in
theorem ggX12_operand_X12_bad : GoodIn wsX12_operand wsX12_bad := goodIn_r _ [37, 38, 39, 40, 80, 81, 82, 83, 84, 85, 86, 87, 88, 89, 90, 91, 92, 93, 94, 95, 96, 97, 98, 99, 100, 101, 102, 103, 104, 105, 106, 107, 108, 109, 110, 111, 112, 113, 114, 115, 116, 117, 118, 119, 120, 121, 122, 123, 124, 125, 126, 127, 128, 129, 130, 131] (by decide +kernel) (by decide +kernel)
set_option maxRecDepth 20000 in
theorem gX12_operand_X12_bad : GoodIn wsX12_operand (wsV RX12 176 RX12 yX12_bad wsX12_bad) := goodIn_app (goodIn_of _ (by decide +kernel)) ggX12_operand_X12_bad
set_option maxRecDepth 20000 in
theorem ggX12_operand_X12_step : GoodIn wsX12_operand wsX12_step := goodIn_r _ [44, 45, 39, 46, 47, 48, 9, 10, 16, 49, 50, 51, 14, 52, 53, 54, 55, 56, 57, 58, 59, 80, 81, 82, 83, 84, 85, 86, 87, 88, 89, 90, 91, 92, 93, 94, 95, 96, 97, 98, 99, 100, 101, 102, 103, 104, 105, 106, 107, 108, 109, 110, 111, 112, 113, 114, 115, 116, 117, 118, 119, 120, 121, 122, 123, 124, 125, 126, 127, 128, 129, 130, 131] (by decide +kernel) (by decide +kernel)
set_option maxRecDepth 20000 in
theorem gX12_operand_X12_step : GoodIn wsX12_operand (wsV RX12 179 RX12 yX12_step wsX12_step) := goodIn_app (goodIn_of _ (by decide +kernel)) ggX12_operand_X12_step
set_option maxRecDepth 20000 in
theorem ggX12_operand_X12_code : GoodIn wsX12_operand wsX12_code := goodIn_r _ [63, 64, 65, 80, 81, 82, 83, 84, 85, 86, 87, 88, 89, 90, 91, 92, 93, 94, 95, 96, 97, 98, 99, 100, 101, 102, 103, 104, 105, 106, 107, 108, 109, 110, 111, 112, 113, 114, 115, 116, 117, 118, 119, 120, 121, 122, 123, 124, 125, 126, 127, 128, 129, 130, 131] (by decide +kernel) (by decide +kernel)
set_option maxRecDepth 20000 in
theorem gX12_operand_X12_code : GoodIn wsX12_operand (wsV RX12 406 RX12 yX12_code wsX12_code) := goodIn_app (goodIn_of _ (by decide +kernel)) ggX12_operand_X12_code
set_option maxRecDepth 20000 in
theorem ggX12_operand_X12_looksAt : GoodIn wsX12_operand wsX12_looksAt := goodIn_r _ [69, 8, 70, 71, 72, 14, 73, 9, 16, 74, 34, 35, 36, 37, 38, 39, 40, 75, 76, 77, 78, 79, 80, 81, 82, 83, 84, 85, 86, 87, 88, 89, 90, 91, 92, 93, 94, 95, 96, 97, 98, 99, 100, 101, 102, 103, 104, 105, 106, 107, 108, 109, 110, 111, 112, 113, 114, 115, 116, 117, 118, 119, 120, 121, 122, 123, 124, 125, 126, 127, 128, 129, 130, 131] (by decide +kernel) (by decide +kernel)
set_option maxRecDepth 20000 in
theorem gX12_operand_X12_looksAt : GoodIn wsX12_operand (wsV RX12 201 RX12 yX12_looksAt wsX12_looksAt) := goodIn_app (goodIn_of _ (by decide +kernel)) ggX12_operand_X12_looksAt
theorem dX12_operand_0 : decode cX12_operand 0 = .ok (.aload_n 0, 1) := by decide +kernel
theorem dX12_operand_1 : decode cX12_operand 1 = .ok (.ldc2_w 117, 3) := by decide +kernel
theorem dX12_operand_4 : decode cX12_operand 4 = .ok (.invokevirtual 204, 3) := by decide +kernel
theorem dX12_operand_7 : decode cX12_operand 7 = .ok (.istore_n 1, 1) := by decide +kernel
theorem dX12_operand_8 : decode cX12_operand 8 = .ok (.aload_n 0, 1) := by decide +kernel
theorem dX12_operand_9 : decode cX12_operand 9 = .ok (.bipush 40, 2) := by decide +kernel
theorem dX12_operand_11 : decode cX12_operand 11 = .ok (.invokevirtual 173, 3) := by decide +kernel
theorem dX12_operand_14 : decode cX12_operand 14 = .ok (.istore_n 2, 1) := by decide +kernel
theorem dX12_operand_15 : decode cX12_operand 15 = .ok (.aload_n 0, 1) := by decide +kernel
theorem dX12_operand_16 : decode cX12_operand 16 = .ok (.invokevirtual 413, 3) := by decide +kernel
theorem dX12_operand_19 : decode cX12_operand 19 = .ok (.istore_n 3, 1) := by decide +kernel
theorem dX12_operand_20 : decode cX12_operand 20 = .ok (.iload_n 1, 1) := by decide +kernel
theorem dX12_operand_21 : decode cX12_operand 21 = .ok (.ifCond .ne 17, 3) := by decide +kernel
theorem dX12_operand_24 : decode cX12_operand 24 = .ok (.iload_n 2, 1) := by decide +kernel
theorem dX12_operand_25 : decode cX12_operand 25 = .ok (.ifCond .ne 13, 3) := by decide +kernel
theorem dX12_operand_28 : decode cX12_operand 28 = .ok (.iload_n 3, 1) := by decide +kernel
theorem dX12_operand_29 : decode cX12_operand 29 = .ok (.ifCond .ge 9, 3) := by decide +kernel
theorem dX12_operand_32 : decode cX12_operand 32 = .ok (.aload_n 0, 1) := by decide +kernel
theorem dX12_operand_33 : decode cX12_operand 33 = .ok (.iconst 1, 1) := by decide +kernel
theorem dX12_operand_34 : decode cX12_operand 34 = .ok (.invokevirtual 176, 3) := by decide +kernel
theorem dX12_operand_37 : decode cX12_operand 37 = .ok (.ireturn, 1) := by decide +kernel
theorem dX12_operand_38 : decode cX12_operand 38 = .ok (.aload_n 0, 1) := by decide +kernel
theorem dX12_operand_39 : decode cX12_operand 39 = .ok (.getfield 416, 3) := by decide +kernel
theorem dX12_operand_42 : decode cX12_operand 42 = .ok (.bipush 20, 2) := by decide +kernel
theorem dX12_operand_44 : decode cX12_operand 44 = .ok (.if_icmp .eq 12, 3) := by decide +kernel
theorem dX12_operand_47 : decode cX12_operand 47 = .ok (.aload_n 0, 1) := by decide +kernel
theorem dX12_operand_48 : decode cX12_operand 48 = .ok (.getfield 410, 3) := by decide +kernel
theorem dX12_operand_51 : decode cX12_operand 51 = .ok (.bipush 8, 2) := by decide +kernel
theorem dX12_operand_53 : decode cX12_operand 53 = .ok (.if_icmp .le 9, 3) := by decide +kernel
theorem dX12_operand_56 : decode cX12_operand 56 = .ok (.aload_n 0, 1) := by decide +kernel
theorem dX12_operand_57 : decode cX12_operand 57 = .ok (.iconst 4, 1) := by decide +kernel
theorem dX12_operand_58 : decode cX12_operand 58 = .ok (.invokevirtual 176, 3) := by decide +kernel
theorem dX12_operand_61 : decode cX12_operand 61 = .ok (.ireturn, 1) := by decide +kernel
theorem dX12_operand_62 : decode cX12_operand 62 = .ok (.aload_n 0, 1) := by decide +kernel
theorem dX12_operand_63 : decode cX12_operand 63 = .ok (.dup, 1) := by decide +kernel
theorem dX12_operand_64 : decode cX12_operand 64 = .ok (.getfield 416, 3) := by decide +kernel
theorem dX12_operand_67 : decode cX12_operand 67 = .ok (.iconst 1, 1) := by decide +kernel
theorem dX12_operand_68 : decode cX12_operand 68 = .ok (.iadd, 1) := by decide +kernel
theorem dX12_operand_69 : decode cX12_operand 69 = .ok (.putfield 416, 3) := by decide +kernel
theorem dX12_operand_72 : decode cX12_operand 72 = .ok (.aload_n 0, 1) := by decide +kernel
theorem dX12_operand_73 : decode cX12_operand 73 = .ok (.invokevirtual 179, 3) := by decide +kernel
theorem dX12_operand_76 : decode cX12_operand 76 = .ok (.iload_n 1, 1) := by decide +kernel
theorem dX12_operand_77 : decode cX12_operand 77 = .ok (.ifCond .ne 7, 3) := by decide +kernel
theorem dX12_operand_80 : decode cX12_operand 80 = .ok (.iload_n 2, 1) := by decide +kernel
theorem dX12_operand_81 : decode cX12_operand 81 = .ok (.ifCond .eq 45, 3) := by decide +kernel
theorem dX12_operand_84 : decode cX12_operand 84 = .ok (.aload_n 0, 1) := by decide +kernel
theorem dX12_operand_85 : decode cX12_operand 85 = .ok (.getfield 77, 3) := by decide +kernel
theorem dX12_operand_88 : decode cX12_operand 88 = .ok (.aload_n 0, 1) := by decide +kernel
theorem dX12_operand_89 : decode cX12_operand 89 = .ok (.getfield 403, 3) := by decide +kernel
theorem dX12_operand_92 : decode cX12_operand 92 = .ok (.iload_n 1, 1) := by decide +kernel
theorem dX12_operand_93 : decode cX12_operand 93 = .ok (.ifCond .eq 8, 3) := by decide +kernel
theorem dX12_operand_96 : decode cX12_operand 96 = .ok (.bipush 20, 2) := by decide +kernel
theorem dX12_operand_98 : decode cX12_operand 98 = .ok (.goto 5, 3) := by decide +kernel
theorem dX12_operand_101 : decode cX12_operand 101 = .ok (.bipush 23, 2) := by decide +kernel
theorem dX12_operand_103 : decode cX12_operand 103 = .ok (.iastore, 1) := by decide +kernel
theorem dX12_operand_104 : decode cX12_operand 104 = .ok (.aload_n 0, 1) := by decide +kernel
theorem dX12_operand_105 : decode cX12_operand 105 = .ok (.dup, 1) := by decide +kernel
theorem dX12_operand_106 : decode cX12_operand 106 = .ok (.getfield 403, 3) := by decide +kernel
theorem dX12_operand_109 : decode cX12_operand 109 = .ok (.iconst 1, 1) := by decide +kernel
theorem dX12_operand_110 : decode cX12_operand 110 = .ok (.iadd, 1) := by decide +kernel
theorem dX12_operand_111 : decode cX12_operand 111 = .ok (.putfield 403, 3) := by decide +kernel
theorem dX12_operand_114 : decode cX12_operand 114 = .ok (.aload_n 0, 1) := by decide +kernel
theorem dX12_operand_115 : decode cX12_operand 115 = .ok (.dup, 1) := by decide +kernel
theorem dX12_operand_116 : decode cX12_operand 116 = .ok (.getfield 410, 3) := by decide +kernel
theorem dX12_operand_119 : decode cX12_operand 119 = .ok (.iconst 1, 1) := by decide +kernel
theorem dX12_operand_120 : decode cX12_operand 120 = .ok (.iadd, 1) := by decide +kernel
theorem dX12_operand_121 : decode cX12_operand 121 = .ok (.putfield 410, 3) := by decide +kernel
theorem dX12_operand_124 : decode cX12_operand 124 = .ok (.iconst 1, 1) := by decide +kernel
theorem dX12_operand_125 : decode cX12_operand 125 = .ok (.ireturn, 1) := by decide +kernel
theorem dX12_operand_126 : decode cX12_operand 126 = .ok (.aload_n 0, 1) := by decide +kernel
theorem dX12_operand_127 : decode cX12_operand 127 = .ok (.iconst 1, 1) := by decide +kernel
theorem dX12_operand_128 : decode cX12_operand 128 = .ok (.putfield 419, 3) := by decide +kernel
theorem dX12_operand_131 : decode cX12_operand 131 = .ok (.iload_n 3, 1) := by decide +kernel
theorem dX12_operand_132 : decode cX12_operand 132 = .ok (.iconst 3, 1) := by decide +kernel
theorem dX12_operand_133 : decode cX12_operand 133 = .ok (.if_icmp .ge 12, 3) := by decide +kernel
theorem dX12_operand_136 : decode cX12_operand 136 = .ok (.aload_n 0, 1) := by decide +kernel
theorem dX12_operand_137 : decode cX12_operand 137 = .ok (.iload_n 3, 1) := by decide +kernel
theorem dX12_operand_138 : decode cX12_operand 138 = .ok (.iconst 0, 1) := by decide +kernel
theorem dX12_operand_139 : decode cX12_operand 139 = .ok (.iconst 0, 1) := by decide +kernel
theorem dX12_operand_140 : decode cX12_operand 140 = .ok (.invokevirtual 406, 3) := by decide +kernel
theorem dX12_operand_143 : decode cX12_operand 143 = .ok (.iconst 1, 1) := by decide +kernel
theorem dX12_operand_144 : decode cX12_operand 144 = .ok (.ireturn, 1) := by decide +kernel
theorem dX12_operand_145 : decode cX12_operand 145 = .ok (.iload_n 3, 1) := by decide +kernel
theorem dX12_operand_146 : decode cX12_operand 146 = .ok (.iconst 5, 1) := by decide +kernel
theorem dX12_operand_147 : decode cX12_operand 147 = .ok (.if_icmp .ge 35, 3) := by decide +kernel
theorem dX12_operand_150 : decode cX12_operand 150 = .ok (.aload_n 0, 1) := by decide +kernel
theorem dX12_operand_151 : decode cX12_operand 151 = .ok (.iconst 0, 1) := by decide +kernel
theorem dX12_operand_152 : decode cX12_operand 152 = .ok (.aload_n 0, 1) := by decide +kernel
theorem dX12_operand_153 : decode cX12_operand 153 = .ok (.getfield 33, 3) := by decide +kernel
theorem dX12_operand_156 : decode cX12_operand 156 = .ok (.iconst 1, 1) := by decide +kernel
theorem dX12_operand_157 : decode cX12_operand 157 = .ok (.iaload, 1) := by decide +kernel
theorem dX12_operand_158 : decode cX12_operand 158 = .ok (.invokevirtual 201, 3) := by decide +kernel
theorem dX12_operand_161 : decode cX12_operand 161 = .ok (.ifCond .ne 5, 3) := by decide +kernel
theorem dX12_operand_164 : decode cX12_operand 164 = .ok (.iconst 0, 1) := by decide +kernel
theorem dX12_operand_165 : decode cX12_operand 165 = .ok (.ireturn, 1) := by decide +kernel
theorem dX12_operand_166 : decode cX12_operand 166 = .ok (.aload_n 0, 1) := by decide +kernel
theorem dX12_operand_167 : decode cX12_operand 167 = .ok (.iload_n 3, 1) := by decide +kernel
theorem dX12_operand_168 : decode cX12_operand 168 = .ok (.iconst 0, 1) := by decide +kernel
theorem dX12_operand_169 : decode cX12_operand 169 = .ok (.aload_n 0, 1) := by decide +kernel
theorem dX12_operand_170 : decode cX12_operand 170 = .ok (.getfield 186, 3) := by decide +kernel
theorem dX12_operand_173 : decode cX12_operand 173 = .ok (.invokevirtual 406, 3) := by decide +kernel
theorem dX12_operand_176 : decode cX12_operand 176 = .ok (.aload_n 0, 1) := by decide +kernel
theorem dX12_operand_177 : decode cX12_operand 177 = .ok (.invokevirtual 179, 3) := by decide +kernel
theorem dX12_operand_180 : decode cX12_operand 180 = .ok (.iconst 1, 1) := by decide +kernel
theorem dX12_operand_181 : decode cX12_operand 181 = .ok (.ireturn, 1) := by decide +kernel
theorem dX12_operand_182 : decode cX12_operand 182 = .ok (.aload_n 0, 1) := by decide +kernel
theorem dX12_operand_183 : decode cX12_operand 183 = .ok (.getfield 150, 3) := by decide +kernel
theorem dX12_operand_186 : decode cX12_operand 186 = .ok (.iconst 3, 1) := by decide +kernel
theorem dX12_operand_187 : decode cX12_operand 187 = .ok (.if_icmp .ne 21, 3) := by decide +kernel
theorem dX12_operand_190 : decode cX12_operand 190 = .ok (.aload_n 0, 1) := by decide +kernel
theorem dX12_operand_191 : decode cX12_operand 191 = .ok (.getfield 160, 3) := by decide +kernel
theorem dX12_operand_194 : decode cX12_operand 194 = .ok (.bipush 60, 2) := by decide +kernel
theorem dX12_operand_196 : decode cX12_operand 196 = .ok (.if_icmp .lt 12, 3) := by decide +kernel
theorem dX12_operand_199 : decode cX12_operand 199 = .ok (.aload_n 0, 1) := by decide +kernel
theorem dX12_operand_200 : decode cX12_operand 200 = .ok (.getfield 160, 3) := by decide +kernel
theorem dX12_operand_203 : decode cX12_operand 203 = .ok (.bipush 62, 2) := by decide +kernel
theorem dX12_operand_205 : decode cX12_operand 205 = .ok (.if_icmp .le 9, 3) := by decide +kernel
theorem dX12_operand_208 : decode cX12_operand 208 = .ok (.aload_n 0, 1) := by decide +kernel
theorem dX12_operand_209 : decode cX12_operand 209 = .ok (.iconst 1, 1) := by decide +kernel
theorem dX12_operand_210 : decode cX12_operand 210 = .ok (.invokevirtual 176, 3) := by decide +kernel
theorem dX12_operand_213 : decode cX12_operand 213 = .ok (.ireturn, 1) := by decide +kernel
theorem dX12_operand_214 : decode cX12_operand 214 = .ok (.aload_n 0, 1) := by decide +kernel
theorem dX12_operand_215 : decode cX12_operand 215 = .ok (.getfield 160, 3) := by decide +kernel
theorem dX12_operand_218 : decode cX12_operand 218 = .ok (.istore 4, 2) := by decide +kernel
theorem dX12_operand_220 : decode cX12_operand 220 = .ok (.aload_n 0, 1) := by decide +kernel
theorem dX12_operand_221 : decode cX12_operand 221 = .ok (.invokevirtual 179, 3) := by decide +kernel
theorem dX12_operand_224 : decode cX12_operand 224 = .ok (.aload_n 0, 1) := by decide +kernel
theorem dX12_operand_225 : decode cX12_operand 225 = .ok (.getfield 150, 3) := by decide +kernel
theorem dX12_operand_228 : decode cX12_operand 228 = .ok (.iconst 2, 1) := by decide +kernel
theorem dX12_operand_229 : decode cX12_operand 229 = .ok (.if_icmp .eq 9, 3) := by decide +kernel
theorem dX12_operand_232 : decode cX12_operand 232 = .ok (.aload_n 0, 1) := by decide +kernel
theorem dX12_operand_233 : decode cX12_operand 233 = .ok (.iconst 1, 1) := by decide +kernel
theorem dX12_operand_234 : decode cX12_operand 234 = .ok (.invokevirtual 176, 3) := by decide +kernel
theorem dX12_operand_237 : decode cX12_operand 237 = .ok (.ireturn, 1) := by decide +kernel
theorem dX12_operand_238 : decode cX12_operand 238 = .ok (.aload_n 0, 1) := by decide +kernel
theorem dX12_operand_239 : decode cX12_operand 239 = .ok (.iload_n 3, 1) := by decide +kernel
theorem dX12_operand_240 : decode cX12_operand 240 = .ok (.iload 4, 2) := by decide +kernel
theorem dX12_operand_242 : decode cX12_operand 242 = .ok (.aload_n 0, 1) := by decide +kernel
theorem dX12_operand_243 : decode cX12_operand 243 = .ok (.getfield 160, 3) := by decide +kernel
theorem dX12_operand_246 : decode cX12_operand 246 = .ok (.invokevirtual 406, 3) := by decide +kernel
theorem dX12_operand_249 : decode cX12_operand 249 = .ok (.aload_n 0, 1) := by decide +kernel
theorem dX12_operand_250 : decode cX12_operand 250 = .ok (.invokevirtual 179, 3) := by decide +kernel
theorem dX12_operand_253 : decode cX12_operand 253 = .ok (.iconst 1, 1) := by decide +kernel
theorem dX12_operand_254 : decode cX12_operand 254 = .ok (.ireturn, 1) := by decide +kernel
set_option maxRecDepth 20000 in
theorem ggX12_behind_X12_nots : GoodIn wsX12_behind wsX12_nots := goodIn_r _ [11, 4, 3, 6, 12, 13, 14, 10, 15, 16, 17, 59, 60, 61, 62, 63, 64, 65, 66, 67, 68, 69, 70, 71, 72, 73, 74, 75, 76, 77, 78, 79, 80, 81, 82, 83, 84, 85, 86, 87, 88, 89, 90, 91, 92, 93, 94, 95, 96, 97, 98, 99, 100, 101, 102, 103, 104, 105, 106, 107, 108, 109, 110] (by decide +kernel) (by decide +kernel)
set_option maxRecDepth 20000 in
theorem gX12_behind_X12_nots : GoodIn wsX12_behind (wsV RX12 422 RX12 yX12_nots wsX12_nots) := goodIn_app (goodIn_of _ (by decide +kernel)) ggX12_behind_X12_nots
set_option maxRecDepth 20000 in
theorem ggX12_behind_X12_isWord : GoodIn wsX12_behind wsX12_isWord := goodIn_r _ [21, 22, 23, 59, 60, 61, 62, 63, 64, 65, 66, 67, 68, 69, 70, 71, 72, 73, 74, 75, 76, 77, 78, 79, 80, 81, 82, 83, 84, 85, 86, 87, 88, 89, 90, 91, 92, 93, 94, 95, 96, 97, 98, 99, 100, 101, 102, 103, 104, 105, 106, 107, 108, 109, 110] (by decide +kernel) (by decide +kernel)
set_option maxRecDepth 20000 in
theorem gX12_behind_X12_isWord : GoodIn wsX12_behind (wsV RX12 204 RX12 yX12_isWord wsX12_isWord) := goodIn_app (goodIn_of _ (by decide +kernel)) ggX12_behind_X12_isWord
set_option maxRecDepth 20000 in
theorem ggX12_behind_X12_joins : GoodIn wsX12_behind wsX12_joins := goodIn_r _ [27, 4, 3, 12, 13, 14, 10, 15, 16, 17, 59, 60, 61, 62, 63, 64, 65, 66, 67, 68, 69, 70, 71, 72, 73, 74, 75, 76, 77, 78, 79, 80, 81, 82, 83, 84, 85, 86, 87, 88, 89, 90, 91, 92, 93, 94, 95, 96, 97, 98, 99, 100, 101, 102, 103, 104, 105, 106, 107, 108, 109, 110] (by decide +kernel) (by decide +kernel)
set_option maxRecDepth 20000 in
theorem gX12_behind_X12_joins : GoodIn wsX12_behind (wsV RX12 425 RX12 yX12_joins wsX12_joins) := goodIn_app (goodIn_of _ (by decide +kernel)) ggX12_behind_X12_joins
set_option maxRecDepth 20000 in
theorem ggX12_behind_X12_step : GoodIn wsX12_behind wsX12_step := goodIn_r _ [31, 32, 33, 34, 35, 36, 22, 37, 23, 38, 39, 40, 10, 41, 42, 43, 44, 45, 46, 47, 48, 59, 60, 61, 62, 63, 64, 65, 66, 67, 68, 69, 70, 71, 72, 73, 74, 75, 76, 77, 78, 79, 80, 81, 82, 83, 84, 85, 86, 87, 88, 89, 90, 91, 92, 93, 94, 95, 96, 97, 98, 99, 100, 101, 102, 103, 104, 105, 106, 107, 108, 109, 110] (by decide +kernel) (by decide +kernel)
set_option maxRecDepth 20000 in
theorem gX12_behind_X12_step : GoodIn wsX12_behind (wsV RX12 179 RX12 yX12_step wsX12_step) := goodIn_app (goodIn_of _ (by decide +kernel)) ggX12_behind_X12_step
set_option maxRecDepth 20000 in
theorem ggX12_behind_X12_isSign : GoodIn wsX12_behind wsX12_isSign := goodIn_r _ [52, 22, 37, 59, 60, 61, 62, 63, 64, 65, 66, 67, 68, 69, 70, 71, 72, 73, 74, 75, 76, 77, 78, 79, 80, 81, 82, 83, 84, 85, 86, 87, 88, 89, 90, 91, 92, 93, 94, 95, 96, 97, 98, 99, 100, 101, 102, 103, 104, 105, 106, 107, 108, 109, 110] (by decide +kernel) (by decide +kernel)
set_option maxRecDepth 20000 in
theorem gX12_behind_X12_isSign : GoodIn wsX12_behind (wsV RX12 173 RX12 yX12_isSign wsX12_isSign) := goodIn_app (goodIn_of _ (by decide +kernel)) ggX12_behind_X12_isSign
set_option maxRecDepth 20000 in
theorem ggX12_behind_X12_bad : GoodIn wsX12_behind wsX12_bad := goodIn_r _ [56, 57, 33, 58, 59, 60, 61, 62, 63, 64, 65, 66, 67, 68, 69, 70, 71, 72, 73, 74, 75, 76, 77, 78, 79, 80, 81, 82, 83, 84, 85, 86, 87, 88, 89, 90, 91, 92, 93, 94, 95, 96, 97, 98, 99, 100, 101, 102, 103, 104, 105, 106, 107, 108, 109, 110] (by decide +kernel) (by decide +kernel)
set_option maxRecDepth 20000 in
theorem gX12_behind_X12_bad : GoodIn wsX12_behind (wsV RX12 176 RX12 yX12_bad wsX12_bad) := goodIn_app (goodIn_of _ (by decide +kernel)) ggX12_behind_X12_bad
theorem dX12_behind_0 : decode cX12_behind 0 = .ok (.aload_n 0, 1) := by decide +kernel
theorem dX12_behind_1 : decode cX12_behind 1 = .ok (.invokevirtual 422, 3) := by decide +kernel
theorem dX12_behind_4 : decode cX12_behind 4 = .ok (.aload_n 0, 1) := by decide +kernel
theorem dX12_behind_5 : decode cX12_behind 5 = .ok (.ldc2_w 115, 3) := by decide +kernel
theorem dX12_behind_8 : decode cX12_behind 8 = .ok (.invokevirtual 204, 3) := by decide +kernel
theorem dX12_behind_11 : decode cX12_behind 11 = .ok (.ifCond .ne 13, 3) := by decide +kernel
theorem dX12_behind_14 : decode cX12_behind 14 = .ok (.aload_n 0, 1) := by decide +kernel
theorem dX12_behind_15 : decode cX12_behind 15 = .ok (.ldc2_w 113, 3) := by decide +kernel
theorem dX12_behind_18 : decode cX12_behind 18 = .ok (.invokevirtual 204, 3) := by decide +kernel
theorem dX12_behind_21 : decode cX12_behind 21 = .ok (.ifCond .eq 71, 3) := by decide +kernel
theorem dX12_behind_24 : decode cX12_behind 24 = .ok (.aload_n 0, 1) := by decide +kernel
theorem dX12_behind_25 : decode cX12_behind 25 = .ok (.aload_n 0, 1) := by decide +kernel
theorem dX12_behind_26 : decode cX12_behind 26 = .ok (.ldc2_w 115, 3) := by decide +kernel
theorem dX12_behind_29 : decode cX12_behind 29 = .ok (.invokevirtual 204, 3) := by decide +kernel
theorem dX12_behind_32 : decode cX12_behind 32 = .ok (.ifCond .eq 8, 3) := by decide +kernel
theorem dX12_behind_35 : decode cX12_behind 35 = .ok (.bipush 21, 2) := by decide +kernel
theorem dX12_behind_37 : decode cX12_behind 37 = .ok (.goto 5, 3) := by decide +kernel
theorem dX12_behind_40 : decode cX12_behind 40 = .ok (.bipush 22, 2) := by decide +kernel
theorem dX12_behind_42 : decode cX12_behind 42 = .ok (.invokevirtual 425, 3) := by decide +kernel
theorem dX12_behind_45 : decode cX12_behind 45 = .ok (.aload_n 0, 1) := by decide +kernel
theorem dX12_behind_46 : decode cX12_behind 46 = .ok (.getfield 77, 3) := by decide +kernel
theorem dX12_behind_49 : decode cX12_behind 49 = .ok (.aload_n 0, 1) := by decide +kernel
theorem dX12_behind_50 : decode cX12_behind 50 = .ok (.getfield 403, 3) := by decide +kernel
theorem dX12_behind_53 : decode cX12_behind 53 = .ok (.aload_n 0, 1) := by decide +kernel
theorem dX12_behind_54 : decode cX12_behind 54 = .ok (.ldc2_w 115, 3) := by decide +kernel
theorem dX12_behind_57 : decode cX12_behind 57 = .ok (.invokevirtual 204, 3) := by decide +kernel
theorem dX12_behind_60 : decode cX12_behind 60 = .ok (.ifCond .eq 8, 3) := by decide +kernel
theorem dX12_behind_63 : decode cX12_behind 63 = .ok (.bipush 21, 2) := by decide +kernel
theorem dX12_behind_65 : decode cX12_behind 65 = .ok (.goto 5, 3) := by decide +kernel
theorem dX12_behind_68 : decode cX12_behind 68 = .ok (.bipush 22, 2) := by decide +kernel
theorem dX12_behind_70 : decode cX12_behind 70 = .ok (.iastore, 1) := by decide +kernel
theorem dX12_behind_71 : decode cX12_behind 71 = .ok (.aload_n 0, 1) := by decide +kernel
theorem dX12_behind_72 : decode cX12_behind 72 = .ok (.dup, 1) := by decide +kernel
theorem dX12_behind_73 : decode cX12_behind 73 = .ok (.getfield 403, 3) := by decide +kernel
theorem dX12_behind_76 : decode cX12_behind 76 = .ok (.iconst 1, 1) := by decide +kernel
theorem dX12_behind_77 : decode cX12_behind 77 = .ok (.iadd, 1) := by decide +kernel
theorem dX12_behind_78 : decode cX12_behind 78 = .ok (.putfield 403, 3) := by decide +kernel
theorem dX12_behind_81 : decode cX12_behind 81 = .ok (.aload_n 0, 1) := by decide +kernel
theorem dX12_behind_82 : decode cX12_behind 82 = .ok (.iconst 0, 1) := by decide +kernel
theorem dX12_behind_83 : decode cX12_behind 83 = .ok (.putfield 419, 3) := by decide +kernel
theorem dX12_behind_86 : decode cX12_behind 86 = .ok (.aload_n 0, 1) := by decide +kernel
theorem dX12_behind_87 : decode cX12_behind 87 = .ok (.invokevirtual 179, 3) := by decide +kernel
theorem dX12_behind_90 : decode cX12_behind 90 = .ok (.iconst 1, 1) := by decide +kernel
theorem dX12_behind_91 : decode cX12_behind 91 = .ok (.ireturn, 1) := by decide +kernel
theorem dX12_behind_92 : decode cX12_behind 92 = .ok (.aload_n 0, 1) := by decide +kernel
theorem dX12_behind_93 : decode cX12_behind 93 = .ok (.bipush 22, 2) := by decide +kernel
theorem dX12_behind_95 : decode cX12_behind 95 = .ok (.invokevirtual 425, 3) := by decide +kernel
theorem dX12_behind_98 : decode cX12_behind 98 = .ok (.aload_n 0, 1) := by decide +kernel
theorem dX12_behind_99 : decode cX12_behind 99 = .ok (.bipush 41, 2) := by decide +kernel
theorem dX12_behind_101 : decode cX12_behind 101 = .ok (.invokevirtual 173, 3) := by decide +kernel
theorem dX12_behind_104 : decode cX12_behind 104 = .ok (.ifCond .eq 10, 3) := by decide +kernel
theorem dX12_behind_107 : decode cX12_behind 107 = .ok (.aload_n 0, 1) := by decide +kernel
theorem dX12_behind_108 : decode cX12_behind 108 = .ok (.getfield 403, 3) := by decide +kernel
theorem dX12_behind_111 : decode cX12_behind 111 = .ok (.ifCond .ne 9, 3) := by decide +kernel
theorem dX12_behind_114 : decode cX12_behind 114 = .ok (.aload_n 0, 1) := by decide +kernel
theorem dX12_behind_115 : decode cX12_behind 115 = .ok (.iconst 1, 1) := by decide +kernel
theorem dX12_behind_116 : decode cX12_behind 116 = .ok (.invokevirtual 176, 3) := by decide +kernel
theorem dX12_behind_119 : decode cX12_behind 119 = .ok (.ireturn, 1) := by decide +kernel
theorem dX12_behind_120 : decode cX12_behind 120 = .ok (.aload_n 0, 1) := by decide +kernel
theorem dX12_behind_121 : decode cX12_behind 121 = .ok (.dup, 1) := by decide +kernel
theorem dX12_behind_122 : decode cX12_behind 122 = .ok (.getfield 403, 3) := by decide +kernel
theorem dX12_behind_125 : decode cX12_behind 125 = .ok (.iconst 1, 1) := by decide +kernel
theorem dX12_behind_126 : decode cX12_behind 126 = .ok (.isub, 1) := by decide +kernel
theorem dX12_behind_127 : decode cX12_behind 127 = .ok (.putfield 403, 3) := by decide +kernel
theorem dX12_behind_130 : decode cX12_behind 130 = .ok (.aload_n 0, 1) := by decide +kernel
theorem dX12_behind_131 : decode cX12_behind 131 = .ok (.dup, 1) := by decide +kernel
theorem dX12_behind_132 : decode cX12_behind 132 = .ok (.getfield 410, 3) := by decide +kernel
theorem dX12_behind_135 : decode cX12_behind 135 = .ok (.iconst 1, 1) := by decide +kernel
theorem dX12_behind_136 : decode cX12_behind 136 = .ok (.isub, 1) := by decide +kernel
theorem dX12_behind_137 : decode cX12_behind 137 = .ok (.putfield 410, 3) := by decide +kernel
theorem dX12_behind_140 : decode cX12_behind 140 = .ok (.aload_n 0, 1) := by decide +kernel
theorem dX12_behind_141 : decode cX12_behind 141 = .ok (.invokevirtual 179, 3) := by decide +kernel
theorem dX12_behind_144 : decode cX12_behind 144 = .ok (.iconst 1, 1) := by decide +kernel
theorem dX12_behind_145 : decode cX12_behind 145 = .ok (.ireturn, 1) := by decide +kernel
set_option maxRecDepth 20000 in
theorem ggX12_sentence_X12_taken : GoodIn wsX12_sentence wsX12_taken := goodIn_r _ [16, 17, 18, 19, 20, 104, 105, 106, 107, 108, 109, 110, 111, 112, 113, 114, 115, 116, 117, 118, 119, 120, 121, 122, 123, 124, 125, 126, 127, 128, 129, 130, 131, 132, 133, 134, 135, 136, 137, 138, 139, 140, 141, 142, 143, 144, 145, 146, 147, 148, 149, 150, 151, 152, 153, 154, 155] (by decide +kernel) (by decide +kernel)
set_option maxRecDepth 20000 in
theorem gX12_sentence_X12_taken : GoodIn wsX12_sentence (wsV RX12 233 RX12 yX12_taken wsX12_taken) := goodIn_app (goodIn_of _ (by decide +kernel)) ggX12_sentence_X12_taken
set_option maxRecDepth 20000 in
theorem ggX12_sentence_X12_step : GoodIn wsX12_sentence wsX12_step := goodIn_r _ [24, 19, 25, 26, 18, 20, 8, 27, 28, 29, 30, 31, 15, 32, 33, 34, 35, 36, 37, 38, 39, 104, 105, 106, 107, 108, 109, 110, 111, 112, 113, 114, 115, 116, 117, 118, 119, 120, 121, 122, 123, 124, 125, 126, 127, 128, 129, 130, 131, 132, 133, 134, 135, 136, 137, 138, 139, 140, 141, 142, 143, 144, 145, 146, 147, 148, 149, 150, 151, 152, 153, 154, 155] (by decide +kernel) (by decide +kernel)
set_option maxRecDepth 20000 in
theorem gX12_sentence_X12_step : GoodIn wsX12_sentence (wsV RX12 179 RX12 yX12_step wsX12_step) := goodIn_app (goodIn_of _ (by decide +kernel)) ggX12_sentence_X12_step
set_option maxRecDepth 20000 in
theorem ggX12_sentence_X12_nots : GoodIn wsX12_sentence wsX12_nots := goodIn_r _ [43, 5, 44, 6, 45, 46, 47, 15, 48, 11, 3, 104, 105, 106, 107, 108, 109, 110, 111, 112, 113, 114, 115, 116, 117, 118, 119, 120, 121, 122, 123, 124, 125, 126, 127, 128, 129, 130, 131, 132, 133, 134, 135, 136, 137, 138, 139, 140, 141, 142, 143, 144, 145, 146, 147, 148, 149, 150, 151, 152, 153, 154, 155] (by decide +kernel) (by decide +kernel)
set_option maxRecDepth 20000 in
theorem gX12_sentence_X12_nots : GoodIn wsX12_sentence (wsV RX12 422 RX12 yX12_nots wsX12_nots) := goodIn_app (goodIn_of _ (by decide +kernel)) ggX12_sentence_X12_nots
set_option maxRecDepth 20000 in
theorem ggX12_sentence_X12_joins : GoodIn wsX12_sentence wsX12_joins := goodIn_r _ [52, 5, 44, 45, 46, 47, 15, 48, 11, 3, 104, 105, 106, 107, 108, 109, 110, 111, 112, 113, 114, 115, 116, 117, 118, 119, 120, 121, 122, 123, 124, 125, 126, 127, 128, 129, 130, 131, 132, 133, 134, 135, 136, 137, 138, 139, 140, 141, 142, 143, 144, 145, 146, 147, 148, 149, 150, 151, 152, 153, 154, 155] (by decide +kernel) (by decide +kernel)
set_option maxRecDepth 20000 in
theorem gX12_sentence_X12_joins : GoodIn wsX12_sentence (wsV RX12 425 RX12 yX12_joins wsX12_joins) := goodIn_app (goodIn_of _ (by decide +kernel)) ggX12_sentence_X12_joins
set_option maxRecDepth 20000 in
theorem ggX12_sentence_X12_bad : GoodIn wsX12_sentence wsX12_bad := goodIn_r _ [56, 2, 25, 9, 104, 105, 106, 107, 108, 109, 110, 111, 112, 113, 114, 115, 116, 117, 118, 119, 120, 121, 122, 123, 124, 125, 126, 127, 128, 129, 130, 131, 132, 133, 134, 135, 136, 137, 138, 139, 140, 141, 142, 143, 144, 145, 146, 147, 148, 149, 150, 151, 152, 153, 154, 155] (by decide +kernel) (by decide +kernel)
set_option maxRecDepth 20000 in
theorem gX12_sentence_X12_bad : GoodIn wsX12_sentence (wsV RX12 176 RX12 yX12_bad wsX12_bad) := goodIn_app (goodIn_of _ (by decide +kernel)) ggX12_sentence_X12_bad
set_option maxRecDepth 20000 in
theorem ggX12_sentence_X12_behind : GoodIn wsX12_sentence wsX12_behind := goodIn_r _ [60, 61, 62, 44, 5, 7, 6, 40, 41, 42, 15, 43, 45, 46, 47, 48, 11, 3, 63, 64, 65, 66, 8, 28, 49, 50, 51, 52, 21, 22, 23, 24, 19, 25, 26, 18, 20, 27, 29, 30, 31, 32, 33, 34, 35, 36, 37, 38, 39, 67, 68, 69, 70, 53, 54, 55, 56, 2, 9, 104, 105, 106, 107, 108, 109, 110, 111, 112, 113, 114, 115, 116, 117, 118, 119, 120, 121, 122, 123, 124, 125, 126, 127, 128, 129, 130, 131, 132, 133, 134, 135, 136, 137, 138, 139, 140, 141, 142, 143, 144, 145, 146, 147, 148, 149, 150, 151, 152, 153, 154, 155] (by decide +kernel) (by decide +kernel)
set_option maxRecDepth 20000 in
theorem gX12_sentence_X12_behind : GoodIn wsX12_sentence (wsV RX12 428 RX12 yX12_behind wsX12_behind) := goodIn_app (goodIn_of _ (by decide +kernel)) ggX12_sentence_X12_behind
set_option maxRecDepth 20000 in
theorem ggX12_sentence_X12_operand : GoodIn wsX12_sentence wsX12_operand := goodIn_r _ [74, 75, 4, 6, 44, 5, 7, 10, 76, 8, 27, 63, 64, 65, 15, 66, 28, 67, 68, 69, 70, 77, 78, 79, 80, 81, 82, 83, 84, 85, 86, 87, 88, 89, 53, 54, 55, 56, 2, 25, 9, 21, 22, 23, 24, 19, 26, 18, 20, 29, 30, 31, 32, 33, 34, 35, 36, 37, 38, 39, 45, 46, 47, 48, 11, 3, 90, 91, 92, 93, 94, 95, 96, 97, 98, 99, 100, 101, 102, 103, 104, 105, 106, 107, 108, 109, 110, 111, 112, 113, 114, 115, 116, 117, 118, 119, 120, 121, 122, 123, 124, 125, 126, 127, 128, 129, 130, 131, 132, 133, 134, 135, 136, 137, 138, 139, 140, 141, 142, 143, 144, 145, 146, 147, 148, 149, 150, 151, 152, 153, 154, 155] (by decide +kernel) (by decide +kernel)
set_option maxRecDepth 20000 in
theorem gX12_sentence_X12_operand : GoodIn wsX12_sentence (wsV RX12 431 RX12 yX12_operand wsX12_operand) := goodIn_app (goodIn_of _ (by decide +kernel)) ggX12_sentence_X12_operand
theorem dX12_sentence_0 : decode cX12_sentence 0 = .ok (.aload_n 0, 1) := by decide +kernel
theorem dX12_sentence_1 : decode cX12_sentence 1 = .ok (.iconst 0, 1) := by decide +kernel
theorem dX12_sentence_2 : decode cX12_sentence 2 = .ok (.putfield 1, 3) := by decide +kernel
theorem dX12_sentence_5 : decode cX12_sentence 5 = .ok (.aload_n 0, 1) := by decide +kernel
theorem dX12_sentence_6 : decode cX12_sentence 6 = .ok (.sipush 200, 3) := by decide +kernel
theorem dX12_sentence_9 : decode cX12_sentence 9 = .ok (.invokevirtual 233, 3) := by decide +kernel
theorem dX12_sentence_12 : decode cX12_sentence 12 = .ok (.aload_n 0, 1) := by decide +kernel
theorem dX12_sentence_13 : decode cX12_sentence 13 = .ok (.iconst 0, 1) := by decide +kernel
theorem dX12_sentence_14 : decode cX12_sentence 14 = .ok (.putfield 167, 3) := by decide +kernel
theorem dX12_sentence_17 : decode cX12_sentence 17 = .ok (.aload_n 0, 1) := by decide +kernel
theorem dX12_sentence_18 : decode cX12_sentence 18 = .ok (.iconst 0, 1) := by decide +kernel
theorem dX12_sentence_19 : decode cX12_sentence 19 = .ok (.putfield 400, 3) := by decide +kernel
theorem dX12_sentence_22 : decode cX12_sentence 22 = .ok (.aload_n 0, 1) := by decide +kernel
theorem dX12_sentence_23 : decode cX12_sentence 23 = .ok (.iconst 0, 1) := by decide +kernel
theorem dX12_sentence_24 : decode cX12_sentence 24 = .ok (.putfield 416, 3) := by decide +kernel
theorem dX12_sentence_27 : decode cX12_sentence 27 = .ok (.aload_n 0, 1) := by decide +kernel
theorem dX12_sentence_28 : decode cX12_sentence 28 = .ok (.iconst 0, 1) := by decide +kernel
theorem dX12_sentence_29 : decode cX12_sentence 29 = .ok (.putfield 403, 3) := by decide +kernel
theorem dX12_sentence_32 : decode cX12_sentence 32 = .ok (.aload_n 0, 1) := by decide +kernel
theorem dX12_sentence_33 : decode cX12_sentence 33 = .ok (.iconst 1, 1) := by decide +kernel
theorem dX12_sentence_34 : decode cX12_sentence 34 = .ok (.putfield 410, 3) := by decide +kernel
theorem dX12_sentence_37 : decode cX12_sentence 37 = .ok (.aload_n 0, 1) := by decide +kernel
theorem dX12_sentence_38 : decode cX12_sentence 38 = .ok (.iconst 0, 1) := by decide +kernel
theorem dX12_sentence_39 : decode cX12_sentence 39 = .ok (.putfield 419, 3) := by decide +kernel
theorem dX12_sentence_42 : decode cX12_sentence 42 = .ok (.aload_n 0, 1) := by decide +kernel
theorem dX12_sentence_43 : decode cX12_sentence 43 = .ok (.invokevirtual 179, 3) := by decide +kernel
theorem dX12_sentence_46 : decode cX12_sentence 46 = .ok (.iconst 1, 1) := by decide +kernel
theorem dX12_sentence_47 : decode cX12_sentence 47 = .ok (.istore_n 1, 1) := by decide +kernel
theorem dX12_sentence_48 : decode cX12_sentence 48 = .ok (.iload_n 1, 1) := by decide +kernel
theorem dX12_sentence_49 : decode cX12_sentence 49 = .ok (.ifCond .eq 83, 3) := by decide +kernel
theorem dX12_sentence_52 : decode cX12_sentence 52 = .ok (.aload_n 0, 1) := by decide +kernel
theorem dX12_sentence_53 : decode cX12_sentence 53 = .ok (.getfield 419, 3) := by decide +kernel
theorem dX12_sentence_56 : decode cX12_sentence 56 = .ok (.ifCond .eq 45, 3) := by decide +kernel
theorem dX12_sentence_59 : decode cX12_sentence 59 = .ok (.aload_n 0, 1) := by decide +kernel
theorem dX12_sentence_60 : decode cX12_sentence 60 = .ok (.getfield 150, 3) := by decide +kernel
theorem dX12_sentence_63 : decode cX12_sentence 63 = .ok (.ifCond .ne 38, 3) := by decide +kernel
theorem dX12_sentence_66 : decode cX12_sentence 66 = .ok (.aload_n 0, 1) := by decide +kernel
theorem dX12_sentence_67 : decode cX12_sentence 67 = .ok (.invokevirtual 422, 3) := by decide +kernel
theorem dX12_sentence_70 : decode cX12_sentence 70 = .ok (.aload_n 0, 1) := by decide +kernel
theorem dX12_sentence_71 : decode cX12_sentence 71 = .ok (.bipush 22, 2) := by decide +kernel
theorem dX12_sentence_73 : decode cX12_sentence 73 = .ok (.invokevirtual 425, 3) := by decide +kernel
theorem dX12_sentence_76 : decode cX12_sentence 76 = .ok (.aload_n 0, 1) := by decide +kernel
theorem dX12_sentence_77 : decode cX12_sentence 77 = .ok (.getfield 403, 3) := by decide +kernel
theorem dX12_sentence_80 : decode cX12_sentence 80 = .ok (.ifCond .le 16, 3) := by decide +kernel
theorem dX12_sentence_83 : decode cX12_sentence 83 = .ok (.aload_n 0, 1) := by decide +kernel
theorem dX12_sentence_84 : decode cX12_sentence 84 = .ok (.iconst 1, 1) := by decide +kernel
theorem dX12_sentence_85 : decode cX12_sentence 85 = .ok (.invokevirtual 176, 3) := by decide +kernel
theorem dX12_sentence_88 : decode cX12_sentence 88 = .ok (.pop, 1) := by decide +kernel
theorem dX12_sentence_89 : decode cX12_sentence 89 = .ok (.iconst (-1), 1) := by decide +kernel
theorem dX12_sentence_90 : decode cX12_sentence 90 = .ok (.aload_n 0, 1) := by decide +kernel
theorem dX12_sentence_91 : decode cX12_sentence 91 = .ok (.getfield 170, 3) := by decide +kernel
theorem dX12_sentence_94 : decode cX12_sentence 94 = .ok (.isub, 1) := by decide +kernel
theorem dX12_sentence_95 : decode cX12_sentence 95 = .ok (.ireturn, 1) := by decide +kernel
theorem dX12_sentence_96 : decode cX12_sentence 96 = .ok (.iconst 0, 1) := by decide +kernel
theorem dX12_sentence_97 : decode cX12_sentence 97 = .ok (.istore_n 1, 1) := by decide +kernel
theorem dX12_sentence_98 : decode cX12_sentence 98 = .ok (.goto (-50), 3) := by decide +kernel
theorem dX12_sentence_101 : decode cX12_sentence 101 = .ok (.aload_n 0, 1) := by decide +kernel
theorem dX12_sentence_102 : decode cX12_sentence 102 = .ok (.getfield 419, 3) := by decide +kernel
theorem dX12_sentence_105 : decode cX12_sentence 105 = .ok (.ifCond .eq 13, 3) := by decide +kernel
theorem dX12_sentence_108 : decode cX12_sentence 108 = .ok (.aload_n 0, 1) := by decide +kernel
theorem dX12_sentence_109 : decode cX12_sentence 109 = .ok (.invokevirtual 428, 3) := by decide +kernel
theorem dX12_sentence_112 : decode cX12_sentence 112 = .ok (.ifCond .ne (-64), 3) := by decide +kernel
theorem dX12_sentence_115 : decode cX12_sentence 115 = .ok (.goto 10, 3) := by decide +kernel
theorem dX12_sentence_118 : decode cX12_sentence 118 = .ok (.aload_n 0, 1) := by decide +kernel
theorem dX12_sentence_119 : decode cX12_sentence 119 = .ok (.invokevirtual 431, 3) := by decide +kernel
theorem dX12_sentence_122 : decode cX12_sentence 122 = .ok (.ifCond .ne (-74), 3) := by decide +kernel
theorem dX12_sentence_125 : decode cX12_sentence 125 = .ok (.iconst (-1), 1) := by decide +kernel
theorem dX12_sentence_126 : decode cX12_sentence 126 = .ok (.aload_n 0, 1) := by decide +kernel
theorem dX12_sentence_127 : decode cX12_sentence 127 = .ok (.getfield 170, 3) := by decide +kernel
theorem dX12_sentence_130 : decode cX12_sentence 130 = .ok (.isub, 1) := by decide +kernel
theorem dX12_sentence_131 : decode cX12_sentence 131 = .ok (.ireturn, 1) := by decide +kernel
theorem dX12_sentence_132 : decode cX12_sentence 132 = .ok (.aload_n 0, 1) := by decide +kernel
theorem dX12_sentence_133 : decode cX12_sentence 133 = .ok (.getfield 33, 3) := by decide +kernel
theorem dX12_sentence_136 : decode cX12_sentence 136 = .ok (.bipush 92, 2) := by decide +kernel
theorem dX12_sentence_138 : decode cX12_sentence 138 = .ok (.aload_n 0, 1) := by decide +kernel
theorem dX12_sentence_139 : decode cX12_sentence 139 = .ok (.getfield 400, 3) := by decide +kernel
theorem dX12_sentence_142 : decode cX12_sentence 142 = .ok (.iastore, 1) := by decide +kernel
theorem dX12_sentence_143 : decode cX12_sentence 143 = .ok (.iconst 0, 1) := by decide +kernel
theorem dX12_sentence_144 : decode cX12_sentence 144 = .ok (.istore_n 2, 1) := by decide +kernel
theorem dX12_sentence_145 : decode cX12_sentence 145 = .ok (.iload_n 2, 1) := by decide +kernel
theorem dX12_sentence_146 : decode cX12_sentence 146 = .ok (.iconst 3, 1) := by decide +kernel
theorem dX12_sentence_147 : decode cX12_sentence 147 = .ok (.aload_n 0, 1) := by decide +kernel
theorem dX12_sentence_148 : decode cX12_sentence 148 = .ok (.getfield 400, 3) := by decide +kernel
theorem dX12_sentence_151 : decode cX12_sentence 151 = .ok (.imul, 1) := by decide +kernel
theorem dX12_sentence_152 : decode cX12_sentence 152 = .ok (.if_icmp .ge 24, 3) := by decide +kernel
theorem dX12_sentence_155 : decode cX12_sentence 155 = .ok (.aload_n 0, 1) := by decide +kernel
theorem dX12_sentence_156 : decode cX12_sentence 156 = .ok (.getfield 33, 3) := by decide +kernel
theorem dX12_sentence_159 : decode cX12_sentence 159 = .ok (.bipush 93, 2) := by decide +kernel
theorem dX12_sentence_161 : decode cX12_sentence 161 = .ok (.iload_n 2, 1) := by decide +kernel
theorem dX12_sentence_162 : decode cX12_sentence 162 = .ok (.iadd, 1) := by decide +kernel
theorem dX12_sentence_163 : decode cX12_sentence 163 = .ok (.aload_n 0, 1) := by decide +kernel
theorem dX12_sentence_164 : decode cX12_sentence 164 = .ok (.getfield 40, 3) := by decide +kernel
theorem dX12_sentence_167 : decode cX12_sentence 167 = .ok (.iload_n 2, 1) := by decide +kernel
theorem dX12_sentence_168 : decode cX12_sentence 168 = .ok (.iaload, 1) := by decide +kernel
theorem dX12_sentence_169 : decode cX12_sentence 169 = .ok (.iastore, 1) := by decide +kernel
theorem dX12_sentence_170 : decode cX12_sentence 170 = .ok (.iinc 2 1, 3) := by decide +kernel
theorem dX12_sentence_173 : decode cX12_sentence 173 = .ok (.goto (-28), 3) := by decide +kernel
theorem dX12_sentence_176 : decode cX12_sentence 176 = .ok (.aload_n 0, 1) := by decide +kernel
theorem dX12_sentence_177 : decode cX12_sentence 177 = .ok (.getfield 416, 3) := by decide +kernel
theorem dX12_sentence_180 : decode cX12_sentence 180 = .ok (.ireturn, 1) := by decide +kernel
set_option maxRecDepth 20000 in
theorem ggX12_isLeaf_X12_doesSit : GoodIn wsX12_isLeaf wsX12_doesSit := goodIn_r _ [6, 1, 7, 8, 5, 9, 14, 15, 16, 17, 18, 19, 20, 21, 22, 23, 24, 25, 26, 27, 28, 29, 30, 31, 32, 33, 34, 35, 36, 37, 38, 39, 40, 41, 42, 43, 44, 45, 46, 47, 48, 49, 50, 51, 52, 53, 54, 55, 56, 57, 58, 59, 60, 61, 62, 63, 64, 65] (by decide +kernel) (by decide +kernel)
set_option maxRecDepth 20000 in
theorem gX12_isLeaf_X12_doesSit : GoodIn wsX12_isLeaf (wsV RX12 251 RX12 yX12_doesSit wsX12_doesSit) := goodIn_app (goodIn_of _ (by decide +kernel)) ggX12_isLeaf_X12_doesSit
set_option maxRecDepth 20000 in
theorem ggX12_isLeaf_X12_payerOf : GoodIn wsX12_isLeaf wsX12_payerOf := goodIn_r _ [13, 1, 14, 15, 16, 17, 18, 19, 20, 21, 22, 23, 24, 25, 26, 27, 28, 29, 30, 31, 32, 33, 34, 35, 36, 37, 38, 39, 40, 41, 42, 43, 44, 45, 46, 47, 48, 49, 50, 51, 52, 53, 54, 55, 56, 57, 58, 59, 60, 61, 62, 63, 64, 65] (by decide +kernel) (by decide +kernel)
set_option maxRecDepth 20000 in
theorem gX12_isLeaf_X12_payerOf : GoodIn wsX12_isLeaf (wsV RX12 261 RX12 yX12_payerOf wsX12_payerOf) := goodIn_app (goodIn_of _ (by decide +kernel)) ggX12_isLeaf_X12_payerOf
theorem dX12_isLeaf_0 : decode cX12_isLeaf 0 = .ok (.iload_n 2, 1) := by decide +kernel
theorem dX12_isLeaf_1 : decode cX12_isLeaf 1 = .ok (.tableswitch 130 0 4 #[35, 41, 59, 86, 114], 35) := by decide +kernel
theorem dX12_isLeaf_36 : decode cX12_isLeaf 36 = .ok (.aload_n 0, 1) := by decide +kernel
theorem dX12_isLeaf_37 : decode cX12_isLeaf 37 = .ok (.iload_n 1, 1) := by decide +kernel
theorem dX12_isLeaf_38 : decode cX12_isLeaf 38 = .ok (.invokevirtual 251, 3) := by decide +kernel
theorem dX12_isLeaf_41 : decode cX12_isLeaf 41 = .ok (.ireturn, 1) := by decide +kernel
theorem dX12_isLeaf_42 : decode cX12_isLeaf 42 = .ok (.aload_n 0, 1) := by decide +kernel
theorem dX12_isLeaf_43 : decode cX12_isLeaf 43 = .ok (.getfield 33, 3) := by decide +kernel
theorem dX12_isLeaf_46 : decode cX12_isLeaf 46 = .ok (.bipush 78, 2) := by decide +kernel
theorem dX12_isLeaf_48 : decode cX12_isLeaf 48 = .ok (.iload_n 1, 1) := by decide +kernel
theorem dX12_isLeaf_49 : decode cX12_isLeaf 49 = .ok (.iadd, 1) := by decide +kernel
theorem dX12_isLeaf_50 : decode cX12_isLeaf 50 = .ok (.iaload, 1) := by decide +kernel
theorem dX12_isLeaf_51 : decode cX12_isLeaf 51 = .ok (.ifCond .le 7, 3) := by decide +kernel
theorem dX12_isLeaf_54 : decode cX12_isLeaf 54 = .ok (.iconst 1, 1) := by decide +kernel
theorem dX12_isLeaf_55 : decode cX12_isLeaf 55 = .ok (.goto 4, 3) := by decide +kernel
theorem dX12_isLeaf_58 : decode cX12_isLeaf 58 = .ok (.iconst 0, 1) := by decide +kernel
theorem dX12_isLeaf_59 : decode cX12_isLeaf 59 = .ok (.ireturn, 1) := by decide +kernel
theorem dX12_isLeaf_60 : decode cX12_isLeaf 60 = .ok (.aload_n 0, 1) := by decide +kernel
theorem dX12_isLeaf_61 : decode cX12_isLeaf 61 = .ok (.getfield 33, 3) := by decide +kernel
theorem dX12_isLeaf_64 : decode cX12_isLeaf 64 = .ok (.bipush 64, 2) := by decide +kernel
theorem dX12_isLeaf_66 : decode cX12_isLeaf 66 = .ok (.iload_n 1, 1) := by decide +kernel
theorem dX12_isLeaf_67 : decode cX12_isLeaf 67 = .ok (.iadd, 1) := by decide +kernel
theorem dX12_isLeaf_68 : decode cX12_isLeaf 68 = .ok (.iaload, 1) := by decide +kernel
theorem dX12_isLeaf_69 : decode cX12_isLeaf 69 = .ok (.aload_n 0, 1) := by decide +kernel
theorem dX12_isLeaf_70 : decode cX12_isLeaf 70 = .ok (.getfield 33, 3) := by decide +kernel
theorem dX12_isLeaf_73 : decode cX12_isLeaf 73 = .ok (.bipush 10, 2) := by decide +kernel
theorem dX12_isLeaf_75 : decode cX12_isLeaf 75 = .ok (.iload_n 1, 1) := by decide +kernel
theorem dX12_isLeaf_76 : decode cX12_isLeaf 76 = .ok (.iadd, 1) := by decide +kernel
theorem dX12_isLeaf_77 : decode cX12_isLeaf 77 = .ok (.iaload, 1) := by decide +kernel
theorem dX12_isLeaf_78 : decode cX12_isLeaf 78 = .ok (.if_icmp .lt 7, 3) := by decide +kernel
theorem dX12_isLeaf_81 : decode cX12_isLeaf 81 = .ok (.iconst 1, 1) := by decide +kernel
theorem dX12_isLeaf_82 : decode cX12_isLeaf 82 = .ok (.goto 4, 3) := by decide +kernel
theorem dX12_isLeaf_85 : decode cX12_isLeaf 85 = .ok (.iconst 0, 1) := by decide +kernel
theorem dX12_isLeaf_86 : decode cX12_isLeaf 86 = .ok (.ireturn, 1) := by decide +kernel
theorem dX12_isLeaf_87 : decode cX12_isLeaf 87 = .ok (.aload_n 0, 1) := by decide +kernel
theorem dX12_isLeaf_88 : decode cX12_isLeaf 88 = .ok (.getfield 33, 3) := by decide +kernel
theorem dX12_isLeaf_91 : decode cX12_isLeaf 91 = .ok (.bipush 56, 2) := by decide +kernel
theorem dX12_isLeaf_93 : decode cX12_isLeaf 93 = .ok (.iload_n 1, 1) := by decide +kernel
theorem dX12_isLeaf_94 : decode cX12_isLeaf 94 = .ok (.iadd, 1) := by decide +kernel
theorem dX12_isLeaf_95 : decode cX12_isLeaf 95 = .ok (.iaload, 1) := by decide +kernel
theorem dX12_isLeaf_96 : decode cX12_isLeaf 96 = .ok (.aload_n 0, 1) := by decide +kernel
theorem dX12_isLeaf_97 : decode cX12_isLeaf 97 = .ok (.getfield 33, 3) := by decide +kernel
theorem dX12_isLeaf_100 : decode cX12_isLeaf 100 = .ok (.bipush 56, 2) := by decide +kernel
theorem dX12_isLeaf_102 : decode cX12_isLeaf 102 = .ok (.iload 4, 2) := by decide +kernel
theorem dX12_isLeaf_104 : decode cX12_isLeaf 104 = .ok (.iadd, 1) := by decide +kernel
theorem dX12_isLeaf_105 : decode cX12_isLeaf 105 = .ok (.iaload, 1) := by decide +kernel
theorem dX12_isLeaf_106 : decode cX12_isLeaf 106 = .ok (.if_icmp .ne 7, 3) := by decide +kernel
theorem dX12_isLeaf_109 : decode cX12_isLeaf 109 = .ok (.iconst 1, 1) := by decide +kernel
theorem dX12_isLeaf_110 : decode cX12_isLeaf 110 = .ok (.goto 4, 3) := by decide +kernel
theorem dX12_isLeaf_113 : decode cX12_isLeaf 113 = .ok (.iconst 0, 1) := by decide +kernel
theorem dX12_isLeaf_114 : decode cX12_isLeaf 114 = .ok (.ireturn, 1) := by decide +kernel
theorem dX12_isLeaf_115 : decode cX12_isLeaf 115 = .ok (.aload_n 0, 1) := by decide +kernel
theorem dX12_isLeaf_116 : decode cX12_isLeaf 116 = .ok (.iload 4, 2) := by decide +kernel
theorem dX12_isLeaf_118 : decode cX12_isLeaf 118 = .ok (.invokevirtual 261, 3) := by decide +kernel
theorem dX12_isLeaf_121 : decode cX12_isLeaf 121 = .ok (.iload_n 1, 1) := by decide +kernel
theorem dX12_isLeaf_122 : decode cX12_isLeaf 122 = .ok (.if_icmp .ne 7, 3) := by decide +kernel
theorem dX12_isLeaf_125 : decode cX12_isLeaf 125 = .ok (.iconst 1, 1) := by decide +kernel
theorem dX12_isLeaf_126 : decode cX12_isLeaf 126 = .ok (.goto 4, 3) := by decide +kernel
theorem dX12_isLeaf_129 : decode cX12_isLeaf 129 = .ok (.iconst 0, 1) := by decide +kernel
theorem dX12_isLeaf_130 : decode cX12_isLeaf 130 = .ok (.ireturn, 1) := by decide +kernel
theorem dX12_isLeaf_131 : decode cX12_isLeaf 131 = .ok (.iload_n 2, 1) := by decide +kernel
theorem dX12_isLeaf_132 : decode cX12_isLeaf 132 = .ok (.iconst 5, 1) := by decide +kernel
theorem dX12_isLeaf_133 : decode cX12_isLeaf 133 = .ok (.if_icmp .ne 15, 3) := by decide +kernel
theorem dX12_isLeaf_136 : decode cX12_isLeaf 136 = .ok (.aload_n 0, 1) := by decide +kernel
theorem dX12_isLeaf_137 : decode cX12_isLeaf 137 = .ok (.getfield 33, 3) := by decide +kernel
theorem dX12_isLeaf_140 : decode cX12_isLeaf 140 = .ok (.bipush 49, 2) := by decide +kernel
theorem dX12_isLeaf_142 : decode cX12_isLeaf 142 = .ok (.iload_n 1, 1) := by decide +kernel
theorem dX12_isLeaf_143 : decode cX12_isLeaf 143 = .ok (.iadd, 1) := by decide +kernel
theorem dX12_isLeaf_144 : decode cX12_isLeaf 144 = .ok (.iaload, 1) := by decide +kernel
theorem dX12_isLeaf_145 : decode cX12_isLeaf 145 = .ok (.goto 40, 3) := by decide +kernel
theorem dX12_isLeaf_148 : decode cX12_isLeaf 148 = .ok (.iload_n 2, 1) := by decide +kernel
theorem dX12_isLeaf_149 : decode cX12_isLeaf 149 = .ok (.bipush 6, 2) := by decide +kernel
theorem dX12_isLeaf_151 : decode cX12_isLeaf 151 = .ok (.if_icmp .ne 15, 3) := by decide +kernel
theorem dX12_isLeaf_154 : decode cX12_isLeaf 154 = .ok (.aload_n 0, 1) := by decide +kernel
theorem dX12_isLeaf_155 : decode cX12_isLeaf 155 = .ok (.getfield 33, 3) := by decide +kernel
theorem dX12_isLeaf_158 : decode cX12_isLeaf 158 = .ok (.bipush 64, 2) := by decide +kernel
theorem dX12_isLeaf_160 : decode cX12_isLeaf 160 = .ok (.iload_n 1, 1) := by decide +kernel
theorem dX12_isLeaf_161 : decode cX12_isLeaf 161 = .ok (.iadd, 1) := by decide +kernel
theorem dX12_isLeaf_162 : decode cX12_isLeaf 162 = .ok (.iaload, 1) := by decide +kernel
theorem dX12_isLeaf_163 : decode cX12_isLeaf 163 = .ok (.goto 22, 3) := by decide +kernel
theorem dX12_isLeaf_166 : decode cX12_isLeaf 166 = .ok (.iload_n 2, 1) := by decide +kernel
theorem dX12_isLeaf_167 : decode cX12_isLeaf 167 = .ok (.bipush 7, 2) := by decide +kernel
theorem dX12_isLeaf_169 : decode cX12_isLeaf 169 = .ok (.if_icmp .ne 15, 3) := by decide +kernel
theorem dX12_isLeaf_172 : decode cX12_isLeaf 172 = .ok (.aload_n 0, 1) := by decide +kernel
theorem dX12_isLeaf_173 : decode cX12_isLeaf 173 = .ok (.getfield 33, 3) := by decide +kernel
theorem dX12_isLeaf_176 : decode cX12_isLeaf 176 = .ok (.bipush 71, 2) := by decide +kernel
theorem dX12_isLeaf_178 : decode cX12_isLeaf 178 = .ok (.iload_n 1, 1) := by decide +kernel
theorem dX12_isLeaf_179 : decode cX12_isLeaf 179 = .ok (.iadd, 1) := by decide +kernel
theorem dX12_isLeaf_180 : decode cX12_isLeaf 180 = .ok (.iaload, 1) := by decide +kernel
theorem dX12_isLeaf_181 : decode cX12_isLeaf 181 = .ok (.goto 4, 3) := by decide +kernel
theorem dX12_isLeaf_184 : decode cX12_isLeaf 184 = .ok (.iload_n 1, 1) := by decide +kernel
theorem dX12_isLeaf_185 : decode cX12_isLeaf 185 = .ok (.istore 5, 2) := by decide +kernel
theorem dX12_isLeaf_187 : decode cX12_isLeaf 187 = .ok (.iload_n 3, 1) := by decide +kernel
theorem dX12_isLeaf_188 : decode cX12_isLeaf 188 = .ok (.bipush 60, 2) := by decide +kernel
theorem dX12_isLeaf_190 : decode cX12_isLeaf 190 = .ok (.if_icmp .ne 18, 3) := by decide +kernel
theorem dX12_isLeaf_193 : decode cX12_isLeaf 193 = .ok (.iload 5, 2) := by decide +kernel
theorem dX12_isLeaf_195 : decode cX12_isLeaf 195 = .ok (.iload 4, 2) := by decide +kernel
theorem dX12_isLeaf_197 : decode cX12_isLeaf 197 = .ok (.if_icmp .ge 7, 3) := by decide +kernel
theorem dX12_isLeaf_200 : decode cX12_isLeaf 200 = .ok (.iconst 1, 1) := by decide +kernel
theorem dX12_isLeaf_201 : decode cX12_isLeaf 201 = .ok (.goto 40, 3) := by decide +kernel
theorem dX12_isLeaf_204 : decode cX12_isLeaf 204 = .ok (.iconst 0, 1) := by decide +kernel
theorem dX12_isLeaf_205 : decode cX12_isLeaf 205 = .ok (.goto 36, 3) := by decide +kernel
theorem dX12_isLeaf_208 : decode cX12_isLeaf 208 = .ok (.iload_n 3, 1) := by decide +kernel
theorem dX12_isLeaf_209 : decode cX12_isLeaf 209 = .ok (.bipush 61, 2) := by decide +kernel
theorem dX12_isLeaf_211 : decode cX12_isLeaf 211 = .ok (.if_icmp .ne 18, 3) := by decide +kernel
theorem dX12_isLeaf_214 : decode cX12_isLeaf 214 = .ok (.iload 5, 2) := by decide +kernel
theorem dX12_isLeaf_216 : decode cX12_isLeaf 216 = .ok (.iload 4, 2) := by decide +kernel
theorem dX12_isLeaf_218 : decode cX12_isLeaf 218 = .ok (.if_icmp .ne 7, 3) := by decide +kernel
theorem dX12_isLeaf_221 : decode cX12_isLeaf 221 = .ok (.iconst 1, 1) := by decide +kernel
theorem dX12_isLeaf_222 : decode cX12_isLeaf 222 = .ok (.goto 19, 3) := by decide +kernel
theorem dX12_isLeaf_225 : decode cX12_isLeaf 225 = .ok (.iconst 0, 1) := by decide +kernel
theorem dX12_isLeaf_226 : decode cX12_isLeaf 226 = .ok (.goto 15, 3) := by decide +kernel
theorem dX12_isLeaf_229 : decode cX12_isLeaf 229 = .ok (.iload 5, 2) := by decide +kernel
theorem dX12_isLeaf_231 : decode cX12_isLeaf 231 = .ok (.iload 4, 2) := by decide +kernel
theorem dX12_isLeaf_233 : decode cX12_isLeaf 233 = .ok (.if_icmp .le 7, 3) := by decide +kernel
theorem dX12_isLeaf_236 : decode cX12_isLeaf 236 = .ok (.iconst 1, 1) := by decide +kernel
theorem dX12_isLeaf_237 : decode cX12_isLeaf 237 = .ok (.goto 4, 3) := by decide +kernel
theorem dX12_isLeaf_240 : decode cX12_isLeaf 240 = .ok (.iconst 0, 1) := by decide +kernel
theorem dX12_isLeaf_241 : decode cX12_isLeaf 241 = .ok (.ireturn, 1) := by decide +kernel
set_option maxRecDepth 20000 in
theorem ggX12_isSaid_X12_isLeaf : GoodIn wsX12_isSaid wsX12_isLeaf := goodIn_r _ [7, 1, 8, 9, 10, 6, 11, 12, 13, 14, 15, 16, 17, 18, 19, 20, 21, 22, 23, 24, 25, 26, 27, 28, 29, 30, 31, 32, 33, 34, 35, 36, 37, 38, 39, 40, 41, 42, 43, 44, 45, 46, 47, 48, 49, 50, 51, 52, 53, 54, 55, 56, 57, 58, 59, 60, 61, 62, 63, 64, 65, 66, 67, 68, 69, 70] (by decide +kernel) (by decide +kernel)
set_option maxRecDepth 20000 in
theorem gX12_isSaid_X12_isLeaf : GoodIn wsX12_isSaid (wsV RX12 434 RX12 yX12_isLeaf wsX12_isLeaf) := goodIn_app (goodIn_of _ (by decide +kernel)) ggX12_isSaid_X12_isLeaf
theorem dX12_isSaid_0 : decode cX12_isSaid 0 = .ok (.iconst 0, 1) := by decide +kernel
theorem dX12_isSaid_1 : decode cX12_isSaid 1 = .ok (.istore_n 2, 1) := by decide +kernel
theorem dX12_isSaid_2 : decode cX12_isSaid 2 = .ok (.iconst 0, 1) := by decide +kernel
theorem dX12_isSaid_3 : decode cX12_isSaid 3 = .ok (.istore_n 3, 1) := by decide +kernel
theorem dX12_isSaid_4 : decode cX12_isSaid 4 = .ok (.iload_n 3, 1) := by decide +kernel
theorem dX12_isSaid_5 : decode cX12_isSaid 5 = .ok (.aload_n 0, 1) := by decide +kernel
theorem dX12_isSaid_6 : decode cX12_isSaid 6 = .ok (.getfield 33, 3) := by decide +kernel
theorem dX12_isSaid_9 : decode cX12_isSaid 9 = .ok (.bipush 92, 2) := by decide +kernel
theorem dX12_isSaid_11 : decode cX12_isSaid 11 = .ok (.iaload, 1) := by decide +kernel
theorem dX12_isSaid_12 : decode cX12_isSaid 12 = .ok (.if_icmp .ge 198, 3) := by decide +kernel
theorem dX12_isSaid_15 : decode cX12_isSaid 15 = .ok (.bipush 93, 2) := by decide +kernel
theorem dX12_isSaid_17 : decode cX12_isSaid 17 = .ok (.iconst 3, 1) := by decide +kernel
theorem dX12_isSaid_18 : decode cX12_isSaid 18 = .ok (.iload_n 3, 1) := by decide +kernel
theorem dX12_isSaid_19 : decode cX12_isSaid 19 = .ok (.imul, 1) := by decide +kernel
theorem dX12_isSaid_20 : decode cX12_isSaid 20 = .ok (.iadd, 1) := by decide +kernel
theorem dX12_isSaid_21 : decode cX12_isSaid 21 = .ok (.istore 4, 2) := by decide +kernel
theorem dX12_isSaid_23 : decode cX12_isSaid 23 = .ok (.aload_n 0, 1) := by decide +kernel
theorem dX12_isSaid_24 : decode cX12_isSaid 24 = .ok (.getfield 33, 3) := by decide +kernel
theorem dX12_isSaid_27 : decode cX12_isSaid 27 = .ok (.iload 4, 2) := by decide +kernel
theorem dX12_isSaid_29 : decode cX12_isSaid 29 = .ok (.iaload, 1) := by decide +kernel
theorem dX12_isSaid_30 : decode cX12_isSaid 30 = .ok (.bipush 20, 2) := by decide +kernel
theorem dX12_isSaid_32 : decode cX12_isSaid 32 = .ok (.if_icmp .ne 30, 3) := by decide +kernel
theorem dX12_isSaid_35 : decode cX12_isSaid 35 = .ok (.aload_n 0, 1) := by decide +kernel
theorem dX12_isSaid_36 : decode cX12_isSaid 36 = .ok (.getfield 80, 3) := by decide +kernel
theorem dX12_isSaid_39 : decode cX12_isSaid 39 = .ok (.iload_n 2, 1) := by decide +kernel
theorem dX12_isSaid_40 : decode cX12_isSaid 40 = .ok (.iconst 1, 1) := by decide +kernel
theorem dX12_isSaid_41 : decode cX12_isSaid 41 = .ok (.isub, 1) := by decide +kernel
theorem dX12_isSaid_42 : decode cX12_isSaid 42 = .ok (.aload_n 0, 1) := by decide +kernel
theorem dX12_isSaid_43 : decode cX12_isSaid 43 = .ok (.getfield 80, 3) := by decide +kernel
theorem dX12_isSaid_46 : decode cX12_isSaid 46 = .ok (.iload_n 2, 1) := by decide +kernel
theorem dX12_isSaid_47 : decode cX12_isSaid 47 = .ok (.iconst 1, 1) := by decide +kernel
theorem dX12_isSaid_48 : decode cX12_isSaid 48 = .ok (.isub, 1) := by decide +kernel
theorem dX12_isSaid_49 : decode cX12_isSaid 49 = .ok (.baload, 1) := by decide +kernel
theorem dX12_isSaid_50 : decode cX12_isSaid 50 = .ok (.ifCond .ne 7, 3) := by decide +kernel
theorem dX12_isSaid_53 : decode cX12_isSaid 53 = .ok (.iconst 1, 1) := by decide +kernel
theorem dX12_isSaid_54 : decode cX12_isSaid 54 = .ok (.goto 4, 3) := by decide +kernel
theorem dX12_isSaid_57 : decode cX12_isSaid 57 = .ok (.iconst 0, 1) := by decide +kernel
theorem dX12_isSaid_58 : decode cX12_isSaid 58 = .ok (.bastore, 1) := by decide +kernel
theorem dX12_isSaid_59 : decode cX12_isSaid 59 = .ok (.goto 145, 3) := by decide +kernel
theorem dX12_isSaid_62 : decode cX12_isSaid 62 = .ok (.aload_n 0, 1) := by decide +kernel
theorem dX12_isSaid_63 : decode cX12_isSaid 63 = .ok (.getfield 33, 3) := by decide +kernel
theorem dX12_isSaid_66 : decode cX12_isSaid 66 = .ok (.iload 4, 2) := by decide +kernel
theorem dX12_isSaid_68 : decode cX12_isSaid 68 = .ok (.iaload, 1) := by decide +kernel
theorem dX12_isSaid_69 : decode cX12_isSaid 69 = .ok (.bipush 21, 2) := by decide +kernel
theorem dX12_isSaid_71 : decode cX12_isSaid 71 = .ok (.if_icmp .eq 15, 3) := by decide +kernel
theorem dX12_isSaid_74 : decode cX12_isSaid 74 = .ok (.aload_n 0, 1) := by decide +kernel
theorem dX12_isSaid_75 : decode cX12_isSaid 75 = .ok (.getfield 33, 3) := by decide +kernel
theorem dX12_isSaid_78 : decode cX12_isSaid 78 = .ok (.iload 4, 2) := by decide +kernel
theorem dX12_isSaid_80 : decode cX12_isSaid 80 = .ok (.iaload, 1) := by decide +kernel
theorem dX12_isSaid_81 : decode cX12_isSaid 81 = .ok (.bipush 22, 2) := by decide +kernel
theorem dX12_isSaid_83 : decode cX12_isSaid 83 = .ok (.if_icmp .ne 82, 3) := by decide +kernel
theorem dX12_isSaid_86 : decode cX12_isSaid 86 = .ok (.iinc 2 (-1), 3) := by decide +kernel
theorem dX12_isSaid_89 : decode cX12_isSaid 89 = .ok (.aload_n 0, 1) := by decide +kernel
theorem dX12_isSaid_90 : decode cX12_isSaid 90 = .ok (.getfield 80, 3) := by decide +kernel
theorem dX12_isSaid_93 : decode cX12_isSaid 93 = .ok (.iload_n 2, 1) := by decide +kernel
theorem dX12_isSaid_94 : decode cX12_isSaid 94 = .ok (.iconst 1, 1) := by decide +kernel
theorem dX12_isSaid_95 : decode cX12_isSaid 95 = .ok (.isub, 1) := by decide +kernel
theorem dX12_isSaid_96 : decode cX12_isSaid 96 = .ok (.aload_n 0, 1) := by decide +kernel
theorem dX12_isSaid_97 : decode cX12_isSaid 97 = .ok (.getfield 33, 3) := by decide +kernel
theorem dX12_isSaid_100 : decode cX12_isSaid 100 = .ok (.iload 4, 2) := by decide +kernel
theorem dX12_isSaid_102 : decode cX12_isSaid 102 = .ok (.iaload, 1) := by decide +kernel
theorem dX12_isSaid_103 : decode cX12_isSaid 103 = .ok (.bipush 21, 2) := by decide +kernel
theorem dX12_isSaid_105 : decode cX12_isSaid 105 = .ok (.if_icmp .ne 31, 3) := by decide +kernel
theorem dX12_isSaid_108 : decode cX12_isSaid 108 = .ok (.aload_n 0, 1) := by decide +kernel
theorem dX12_isSaid_109 : decode cX12_isSaid 109 = .ok (.getfield 80, 3) := by decide +kernel
theorem dX12_isSaid_112 : decode cX12_isSaid 112 = .ok (.iload_n 2, 1) := by decide +kernel
theorem dX12_isSaid_113 : decode cX12_isSaid 113 = .ok (.iconst 1, 1) := by decide +kernel
theorem dX12_isSaid_114 : decode cX12_isSaid 114 = .ok (.isub, 1) := by decide +kernel
theorem dX12_isSaid_115 : decode cX12_isSaid 115 = .ok (.baload, 1) := by decide +kernel
theorem dX12_isSaid_116 : decode cX12_isSaid 116 = .ok (.ifCond .eq 16, 3) := by decide +kernel
theorem dX12_isSaid_119 : decode cX12_isSaid 119 = .ok (.aload_n 0, 1) := by decide +kernel
theorem dX12_isSaid_120 : decode cX12_isSaid 120 = .ok (.getfield 80, 3) := by decide +kernel
theorem dX12_isSaid_123 : decode cX12_isSaid 123 = .ok (.iload_n 2, 1) := by decide +kernel
theorem dX12_isSaid_124 : decode cX12_isSaid 124 = .ok (.baload, 1) := by decide +kernel
theorem dX12_isSaid_125 : decode cX12_isSaid 125 = .ok (.ifCond .eq 7, 3) := by decide +kernel
theorem dX12_isSaid_128 : decode cX12_isSaid 128 = .ok (.iconst 1, 1) := by decide +kernel
theorem dX12_isSaid_129 : decode cX12_isSaid 129 = .ok (.goto 32, 3) := by decide +kernel
theorem dX12_isSaid_132 : decode cX12_isSaid 132 = .ok (.iconst 0, 1) := by decide +kernel
theorem dX12_isSaid_133 : decode cX12_isSaid 133 = .ok (.goto 28, 3) := by decide +kernel
theorem dX12_isSaid_136 : decode cX12_isSaid 136 = .ok (.aload_n 0, 1) := by decide +kernel
theorem dX12_isSaid_137 : decode cX12_isSaid 137 = .ok (.getfield 80, 3) := by decide +kernel
theorem dX12_isSaid_140 : decode cX12_isSaid 140 = .ok (.iload_n 2, 1) := by decide +kernel
theorem dX12_isSaid_141 : decode cX12_isSaid 141 = .ok (.iconst 1, 1) := by decide +kernel
theorem dX12_isSaid_142 : decode cX12_isSaid 142 = .ok (.isub, 1) := by decide +kernel
theorem dX12_isSaid_143 : decode cX12_isSaid 143 = .ok (.baload, 1) := by decide +kernel
theorem dX12_isSaid_144 : decode cX12_isSaid 144 = .ok (.ifCond .ne 12, 3) := by decide +kernel
theorem dX12_isSaid_147 : decode cX12_isSaid 147 = .ok (.aload_n 0, 1) := by decide +kernel
theorem dX12_isSaid_148 : decode cX12_isSaid 148 = .ok (.getfield 80, 3) := by decide +kernel
theorem dX12_isSaid_151 : decode cX12_isSaid 151 = .ok (.iload_n 2, 1) := by decide +kernel
theorem dX12_isSaid_152 : decode cX12_isSaid 152 = .ok (.baload, 1) := by decide +kernel
theorem dX12_isSaid_153 : decode cX12_isSaid 153 = .ok (.ifCond .eq 7, 3) := by decide +kernel
theorem dX12_isSaid_156 : decode cX12_isSaid 156 = .ok (.iconst 1, 1) := by decide +kernel
theorem dX12_isSaid_157 : decode cX12_isSaid 157 = .ok (.goto 4, 3) := by decide +kernel
theorem dX12_isSaid_160 : decode cX12_isSaid 160 = .ok (.iconst 0, 1) := by decide +kernel
theorem dX12_isSaid_161 : decode cX12_isSaid 161 = .ok (.bastore, 1) := by decide +kernel
theorem dX12_isSaid_162 : decode cX12_isSaid 162 = .ok (.goto 42, 3) := by decide +kernel
theorem dX12_isSaid_165 : decode cX12_isSaid 165 = .ok (.aload_n 0, 1) := by decide +kernel
theorem dX12_isSaid_166 : decode cX12_isSaid 166 = .ok (.getfield 80, 3) := by decide +kernel
theorem dX12_isSaid_169 : decode cX12_isSaid 169 = .ok (.iload_n 2, 1) := by decide +kernel
theorem dX12_isSaid_170 : decode cX12_isSaid 170 = .ok (.aload_n 0, 1) := by decide +kernel
theorem dX12_isSaid_171 : decode cX12_isSaid 171 = .ok (.iload_n 1, 1) := by decide +kernel
theorem dX12_isSaid_172 : decode cX12_isSaid 172 = .ok (.aload_n 0, 1) := by decide +kernel
theorem dX12_isSaid_173 : decode cX12_isSaid 173 = .ok (.getfield 33, 3) := by decide +kernel
theorem dX12_isSaid_176 : decode cX12_isSaid 176 = .ok (.iload 4, 2) := by decide +kernel
theorem dX12_isSaid_178 : decode cX12_isSaid 178 = .ok (.iaload, 1) := by decide +kernel
theorem dX12_isSaid_179 : decode cX12_isSaid 179 = .ok (.aload_n 0, 1) := by decide +kernel
theorem dX12_isSaid_180 : decode cX12_isSaid 180 = .ok (.getfield 33, 3) := by decide +kernel
theorem dX12_isSaid_183 : decode cX12_isSaid 183 = .ok (.iload 4, 2) := by decide +kernel
theorem dX12_isSaid_185 : decode cX12_isSaid 185 = .ok (.iconst 1, 1) := by decide +kernel
theorem dX12_isSaid_186 : decode cX12_isSaid 186 = .ok (.iadd, 1) := by decide +kernel
theorem dX12_isSaid_187 : decode cX12_isSaid 187 = .ok (.iaload, 1) := by decide +kernel
theorem dX12_isSaid_188 : decode cX12_isSaid 188 = .ok (.aload_n 0, 1) := by decide +kernel
theorem dX12_isSaid_189 : decode cX12_isSaid 189 = .ok (.getfield 33, 3) := by decide +kernel
theorem dX12_isSaid_192 : decode cX12_isSaid 192 = .ok (.iload 4, 2) := by decide +kernel
theorem dX12_isSaid_194 : decode cX12_isSaid 194 = .ok (.iconst 2, 1) := by decide +kernel
theorem dX12_isSaid_195 : decode cX12_isSaid 195 = .ok (.iadd, 1) := by decide +kernel
theorem dX12_isSaid_196 : decode cX12_isSaid 196 = .ok (.iaload, 1) := by decide +kernel
theorem dX12_isSaid_197 : decode cX12_isSaid 197 = .ok (.invokevirtual 434, 3) := by decide +kernel
theorem dX12_isSaid_200 : decode cX12_isSaid 200 = .ok (.bastore, 1) := by decide +kernel
theorem dX12_isSaid_201 : decode cX12_isSaid 201 = .ok (.iinc 2 1, 3) := by decide +kernel
theorem dX12_isSaid_204 : decode cX12_isSaid 204 = .ok (.iinc 3 1, 3) := by decide +kernel
theorem dX12_isSaid_207 : decode cX12_isSaid 207 = .ok (.goto (-203), 3) := by decide +kernel
theorem dX12_isSaid_210 : decode cX12_isSaid 210 = .ok (.aload_n 0, 1) := by decide +kernel
theorem dX12_isSaid_211 : decode cX12_isSaid 211 = .ok (.getfield 80, 3) := by decide +kernel
theorem dX12_isSaid_214 : decode cX12_isSaid 214 = .ok (.iconst 0, 1) := by decide +kernel
theorem dX12_isSaid_215 : decode cX12_isSaid 215 = .ok (.baload, 1) := by decide +kernel
theorem dX12_isSaid_216 : decode cX12_isSaid 216 = .ok (.ireturn, 1) := by decide +kernel
set_option maxRecDepth 20000 in
theorem ggX12_said_X12_isSaid : GoodIn wsX12_said wsX12_isSaid := goodIn_r _ [7, 2, 8, 9, 10, 11, 6, 12, 13, 14, 15, 16, 17, 18, 19, 20, 21, 22, 23, 24, 25, 26, 27, 28, 29, 30, 31, 32, 33, 34, 35, 36, 37, 38, 39, 40, 41, 42, 43, 44, 45, 46, 47, 48, 49, 50, 51, 52, 53, 54, 55, 56, 57, 58, 59, 60, 61, 62, 63, 64, 65, 66, 67, 68, 69, 70, 71, 72, 73, 74, 75] (by decide +kernel) (by decide +kernel)
set_option maxRecDepth 20000 in
theorem gX12_said_X12_isSaid : GoodIn wsX12_said (wsV RX12 438 RX12 yX12_isSaid wsX12_isSaid) := goodIn_app (goodIn_of _ (by decide +kernel)) ggX12_said_X12_isSaid
theorem dX12_said_0 : decode cX12_said 0 = .ok (.aload_n 0, 1) := by decide +kernel
theorem dX12_said_1 : decode cX12_said 1 = .ok (.iconst 0, 1) := by decide +kernel
theorem dX12_said_2 : decode cX12_said 2 = .ok (.putfield 1, 3) := by decide +kernel
theorem dX12_said_5 : decode cX12_said 5 = .ok (.aload_n 0, 1) := by decide +kernel
theorem dX12_said_6 : decode cX12_said 6 = .ok (.getfield 33, 3) := by decide +kernel
theorem dX12_said_9 : decode cX12_said 9 = .ok (.bipush 92, 2) := by decide +kernel
theorem dX12_said_11 : decode cX12_said 11 = .ok (.iaload, 1) := by decide +kernel
theorem dX12_said_12 : decode cX12_said 12 = .ok (.ifCond .eq 8, 3) := by decide +kernel
theorem dX12_said_15 : decode cX12_said 15 = .ok (.iload_n 1, 1) := by decide +kernel
theorem dX12_said_16 : decode cX12_said 16 = .ok (.iconst (-1), 1) := by decide +kernel
theorem dX12_said_17 : decode cX12_said 17 = .ok (.if_icmp .ge 5, 3) := by decide +kernel
theorem dX12_said_20 : decode cX12_said 20 = .ok (.iconst (-1), 1) := by decide +kernel
theorem dX12_said_21 : decode cX12_said 21 = .ok (.ireturn, 1) := by decide +kernel
theorem dX12_said_22 : decode cX12_said 22 = .ok (.iconst 0, 1) := by decide +kernel
theorem dX12_said_23 : decode cX12_said 23 = .ok (.istore_n 2, 1) := by decide +kernel
theorem dX12_said_24 : decode cX12_said 24 = .ok (.iconst 0, 1) := by decide +kernel
theorem dX12_said_25 : decode cX12_said 25 = .ok (.istore_n 3, 1) := by decide +kernel
theorem dX12_said_26 : decode cX12_said 26 = .ok (.iload_n 3, 1) := by decide +kernel
theorem dX12_said_27 : decode cX12_said 27 = .ok (.aload_n 0, 1) := by decide +kernel
theorem dX12_said_28 : decode cX12_said 28 = .ok (.getfield 33, 3) := by decide +kernel
theorem dX12_said_31 : decode cX12_said 31 = .ok (.iconst 1, 1) := by decide +kernel
theorem dX12_said_32 : decode cX12_said 32 = .ok (.iaload, 1) := by decide +kernel
theorem dX12_said_33 : decode cX12_said 33 = .ok (.if_icmp .ge 30, 3) := by decide +kernel
theorem dX12_said_36 : decode cX12_said 36 = .ok (.aload_n 0, 1) := by decide +kernel
theorem dX12_said_37 : decode cX12_said 37 = .ok (.iload_n 3, 1) := by decide +kernel
theorem dX12_said_38 : decode cX12_said 38 = .ok (.invokevirtual 438, 3) := by decide +kernel
theorem dX12_said_41 : decode cX12_said 41 = .ok (.ifCond .ne 6, 3) := by decide +kernel
theorem dX12_said_44 : decode cX12_said 44 = .ok (.goto 13, 3) := by decide +kernel
theorem dX12_said_47 : decode cX12_said 47 = .ok (.iload_n 2, 1) := by decide +kernel
theorem dX12_said_48 : decode cX12_said 48 = .ok (.iload_n 1, 1) := by decide +kernel
theorem dX12_said_49 : decode cX12_said 49 = .ok (.if_icmp .ne 5, 3) := by decide +kernel
theorem dX12_said_52 : decode cX12_said 52 = .ok (.iload_n 3, 1) := by decide +kernel
theorem dX12_said_53 : decode cX12_said 53 = .ok (.ireturn, 1) := by decide +kernel
theorem dX12_said_54 : decode cX12_said 54 = .ok (.iinc 2 1, 3) := by decide +kernel
theorem dX12_said_57 : decode cX12_said 57 = .ok (.iinc 3 1, 3) := by decide +kernel
theorem dX12_said_60 : decode cX12_said 60 = .ok (.goto (-34), 3) := by decide +kernel
theorem dX12_said_63 : decode cX12_said 63 = .ok (.iload_n 1, 1) := by decide +kernel
theorem dX12_said_64 : decode cX12_said 64 = .ok (.iconst (-1), 1) := by decide +kernel
theorem dX12_said_65 : decode cX12_said 65 = .ok (.if_icmp .ne 7, 3) := by decide +kernel
theorem dX12_said_68 : decode cX12_said 68 = .ok (.iload_n 2, 1) := by decide +kernel
theorem dX12_said_69 : decode cX12_said 69 = .ok (.goto 4, 3) := by decide +kernel
theorem dX12_said_72 : decode cX12_said 72 = .ok (.iconst (-1), 1) := by decide +kernel
theorem dX12_said_73 : decode cX12_said 73 = .ok (.ireturn, 1) := by decide +kernel
set_option maxRecDepth 20000 in
theorem ggX12_image_X12_isIn : GoodIn wsX12_image wsX12_isIn := goodIn_r _ [10] (by decide +kernel) (by decide +kernel)
set_option maxRecDepth 20000 in
theorem gX12_image_X12_isIn : GoodIn wsX12_image (va_wsS RX12 182 yX12_isIn wsX12_isIn) := goodIn_app (goodIn_of _ (by decide +kernel)) ggX12_image_X12_isIn
theorem dX12_image_0 : decode cX12_image 0 = .ok (.aload_n 0, 1) := by decide +kernel
theorem dX12_image_1 : decode cX12_image 1 = .ok (.iconst 0, 1) := by decide +kernel
theorem dX12_image_2 : decode cX12_image 2 = .ok (.putfield 1, 3) := by decide +kernel
theorem dX12_image_5 : decode cX12_image 5 = .ok (.iload_n 1, 1) := by decide +kernel
theorem dX12_image_6 : decode cX12_image 6 = .ok (.iconst 0, 1) := by decide +kernel
theorem dX12_image_7 : decode cX12_image 7 = .ok (.iconst 1, 1) := by decide +kernel
theorem dX12_image_8 : decode cX12_image 8 = .ok (.invokestatic 182, 3) := by decide +kernel
theorem dX12_image_11 : decode cX12_image 11 = .ok (.ifCond .ne 5, 3) := by decide +kernel
theorem dX12_image_14 : decode cX12_image 14 = .ok (.iconst 0, 1) := by decide +kernel
theorem dX12_image_15 : decode cX12_image 15 = .ok (.ireturn, 1) := by decide +kernel
theorem dX12_image_16 : decode cX12_image 16 = .ok (.iconst 0, 1) := by decide +kernel
theorem dX12_image_17 : decode cX12_image 17 = .ok (.istore_n 2, 1) := by decide +kernel
theorem dX12_image_18 : decode cX12_image 18 = .ok (.iload_n 2, 1) := by decide +kernel
theorem dX12_image_19 : decode cX12_image 19 = .ok (.sipush 273, 3) := by decide +kernel
theorem dX12_image_22 : decode cX12_image 22 = .ok (.if_icmp .ge 27, 3) := by decide +kernel
theorem dX12_image_25 : decode cX12_image 25 = .ok (.aload_n 0, 1) := by decide +kernel
theorem dX12_image_26 : decode cX12_image 26 = .ok (.getfield 84, 3) := by decide +kernel
theorem dX12_image_29 : decode cX12_image 29 = .ok (.sipush 273, 3) := by decide +kernel
theorem dX12_image_32 : decode cX12_image 32 = .ok (.iload_n 1, 1) := by decide +kernel
theorem dX12_image_33 : decode cX12_image 33 = .ok (.imul, 1) := by decide +kernel
theorem dX12_image_34 : decode cX12_image 34 = .ok (.iload_n 2, 1) := by decide +kernel
theorem dX12_image_35 : decode cX12_image 35 = .ok (.iadd, 1) := by decide +kernel
theorem dX12_image_36 : decode cX12_image 36 = .ok (.aload_n 0, 1) := by decide +kernel
theorem dX12_image_37 : decode cX12_image 37 = .ok (.getfield 33, 3) := by decide +kernel
theorem dX12_image_40 : decode cX12_image 40 = .ok (.iload_n 2, 1) := by decide +kernel
theorem dX12_image_41 : decode cX12_image 41 = .ok (.iaload, 1) := by decide +kernel
theorem dX12_image_42 : decode cX12_image 42 = .ok (.iastore, 1) := by decide +kernel
theorem dX12_image_43 : decode cX12_image 43 = .ok (.iinc 2 1, 3) := by decide +kernel
theorem dX12_image_46 : decode cX12_image 46 = .ok (.goto (-28), 3) := by decide +kernel
theorem dX12_image_49 : decode cX12_image 49 = .ok (.iconst 0, 1) := by decide +kernel
theorem dX12_image_50 : decode cX12_image 50 = .ok (.istore_n 2, 1) := by decide +kernel
theorem dX12_image_51 : decode cX12_image 51 = .ok (.iload_n 2, 1) := by decide +kernel
theorem dX12_image_52 : decode cX12_image 52 = .ok (.bipush 13, 2) := by decide +kernel
theorem dX12_image_54 : decode cX12_image 54 = .ok (.if_icmp .ge 26, 3) := by decide +kernel
theorem dX12_image_57 : decode cX12_image 57 = .ok (.aload_n 0, 1) := by decide +kernel
theorem dX12_image_58 : decode cX12_image 58 = .ok (.getfield 87, 3) := by decide +kernel
theorem dX12_image_61 : decode cX12_image 61 = .ok (.bipush 13, 2) := by decide +kernel
theorem dX12_image_63 : decode cX12_image 63 = .ok (.iload_n 1, 1) := by decide +kernel
theorem dX12_image_64 : decode cX12_image 64 = .ok (.imul, 1) := by decide +kernel
theorem dX12_image_65 : decode cX12_image 65 = .ok (.iload_n 2, 1) := by decide +kernel
theorem dX12_image_66 : decode cX12_image 66 = .ok (.iadd, 1) := by decide +kernel
theorem dX12_image_67 : decode cX12_image 67 = .ok (.aload_n 0, 1) := by decide +kernel
theorem dX12_image_68 : decode cX12_image 68 = .ok (.getfield 43, 3) := by decide +kernel
theorem dX12_image_71 : decode cX12_image 71 = .ok (.iload_n 2, 1) := by decide +kernel
theorem dX12_image_72 : decode cX12_image 72 = .ok (.laload, 1) := by decide +kernel
theorem dX12_image_73 : decode cX12_image 73 = .ok (.lastore, 1) := by decide +kernel
theorem dX12_image_74 : decode cX12_image 74 = .ok (.iinc 2 1, 3) := by decide +kernel
theorem dX12_image_77 : decode cX12_image 77 = .ok (.goto (-26), 3) := by decide +kernel
theorem dX12_image_80 : decode cX12_image 80 = .ok (.aload_n 0, 1) := by decide +kernel
theorem dX12_image_81 : decode cX12_image 81 = .ok (.getfield 90, 3) := by decide +kernel
theorem dX12_image_84 : decode cX12_image 84 = .ok (.iload_n 1, 1) := by decide +kernel
theorem dX12_image_85 : decode cX12_image 85 = .ok (.iconst 1, 1) := by decide +kernel
theorem dX12_image_86 : decode cX12_image 86 = .ok (.bastore, 1) := by decide +kernel
theorem dX12_image_87 : decode cX12_image 87 = .ok (.iconst 1, 1) := by decide +kernel
theorem dX12_image_88 : decode cX12_image 88 = .ok (.ireturn, 1) := by decide +kernel
set_option maxRecDepth 20000 in
theorem ggX12_restore_X12_isIn : GoodIn wsX12_restore wsX12_isIn := goodIn_r _ [11] (by decide +kernel) (by decide +kernel)
set_option maxRecDepth 20000 in
theorem gX12_restore_X12_isIn : GoodIn wsX12_restore (va_wsS RX12 182 yX12_isIn wsX12_isIn) := goodIn_app (goodIn_of _ (by decide +kernel)) ggX12_restore_X12_isIn
theorem dX12_restore_0 : decode cX12_restore 0 = .ok (.aload_n 0, 1) := by decide +kernel
theorem dX12_restore_1 : decode cX12_restore 1 = .ok (.iconst 0, 1) := by decide +kernel
theorem dX12_restore_2 : decode cX12_restore 2 = .ok (.putfield 1, 3) := by decide +kernel
theorem dX12_restore_5 : decode cX12_restore 5 = .ok (.iload_n 1, 1) := by decide +kernel
theorem dX12_restore_6 : decode cX12_restore 6 = .ok (.iconst 0, 1) := by decide +kernel
theorem dX12_restore_7 : decode cX12_restore 7 = .ok (.iconst 1, 1) := by decide +kernel
theorem dX12_restore_8 : decode cX12_restore 8 = .ok (.invokestatic 182, 3) := by decide +kernel
theorem dX12_restore_11 : decode cX12_restore 11 = .ok (.ifCond .eq 12, 3) := by decide +kernel
theorem dX12_restore_14 : decode cX12_restore 14 = .ok (.aload_n 0, 1) := by decide +kernel
theorem dX12_restore_15 : decode cX12_restore 15 = .ok (.getfield 90, 3) := by decide +kernel
theorem dX12_restore_18 : decode cX12_restore 18 = .ok (.iload_n 1, 1) := by decide +kernel
theorem dX12_restore_19 : decode cX12_restore 19 = .ok (.baload, 1) := by decide +kernel
theorem dX12_restore_20 : decode cX12_restore 20 = .ok (.ifCond .ne 5, 3) := by decide +kernel
theorem dX12_restore_23 : decode cX12_restore 23 = .ok (.iconst 0, 1) := by decide +kernel
theorem dX12_restore_24 : decode cX12_restore 24 = .ok (.ireturn, 1) := by decide +kernel
theorem dX12_restore_25 : decode cX12_restore 25 = .ok (.iconst 0, 1) := by decide +kernel
theorem dX12_restore_26 : decode cX12_restore 26 = .ok (.istore_n 2, 1) := by decide +kernel
theorem dX12_restore_27 : decode cX12_restore 27 = .ok (.iload_n 2, 1) := by decide +kernel
theorem dX12_restore_28 : decode cX12_restore 28 = .ok (.sipush 273, 3) := by decide +kernel
theorem dX12_restore_31 : decode cX12_restore 31 = .ok (.if_icmp .ge 27, 3) := by decide +kernel
theorem dX12_restore_34 : decode cX12_restore 34 = .ok (.aload_n 0, 1) := by decide +kernel
theorem dX12_restore_35 : decode cX12_restore 35 = .ok (.getfield 33, 3) := by decide +kernel
theorem dX12_restore_38 : decode cX12_restore 38 = .ok (.iload_n 2, 1) := by decide +kernel
theorem dX12_restore_39 : decode cX12_restore 39 = .ok (.aload_n 0, 1) := by decide +kernel
theorem dX12_restore_40 : decode cX12_restore 40 = .ok (.getfield 84, 3) := by decide +kernel
theorem dX12_restore_43 : decode cX12_restore 43 = .ok (.sipush 273, 3) := by decide +kernel
theorem dX12_restore_46 : decode cX12_restore 46 = .ok (.iload_n 1, 1) := by decide +kernel
theorem dX12_restore_47 : decode cX12_restore 47 = .ok (.imul, 1) := by decide +kernel
theorem dX12_restore_48 : decode cX12_restore 48 = .ok (.iload_n 2, 1) := by decide +kernel
theorem dX12_restore_49 : decode cX12_restore 49 = .ok (.iadd, 1) := by decide +kernel
theorem dX12_restore_50 : decode cX12_restore 50 = .ok (.iaload, 1) := by decide +kernel
theorem dX12_restore_51 : decode cX12_restore 51 = .ok (.iastore, 1) := by decide +kernel
theorem dX12_restore_52 : decode cX12_restore 52 = .ok (.iinc 2 1, 3) := by decide +kernel
theorem dX12_restore_55 : decode cX12_restore 55 = .ok (.goto (-28), 3) := by decide +kernel
theorem dX12_restore_58 : decode cX12_restore 58 = .ok (.iconst 0, 1) := by decide +kernel
theorem dX12_restore_59 : decode cX12_restore 59 = .ok (.istore_n 2, 1) := by decide +kernel
theorem dX12_restore_60 : decode cX12_restore 60 = .ok (.iload_n 2, 1) := by decide +kernel
theorem dX12_restore_61 : decode cX12_restore 61 = .ok (.bipush 13, 2) := by decide +kernel
theorem dX12_restore_63 : decode cX12_restore 63 = .ok (.if_icmp .ge 26, 3) := by decide +kernel
theorem dX12_restore_66 : decode cX12_restore 66 = .ok (.aload_n 0, 1) := by decide +kernel
theorem dX12_restore_67 : decode cX12_restore 67 = .ok (.getfield 43, 3) := by decide +kernel
theorem dX12_restore_70 : decode cX12_restore 70 = .ok (.iload_n 2, 1) := by decide +kernel
theorem dX12_restore_71 : decode cX12_restore 71 = .ok (.aload_n 0, 1) := by decide +kernel
theorem dX12_restore_72 : decode cX12_restore 72 = .ok (.getfield 87, 3) := by decide +kernel
theorem dX12_restore_75 : decode cX12_restore 75 = .ok (.bipush 13, 2) := by decide +kernel
theorem dX12_restore_77 : decode cX12_restore 77 = .ok (.iload_n 1, 1) := by decide +kernel
theorem dX12_restore_78 : decode cX12_restore 78 = .ok (.imul, 1) := by decide +kernel
theorem dX12_restore_79 : decode cX12_restore 79 = .ok (.iload_n 2, 1) := by decide +kernel
theorem dX12_restore_80 : decode cX12_restore 80 = .ok (.iadd, 1) := by decide +kernel
theorem dX12_restore_81 : decode cX12_restore 81 = .ok (.laload, 1) := by decide +kernel
theorem dX12_restore_82 : decode cX12_restore 82 = .ok (.lastore, 1) := by decide +kernel
theorem dX12_restore_83 : decode cX12_restore 83 = .ok (.iinc 2 1, 3) := by decide +kernel
theorem dX12_restore_86 : decode cX12_restore 86 = .ok (.goto (-26), 3) := by decide +kernel
theorem dX12_restore_89 : decode cX12_restore 89 = .ok (.aload_n 0, 1) := by decide +kernel
theorem dX12_restore_90 : decode cX12_restore 90 = .ok (.iconst 0, 1) := by decide +kernel
theorem dX12_restore_91 : decode cX12_restore 91 = .ok (.putfield 245, 3) := by decide +kernel
theorem dX12_restore_94 : decode cX12_restore 94 = .ok (.iconst 1, 1) := by decide +kernel
theorem dX12_restore_95 : decode cX12_restore 95 = .ok (.ireturn, 1) := by decide +kernel
set_option maxRecDepth 20000 in
theorem ggX12_count_X12_isIn : GoodIn wsX12_count wsX12_isIn := goodIn_r _ [7] (by decide +kernel) (by decide +kernel)
set_option maxRecDepth 20000 in
theorem gX12_count_X12_isIn : GoodIn wsX12_count (va_wsS RX12 182 yX12_isIn wsX12_isIn) := goodIn_app (goodIn_of _ (by decide +kernel)) ggX12_count_X12_isIn
theorem dX12_count_0 : decode cX12_count 0 = .ok (.aload_n 0, 1) := by decide +kernel
theorem dX12_count_1 : decode cX12_count 1 = .ok (.iconst 0, 1) := by decide +kernel
theorem dX12_count_2 : decode cX12_count 2 = .ok (.putfield 1, 3) := by decide +kernel
theorem dX12_count_5 : decode cX12_count 5 = .ok (.iload_n 1, 1) := by decide +kernel
theorem dX12_count_6 : decode cX12_count 6 = .ok (.iconst 3, 1) := by decide +kernel
theorem dX12_count_7 : decode cX12_count 7 = .ok (.if_icmp .ne 10, 3) := by decide +kernel
theorem dX12_count_10 : decode cX12_count 10 = .ok (.aload_n 0, 1) := by decide +kernel
theorem dX12_count_11 : decode cX12_count 11 = .ok (.getfield 7, 3) := by decide +kernel
theorem dX12_count_14 : decode cX12_count 14 = .ok (.goto 22, 3) := by decide +kernel
theorem dX12_count_17 : decode cX12_count 17 = .ok (.iload_n 1, 1) := by decide +kernel
theorem dX12_count_18 : decode cX12_count 18 = .ok (.iconst 0, 1) := by decide +kernel
theorem dX12_count_19 : decode cX12_count 19 = .ok (.iconst 2, 1) := by decide +kernel
theorem dX12_count_20 : decode cX12_count 20 = .ok (.invokestatic 182, 3) := by decide +kernel
theorem dX12_count_23 : decode cX12_count 23 = .ok (.ifCond .eq 12, 3) := by decide +kernel
theorem dX12_count_26 : decode cX12_count 26 = .ok (.aload_n 0, 1) := by decide +kernel
theorem dX12_count_27 : decode cX12_count 27 = .ok (.getfield 33, 3) := by decide +kernel
theorem dX12_count_30 : decode cX12_count 30 = .ok (.iload_n 1, 1) := by decide +kernel
theorem dX12_count_31 : decode cX12_count 31 = .ok (.iaload, 1) := by decide +kernel
theorem dX12_count_32 : decode cX12_count 32 = .ok (.goto 4, 3) := by decide +kernel
theorem dX12_count_35 : decode cX12_count 35 = .ok (.iconst (-1), 1) := by decide +kernel
theorem dX12_count_36 : decode cX12_count 36 = .ok (.ireturn, 1) := by decide +kernel
