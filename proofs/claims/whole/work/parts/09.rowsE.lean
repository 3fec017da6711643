theorem dX12_sits_122 : decode cX12_sits 122 = .ok (.iaload, 1) := by decide +kernel
theorem dX12_sits_123 : decode cX12_sits 123 = .ok (.iload 6, 2) := by decide +kernel
theorem dX12_sits_125 : decode cX12_sits 125 = .ok (.iadd, 1) := by decide +kernel
theorem dX12_sits_126 : decode cX12_sits 126 = .ok (.iastore, 1) := by decide +kernel
theorem dX12_sits_127 : decode cX12_sits 127 = .ok (.aload_n 0, 1) := by decide +kernel
theorem dX12_sits_128 : decode cX12_sits 128 = .ok (.getfield 33, 3) := by decide +kernel
theorem dX12_sits_131 : decode cX12_sits 131 = .ok (.bipush 78, 2) := by decide +kernel
theorem dX12_sits_133 : decode cX12_sits 133 = .ok (.iload 4, 2) := by decide +kernel
theorem dX12_sits_135 : decode cX12_sits 135 = .ok (.iadd, 1) := by decide +kernel
theorem dX12_sits_136 : decode cX12_sits 136 = .ok (.ldc_w 283, 3) := by decide +kernel
theorem dX12_sits_139 : decode cX12_sits 139 = .ok (.aload_n 0, 1) := by decide +kernel
theorem dX12_sits_140 : decode cX12_sits 140 = .ok (.getfield 33, 3) := by decide +kernel
theorem dX12_sits_143 : decode cX12_sits 143 = .ok (.bipush 78, 2) := by decide +kernel
theorem dX12_sits_145 : decode cX12_sits 145 = .ok (.iload 4, 2) := by decide +kernel
theorem dX12_sits_147 : decode cX12_sits 147 = .ok (.iadd, 1) := by decide +kernel
theorem dX12_sits_148 : decode cX12_sits 148 = .ok (.iaload, 1) := by decide +kernel
theorem dX12_sits_149 : decode cX12_sits 149 = .ok (.iload 5, 2) := by decide +kernel
theorem dX12_sits_151 : decode cX12_sits 151 = .ok (.iadd, 1) := by decide +kernel
theorem dX12_sits_152 : decode cX12_sits 152 = .ok (.iload 6, 2) := by decide +kernel
theorem dX12_sits_154 : decode cX12_sits 154 = .ok (.isub, 1) := by decide +kernel
theorem dX12_sits_155 : decode cX12_sits 155 = .ok (.invokestatic 280, 3) := by decide +kernel
theorem dX12_sits_158 : decode cX12_sits 158 = .ok (.iastore, 1) := by decide +kernel
theorem dX12_sits_159 : decode cX12_sits 159 = .ok (.aload_n 0, 1) := by decide +kernel
theorem dX12_sits_160 : decode cX12_sits 160 = .ok (.getfield 33, 3) := by decide +kernel
theorem dX12_sits_163 : decode cX12_sits 163 = .ok (.bipush 71, 2) := by decide +kernel
theorem dX12_sits_165 : decode cX12_sits 165 = .ok (.iload_n 3, 1) := by decide +kernel
theorem dX12_sits_166 : decode cX12_sits 166 = .ok (.iadd, 1) := by decide +kernel
theorem dX12_sits_167 : decode cX12_sits 167 = .ok (.dup2, 1) := by decide +kernel
theorem dX12_sits_168 : decode cX12_sits 168 = .ok (.iaload, 1) := by decide +kernel
theorem dX12_sits_169 : decode cX12_sits 169 = .ok (.iconst 1, 1) := by decide +kernel
theorem dX12_sits_170 : decode cX12_sits 170 = .ok (.iadd, 1) := by decide +kernel
theorem dX12_sits_171 : decode cX12_sits 171 = .ok (.iastore, 1) := by decide +kernel
theorem dX12_sits_172 : decode cX12_sits 172 = .ok (.aload_n 0, 1) := by decide +kernel
theorem dX12_sits_173 : decode cX12_sits 173 = .ok (.getfield 33, 3) := by decide +kernel
theorem dX12_sits_176 : decode cX12_sits 176 = .ok (.bipush 48, 2) := by decide +kernel
theorem dX12_sits_178 : decode cX12_sits 178 = .ok (.iload_n 3, 1) := by decide +kernel
theorem dX12_sits_179 : decode cX12_sits 179 = .ok (.iconst 1, 1) := by decide +kernel
theorem dX12_sits_180 : decode cX12_sits 180 = .ok (.iadd, 1) := by decide +kernel
theorem dX12_sits_181 : decode cX12_sits 181 = .ok (.iastore, 1) := by decide +kernel
theorem dX12_sits_182 : decode cX12_sits 182 = .ok (.aload_n 0, 1) := by decide +kernel
theorem dX12_sits_183 : decode cX12_sits 183 = .ok (.getfield 33, 3) := by decide +kernel
theorem dX12_sits_186 : decode cX12_sits 186 = .ok (.bipush 46, 2) := by decide +kernel
theorem dX12_sits_188 : decode cX12_sits 188 = .ok (.dup2, 1) := by decide +kernel
theorem dX12_sits_189 : decode cX12_sits 189 = .ok (.iaload, 1) := by decide +kernel
theorem dX12_sits_190 : decode cX12_sits 190 = .ok (.iconst 1, 1) := by decide +kernel
theorem dX12_sits_191 : decode cX12_sits 191 = .ok (.iadd, 1) := by decide +kernel
theorem dX12_sits_192 : decode cX12_sits 192 = .ok (.iastore, 1) := by decide +kernel
theorem dX12_sits_193 : decode cX12_sits 193 = .ok (.aload_n 0, 1) := by decide +kernel
theorem dX12_sits_194 : decode cX12_sits 194 = .ok (.getfield 33, 3) := by decide +kernel
theorem dX12_sits_197 : decode cX12_sits 197 = .ok (.bipush 45, 2) := by decide +kernel
theorem dX12_sits_199 : decode cX12_sits 199 = .ok (.iconst 0, 1) := by decide +kernel
theorem dX12_sits_200 : decode cX12_sits 200 = .ok (.iastore, 1) := by decide +kernel
theorem dX12_sits_201 : decode cX12_sits 201 = .ok (.aload_n 0, 1) := by decide +kernel
theorem dX12_sits_202 : decode cX12_sits 202 = .ok (.getfield 33, 3) := by decide +kernel
theorem dX12_sits_205 : decode cX12_sits 205 = .ok (.bipush 63, 2) := by decide +kernel
theorem dX12_sits_207 : decode cX12_sits 207 = .ok (.iconst 0, 1) := by decide +kernel
theorem dX12_sits_208 : decode cX12_sits 208 = .ok (.iastore, 1) := by decide +kernel
theorem dX12_sits_209 : decode cX12_sits 209 = .ok (.iconst 0, 1) := by decide +kernel
theorem dX12_sits_210 : decode cX12_sits 210 = .ok (.istore 7, 2) := by decide +kernel
theorem dX12_sits_212 : decode cX12_sits 212 = .ok (.iload 7, 2) := by decide +kernel
theorem dX12_sits_214 : decode cX12_sits 214 = .ok (.bipush 7, 2) := by decide +kernel
theorem dX12_sits_216 : decode cX12_sits 216 = .ok (.if_icmp .ge 20, 3) := by decide +kernel
theorem dX12_sits_219 : decode cX12_sits 219 = .ok (.aload_n 0, 1) := by decide +kernel
theorem dX12_sits_220 : decode cX12_sits 220 = .ok (.getfield 33, 3) := by decide +kernel
theorem dX12_sits_223 : decode cX12_sits 223 = .ok (.bipush 64, 2) := by decide +kernel
theorem dX12_sits_225 : decode cX12_sits 225 = .ok (.iload 7, 2) := by decide +kernel
theorem dX12_sits_227 : decode cX12_sits 227 = .ok (.iadd, 1) := by decide +kernel
theorem dX12_sits_228 : decode cX12_sits 228 = .ok (.iconst 0, 1) := by decide +kernel
theorem dX12_sits_229 : decode cX12_sits 229 = .ok (.iastore, 1) := by decide +kernel
theorem dX12_sits_230 : decode cX12_sits 230 = .ok (.iinc 7 1, 3) := by decide +kernel
theorem dX12_sits_233 : decode cX12_sits 233 = .ok (.goto (-21), 3) := by decide +kernel
theorem dX12_sits_236 : decode cX12_sits 236 = .ok (.iconst 1, 1) := by decide +kernel
theorem dX12_sits_237 : decode cX12_sits 237 = .ok (.ireturn, 1) := by decide +kernel
set_option maxRecDepth 20000 in
theorem ggX12_whyHide_X12_isChair : GoodIn wsX12_whyHide wsX12_isChair := goodIn_r _ [6, 1, 7, 8, 5, 9, 24, 25, 26, 27, 28, 29, 30, 31, 32, 33, 34, 35, 36, 37, 38, 39, 40, 41, 42, 43, 44, 45, 46, 47, 48, 49, 50, 51, 52, 53, 54, 55, 56, 57, 58, 59, 60, 61, 62, 63, 64, 65, 66, 67, 68, 69, 70, 71, 72, 73, 74, 75] (by decide +kernel) (by decide +kernel)
set_option maxRecDepth 20000 in
theorem gX12_whyHide_X12_isChair : GoodIn wsX12_whyHide (wsV RX12 265 RX12 yX12_isChair wsX12_isChair) := goodIn_app (goodIn_of _ (by decide +kernel)) ggX12_whyHide_X12_isChair
set_option maxRecDepth 20000 in
theorem ggX12_whyHide_X12_bitOf : GoodIn wsX12_whyHide wsX12_bitOf := goodIn_r _ [12] (by decide +kernel) (by decide +kernel)
set_option maxRecDepth 20000 in
theorem gX12_whyHide_X12_bitOf : GoodIn wsX12_whyHide (va_wsS RX12 248 yX12_bitOf wsX12_bitOf) := goodIn_app (goodIn_of _ (by decide +kernel)) ggX12_whyHide_X12_bitOf
set_option maxRecDepth 20000 in
theorem ggX12_whyHide_X12_sitterAt : GoodIn wsX12_whyHide wsX12_sitterAt := goodIn_r _ [16, 1, 17, 18, 19, 5, 20, 10, 11, 12, 24, 25, 26, 27, 28, 29, 30, 31, 32, 33, 34, 35, 36, 37, 38, 39, 40, 41, 42, 43, 44, 45, 46, 47, 48, 49, 50, 51, 52, 53, 54, 55, 56, 57, 58, 59, 60, 61, 62, 63, 64, 65, 66, 67, 68, 69, 70, 71, 72, 73, 74, 75] (by decide +kernel) (by decide +kernel)
set_option maxRecDepth 20000 in
theorem gX12_whyHide_X12_sitterAt : GoodIn wsX12_whyHide (wsV RX12 268 RX12 yX12_sitterAt wsX12_sitterAt) := goodIn_app (goodIn_of _ (by decide +kernel)) ggX12_whyHide_X12_sitterAt
set_option maxRecDepth 20000 in
theorem ggX12_whyHide_X12_bits : GoodIn wsX12_whyHide wsX12_bits := goodIn_r _ [23] (by decide +kernel) (by decide +kernel)
set_option maxRecDepth 20000 in
theorem gX12_whyHide_X12_bits : GoodIn wsX12_whyHide (va_wsS RX12 277 yX12_bits wsX12_bits) := goodIn_app (goodIn_of _ (by decide +kernel)) ggX12_whyHide_X12_bits
theorem dX12_whyHide_0 : decode cX12_whyHide 0 = .ok (.aload_n 0, 1) := by decide +kernel
theorem dX12_whyHide_1 : decode cX12_whyHide 1 = .ok (.iload_n 1, 1) := by decide +kernel
theorem dX12_whyHide_2 : decode cX12_whyHide 2 = .ok (.invokevirtual 265, 3) := by decide +kernel
theorem dX12_whyHide_5 : decode cX12_whyHide 5 = .ok (.ifCond .ne 5, 3) := by decide +kernel
theorem dX12_whyHide_8 : decode cX12_whyHide 8 = .ok (.iconst 1, 1) := by decide +kernel
theorem dX12_whyHide_9 : decode cX12_whyHide 9 = .ok (.ireturn, 1) := by decide +kernel
theorem dX12_whyHide_10 : decode cX12_whyHide 10 = .ok (.aload_n 0, 1) := by decide +kernel
theorem dX12_whyHide_11 : decode cX12_whyHide 11 = .ok (.getfield 33, 3) := by decide +kernel
theorem dX12_whyHide_14 : decode cX12_whyHide 14 = .ok (.bipush 47, 2) := by decide +kernel
theorem dX12_whyHide_16 : decode cX12_whyHide 16 = .ok (.iaload, 1) := by decide +kernel
theorem dX12_whyHide_17 : decode cX12_whyHide 17 = .ok (.iload_n 1, 1) := by decide +kernel
theorem dX12_whyHide_18 : decode cX12_whyHide 18 = .ok (.invokestatic 248, 3) := by decide +kernel
theorem dX12_whyHide_21 : decode cX12_whyHide 21 = .ok (.ifCond .eq 5, 3) := by decide +kernel
theorem dX12_whyHide_24 : decode cX12_whyHide 24 = .ok (.iconst 2, 1) := by decide +kernel
theorem dX12_whyHide_25 : decode cX12_whyHide 25 = .ok (.ireturn, 1) := by decide +kernel
theorem dX12_whyHide_26 : decode cX12_whyHide 26 = .ok (.aload_n 0, 1) := by decide +kernel
theorem dX12_whyHide_27 : decode cX12_whyHide 27 = .ok (.iload_n 1, 1) := by decide +kernel
theorem dX12_whyHide_28 : decode cX12_whyHide 28 = .ok (.invokevirtual 268, 3) := by decide +kernel
theorem dX12_whyHide_31 : decode cX12_whyHide 31 = .ok (.ifCond .lt 5, 3) := by decide +kernel
theorem dX12_whyHide_34 : decode cX12_whyHide 34 = .ok (.iconst 3, 1) := by decide +kernel
theorem dX12_whyHide_35 : decode cX12_whyHide 35 = .ok (.ireturn, 1) := by decide +kernel
theorem dX12_whyHide_36 : decode cX12_whyHide 36 = .ok (.aload_n 0, 1) := by decide +kernel
theorem dX12_whyHide_37 : decode cX12_whyHide 37 = .ok (.getfield 33, 3) := by decide +kernel
theorem dX12_whyHide_40 : decode cX12_whyHide 40 = .ok (.iconst 0, 1) := by decide +kernel
theorem dX12_whyHide_41 : decode cX12_whyHide 41 = .ok (.iaload, 1) := by decide +kernel
theorem dX12_whyHide_42 : decode cX12_whyHide 42 = .ok (.aload_n 0, 1) := by decide +kernel
theorem dX12_whyHide_43 : decode cX12_whyHide 43 = .ok (.getfield 33, 3) := by decide +kernel
theorem dX12_whyHide_46 : decode cX12_whyHide 46 = .ok (.bipush 47, 2) := by decide +kernel
theorem dX12_whyHide_48 : decode cX12_whyHide 48 = .ok (.iaload, 1) := by decide +kernel
theorem dX12_whyHide_49 : decode cX12_whyHide 49 = .ok (.invokestatic 277, 3) := by decide +kernel
theorem dX12_whyHide_52 : decode cX12_whyHide 52 = .ok (.isub, 1) := by decide +kernel
theorem dX12_whyHide_53 : decode cX12_whyHide 53 = .ok (.iconst 1, 1) := by decide +kernel
theorem dX12_whyHide_54 : decode cX12_whyHide 54 = .ok (.isub, 1) := by decide +kernel
theorem dX12_whyHide_55 : decode cX12_whyHide 55 = .ok (.aload_n 0, 1) := by decide +kernel
theorem dX12_whyHide_56 : decode cX12_whyHide 56 = .ok (.getfield 33, 3) := by decide +kernel
theorem dX12_whyHide_59 : decode cX12_whyHide 59 = .ok (.iconst 1, 1) := by decide +kernel
theorem dX12_whyHide_60 : decode cX12_whyHide 60 = .ok (.iaload, 1) := by decide +kernel
theorem dX12_whyHide_61 : decode cX12_whyHide 61 = .ok (.if_icmp .ge 7, 3) := by decide +kernel
theorem dX12_whyHide_64 : decode cX12_whyHide 64 = .ok (.iconst 4, 1) := by decide +kernel
theorem dX12_whyHide_65 : decode cX12_whyHide 65 = .ok (.goto 4, 3) := by decide +kernel
theorem dX12_whyHide_68 : decode cX12_whyHide 68 = .ok (.iconst 0, 1) := by decide +kernel
theorem dX12_whyHide_69 : decode cX12_whyHide 69 = .ok (.ireturn, 1) := by decide +kernel
set_option maxRecDepth 20000 in
theorem ggX12_whyShow_X12_isChair : GoodIn wsX12_whyShow wsX12_isChair := goodIn_r _ [6, 1, 7, 8, 5, 9, 13, 14, 15, 16, 17, 18, 19, 20, 21, 22, 23, 24, 25, 26, 27, 28, 29, 30, 31, 32, 33, 34, 35, 36, 37, 38, 39, 40, 41, 42, 43, 44, 45, 46, 47, 48, 49, 50, 51, 52, 53, 54, 55, 56, 57, 58, 59, 60, 61, 62, 63, 64] (by decide +kernel) (by decide +kernel)
set_option maxRecDepth 20000 in
theorem gX12_whyShow_X12_isChair : GoodIn wsX12_whyShow (wsV RX12 265 RX12 yX12_isChair wsX12_isChair) := goodIn_app (goodIn_of _ (by decide +kernel)) ggX12_whyShow_X12_isChair
set_option maxRecDepth 20000 in
theorem ggX12_whyShow_X12_bitOf : GoodIn wsX12_whyShow wsX12_bitOf := goodIn_r _ [12] (by decide +kernel) (by decide +kernel)
set_option maxRecDepth 20000 in
theorem gX12_whyShow_X12_bitOf : GoodIn wsX12_whyShow (va_wsS RX12 248 yX12_bitOf wsX12_bitOf) := goodIn_app (goodIn_of _ (by decide +kernel)) ggX12_whyShow_X12_bitOf
theorem dX12_whyShow_0 : decode cX12_whyShow 0 = .ok (.aload_n 0, 1) := by decide +kernel
theorem dX12_whyShow_1 : decode cX12_whyShow 1 = .ok (.iload_n 1, 1) := by decide +kernel
theorem dX12_whyShow_2 : decode cX12_whyShow 2 = .ok (.invokevirtual 265, 3) := by decide +kernel
theorem dX12_whyShow_5 : decode cX12_whyShow 5 = .ok (.ifCond .ne 7, 3) := by decide +kernel
theorem dX12_whyShow_8 : decode cX12_whyShow 8 = .ok (.iconst 1, 1) := by decide +kernel
theorem dX12_whyShow_9 : decode cX12_whyShow 9 = .ok (.goto 22, 3) := by decide +kernel
theorem dX12_whyShow_12 : decode cX12_whyShow 12 = .ok (.aload_n 0, 1) := by decide +kernel
theorem dX12_whyShow_13 : decode cX12_whyShow 13 = .ok (.getfield 33, 3) := by decide +kernel
theorem dX12_whyShow_16 : decode cX12_whyShow 16 = .ok (.bipush 47, 2) := by decide +kernel
theorem dX12_whyShow_18 : decode cX12_whyShow 18 = .ok (.iaload, 1) := by decide +kernel
theorem dX12_whyShow_19 : decode cX12_whyShow 19 = .ok (.iload_n 1, 1) := by decide +kernel
theorem dX12_whyShow_20 : decode cX12_whyShow 20 = .ok (.invokestatic 248, 3) := by decide +kernel
theorem dX12_whyShow_23 : decode cX12_whyShow 23 = .ok (.ifCond .eq 7, 3) := by decide +kernel
theorem dX12_whyShow_26 : decode cX12_whyShow 26 = .ok (.iconst 0, 1) := by decide +kernel
theorem dX12_whyShow_27 : decode cX12_whyShow 27 = .ok (.goto 4, 3) := by decide +kernel
theorem dX12_whyShow_30 : decode cX12_whyShow 30 = .ok (.iconst 2, 1) := by decide +kernel
theorem dX12_whyShow_31 : decode cX12_whyShow 31 = .ok (.ireturn, 1) := by decide +kernel
set_option maxRecDepth 20000 in
theorem ggX12_round_X12_doesSit : GoodIn wsX12_round wsX12_doesSit := goodIn_r _ [6, 1, 7, 8, 5, 9, 37, 38, 39, 40, 41, 42, 43, 44, 45, 46, 47, 48, 49, 50, 51, 52, 53, 54, 55, 56, 57, 58, 59, 60, 61, 62, 63, 64, 65, 66, 67, 68, 69, 70, 71, 72, 73, 74, 75, 76, 77, 78, 79, 80, 81, 82, 83, 84, 85, 86, 87, 88] (by decide +kernel) (by decide +kernel)
set_option maxRecDepth 20000 in
theorem gX12_round_X12_doesSit : GoodIn wsX12_round (wsV RX12 251 RX12 yX12_doesSit wsX12_doesSit) := goodIn_app (goodIn_of _ (by decide +kernel)) ggX12_round_X12_doesSit
set_option maxRecDepth 20000 in
theorem ggX12_round_X12_lesser : GoodIn wsX12_round wsX12_lesser := goodIn_r _ [12] (by decide +kernel) (by decide +kernel)
set_option maxRecDepth 20000 in
theorem gX12_round_X12_lesser : GoodIn wsX12_round (va_wsS RX12 280 yX12_lesser wsX12_lesser) := goodIn_app (goodIn_of _ (by decide +kernel)) ggX12_round_X12_lesser
set_option maxRecDepth 20000 in
theorem ggX12_round_X12_whySit : GoodIn wsX12_round wsX12_whySit := goodIn_r _ [16, 1, 2, 3, 4, 5, 6, 7, 8, 9, 17, 18, 19, 20, 37, 38, 39, 40, 41, 42, 43, 44, 45, 46, 47, 48, 49, 50, 51, 52, 53, 54, 55, 56, 57, 58, 59, 60, 61, 62, 63, 64, 65, 66, 67, 68, 69, 70, 71, 72, 73, 74, 75, 76, 77, 78, 79, 80, 81, 82, 83, 84, 85, 86, 87, 88] (by decide +kernel) (by decide +kernel)
set_option maxRecDepth 20000 in
theorem gX12_round_X12_whySit : GoodIn wsX12_round (wsV RX12 284 RX12 yX12_whySit wsX12_whySit) := goodIn_app (goodIn_of _ (by decide +kernel)) ggX12_round_X12_whySit
set_option maxRecDepth 20000 in
theorem ggX12_round_X12_sits : GoodIn wsX12_round wsX12_sits := goodIn_r _ [24, 1, 25, 26, 27, 5, 28, 7, 8, 9, 29, 30, 31, 32, 33, 34, 35, 36, 10, 11, 12, 37, 38, 39, 40, 41, 42, 43, 44, 45, 46, 47, 48, 49, 50, 51, 52, 53, 54, 55, 56, 57, 58, 59, 60, 61, 62, 63, 64, 65, 66, 67, 68, 69, 70, 71, 72, 73, 74, 75, 76, 77, 78, 79, 80, 81, 82, 83, 84, 85, 86, 87, 88] (by decide +kernel) (by decide +kernel)
set_option maxRecDepth 20000 in
theorem gX12_round_X12_sits : GoodIn wsX12_round (wsV RX12 287 RX12 yX12_sits wsX12_sits) := goodIn_app (goodIn_of _ (by decide +kernel)) ggX12_round_X12_sits
theorem dX12_round_0 : decode cX12_round 0 = .ok (.iconst 0, 1) := by decide +kernel
theorem dX12_round_1 : decode cX12_round 1 = .ok (.istore_n 2, 1) := by decide +kernel
theorem dX12_round_2 : decode cX12_round 2 = .ok (.iconst 0, 1) := by decide +kernel
theorem dX12_round_3 : decode cX12_round 3 = .ok (.istore_n 3, 1) := by decide +kernel
theorem dX12_round_4 : decode cX12_round 4 = .ok (.iload_n 3, 1) := by decide +kernel
theorem dX12_round_5 : decode cX12_round 5 = .ok (.aload_n 0, 1) := by decide +kernel
theorem dX12_round_6 : decode cX12_round 6 = .ok (.getfield 33, 3) := by decide +kernel
theorem dX12_round_9 : decode cX12_round 9 = .ok (.iconst 1, 1) := by decide +kernel
theorem dX12_round_10 : decode cX12_round 10 = .ok (.iaload, 1) := by decide +kernel
theorem dX12_round_11 : decode cX12_round 11 = .ok (.if_icmp .ge 124, 3) := by decide +kernel
theorem dX12_round_14 : decode cX12_round 14 = .ok (.iload_n 2, 1) := by decide +kernel
theorem dX12_round_15 : decode cX12_round 15 = .ok (.ifCond .ne 120, 3) := by decide +kernel
theorem dX12_round_18 : decode cX12_round 18 = .ok (.aload_n 0, 1) := by decide +kernel
theorem dX12_round_19 : decode cX12_round 19 = .ok (.iload_n 3, 1) := by decide +kernel
theorem dX12_round_20 : decode cX12_round 20 = .ok (.invokevirtual 251, 3) := by decide +kernel
theorem dX12_round_23 : decode cX12_round 23 = .ok (.ifCond .eq 6, 3) := by decide +kernel
theorem dX12_round_26 : decode cX12_round 26 = .ok (.goto 103, 3) := by decide +kernel
theorem dX12_round_29 : decode cX12_round 29 = .ok (.aload_n 0, 1) := by decide +kernel
theorem dX12_round_30 : decode cX12_round 30 = .ok (.getfield 33, 3) := by decide +kernel
theorem dX12_round_33 : decode cX12_round 33 = .ok (.bipush 56, 2) := by decide +kernel
theorem dX12_round_35 : decode cX12_round 35 = .ok (.iload_n 3, 1) := by decide +kernel
theorem dX12_round_36 : decode cX12_round 36 = .ok (.iadd, 1) := by decide +kernel
theorem dX12_round_37 : decode cX12_round 37 = .ok (.aload_n 0, 1) := by decide +kernel
theorem dX12_round_38 : decode cX12_round 38 = .ok (.getfield 33, 3) := by decide +kernel
theorem dX12_round_41 : decode cX12_round 41 = .ok (.bipush 56, 2) := by decide +kernel
theorem dX12_round_43 : decode cX12_round 43 = .ok (.iload_n 3, 1) := by decide +kernel
theorem dX12_round_44 : decode cX12_round 44 = .ok (.iadd, 1) := by decide +kernel
theorem dX12_round_45 : decode cX12_round 45 = .ok (.iaload, 1) := by decide +kernel
theorem dX12_round_46 : decode cX12_round 46 = .ok (.aload_n 0, 1) := by decide +kernel
theorem dX12_round_47 : decode cX12_round 47 = .ok (.getfield 33, 3) := by decide +kernel
theorem dX12_round_50 : decode cX12_round 50 = .ok (.bipush 17, 2) := by decide +kernel
theorem dX12_round_52 : decode cX12_round 52 = .ok (.iload_n 3, 1) := by decide +kernel
theorem dX12_round_53 : decode cX12_round 53 = .ok (.iadd, 1) := by decide +kernel
theorem dX12_round_54 : decode cX12_round 54 = .ok (.iaload, 1) := by decide +kernel
theorem dX12_round_55 : decode cX12_round 55 = .ok (.iadd, 1) := by decide +kernel
theorem dX12_round_56 : decode cX12_round 56 = .ok (.aload_n 0, 1) := by decide +kernel
theorem dX12_round_57 : decode cX12_round 57 = .ok (.getfield 33, 3) := by decide +kernel
theorem dX12_round_60 : decode cX12_round 60 = .ok (.iconst 0, 1) := by decide +kernel
theorem dX12_round_61 : decode cX12_round 61 = .ok (.iaload, 1) := by decide +kernel
theorem dX12_round_62 : decode cX12_round 62 = .ok (.irem, 1) := by decide +kernel
theorem dX12_round_63 : decode cX12_round 63 = .ok (.iastore, 1) := by decide +kernel
theorem dX12_round_64 : decode cX12_round 64 = .ok (.aload_n 0, 1) := by decide +kernel
theorem dX12_round_65 : decode cX12_round 65 = .ok (.getfield 33, 3) := by decide +kernel
theorem dX12_round_68 : decode cX12_round 68 = .ok (.bipush 64, 2) := by decide +kernel
theorem dX12_round_70 : decode cX12_round 70 = .ok (.iload_n 3, 1) := by decide +kernel
theorem dX12_round_71 : decode cX12_round 71 = .ok (.iadd, 1) := by decide +kernel
theorem dX12_round_72 : decode cX12_round 72 = .ok (.bipush 99, 2) := by decide +kernel
theorem dX12_round_74 : decode cX12_round 74 = .ok (.aload_n 0, 1) := by decide +kernel
theorem dX12_round_75 : decode cX12_round 75 = .ok (.getfield 33, 3) := by decide +kernel
theorem dX12_round_78 : decode cX12_round 78 = .ok (.bipush 64, 2) := by decide +kernel
theorem dX12_round_80 : decode cX12_round 80 = .ok (.iload_n 3, 1) := by decide +kernel
theorem dX12_round_81 : decode cX12_round 81 = .ok (.iadd, 1) := by decide +kernel
theorem dX12_round_82 : decode cX12_round 82 = .ok (.iaload, 1) := by decide +kernel
theorem dX12_round_83 : decode cX12_round 83 = .ok (.iconst 1, 1) := by decide +kernel
theorem dX12_round_84 : decode cX12_round 84 = .ok (.iadd, 1) := by decide +kernel
theorem dX12_round_85 : decode cX12_round 85 = .ok (.invokestatic 280, 3) := by decide +kernel
theorem dX12_round_88 : decode cX12_round 88 = .ok (.iastore, 1) := by decide +kernel
theorem dX12_round_89 : decode cX12_round 89 = .ok (.iload_n 3, 1) := by decide +kernel
theorem dX12_round_90 : decode cX12_round 90 = .ok (.iload_n 1, 1) := by decide +kernel
theorem dX12_round_91 : decode cX12_round 91 = .ok (.if_icmp .eq 38, 3) := by decide +kernel
theorem dX12_round_94 : decode cX12_round 94 = .ok (.aload_n 0, 1) := by decide +kernel
theorem dX12_round_95 : decode cX12_round 95 = .ok (.getfield 33, 3) := by decide +kernel
theorem dX12_round_98 : decode cX12_round 98 = .ok (.bipush 64, 2) := by decide +kernel
theorem dX12_round_100 : decode cX12_round 100 = .ok (.iload_n 3, 1) := by decide +kernel
theorem dX12_round_101 : decode cX12_round 101 = .ok (.iadd, 1) := by decide +kernel
theorem dX12_round_102 : decode cX12_round 102 = .ok (.iaload, 1) := by decide +kernel
theorem dX12_round_103 : decode cX12_round 103 = .ok (.aload_n 0, 1) := by decide +kernel
theorem dX12_round_104 : decode cX12_round 104 = .ok (.getfield 33, 3) := by decide +kernel
theorem dX12_round_107 : decode cX12_round 107 = .ok (.bipush 10, 2) := by decide +kernel
theorem dX12_round_109 : decode cX12_round 109 = .ok (.iload_n 3, 1) := by decide +kernel
theorem dX12_round_110 : decode cX12_round 110 = .ok (.iadd, 1) := by decide +kernel
theorem dX12_round_111 : decode cX12_round 111 = .ok (.iaload, 1) := by decide +kernel
theorem dX12_round_112 : decode cX12_round 112 = .ok (.if_icmp .lt 17, 3) := by decide +kernel
theorem dX12_round_115 : decode cX12_round 115 = .ok (.aload_n 0, 1) := by decide +kernel
theorem dX12_round_116 : decode cX12_round 116 = .ok (.iload_n 3, 1) := by decide +kernel
theorem dX12_round_117 : decode cX12_round 117 = .ok (.invokevirtual 284, 3) := by decide +kernel
theorem dX12_round_120 : decode cX12_round 120 = .ok (.ifCond .ne 9, 3) := by decide +kernel
theorem dX12_round_123 : decode cX12_round 123 = .ok (.aload_n 0, 1) := by decide +kernel
theorem dX12_round_124 : decode cX12_round 124 = .ok (.iload_n 3, 1) := by decide +kernel
theorem dX12_round_125 : decode cX12_round 125 = .ok (.invokevirtual 287, 3) := by decide +kernel
theorem dX12_round_128 : decode cX12_round 128 = .ok (.istore_n 2, 1) := by decide +kernel
theorem dX12_round_129 : decode cX12_round 129 = .ok (.iinc 3 1, 3) := by decide +kernel
theorem dX12_round_132 : decode cX12_round 132 = .ok (.goto (-128), 3) := by decide +kernel
theorem dX12_round_135 : decode cX12_round 135 = .ok (.aload_n 0, 1) := by decide +kernel
theorem dX12_round_136 : decode cX12_round 136 = .ok (.getfield 33, 3) := by decide +kernel
theorem dX12_round_139 : decode cX12_round 139 = .ok (.bipush 44, 2) := by decide +kernel
theorem dX12_round_141 : decode cX12_round 141 = .ok (.dup2, 1) := by decide +kernel
theorem dX12_round_142 : decode cX12_round 142 = .ok (.iaload, 1) := by decide +kernel
theorem dX12_round_143 : decode cX12_round 143 = .ok (.iconst 1, 1) := by decide +kernel
theorem dX12_round_144 : decode cX12_round 144 = .ok (.iadd, 1) := by decide +kernel
theorem dX12_round_145 : decode cX12_round 145 = .ok (.iastore, 1) := by decide +kernel
theorem dX12_round_146 : decode cX12_round 146 = .ok (.iload_n 2, 1) := by decide +kernel
theorem dX12_round_147 : decode cX12_round 147 = .ok (.ireturn, 1) := by decide +kernel
set_option maxRecDepth 20000 in
theorem ggX12_goesOn_X12_round : GoodIn wsX12_goesOn wsX12_round := goodIn_r _ [6, 1, 7, 8, 9, 5, 10, 11, 12, 13, 14, 15, 16, 17, 18, 19, 20, 21, 22, 23, 24, 25, 26, 27, 28, 29, 30, 31, 32, 33, 34, 35, 36, 37, 38, 39, 40, 41, 42, 43, 44, 45, 46, 47, 48, 49, 50, 51, 52, 53, 54, 55, 56, 57, 58, 59, 60, 61, 62, 63, 64, 65, 66, 67, 68, 69, 70, 71, 72, 73, 74, 75, 76, 77, 78, 79, 80, 81, 82, 83, 84, 85, 86, 87, 88, 89, 90, 91, 92] (by decide +kernel) (by decide +kernel)
set_option maxRecDepth 20000 in
theorem gX12_goesOn_X12_round : GoodIn wsX12_goesOn (wsV RX12 290 RX12 yX12_round wsX12_round) := goodIn_app (goodIn_of _ (by decide +kernel)) ggX12_goesOn_X12_round
theorem dX12_goesOn_0 : decode cX12_goesOn 0 = .ok (.iconst 0, 1) := by decide +kernel
theorem dX12_goesOn_1 : decode cX12_goesOn 1 = .ok (.istore_n 2, 1) := by decide +kernel
theorem dX12_goesOn_2 : decode cX12_goesOn 2 = .ok (.iload_n 2, 1) := by decide +kernel
theorem dX12_goesOn_3 : decode cX12_goesOn 3 = .ok (.iload_n 1, 1) := by decide +kernel
theorem dX12_goesOn_4 : decode cX12_goesOn 4 = .ok (.if_icmp .ge 28, 3) := by decide +kernel
theorem dX12_goesOn_7 : decode cX12_goesOn 7 = .ok (.aload_n 0, 1) := by decide +kernel
theorem dX12_goesOn_8 : decode cX12_goesOn 8 = .ok (.getfield 33, 3) := by decide +kernel
theorem dX12_goesOn_11 : decode cX12_goesOn 11 = .ok (.bipush 44, 2) := by decide +kernel
theorem dX12_goesOn_13 : decode cX12_goesOn 13 = .ok (.iaload, 1) := by decide +kernel
theorem dX12_goesOn_14 : decode cX12_goesOn 14 = .ok (.sipush 400, 3) := by decide +kernel
theorem dX12_goesOn_17 : decode cX12_goesOn 17 = .ok (.if_icmp .ge 15, 3) := by decide +kernel
theorem dX12_goesOn_20 : decode cX12_goesOn 20 = .ok (.aload_n 0, 1) := by decide +kernel
theorem dX12_goesOn_21 : decode cX12_goesOn 21 = .ok (.iconst (-1), 1) := by decide +kernel
theorem dX12_goesOn_22 : decode cX12_goesOn 22 = .ok (.invokevirtual 290, 3) := by decide +kernel
theorem dX12_goesOn_25 : decode cX12_goesOn 25 = .ok (.pop, 1) := by decide +kernel
theorem dX12_goesOn_26 : decode cX12_goesOn 26 = .ok (.iinc 2 1, 3) := by decide +kernel
theorem dX12_goesOn_29 : decode cX12_goesOn 29 = .ok (.goto (-27), 3) := by decide +kernel
theorem dX12_goesOn_32 : decode cX12_goesOn 32 = .ok (.iload_n 2, 1) := by decide +kernel
theorem dX12_goesOn_33 : decode cX12_goesOn 33 = .ok (.ireturn, 1) := by decide +kernel
set_option maxRecDepth 20000 in
theorem ggX12_sit_X12_isGuest : GoodIn wsX12_sit wsX12_isGuest := goodIn_r _ [6, 7, 8, 9, 5, 10, 51, 52, 53, 54, 55, 56, 57, 58, 59, 60, 61, 62, 63, 64, 65, 66, 67, 68, 69, 70, 71, 72, 73, 74, 75, 76, 77, 78, 79, 80, 81, 82, 83, 84, 85, 86, 87, 88, 89, 90, 91, 92, 93, 94, 95, 96, 97, 98, 99, 100, 101, 102] (by decide +kernel) (by decide +kernel)
set_option maxRecDepth 20000 in
theorem gX12_sit_X12_isGuest : GoodIn wsX12_sit (wsV RX12 254 RX12 yX12_isGuest wsX12_isGuest) := goodIn_app (goodIn_of _ (by decide +kernel)) ggX12_sit_X12_isGuest
set_option maxRecDepth 20000 in
theorem ggX12_sit_X12_whySit : GoodIn wsX12_sit wsX12_whySit := goodIn_r _ [14, 7, 15, 16, 17, 5, 18, 19, 20, 21, 22, 23, 24, 25, 51, 52, 53, 54, 55, 56, 57, 58, 59, 60, 61, 62, 63, 64, 65, 66, 67, 68, 69, 70, 71, 72, 73, 74, 75, 76, 77, 78, 79, 80, 81, 82, 83, 84, 85, 86, 87, 88, 89, 90, 91, 92, 93, 94, 95, 96, 97, 98, 99, 100, 101, 102] (by decide +kernel) (by decide +kernel)
set_option maxRecDepth 20000 in
theorem gX12_sit_X12_whySit : GoodIn wsX12_sit (wsV RX12 284 RX12 yX12_whySit wsX12_whySit) := goodIn_app (goodIn_of _ (by decide +kernel)) ggX12_sit_X12_whySit
set_option maxRecDepth 20000 in
theorem ggX12_sit_X12_keep : GoodIn wsX12_sit wsX12_keep := goodIn_r _ [29, 30, 31, 7, 51, 52, 53, 54, 55, 56, 57, 58, 59, 60, 61, 62, 63, 64, 65, 66, 67, 68, 69, 70, 71, 72, 73, 74, 75, 76, 77, 78, 79, 80, 81, 82, 83, 84, 85, 86, 87, 88, 89, 90, 91, 92, 93, 94, 95, 96, 97, 98, 99, 100, 101, 102] (by decide +kernel) (by decide +kernel)
set_option maxRecDepth 20000 in
theorem gX12_sit_X12_keep : GoodIn wsX12_sit (wsV RX12 293 RX12 yX12_keep wsX12_keep) := goodIn_app (goodIn_of _ (by decide +kernel)) ggX12_sit_X12_keep
set_option maxRecDepth 20000 in
theorem ggX12_sit_X12_sits : GoodIn wsX12_sit wsX12_sits := goodIn_r _ [35, 7, 36, 37, 38, 5, 39, 19, 20, 21, 40, 41, 42, 43, 44, 45, 46, 47, 48, 49, 50, 51, 52, 53, 54, 55, 56, 57, 58, 59, 60, 61, 62, 63, 64, 65, 66, 67, 68, 69, 70, 71, 72, 73, 74, 75, 76, 77, 78, 79, 80, 81, 82, 83, 84, 85, 86, 87, 88, 89, 90, 91, 92, 93, 94, 95, 96, 97, 98, 99, 100, 101, 102] (by decide +kernel) (by decide +kernel)
set_option maxRecDepth 20000 in
theorem gX12_sit_X12_sits : GoodIn wsX12_sit (wsV RX12 287 RX12 yX12_sits wsX12_sits) := goodIn_app (goodIn_of _ (by decide +kernel)) ggX12_sit_X12_sits
theorem dX12_sit_0 : decode cX12_sit 0 = .ok (.aload_n 0, 1) := by decide +kernel
theorem dX12_sit_1 : decode cX12_sit 1 = .ok (.iconst 0, 1) := by decide +kernel
theorem dX12_sit_2 : decode cX12_sit 2 = .ok (.putfield 1, 3) := by decide +kernel
theorem dX12_sit_5 : decode cX12_sit 5 = .ok (.aload_n 0, 1) := by decide +kernel
theorem dX12_sit_6 : decode cX12_sit 6 = .ok (.iload_n 1, 1) := by decide +kernel
theorem dX12_sit_7 : decode cX12_sit 7 = .ok (.invokevirtual 254, 3) := by decide +kernel
theorem dX12_sit_10 : decode cX12_sit 10 = .ok (.ifCond .ne 5, 3) := by decide +kernel
theorem dX12_sit_13 : decode cX12_sit 13 = .ok (.iconst (-1), 1) := by decide +kernel
theorem dX12_sit_14 : decode cX12_sit 14 = .ok (.ireturn, 1) := by decide +kernel
theorem dX12_sit_15 : decode cX12_sit 15 = .ok (.aload_n 0, 1) := by decide +kernel
theorem dX12_sit_16 : decode cX12_sit 16 = .ok (.iload_n 1, 1) := by decide +kernel
theorem dX12_sit_17 : decode cX12_sit 17 = .ok (.invokevirtual 284, 3) := by decide +kernel
theorem dX12_sit_20 : decode cX12_sit 20 = .ok (.istore_n 2, 1) := by decide +kernel
theorem dX12_sit_21 : decode cX12_sit 21 = .ok (.iload_n 2, 1) := by decide +kernel
theorem dX12_sit_22 : decode cX12_sit 22 = .ok (.ifCond .le 5, 3) := by decide +kernel
theorem dX12_sit_25 : decode cX12_sit 25 = .ok (.iload_n 2, 1) := by decide +kernel
theorem dX12_sit_26 : decode cX12_sit 26 = .ok (.ireturn, 1) := by decide +kernel
theorem dX12_sit_27 : decode cX12_sit 27 = .ok (.aload_n 0, 1) := by decide +kernel
theorem dX12_sit_28 : decode cX12_sit 28 = .ok (.invokevirtual 293, 3) := by decide +kernel
theorem dX12_sit_31 : decode cX12_sit 31 = .ok (.aload_n 0, 1) := by decide +kernel
theorem dX12_sit_32 : decode cX12_sit 32 = .ok (.iload_n 1, 1) := by decide +kernel
theorem dX12_sit_33 : decode cX12_sit 33 = .ok (.invokevirtual 287, 3) := by decide +kernel
theorem dX12_sit_36 : decode cX12_sit 36 = .ok (.pop, 1) := by decide +kernel
theorem dX12_sit_37 : decode cX12_sit 37 = .ok (.iconst 0, 1) := by decide +kernel
theorem dX12_sit_38 : decode cX12_sit 38 = .ok (.ireturn, 1) := by decide +kernel
set_option maxRecDepth 20000 in
theorem ggX12_rise_X12_isGuest : GoodIn wsX12_rise wsX12_isGuest := goodIn_r _ [7, 2, 8, 9, 6, 10, 24, 25, 26, 27, 28, 29, 30, 31, 32, 33, 34, 35, 36, 37, 38, 39, 40, 41, 42, 43, 44, 45, 46, 47, 48, 49, 50, 51, 52, 53, 54, 55, 56, 57, 58, 59, 60, 61, 62, 63, 64, 65, 66, 67, 68, 69, 70, 71, 72, 73, 74, 75] (by decide +kernel) (by decide +kernel)
set_option maxRecDepth 20000 in
theorem gX12_rise_X12_isGuest : GoodIn wsX12_rise (wsV RX12 254 RX12 yX12_isGuest wsX12_isGuest) := goodIn_app (goodIn_of _ (by decide +kernel)) ggX12_rise_X12_isGuest
set_option maxRecDepth 20000 in
theorem ggX12_rise_X12_doesSit : GoodIn wsX12_rise wsX12_doesSit := goodIn_r _ [14, 2, 15, 16, 6, 17, 24, 25, 26, 27, 28, 29, 30, 31, 32, 33, 34, 35, 36, 37, 38, 39, 40, 41, 42, 43, 44, 45, 46, 47, 48, 49, 50, 51, 52, 53, 54, 55, 56, 57, 58, 59, 60, 61, 62, 63, 64, 65, 66, 67, 68, 69, 70, 71, 72, 73, 74, 75] (by decide +kernel) (by decide +kernel)
set_option maxRecDepth 20000 in
theorem gX12_rise_X12_doesSit : GoodIn wsX12_rise (wsV RX12 251 RX12 yX12_doesSit wsX12_doesSit) := goodIn_app (goodIn_of _ (by decide +kernel)) ggX12_rise_X12_doesSit
set_option maxRecDepth 20000 in
theorem ggX12_rise_X12_keep : GoodIn wsX12_rise wsX12_keep := goodIn_r _ [21, 22, 23, 2, 24, 25, 26, 27, 28, 29, 30, 31, 32, 33, 34, 35, 36, 37, 38, 39, 40, 41, 42, 43, 44, 45, 46, 47, 48, 49, 50, 51, 52, 53, 54, 55, 56, 57, 58, 59, 60, 61, 62, 63, 64, 65, 66, 67, 68, 69, 70, 71, 72, 73, 74, 75] (by decide +kernel) (by decide +kernel)
set_option maxRecDepth 20000 in
theorem gX12_rise_X12_keep : GoodIn wsX12_rise (wsV RX12 293 RX12 yX12_keep wsX12_keep) := goodIn_app (goodIn_of _ (by decide +kernel)) ggX12_rise_X12_keep
theorem dX12_rise_0 : decode cX12_rise 0 = .ok (.aload_n 0, 1) := by decide +kernel
theorem dX12_rise_1 : decode cX12_rise 1 = .ok (.iconst 0, 1) := by decide +kernel
theorem dX12_rise_2 : decode cX12_rise 2 = .ok (.putfield 1, 3) := by decide +kernel
theorem dX12_rise_5 : decode cX12_rise 5 = .ok (.aload_n 0, 1) := by decide +kernel
theorem dX12_rise_6 : decode cX12_rise 6 = .ok (.iload_n 1, 1) := by decide +kernel
theorem dX12_rise_7 : decode cX12_rise 7 = .ok (.invokevirtual 254, 3) := by decide +kernel
theorem dX12_rise_10 : decode cX12_rise 10 = .ok (.ifCond .ne 5, 3) := by decide +kernel
theorem dX12_rise_13 : decode cX12_rise 13 = .ok (.iconst (-1), 1) := by decide +kernel
theorem dX12_rise_14 : decode cX12_rise 14 = .ok (.ireturn, 1) := by decide +kernel
theorem dX12_rise_15 : decode cX12_rise 15 = .ok (.aload_n 0, 1) := by decide +kernel
theorem dX12_rise_16 : decode cX12_rise 16 = .ok (.iload_n 1, 1) := by decide +kernel
theorem dX12_rise_17 : decode cX12_rise 17 = .ok (.invokevirtual 251, 3) := by decide +kernel
theorem dX12_rise_20 : decode cX12_rise 20 = .ok (.ifCond .ne 5, 3) := by decide +kernel
theorem dX12_rise_23 : decode cX12_rise 23 = .ok (.iconst 1, 1) := by decide +kernel
theorem dX12_rise_24 : decode cX12_rise 24 = .ok (.ireturn, 1) := by decide +kernel
theorem dX12_rise_25 : decode cX12_rise 25 = .ok (.aload_n 0, 1) := by decide +kernel
theorem dX12_rise_26 : decode cX12_rise 26 = .ok (.invokevirtual 293, 3) := by decide +kernel
theorem dX12_rise_29 : decode cX12_rise 29 = .ok (.aload_n 0, 1) := by decide +kernel
theorem dX12_rise_30 : decode cX12_rise 30 = .ok (.getfield 33, 3) := by decide +kernel
theorem dX12_rise_33 : decode cX12_rise 33 = .ok (.bipush 63, 2) := by decide +kernel
theorem dX12_rise_35 : decode cX12_rise 35 = .ok (.dup2, 1) := by decide +kernel
theorem dX12_rise_36 : decode cX12_rise 36 = .ok (.iaload, 1) := by decide +kernel
theorem dX12_rise_37 : decode cX12_rise 37 = .ok (.iconst 1, 1) := by decide +kernel
theorem dX12_rise_38 : decode cX12_rise 38 = .ok (.iload_n 1, 1) := by decide +kernel
theorem dX12_rise_39 : decode cX12_rise 39 = .ok (.ishl, 1) := by decide +kernel
theorem dX12_rise_40 : decode cX12_rise 40 = .ok (.ixor, 1) := by decide +kernel
theorem dX12_rise_41 : decode cX12_rise 41 = .ok (.iastore, 1) := by decide +kernel
theorem dX12_rise_42 : decode cX12_rise 42 = .ok (.iconst 0, 1) := by decide +kernel
theorem dX12_rise_43 : decode cX12_rise 43 = .ok (.ireturn, 1) := by decide +kernel
set_option maxRecDepth 20000 in
theorem ggX12_serve_X12_isDish : GoodIn wsX12_serve wsX12_isDish := goodIn_r _ [7, 2, 8, 9, 6, 10, 20, 21, 22, 23, 24, 25, 26, 27, 28, 29, 30, 31, 32, 33, 34, 35, 36, 37, 38, 39, 40, 41, 42, 43, 44, 45, 46, 47, 48, 49, 50, 51, 52, 53, 54, 55, 56, 57, 58, 59, 60, 61, 62, 63, 64, 65, 66, 67, 68, 69, 70, 71] (by decide +kernel) (by decide +kernel)
set_option maxRecDepth 20000 in
theorem gX12_serve_X12_isDish : GoodIn wsX12_serve (wsV RX12 296 RX12 yX12_isDish wsX12_isDish) := goodIn_app (goodIn_of _ (by decide +kernel)) ggX12_serve_X12_isDish
set_option maxRecDepth 20000 in
theorem ggX12_serve_X12_bitOf : GoodIn wsX12_serve wsX12_bitOf := goodIn_r _ [13] (by decide +kernel) (by decide +kernel)
set_option maxRecDepth 20000 in
theorem gX12_serve_X12_bitOf : GoodIn wsX12_serve (va_wsS RX12 248 yX12_bitOf wsX12_bitOf) := goodIn_app (goodIn_of _ (by decide +kernel)) ggX12_serve_X12_bitOf
set_option maxRecDepth 20000 in
theorem ggX12_serve_X12_keep : GoodIn wsX12_serve wsX12_keep := goodIn_r _ [17, 18, 19, 2, 20, 21, 22, 23, 24, 25, 26, 27, 28, 29, 30, 31, 32, 33, 34, 35, 36, 37, 38, 39, 40, 41, 42, 43, 44, 45, 46, 47, 48, 49, 50, 51, 52, 53, 54, 55, 56, 57, 58, 59, 60, 61, 62, 63, 64, 65, 66, 67, 68, 69, 70, 71] (by decide +kernel) (by decide +kernel)
set_option maxRecDepth 20000 in
theorem gX12_serve_X12_keep : GoodIn wsX12_serve (wsV RX12 293 RX12 yX12_keep wsX12_keep) := goodIn_app (goodIn_of _ (by decide +kernel)) ggX12_serve_X12_keep
theorem dX12_serve_0 : decode cX12_serve 0 = .ok (.aload_n 0, 1) := by decide +kernel
theorem dX12_serve_1 : decode cX12_serve 1 = .ok (.iconst 0, 1) := by decide +kernel
theorem dX12_serve_2 : decode cX12_serve 2 = .ok (.putfield 1, 3) := by decide +kernel
theorem dX12_serve_5 : decode cX12_serve 5 = .ok (.aload_n 0, 1) := by decide +kernel
theorem dX12_serve_6 : decode cX12_serve 6 = .ok (.iload_n 1, 1) := by decide +kernel
theorem dX12_serve_7 : decode cX12_serve 7 = .ok (.invokevirtual 296, 3) := by decide +kernel
theorem dX12_serve_10 : decode cX12_serve 10 = .ok (.ifCond .ne 5, 3) := by decide +kernel
theorem dX12_serve_13 : decode cX12_serve 13 = .ok (.iconst (-1), 1) := by decide +kernel
theorem dX12_serve_14 : decode cX12_serve 14 = .ok (.ireturn, 1) := by decide +kernel
theorem dX12_serve_15 : decode cX12_serve 15 = .ok (.aload_n 0, 1) := by decide +kernel
theorem dX12_serve_16 : decode cX12_serve 16 = .ok (.getfield 33, 3) := by decide +kernel
theorem dX12_serve_19 : decode cX12_serve 19 = .ok (.bipush 45, 2) := by decide +kernel
theorem dX12_serve_21 : decode cX12_serve 21 = .ok (.iaload, 1) := by decide +kernel
theorem dX12_serve_22 : decode cX12_serve 22 = .ok (.iload_n 1, 1) := by decide +kernel
theorem dX12_serve_23 : decode cX12_serve 23 = .ok (.invokestatic 248, 3) := by decide +kernel
theorem dX12_serve_26 : decode cX12_serve 26 = .ok (.ifCond .eq 5, 3) := by decide +kernel
theorem dX12_serve_29 : decode cX12_serve 29 = .ok (.iconst 1, 1) := by decide +kernel
theorem dX12_serve_30 : decode cX12_serve 30 = .ok (.ireturn, 1) := by decide +kernel
theorem dX12_serve_31 : decode cX12_serve 31 = .ok (.aload_n 0, 1) := by decide +kernel
theorem dX12_serve_32 : decode cX12_serve 32 = .ok (.invokevirtual 293, 3) := by decide +kernel
theorem dX12_serve_35 : decode cX12_serve 35 = .ok (.aload_n 0, 1) := by decide +kernel
theorem dX12_serve_36 : decode cX12_serve 36 = .ok (.getfield 33, 3) := by decide +kernel
theorem dX12_serve_39 : decode cX12_serve 39 = .ok (.bipush 45, 2) := by decide +kernel
theorem dX12_serve_41 : decode cX12_serve 41 = .ok (.dup2, 1) := by decide +kernel
theorem dX12_serve_42 : decode cX12_serve 42 = .ok (.iaload, 1) := by decide +kernel
theorem dX12_serve_43 : decode cX12_serve 43 = .ok (.iconst 1, 1) := by decide +kernel
theorem dX12_serve_44 : decode cX12_serve 44 = .ok (.iload_n 1, 1) := by decide +kernel
theorem dX12_serve_45 : decode cX12_serve 45 = .ok (.ishl, 1) := by decide +kernel
theorem dX12_serve_46 : decode cX12_serve 46 = .ok (.ior, 1) := by decide +kernel
theorem dX12_serve_47 : decode cX12_serve 47 = .ok (.iastore, 1) := by decide +kernel
theorem dX12_serve_48 : decode cX12_serve 48 = .ok (.iconst 0, 1) := by decide +kernel
theorem dX12_serve_49 : decode cX12_serve 49 = .ok (.ireturn, 1) := by decide +kernel
set_option maxRecDepth 20000 in
theorem ggX12_turns_X12_isIn : GoodIn wsX12_turns wsX12_isIn := goodIn_r _ [5] (by decide +kernel) (by decide +kernel)
set_option maxRecDepth 20000 in
theorem gX12_turns_X12_isIn : GoodIn wsX12_turns (va_wsS RX12 182 yX12_isIn wsX12_isIn) := goodIn_app (goodIn_of _ (by decide +kernel)) ggX12_turns_X12_isIn
set_option maxRecDepth 20000 in
theorem ggX12_turns_X12_keep : GoodIn wsX12_turns wsX12_keep := goodIn_r _ [9, 10, 11, 1, 12, 13, 14, 15, 16, 17, 18, 19, 20, 21, 22, 23, 24, 25, 26, 27, 28, 29, 30, 31, 32, 33, 34, 35, 36, 37, 38, 39, 40, 41, 42, 43, 44, 45, 46, 47, 48, 49, 50, 51, 52, 53, 54, 55, 56, 57, 58, 59, 60, 61, 62, 63] (by decide +kernel) (by decide +kernel)
set_option maxRecDepth 20000 in
theorem gX12_turns_X12_keep : GoodIn wsX12_turns (wsV RX12 293 RX12 yX12_keep wsX12_keep) := goodIn_app (goodIn_of _ (by decide +kernel)) ggX12_turns_X12_keep
theorem dX12_turns_0 : decode cX12_turns 0 = .ok (.iload_n 1, 1) := by decide +kernel
theorem dX12_turns_1 : decode cX12_turns 1 = .ok (.iconst 0, 1) := by decide +kernel
theorem dX12_turns_2 : decode cX12_turns 2 = .ok (.bipush 8, 2) := by decide +kernel
theorem dX12_turns_4 : decode cX12_turns 4 = .ok (.invokestatic 182, 3) := by decide +kernel
theorem dX12_turns_7 : decode cX12_turns 7 = .ok (.ifCond .ne 5, 3) := by decide +kernel
theorem dX12_turns_10 : decode cX12_turns 10 = .ok (.iconst (-1), 1) := by decide +kernel
theorem dX12_turns_11 : decode cX12_turns 11 = .ok (.ireturn, 1) := by decide +kernel
theorem dX12_turns_12 : decode cX12_turns 12 = .ok (.iload_n 2, 1) := by decide +kernel
theorem dX12_turns_13 : decode cX12_turns 13 = .ok (.ifCond .le 5, 3) := by decide +kernel
theorem dX12_turns_16 : decode cX12_turns 16 = .ok (.iload_n 2, 1) := by decide +kernel
theorem dX12_turns_17 : decode cX12_turns 17 = .ok (.ireturn, 1) := by decide +kernel
theorem dX12_turns_18 : decode cX12_turns 18 = .ok (.aload_n 0, 1) := by decide +kernel
theorem dX12_turns_19 : decode cX12_turns 19 = .ok (.invokevirtual 293, 3) := by decide +kernel
theorem dX12_turns_22 : decode cX12_turns 22 = .ok (.aload_n 0, 1) := by decide +kernel
theorem dX12_turns_23 : decode cX12_turns 23 = .ok (.getfield 33, 3) := by decide +kernel
theorem dX12_turns_26 : decode cX12_turns 26 = .ok (.bipush 47, 2) := by decide +kernel
theorem dX12_turns_28 : decode cX12_turns 28 = .ok (.dup2, 1) := by decide +kernel
theorem dX12_turns_29 : decode cX12_turns 29 = .ok (.iaload, 1) := by decide +kernel
theorem dX12_turns_30 : decode cX12_turns 30 = .ok (.iconst 1, 1) := by decide +kernel
theorem dX12_turns_31 : decode cX12_turns 31 = .ok (.iload_n 1, 1) := by decide +kernel
theorem dX12_turns_32 : decode cX12_turns 32 = .ok (.ishl, 1) := by decide +kernel
theorem dX12_turns_33 : decode cX12_turns 33 = .ok (.ixor, 1) := by decide +kernel
theorem dX12_turns_34 : decode cX12_turns 34 = .ok (.iastore, 1) := by decide +kernel
theorem dX12_turns_35 : decode cX12_turns 35 = .ok (.iconst 0, 1) := by decide +kernel
theorem dX12_turns_36 : decode cX12_turns 36 = .ok (.ireturn, 1) := by decide +kernel
set_option maxRecDepth 20000 in
theorem ggX12_hide_X12_whyHide : GoodIn wsX12_hide wsX12_whyHide := goodIn_r _ [6, 7, 8, 9, 10, 5, 11, 12, 13, 14, 15, 16, 17, 18, 19, 20, 21, 22, 23, 24, 25, 26, 27, 28, 39, 40, 41, 42, 43, 44, 45, 46, 47, 48, 49, 50, 51, 52, 53, 54, 55, 56, 57, 58, 59, 60, 61, 62, 63, 64, 65, 66, 67, 68, 69, 70, 71, 72, 73, 74, 75, 76, 77, 78, 79, 80, 81, 82, 83, 84, 85, 86, 87, 88, 89, 90] (by decide +kernel) (by decide +kernel)
set_option maxRecDepth 20000 in
theorem gX12_hide_X12_whyHide : GoodIn wsX12_hide (wsV RX12 299 RX12 yX12_whyHide wsX12_whyHide) := goodIn_app (goodIn_of _ (by decide +kernel)) ggX12_hide_X12_whyHide
set_option maxRecDepth 20000 in
theorem ggX12_hide_X12_turns : GoodIn wsX12_hide wsX12_turns := goodIn_r _ [32, 7, 12, 13, 5, 14, 33, 34, 35, 36, 37, 38, 39, 40, 41, 42, 43, 44, 45, 46, 47, 48, 49, 50, 51, 52, 53, 54, 55, 56, 57, 58, 59, 60, 61, 62, 63, 64, 65, 66, 67, 68, 69, 70, 71, 72, 73, 74, 75, 76, 77, 78, 79, 80, 81, 82, 83, 84, 85, 86, 87, 88, 89, 90] (by decide +kernel) (by decide +kernel)
set_option maxRecDepth 20000 in
theorem gX12_hide_X12_turns : GoodIn wsX12_hide (wsV RX12 302 RX12 yX12_turns wsX12_turns) := goodIn_app (goodIn_of _ (by decide +kernel)) ggX12_hide_X12_turns
theorem dX12_hide_0 : decode cX12_hide 0 = .ok (.aload_n 0, 1) := by decide +kernel
theorem dX12_hide_1 : decode cX12_hide 1 = .ok (.iconst 0, 1) := by decide +kernel
theorem dX12_hide_2 : decode cX12_hide 2 = .ok (.putfield 1, 3) := by decide +kernel
theorem dX12_hide_5 : decode cX12_hide 5 = .ok (.aload_n 0, 1) := by decide +kernel
theorem dX12_hide_6 : decode cX12_hide 6 = .ok (.iload_n 1, 1) := by decide +kernel
theorem dX12_hide_7 : decode cX12_hide 7 = .ok (.aload_n 0, 1) := by decide +kernel
theorem dX12_hide_8 : decode cX12_hide 8 = .ok (.iload_n 1, 1) := by decide +kernel
theorem dX12_hide_9 : decode cX12_hide 9 = .ok (.invokevirtual 299, 3) := by decide +kernel
theorem dX12_hide_12 : decode cX12_hide 12 = .ok (.invokevirtual 302, 3) := by decide +kernel
theorem dX12_hide_15 : decode cX12_hide 15 = .ok (.ireturn, 1) := by decide +kernel
set_option maxRecDepth 20000 in
theorem ggX12_show_X12_whyShow : GoodIn wsX12_show wsX12_whyShow := goodIn_r _ [6, 7, 8, 9, 10, 5, 11, 12, 13, 14, 15, 16, 17, 28, 29, 30, 31, 32, 33, 34, 35, 36, 37, 38, 39, 40, 41, 42, 43, 44, 45, 46, 47, 48, 49, 50, 51, 52, 53, 54, 55, 56, 57, 58, 59, 60, 61, 62, 63, 64, 65, 66, 67, 68, 69, 70, 71, 72, 73, 74, 75, 76, 77, 78, 79] (by decide +kernel) (by decide +kernel)
set_option maxRecDepth 20000 in
theorem gX12_show_X12_whyShow : GoodIn wsX12_show (wsV RX12 305 RX12 yX12_whyShow wsX12_whyShow) := goodIn_app (goodIn_of _ (by decide +kernel)) ggX12_show_X12_whyShow
set_option maxRecDepth 20000 in
theorem ggX12_show_X12_turns : GoodIn wsX12_show wsX12_turns := goodIn_r _ [21, 7, 12, 13, 5, 14, 22, 23, 24, 25, 26, 27, 28, 29, 30, 31, 32, 33, 34, 35, 36, 37, 38, 39, 40, 41, 42, 43, 44, 45, 46, 47, 48, 49, 50, 51, 52, 53, 54, 55, 56, 57, 58, 59, 60, 61, 62, 63, 64, 65, 66, 67, 68, 69, 70, 71, 72, 73, 74, 75, 76, 77, 78, 79] (by decide +kernel) (by decide +kernel)
set_option maxRecDepth 20000 in
theorem gX12_show_X12_turns : GoodIn wsX12_show (wsV RX12 302 RX12 yX12_turns wsX12_turns) := goodIn_app (goodIn_of _ (by decide +kernel)) ggX12_show_X12_turns
theorem dX12_show_0 : decode cX12_show 0 = .ok (.aload_n 0, 1) := by decide +kernel
theorem dX12_show_1 : decode cX12_show 1 = .ok (.iconst 0, 1) := by decide +kernel
theorem dX12_show_2 : decode cX12_show 2 = .ok (.putfield 1, 3) := by decide +kernel
theorem dX12_show_5 : decode cX12_show 5 = .ok (.aload_n 0, 1) := by decide +kernel
theorem dX12_show_6 : decode cX12_show 6 = .ok (.iload_n 1, 1) := by decide +kernel
theorem dX12_show_7 : decode cX12_show 7 = .ok (.aload_n 0, 1) := by decide +kernel
theorem dX12_show_8 : decode cX12_show 8 = .ok (.iload_n 1, 1) := by decide +kernel
theorem dX12_show_9 : decode cX12_show 9 = .ok (.invokevirtual 305, 3) := by decide +kernel
theorem dX12_show_12 : decode cX12_show 12 = .ok (.invokevirtual 302, 3) := by decide +kernel
theorem dX12_show_15 : decode cX12_show 15 = .ok (.ireturn, 1) := by decide +kernel
set_option maxRecDepth 20000 in
theorem ggX12_rounds_X12_isIn : GoodIn wsX12_rounds wsX12_isIn := goodIn_r _ [6] (by decide +kernel) (by decide +kernel)
set_option maxRecDepth 20000 in
theorem gX12_rounds_X12_isIn : GoodIn wsX12_rounds (va_wsS RX12 182 yX12_isIn wsX12_isIn) := goodIn_app (goodIn_of _ (by decide +kernel)) ggX12_rounds_X12_isIn
set_option maxRecDepth 20000 in
theorem ggX12_rounds_X12_keep : GoodIn wsX12_rounds wsX12_keep := goodIn_r _ [10, 11, 12, 2, 55, 56, 57, 58, 59, 60, 61, 62, 63, 64, 65, 66, 67, 68, 69, 70, 71, 72, 73, 74, 75, 76, 77, 78, 79, 80, 81, 82, 83, 84, 85, 86, 87, 88, 89, 90, 91, 92, 93, 94, 95, 96, 97, 98, 99, 100, 101, 102, 103, 104, 105, 106] (by decide +kernel) (by decide +kernel)
set_option maxRecDepth 20000 in
theorem gX12_rounds_X12_keep : GoodIn wsX12_rounds (wsV RX12 293 RX12 yX12_keep wsX12_keep) := goodIn_app (goodIn_of _ (by decide +kernel)) ggX12_rounds_X12_keep
set_option maxRecDepth 20000 in
theorem ggX12_rounds_X12_goesOn : GoodIn wsX12_rounds wsX12_goesOn := goodIn_r _ [16, 2, 17, 18, 19, 5, 20, 21, 22, 23, 24, 25, 26, 27, 28, 29, 30, 31, 32, 33, 34, 35, 36, 37, 38, 39, 40, 41, 42, 43, 44, 45, 46, 47, 48, 49, 50, 51, 52, 53, 54, 55, 56, 57, 58, 59, 60, 61, 62, 63, 64, 65, 66, 67, 68, 69, 70, 71, 72, 73, 74, 75, 76, 77, 78, 79, 80, 81, 82, 83, 84, 85, 86, 87, 88, 89, 90, 91, 92, 93, 94, 95, 96, 97, 98, 99, 100, 101, 102, 103, 104, 105, 106] (by decide +kernel) (by decide +kernel)
set_option maxRecDepth 20000 in
theorem gX12_rounds_X12_goesOn : GoodIn wsX12_rounds (wsV RX12 308 RX12 yX12_goesOn wsX12_goesOn) := goodIn_app (goodIn_of _ (by decide +kernel)) ggX12_rounds_X12_goesOn
theorem dX12_rounds_0 : decode cX12_rounds 0 = .ok (.aload_n 0, 1) := by decide +kernel
theorem dX12_rounds_1 : decode cX12_rounds 1 = .ok (.iconst 0, 1) := by decide +kernel
theorem dX12_rounds_2 : decode cX12_rounds 2 = .ok (.putfield 1, 3) := by decide +kernel
theorem dX12_rounds_5 : decode cX12_rounds 5 = .ok (.iload_n 1, 1) := by decide +kernel
theorem dX12_rounds_6 : decode cX12_rounds 6 = .ok (.iconst 1, 1) := by decide +kernel
theorem dX12_rounds_7 : decode cX12_rounds 7 = .ok (.bipush 60, 2) := by decide +kernel
theorem dX12_rounds_9 : decode cX12_rounds 9 = .ok (.invokestatic 182, 3) := by decide +kernel
theorem dX12_rounds_12 : decode cX12_rounds 12 = .ok (.ifCond .ne 5, 3) := by decide +kernel
theorem dX12_rounds_15 : decode cX12_rounds 15 = .ok (.iconst (-1), 1) := by decide +kernel
theorem dX12_rounds_16 : decode cX12_rounds 16 = .ok (.ireturn, 1) := by decide +kernel
theorem dX12_rounds_17 : decode cX12_rounds 17 = .ok (.aload_n 0, 1) := by decide +kernel
theorem dX12_rounds_18 : decode cX12_rounds 18 = .ok (.getfield 33, 3) := by decide +kernel
theorem dX12_rounds_21 : decode cX12_rounds 21 = .ok (.bipush 44, 2) := by decide +kernel
theorem dX12_rounds_23 : decode cX12_rounds 23 = .ok (.iaload, 1) := by decide +kernel
theorem dX12_rounds_24 : decode cX12_rounds 24 = .ok (.sipush 400, 3) := by decide +kernel
theorem dX12_rounds_27 : decode cX12_rounds 27 = .ok (.if_icmp .ne 5, 3) := by decide +kernel
theorem dX12_rounds_30 : decode cX12_rounds 30 = .ok (.iconst 0, 1) := by decide +kernel
theorem dX12_rounds_31 : decode cX12_rounds 31 = .ok (.ireturn, 1) := by decide +kernel
theorem dX12_rounds_32 : decode cX12_rounds 32 = .ok (.aload_n 0, 1) := by decide +kernel
theorem dX12_rounds_33 : decode cX12_rounds 33 = .ok (.invokevirtual 293, 3) := by decide +kernel
theorem dX12_rounds_36 : decode cX12_rounds 36 = .ok (.aload_n 0, 1) := by decide +kernel
theorem dX12_rounds_37 : decode cX12_rounds 37 = .ok (.iload_n 1, 1) := by decide +kernel
theorem dX12_rounds_38 : decode cX12_rounds 38 = .ok (.invokevirtual 308, 3) := by decide +kernel
theorem dX12_rounds_41 : decode cX12_rounds 41 = .ok (.ireturn, 1) := by decide +kernel
theorem dX12_keep_0 : decode cX12_keep 0 = .ok (.aload_n 0, 1) := by decide +kernel
theorem dX12_keep_1 : decode cX12_keep 1 = .ok (.getfield 245, 3) := by decide +kernel
theorem dX12_keep_4 : decode cX12_keep 4 = .ok (.bipush 8, 2) := by decide +kernel
theorem dX12_keep_6 : decode cX12_keep 6 = .ok (.if_icmp .ne 39, 3) := by decide +kernel
theorem dX12_keep_9 : decode cX12_keep 9 = .ok (.iconst 0, 1) := by decide +kernel
theorem dX12_keep_10 : decode cX12_keep 10 = .ok (.istore_n 1, 1) := by decide +kernel
theorem dX12_keep_11 : decode cX12_keep 11 = .ok (.iload_n 1, 1) := by decide +kernel
theorem dX12_keep_12 : decode cX12_keep 12 = .ok (.sipush 336, 3) := by decide +kernel
theorem dX12_keep_15 : decode cX12_keep 15 = .ok (.if_icmp .ge 24, 3) := by decide +kernel
theorem dX12_keep_18 : decode cX12_keep 18 = .ok (.aload_n 0, 1) := by decide +kernel
theorem dX12_keep_19 : decode cX12_keep 19 = .ok (.getfield 50, 3) := by decide +kernel
theorem dX12_keep_22 : decode cX12_keep 22 = .ok (.iload_n 1, 1) := by decide +kernel
theorem dX12_keep_23 : decode cX12_keep 23 = .ok (.aload_n 0, 1) := by decide +kernel
theorem dX12_keep_24 : decode cX12_keep 24 = .ok (.getfield 50, 3) := by decide +kernel
theorem dX12_keep_27 : decode cX12_keep 27 = .ok (.iload_n 1, 1) := by decide +kernel
theorem dX12_keep_28 : decode cX12_keep 28 = .ok (.bipush 48, 2) := by decide +kernel
theorem dX12_keep_30 : decode cX12_keep 30 = .ok (.iadd, 1) := by decide +kernel
theorem dX12_keep_31 : decode cX12_keep 31 = .ok (.iaload, 1) := by decide +kernel
theorem dX12_keep_32 : decode cX12_keep 32 = .ok (.iastore, 1) := by decide +kernel
theorem dX12_keep_33 : decode cX12_keep 33 = .ok (.iinc 1 1, 3) := by decide +kernel
theorem dX12_keep_36 : decode cX12_keep 36 = .ok (.goto (-25), 3) := by decide +kernel
theorem dX12_keep_39 : decode cX12_keep 39 = .ok (.aload_n 0, 1) := by decide +kernel
theorem dX12_keep_40 : decode cX12_keep 40 = .ok (.bipush 7, 2) := by decide +kernel
theorem dX12_keep_42 : decode cX12_keep 42 = .ok (.putfield 245, 3) := by decide +kernel
theorem dX12_keep_45 : decode cX12_keep 45 = .ok (.iconst 0, 1) := by decide +kernel
theorem dX12_keep_46 : decode cX12_keep 46 = .ok (.istore_n 1, 1) := by decide +kernel
theorem dX12_keep_47 : decode cX12_keep 47 = .ok (.iload_n 1, 1) := by decide +kernel
theorem dX12_keep_48 : decode cX12_keep 48 = .ok (.bipush 48, 2) := by decide +kernel
theorem dX12_keep_50 : decode cX12_keep 50 = .ok (.if_icmp .ge 32, 3) := by decide +kernel
theorem dX12_keep_53 : decode cX12_keep 53 = .ok (.aload_n 0, 1) := by decide +kernel
theorem dX12_keep_54 : decode cX12_keep 54 = .ok (.getfield 50, 3) := by decide +kernel
theorem dX12_keep_57 : decode cX12_keep 57 = .ok (.bipush 48, 2) := by decide +kernel
theorem dX12_keep_59 : decode cX12_keep 59 = .ok (.aload_n 0, 1) := by decide +kernel
theorem dX12_keep_60 : decode cX12_keep 60 = .ok (.getfield 245, 3) := by decide +kernel
theorem dX12_keep_63 : decode cX12_keep 63 = .ok (.imul, 1) := by decide +kernel
theorem dX12_keep_64 : decode cX12_keep 64 = .ok (.iload_n 1, 1) := by decide +kernel
theorem dX12_keep_65 : decode cX12_keep 65 = .ok (.iadd, 1) := by decide +kernel
theorem dX12_keep_66 : decode cX12_keep 66 = .ok (.aload_n 0, 1) := by decide +kernel
theorem dX12_keep_67 : decode cX12_keep 67 = .ok (.getfield 33, 3) := by decide +kernel
theorem dX12_keep_70 : decode cX12_keep 70 = .ok (.bipush 44, 2) := by decide +kernel
theorem dX12_keep_72 : decode cX12_keep 72 = .ok (.iload_n 1, 1) := by decide +kernel
theorem dX12_keep_73 : decode cX12_keep 73 = .ok (.iadd, 1) := by decide +kernel
theorem dX12_keep_74 : decode cX12_keep 74 = .ok (.iaload, 1) := by decide +kernel
theorem dX12_keep_75 : decode cX12_keep 75 = .ok (.iastore, 1) := by decide +kernel
theorem dX12_keep_76 : decode cX12_keep 76 = .ok (.iinc 1 1, 3) := by decide +kernel
theorem dX12_keep_79 : decode cX12_keep 79 = .ok (.goto (-32), 3) := by decide +kernel
theorem dX12_keep_82 : decode cX12_keep 82 = .ok (.aload_n 0, 1) := by decide +kernel
theorem dX12_keep_83 : decode cX12_keep 83 = .ok (.dup, 1) := by decide +kernel
theorem dX12_keep_84 : decode cX12_keep 84 = .ok (.getfield 245, 3) := by decide +kernel
theorem dX12_keep_87 : decode cX12_keep 87 = .ok (.iconst 1, 1) := by decide +kernel
theorem dX12_keep_88 : decode cX12_keep 88 = .ok (.iadd, 1) := by decide +kernel
theorem dX12_keep_89 : decode cX12_keep 89 = .ok (.putfield 245, 3) := by decide +kernel
theorem dX12_keep_92 : decode cX12_keep 92 = .ok (.return_, 1) := by decide +kernel
theorem dX12_undo_0 : decode cX12_undo 0 = .ok (.aload_n 0, 1) := by decide +kernel
theorem dX12_undo_1 : decode cX12_undo 1 = .ok (.iconst 0, 1) := by decide +kernel
theorem dX12_undo_2 : decode cX12_undo 2 = .ok (.putfield 1, 3) := by decide +kernel
theorem dX12_undo_5 : decode cX12_undo 5 = .ok (.aload_n 0, 1) := by decide +kernel
theorem dX12_undo_6 : decode cX12_undo 6 = .ok (.getfield 245, 3) := by decide +kernel
theorem dX12_undo_9 : decode cX12_undo 9 = .ok (.ifCond .ne 5, 3) := by decide +kernel
theorem dX12_undo_12 : decode cX12_undo 12 = .ok (.iconst (-1), 1) := by decide +kernel
theorem dX12_undo_13 : decode cX12_undo 13 = .ok (.ireturn, 1) := by decide +kernel
theorem dX12_undo_14 : decode cX12_undo 14 = .ok (.aload_n 0, 1) := by decide +kernel
theorem dX12_undo_15 : decode cX12_undo 15 = .ok (.dup, 1) := by decide +kernel
theorem dX12_undo_16 : decode cX12_undo 16 = .ok (.getfield 245, 3) := by decide +kernel
theorem dX12_undo_19 : decode cX12_undo 19 = .ok (.iconst 1, 1) := by decide +kernel
theorem dX12_undo_20 : decode cX12_undo 20 = .ok (.isub, 1) := by decide +kernel
theorem dX12_undo_21 : decode cX12_undo 21 = .ok (.putfield 245, 3) := by decide +kernel
theorem dX12_undo_24 : decode cX12_undo 24 = .ok (.iconst 0, 1) := by decide +kernel
theorem dX12_undo_25 : decode cX12_undo 25 = .ok (.istore_n 1, 1) := by decide +kernel
theorem dX12_undo_26 : decode cX12_undo 26 = .ok (.iload_n 1, 1) := by decide +kernel
theorem dX12_undo_27 : decode cX12_undo 27 = .ok (.bipush 48, 2) := by decide +kernel
theorem dX12_undo_29 : decode cX12_undo 29 = .ok (.if_icmp .ge 32, 3) := by decide +kernel
theorem dX12_undo_32 : decode cX12_undo 32 = .ok (.aload_n 0, 1) := by decide +kernel
theorem dX12_undo_33 : decode cX12_undo 33 = .ok (.getfield 33, 3) := by decide +kernel
theorem dX12_undo_36 : decode cX12_undo 36 = .ok (.bipush 44, 2) := by decide +kernel
theorem dX12_undo_38 : decode cX12_undo 38 = .ok (.iload_n 1, 1) := by decide +kernel
theorem dX12_undo_39 : decode cX12_undo 39 = .ok (.iadd, 1) := by decide +kernel
theorem dX12_undo_40 : decode cX12_undo 40 = .ok (.aload_n 0, 1) := by decide +kernel
theorem dX12_undo_41 : decode cX12_undo 41 = .ok (.getfield 50, 3) := by decide +kernel
theorem dX12_undo_44 : decode cX12_undo 44 = .ok (.bipush 48, 2) := by decide +kernel
theorem dX12_undo_46 : decode cX12_undo 46 = .ok (.aload_n 0, 1) := by decide +kernel
theorem dX12_undo_47 : decode cX12_undo 47 = .ok (.getfield 245, 3) := by decide +kernel
theorem dX12_undo_50 : decode cX12_undo 50 = .ok (.imul, 1) := by decide +kernel
theorem dX12_undo_51 : decode cX12_undo 51 = .ok (.iload_n 1, 1) := by decide +kernel
theorem dX12_undo_52 : decode cX12_undo 52 = .ok (.iadd, 1) := by decide +kernel
theorem dX12_undo_53 : decode cX12_undo 53 = .ok (.iaload, 1) := by decide +kernel
theorem dX12_undo_54 : decode cX12_undo 54 = .ok (.iastore, 1) := by decide +kernel
theorem dX12_undo_55 : decode cX12_undo 55 = .ok (.iinc 1 1, 3) := by decide +kernel
theorem dX12_undo_58 : decode cX12_undo 58 = .ok (.goto (-32), 3) := by decide +kernel
theorem dX12_undo_61 : decode cX12_undo 61 = .ok (.aload_n 0, 1) := by decide +kernel
theorem dX12_undo_62 : decode cX12_undo 62 = .ok (.getfield 245, 3) := by decide +kernel
theorem dX12_undo_65 : decode cX12_undo 65 = .ok (.ireturn, 1) := by decide +kernel
theorem dX12_tries_0 : decode cX12_tries 0 = .ok (.iconst 0, 1) := by decide +kernel
theorem dX12_tries_1 : decode cX12_tries 1 = .ok (.istore_n 1, 1) := by decide +kernel
theorem dX12_tries_2 : decode cX12_tries 2 = .ok (.iload_n 1, 1) := by decide +kernel
theorem dX12_tries_3 : decode cX12_tries 3 = .ok (.bipush 48, 2) := by decide +kernel
theorem dX12_tries_5 : decode cX12_tries 5 = .ok (.if_icmp .ge 24, 3) := by decide +kernel
theorem dX12_tries_8 : decode cX12_tries 8 = .ok (.aload_n 0, 1) := by decide +kernel
theorem dX12_tries_9 : decode cX12_tries 9 = .ok (.getfield 53, 3) := by decide +kernel
theorem dX12_tries_12 : decode cX12_tries 12 = .ok (.iload_n 1, 1) := by decide +kernel
theorem dX12_tries_13 : decode cX12_tries 13 = .ok (.aload_n 0, 1) := by decide +kernel
theorem dX12_tries_14 : decode cX12_tries 14 = .ok (.getfield 33, 3) := by decide +kernel
theorem dX12_tries_17 : decode cX12_tries 17 = .ok (.bipush 44, 2) := by decide +kernel
theorem dX12_tries_19 : decode cX12_tries 19 = .ok (.iload_n 1, 1) := by decide +kernel
theorem dX12_tries_20 : decode cX12_tries 20 = .ok (.iadd, 1) := by decide +kernel
theorem dX12_tries_21 : decode cX12_tries 21 = .ok (.iaload, 1) := by decide +kernel
theorem dX12_tries_22 : decode cX12_tries 22 = .ok (.iastore, 1) := by decide +kernel
theorem dX12_tries_23 : decode cX12_tries 23 = .ok (.iinc 1 1, 3) := by decide +kernel
theorem dX12_tries_26 : decode cX12_tries 26 = .ok (.goto (-24), 3) := by decide +kernel
theorem dX12_tries_29 : decode cX12_tries 29 = .ok (.return_, 1) := by decide +kernel
theorem dX12_back_0 : decode cX12_back 0 = .ok (.iconst 0, 1) := by decide +kernel
theorem dX12_back_1 : decode cX12_back 1 = .ok (.istore_n 1, 1) := by decide +kernel
theorem dX12_back_2 : decode cX12_back 2 = .ok (.iload_n 1, 1) := by decide +kernel
theorem dX12_back_3 : decode cX12_back 3 = .ok (.bipush 48, 2) := by decide +kernel
theorem dX12_back_5 : decode cX12_back 5 = .ok (.if_icmp .ge 24, 3) := by decide +kernel
theorem dX12_back_8 : decode cX12_back 8 = .ok (.aload_n 0, 1) := by decide +kernel
theorem dX12_back_9 : decode cX12_back 9 = .ok (.getfield 33, 3) := by decide +kernel
theorem dX12_back_12 : decode cX12_back 12 = .ok (.bipush 44, 2) := by decide +kernel
theorem dX12_back_14 : decode cX12_back 14 = .ok (.iload_n 1, 1) := by decide +kernel
theorem dX12_back_15 : decode cX12_back 15 = .ok (.iadd, 1) := by decide +kernel
theorem dX12_back_16 : decode cX12_back 16 = .ok (.aload_n 0, 1) := by decide +kernel
theorem dX12_back_17 : decode cX12_back 17 = .ok (.getfield 53, 3) := by decide +kernel
theorem dX12_back_20 : decode cX12_back 20 = .ok (.iload_n 1, 1) := by decide +kernel
theorem dX12_back_21 : decode cX12_back 21 = .ok (.iaload, 1) := by decide +kernel
theorem dX12_back_22 : decode cX12_back 22 = .ok (.iastore, 1) := by decide +kernel
theorem dX12_back_23 : decode cX12_back 23 = .ok (.iinc 1 1, 3) := by decide +kernel
theorem dX12_back_26 : decode cX12_back 26 = .ok (.goto (-24), 3) := by decide +kernel
theorem dX12_back_29 : decode cX12_back 29 = .ok (.return_, 1) := by decide +kernel
set_option maxRecDepth 20000 in
theorem ggX12_hostNext_X12_round : GoodIn wsX12_hostNext wsX12_round := goodIn_r _ [7, 2, 8, 9, 10, 6, 11, 12, 13, 14, 15, 16, 17, 18, 19, 20, 21, 22, 23, 24, 25, 26, 27, 28, 29, 30, 31, 32, 33, 34, 35, 36, 37, 38, 39, 40, 41, 42, 43, 44, 45, 46, 47, 48, 49, 50, 51, 52, 53, 54, 55, 56, 57, 58, 59, 60, 61, 62, 63, 64, 65, 66, 67, 68, 69, 70, 71, 72, 73, 74, 75, 76, 77, 78, 79, 80, 81, 82, 83, 84, 85, 86, 87, 88, 89, 90, 91, 92, 93] (by decide +kernel) (by decide +kernel)
set_option maxRecDepth 20000 in
theorem gX12_hostNext_X12_round : GoodIn wsX12_hostNext (wsV RX12 290 RX12 yX12_round wsX12_round) := goodIn_app (goodIn_of _ (by decide +kernel)) ggX12_hostNext_X12_round
theorem dX12_hostNext_0 : decode cX12_hostNext 0 = .ok (.aload_n 0, 1) := by decide +kernel
theorem dX12_hostNext_1 : decode cX12_hostNext 1 = .ok (.iconst 1, 1) := by decide +kernel
theorem dX12_hostNext_2 : decode cX12_hostNext 2 = .ok (.putfield 311, 3) := by decide +kernel
theorem dX12_hostNext_5 : decode cX12_hostNext 5 = .ok (.aload_n 0, 1) := by decide +kernel
theorem dX12_hostNext_6 : decode cX12_hostNext 6 = .ok (.getfield 311, 3) := by decide +kernel
theorem dX12_hostNext_9 : decode cX12_hostNext 9 = .ok (.bipush 99, 2) := by decide +kernel
theorem dX12_hostNext_11 : decode cX12_hostNext 11 = .ok (.if_icmp .gt 47, 3) := by decide +kernel
theorem dX12_hostNext_14 : decode cX12_hostNext 14 = .ok (.aload_n 0, 1) := by decide +kernel
theorem dX12_hostNext_15 : decode cX12_hostNext 15 = .ok (.getfield 33, 3) := by decide +kernel
theorem dX12_hostNext_18 : decode cX12_hostNext 18 = .ok (.bipush 44, 2) := by decide +kernel
theorem dX12_hostNext_20 : decode cX12_hostNext 20 = .ok (.iaload, 1) := by decide +kernel
theorem dX12_hostNext_21 : decode cX12_hostNext 21 = .ok (.sipush 400, 3) := by decide +kernel
theorem dX12_hostNext_24 : decode cX12_hostNext 24 = .ok (.if_icmp .ge 34, 3) := by decide +kernel
theorem dX12_hostNext_27 : decode cX12_hostNext 27 = .ok (.aload_n 0, 1) := by decide +kernel
theorem dX12_hostNext_28 : decode cX12_hostNext 28 = .ok (.iconst (-1), 1) := by decide +kernel
theorem dX12_hostNext_29 : decode cX12_hostNext 29 = .ok (.invokevirtual 290, 3) := by decide +kernel
theorem dX12_hostNext_32 : decode cX12_hostNext 32 = .ok (.ifCond .eq 13, 3) := by decide +kernel
theorem dX12_hostNext_35 : decode cX12_hostNext 35 = .ok (.aload_n 0, 1) := by decide +kernel
theorem dX12_hostNext_36 : decode cX12_hostNext 36 = .ok (.getfield 33, 3) := by decide +kernel
theorem dX12_hostNext_39 : decode cX12_hostNext 39 = .ok (.bipush 48, 2) := by decide +kernel
theorem dX12_hostNext_41 : decode cX12_hostNext 41 = .ok (.iaload, 1) := by decide +kernel
theorem dX12_hostNext_42 : decode cX12_hostNext 42 = .ok (.iconst 1, 1) := by decide +kernel
theorem dX12_hostNext_43 : decode cX12_hostNext 43 = .ok (.isub, 1) := by decide +kernel
theorem dX12_hostNext_44 : decode cX12_hostNext 44 = .ok (.ireturn, 1) := by decide +kernel
theorem dX12_hostNext_45 : decode cX12_hostNext 45 = .ok (.aload_n 0, 1) := by decide +kernel
theorem dX12_hostNext_46 : decode cX12_hostNext 46 = .ok (.dup, 1) := by decide +kernel
theorem dX12_hostNext_47 : decode cX12_hostNext 47 = .ok (.getfield 311, 3) := by decide +kernel
theorem dX12_hostNext_50 : decode cX12_hostNext 50 = .ok (.iconst 1, 1) := by decide +kernel
theorem dX12_hostNext_51 : decode cX12_hostNext 51 = .ok (.iadd, 1) := by decide +kernel
theorem dX12_hostNext_52 : decode cX12_hostNext 52 = .ok (.putfield 311, 3) := by decide +kernel
theorem dX12_hostNext_55 : decode cX12_hostNext 55 = .ok (.goto (-50), 3) := by decide +kernel
theorem dX12_hostNext_58 : decode cX12_hostNext 58 = .ok (.iconst (-1), 1) := by decide +kernel
theorem dX12_hostNext_59 : decode cX12_hostNext 59 = .ok (.ireturn, 1) := by decide +kernel
set_option maxRecDepth 20000 in
theorem ggX12_next_X12_tries : GoodIn wsX12_next wsX12_tries := goodIn_r _ [8, 9, 10, 57, 58, 59, 60, 61, 62, 63, 64, 65, 66, 67, 68, 69, 70, 71, 72, 73, 74, 75, 76, 77, 78, 79, 80, 81, 82, 83, 84, 85, 86, 87, 88, 89, 90, 91, 92, 93, 94, 95, 96, 97, 98, 99, 100, 101, 102, 103, 104, 105, 106, 107, 108] (by decide +kernel) (by decide +kernel)
set_option maxRecDepth 20000 in
theorem gX12_next_X12_tries : GoodIn wsX12_next (wsV RX12 314 RX12 yX12_tries wsX12_tries) := goodIn_app (goodIn_of _ (by decide +kernel)) ggX12_next_X12_tries
set_option maxRecDepth 20000 in
theorem ggX12_next_X12_hostNext : GoodIn wsX12_next wsX12_hostNext := goodIn_r _ [14, 2, 10, 15, 16, 17, 7, 18, 19, 20, 21, 22, 23, 24, 25, 26, 27, 28, 29, 30, 31, 32, 33, 34, 35, 36, 37, 38, 39, 40, 41, 42, 43, 44, 45, 46, 47, 48, 49, 50, 51, 52, 57, 58, 59, 60, 61, 62, 63, 64, 65, 66, 67, 68, 69, 70, 71, 72, 73, 74, 75, 76, 77, 78, 79, 80, 81, 82, 83, 84, 85, 86, 87, 88, 89, 90, 91, 92, 93, 94, 95, 96, 97, 98, 99, 100, 101, 102, 103, 104, 105, 106, 107, 108] (by decide +kernel) (by decide +kernel)
set_option maxRecDepth 20000 in
theorem gX12_next_X12_hostNext : GoodIn wsX12_next (wsV RX12 317 RX12 yX12_hostNext wsX12_hostNext) := goodIn_app (goodIn_of _ (by decide +kernel)) ggX12_next_X12_hostNext
set_option maxRecDepth 20000 in
theorem ggX12_next_X12_back : GoodIn wsX12_next wsX12_back := goodIn_r _ [56, 10, 9, 57, 58, 59, 60, 61, 62, 63, 64, 65, 66, 67, 68, 69, 70, 71, 72, 73, 74, 75, 76, 77, 78, 79, 80, 81, 82, 83, 84, 85, 86, 87, 88, 89, 90, 91, 92, 93, 94, 95, 96, 97, 98, 99, 100, 101, 102, 103, 104, 105, 106, 107, 108] (by decide +kernel) (by decide +kernel)
set_option maxRecDepth 20000 in
theorem gX12_next_X12_back : GoodIn wsX12_next (wsV RX12 320 RX12 yX12_back wsX12_back) := goodIn_app (goodIn_of _ (by decide +kernel)) ggX12_next_X12_back
theorem dX12_next_0 : decode cX12_next 0 = .ok (.aload_n 0, 1) := by decide +kernel
theorem dX12_next_1 : decode cX12_next 1 = .ok (.iconst 0, 1) := by decide +kernel
theorem dX12_next_2 : decode cX12_next 2 = .ok (.putfield 1, 3) := by decide +kernel
theorem dX12_next_5 : decode cX12_next 5 = .ok (.aload_n 0, 1) := by decide +kernel
theorem dX12_next_6 : decode cX12_next 6 = .ok (.invokevirtual 314, 3) := by decide +kernel
theorem dX12_next_9 : decode cX12_next 9 = .ok (.aload_n 0, 1) := by decide +kernel
theorem dX12_next_10 : decode cX12_next 10 = .ok (.invokevirtual 317, 3) := by decide +kernel
theorem dX12_next_13 : decode cX12_next 13 = .ok (.istore_n 1, 1) := by decide +kernel
theorem dX12_next_14 : decode cX12_next 14 = .ok (.aload_n 0, 1) := by decide +kernel
theorem dX12_next_15 : decode cX12_next 15 = .ok (.invokevirtual 320, 3) := by decide +kernel
theorem dX12_next_18 : decode cX12_next 18 = .ok (.iload_n 1, 1) := by decide +kernel
theorem dX12_next_19 : decode cX12_next 19 = .ok (.ifCond .lt 11, 3) := by decide +kernel
theorem dX12_next_22 : decode cX12_next 22 = .ok (.aload_n 0, 1) := by decide +kernel
theorem dX12_next_23 : decode cX12_next 23 = .ok (.aload_n 0, 1) := by decide +kernel
theorem dX12_next_24 : decode cX12_next 24 = .ok (.getfield 311, 3) := by decide +kernel
theorem dX12_next_27 : decode cX12_next 27 = .ok (.putfield 56, 3) := by decide +kernel
theorem dX12_next_30 : decode cX12_next 30 = .ok (.iload_n 1, 1) := by decide +kernel
theorem dX12_next_31 : decode cX12_next 31 = .ok (.ireturn, 1) := by decide +kernel
theorem dX12_nextIn_0 : decode cX12_nextIn 0 = .ok (.aload_n 0, 1) := by decide +kernel
theorem dX12_nextIn_1 : decode cX12_nextIn 1 = .ok (.iconst 0, 1) := by decide +kernel
theorem dX12_nextIn_2 : decode cX12_nextIn 2 = .ok (.putfield 1, 3) := by decide +kernel
theorem dX12_nextIn_5 : decode cX12_nextIn 5 = .ok (.aload_n 0, 1) := by decide +kernel
theorem dX12_nextIn_6 : decode cX12_nextIn 6 = .ok (.getfield 56, 3) := by decide +kernel
theorem dX12_nextIn_9 : decode cX12_nextIn 9 = .ok (.ireturn, 1) := by decide +kernel
set_option maxRecDepth 20000 in
theorem ggX12_linger_X12_isGuest : GoodIn wsX12_linger wsX12_isGuest := goodIn_r _ [6, 7, 8, 9, 5, 10, 58, 59, 60, 61, 62, 63, 64, 65, 66, 67, 68, 69, 70, 71, 72, 73, 74, 75, 76, 77, 78, 79, 80, 81, 82, 83, 84, 85, 86, 87, 88, 89, 90, 91, 92, 93, 94, 95, 96, 97, 98, 99, 100, 101, 102, 103, 104, 105, 106, 107, 108, 109] (by decide +kernel) (by decide +kernel)
set_option maxRecDepth 20000 in
theorem gX12_linger_X12_isGuest : GoodIn wsX12_linger (wsV RX12 254 RX12 yX12_isGuest wsX12_isGuest) := goodIn_app (goodIn_of _ (by decide +kernel)) ggX12_linger_X12_isGuest
set_option maxRecDepth 20000 in
theorem ggX12_linger_X12_doesSit : GoodIn wsX12_linger wsX12_doesSit := goodIn_r _ [14, 7, 15, 16, 5, 17, 58, 59, 60, 61, 62, 63, 64, 65, 66, 67, 68, 69, 70, 71, 72, 73, 74, 75, 76, 77, 78, 79, 80, 81, 82, 83, 84, 85, 86, 87, 88, 89, 90, 91, 92, 93, 94, 95, 96, 97, 98, 99, 100, 101, 102, 103, 104, 105, 106, 107, 108, 109] (by decide +kernel) (by decide +kernel)
set_option maxRecDepth 20000 in
theorem gX12_linger_X12_doesSit : GoodIn wsX12_linger (wsV RX12 251 RX12 yX12_doesSit wsX12_doesSit) := goodIn_app (goodIn_of _ (by decide +kernel)) ggX12_linger_X12_doesSit
set_option maxRecDepth 20000 in
theorem ggX12_linger_X12_tries : GoodIn wsX12_linger wsX12_tries := goodIn_r _ [21, 22, 7, 58, 59, 60, 61, 62, 63, 64, 65, 66, 67, 68, 69, 70, 71, 72, 73, 74, 75, 76, 77, 78, 79, 80, 81, 82, 83, 84, 85, 86, 87, 88, 89, 90, 91, 92, 93, 94, 95, 96, 97, 98, 99, 100, 101, 102, 103, 104, 105, 106, 107, 108, 109] (by decide +kernel) (by decide +kernel)
set_option maxRecDepth 20000 in
theorem gX12_linger_X12_tries : GoodIn wsX12_linger (wsV RX12 314 RX12 yX12_tries wsX12_tries) := goodIn_app (goodIn_of _ (by decide +kernel)) ggX12_linger_X12_tries
set_option maxRecDepth 20000 in
theorem ggX12_linger_X12_whySit : GoodIn wsX12_linger wsX12_whySit := goodIn_r _ [26, 7, 11, 12, 13, 5, 14, 15, 16, 17, 27, 28, 29, 30, 58, 59, 60, 61, 62, 63, 64, 65, 66, 67, 68, 69, 70, 71, 72, 73, 74, 75, 76, 77, 78, 79, 80, 81, 82, 83, 84, 85, 86, 87, 88, 89, 90, 91, 92, 93, 94, 95, 96, 97, 98, 99, 100, 101, 102, 103, 104, 105, 106, 107, 108, 109] (by decide +kernel) (by decide +kernel)
set_option maxRecDepth 20000 in
theorem gX12_linger_X12_whySit : GoodIn wsX12_linger (wsV RX12 284 RX12 yX12_whySit wsX12_whySit) := goodIn_app (goodIn_of _ (by decide +kernel)) ggX12_linger_X12_whySit
set_option maxRecDepth 20000 in
theorem ggX12_linger_X12_round : GoodIn wsX12_linger wsX12_round := goodIn_r _ [34, 7, 11, 12, 13, 5, 14, 15, 16, 17, 35, 36, 37, 23, 24, 25, 26, 27, 28, 29, 30, 38, 39, 40, 41, 42, 43, 44, 45, 46, 47, 48, 49, 50, 51, 52, 53, 58, 59, 60, 61, 62, 63, 64, 65, 66, 67, 68, 69, 70, 71, 72, 73, 74, 75, 76, 77, 78, 79, 80, 81, 82, 83, 84, 85, 86, 87, 88, 89, 90, 91, 92, 93, 94, 95, 96, 97, 98, 99, 100, 101, 102, 103, 104, 105, 106, 107, 108, 109] (by decide +kernel) (by decide +kernel)
set_option maxRecDepth 20000 in
theorem gX12_linger_X12_round : GoodIn wsX12_linger (wsV RX12 290 RX12 yX12_round wsX12_round) := goodIn_app (goodIn_of _ (by decide +kernel)) ggX12_linger_X12_round
set_option maxRecDepth 20000 in
theorem ggX12_linger_X12_back : GoodIn wsX12_linger wsX12_back := goodIn_r _ [57, 7, 22, 58, 59, 60, 61, 62, 63, 64, 65, 66, 67, 68, 69, 70, 71, 72, 73, 74, 75, 76, 77, 78, 79, 80, 81, 82, 83, 84, 85, 86, 87, 88, 89, 90, 91, 92, 93, 94, 95, 96, 97, 98, 99, 100, 101, 102, 103, 104, 105, 106, 107, 108, 109] (by decide +kernel) (by decide +kernel)
set_option maxRecDepth 20000 in
theorem gX12_linger_X12_back : GoodIn wsX12_linger (wsV RX12 320 RX12 yX12_back wsX12_back) := goodIn_app (goodIn_of _ (by decide +kernel)) ggX12_linger_X12_back
theorem dX12_linger_0 : decode cX12_linger 0 = .ok (.aload_n 0, 1) := by decide +kernel
theorem dX12_linger_1 : decode cX12_linger 1 = .ok (.iconst 0, 1) := by decide +kernel
theorem dX12_linger_2 : decode cX12_linger 2 = .ok (.putfield 1, 3) := by decide +kernel
theorem dX12_linger_5 : decode cX12_linger 5 = .ok (.aload_n 0, 1) := by decide +kernel
theorem dX12_linger_6 : decode cX12_linger 6 = .ok (.iload_n 1, 1) := by decide +kernel
theorem dX12_linger_7 : decode cX12_linger 7 = .ok (.invokevirtual 254, 3) := by decide +kernel
theorem dX12_linger_10 : decode cX12_linger 10 = .ok (.ifCond .eq 11, 3) := by decide +kernel
theorem dX12_linger_13 : decode cX12_linger 13 = .ok (.aload_n 0, 1) := by decide +kernel
theorem dX12_linger_14 : decode cX12_linger 14 = .ok (.iload_n 1, 1) := by decide +kernel
theorem dX12_linger_15 : decode cX12_linger 15 = .ok (.invokevirtual 251, 3) := by decide +kernel
theorem dX12_linger_18 : decode cX12_linger 18 = .ok (.ifCond .eq 5, 3) := by decide +kernel
theorem dX12_linger_21 : decode cX12_linger 21 = .ok (.iconst (-1), 1) := by decide +kernel
theorem dX12_linger_22 : decode cX12_linger 22 = .ok (.ireturn, 1) := by decide +kernel
theorem dX12_linger_23 : decode cX12_linger 23 = .ok (.aload_n 0, 1) := by decide +kernel
theorem dX12_linger_24 : decode cX12_linger 24 = .ok (.invokevirtual 314, 3) := by decide +kernel
theorem dX12_linger_27 : decode cX12_linger 27 = .ok (.iconst (-1), 1) := by decide +kernel
theorem dX12_linger_28 : decode cX12_linger 28 = .ok (.istore_n 2, 1) := by decide +kernel
theorem dX12_linger_29 : decode cX12_linger 29 = .ok (.iconst 0, 1) := by decide +kernel
theorem dX12_linger_30 : decode cX12_linger 30 = .ok (.istore_n 3, 1) := by decide +kernel
theorem dX12_linger_31 : decode cX12_linger 31 = .ok (.iconst 0, 1) := by decide +kernel
theorem dX12_linger_32 : decode cX12_linger 32 = .ok (.istore 4, 2) := by decide +kernel
theorem dX12_linger_34 : decode cX12_linger 34 = .ok (.iload 4, 2) := by decide +kernel
theorem dX12_linger_36 : decode cX12_linger 36 = .ok (.bipush 20, 2) := by decide +kernel
theorem dX12_linger_38 : decode cX12_linger 38 = .ok (.if_icmp .gt 30, 3) := by decide +kernel
theorem dX12_linger_41 : decode cX12_linger 41 = .ok (.iload_n 3, 1) := by decide +kernel
theorem dX12_linger_42 : decode cX12_linger 42 = .ok (.ifCond .ne 26, 3) := by decide +kernel
theorem dX12_linger_45 : decode cX12_linger 45 = .ok (.aload_n 0, 1) := by decide +kernel
theorem dX12_linger_46 : decode cX12_linger 46 = .ok (.iload_n 1, 1) := by decide +kernel
theorem dX12_linger_47 : decode cX12_linger 47 = .ok (.invokevirtual 284, 3) := by decide +kernel
theorem dX12_linger_50 : decode cX12_linger 50 = .ok (.ifCond .ne 6, 3) := by decide +kernel
theorem dX12_linger_53 : decode cX12_linger 53 = .ok (.iload 4, 2) := by decide +kernel
theorem dX12_linger_55 : decode cX12_linger 55 = .ok (.istore_n 2, 1) := by decide +kernel
theorem dX12_linger_56 : decode cX12_linger 56 = .ok (.aload_n 0, 1) := by decide +kernel
theorem dX12_linger_57 : decode cX12_linger 57 = .ok (.iload_n 1, 1) := by decide +kernel
theorem dX12_linger_58 : decode cX12_linger 58 = .ok (.invokevirtual 290, 3) := by decide +kernel
theorem dX12_linger_61 : decode cX12_linger 61 = .ok (.istore_n 3, 1) := by decide +kernel
theorem dX12_linger_62 : decode cX12_linger 62 = .ok (.iinc 4 1, 3) := by decide +kernel
theorem dX12_linger_65 : decode cX12_linger 65 = .ok (.goto (-31), 3) := by decide +kernel
theorem dX12_linger_68 : decode cX12_linger 68 = .ok (.aload_n 0, 1) := by decide +kernel
theorem dX12_linger_69 : decode cX12_linger 69 = .ok (.invokevirtual 320, 3) := by decide +kernel
theorem dX12_linger_72 : decode cX12_linger 72 = .ok (.iload_n 2, 1) := by decide +kernel
theorem dX12_linger_73 : decode cX12_linger 73 = .ok (.ireturn, 1) := by decide +kernel
set_option maxRecDepth 20000 in
theorem ggX12_isTrick_X12_bitOf : GoodIn wsX12_isTrick wsX12_bitOf := goodIn_r _ [5] (by decide +kernel) (by decide +kernel)
set_option maxRecDepth 20000 in
theorem gX12_isTrick_X12_bitOf : GoodIn wsX12_isTrick (va_wsS RX12 248 yX12_bitOf wsX12_bitOf) := goodIn_app (goodIn_of _ (by decide +kernel)) ggX12_isTrick_X12_bitOf
set_option maxRecDepth 20000 in
theorem ggX12_isTrick_X12_whyHide : GoodIn wsX12_isTrick wsX12_whyHide := goodIn_r _ [9, 1, 10, 11, 12, 4, 13, 14, 15, 16, 2, 3, 5, 17, 18, 19, 20, 21, 22, 23, 24, 25, 26, 27, 62, 63, 64, 65, 66, 67, 68, 69, 70, 71, 72, 73, 74, 75, 76, 77, 78, 79, 80, 81, 82, 83, 84, 85, 86, 87, 88, 89, 90, 91, 92, 93, 94, 95, 96, 97, 98, 99, 100, 101, 102, 103, 104, 105, 106, 107, 108, 109, 110, 111, 112, 113] (by decide +kernel) (by decide +kernel)
set_option maxRecDepth 20000 in
theorem gX12_isTrick_X12_whyHide : GoodIn wsX12_isTrick (wsV RX12 299 RX12 yX12_whyHide wsX12_whyHide) := goodIn_app (goodIn_of _ (by decide +kernel)) ggX12_isTrick_X12_whyHide
set_option maxRecDepth 20000 in
theorem ggX12_isTrick_X12_hostNext : GoodIn wsX12_isTrick wsX12_hostNext := goodIn_r _ [31, 32, 1, 33, 34, 35, 4, 36, 21, 22, 23, 24, 2, 3, 5, 37, 38, 39, 40, 41, 42, 43, 17, 18, 19, 20, 44, 45, 46, 47, 48, 25, 26, 27, 49, 50, 51, 52, 53, 54, 55, 56, 62, 63, 64, 65, 66, 67, 68, 69, 70, 71, 72, 73, 74, 75, 76, 77, 78, 79, 80, 81, 82, 83, 84, 85, 86, 87, 88, 89, 90, 91, 92, 93, 94, 95, 96, 97, 98, 99, 100, 101, 102, 103, 104, 105, 106, 107, 108, 109, 110, 111, 112, 113] (by decide +kernel) (by decide +kernel)
set_option maxRecDepth 20000 in
theorem gX12_isTrick_X12_hostNext : GoodIn wsX12_isTrick (wsV RX12 317 RX12 yX12_hostNext wsX12_hostNext) := goodIn_app (goodIn_of _ (by decide +kernel)) ggX12_isTrick_X12_hostNext
set_option maxRecDepth 20000 in
theorem ggX12_isTrick_X12_back : GoodIn wsX12_isTrick wsX12_back := goodIn_r _ [60, 1, 61, 62, 63, 64, 65, 66, 67, 68, 69, 70, 71, 72, 73, 74, 75, 76, 77, 78, 79, 80, 81, 82, 83, 84, 85, 86, 87, 88, 89, 90, 91, 92, 93, 94, 95, 96, 97, 98, 99, 100, 101, 102, 103, 104, 105, 106, 107, 108, 109, 110, 111, 112, 113] (by decide +kernel) (by decide +kernel)
set_option maxRecDepth 20000 in
theorem gX12_isTrick_X12_back : GoodIn wsX12_isTrick (wsV RX12 320 RX12 yX12_back wsX12_back) := goodIn_app (goodIn_of _ (by decide +kernel)) ggX12_isTrick_X12_back
theorem dX12_isTrick_0 : decode cX12_isTrick 0 = .ok (.iconst 1, 1) := by decide +kernel
theorem dX12_isTrick_1 : decode cX12_isTrick 1 = .ok (.istore_n 3, 1) := by decide +kernel
theorem dX12_isTrick_2 : decode cX12_isTrick 2 = .ok (.iconst 0, 1) := by decide +kernel
theorem dX12_isTrick_3 : decode cX12_isTrick 3 = .ok (.istore 4, 2) := by decide +kernel
theorem dX12_isTrick_5 : decode cX12_isTrick 5 = .ok (.iload 4, 2) := by decide +kernel
theorem dX12_isTrick_7 : decode cX12_isTrick 7 = .ok (.aload_n 0, 1) := by decide +kernel
theorem dX12_isTrick_8 : decode cX12_isTrick 8 = .ok (.getfield 33, 3) := by decide +kernel
theorem dX12_isTrick_11 : decode cX12_isTrick 11 = .ok (.iconst 0, 1) := by decide +kernel
theorem dX12_isTrick_12 : decode cX12_isTrick 12 = .ok (.iaload, 1) := by decide +kernel
theorem dX12_isTrick_13 : decode cX12_isTrick 13 = .ok (.if_icmp .ge 54, 3) := by decide +kernel
theorem dX12_isTrick_16 : decode cX12_isTrick 16 = .ok (.iload_n 3, 1) := by decide +kernel
theorem dX12_isTrick_17 : decode cX12_isTrick 17 = .ok (.ifCond .eq 50, 3) := by decide +kernel
theorem dX12_isTrick_20 : decode cX12_isTrick 20 = .ok (.iload_n 2, 1) := by decide +kernel
theorem dX12_isTrick_21 : decode cX12_isTrick 21 = .ok (.iload 4, 2) := by decide +kernel
theorem dX12_isTrick_23 : decode cX12_isTrick 23 = .ok (.invokestatic 248, 3) := by decide +kernel
theorem dX12_isTrick_26 : decode cX12_isTrick 26 = .ok (.ifCond .ne 6, 3) := by decide +kernel
theorem dX12_isTrick_29 : decode cX12_isTrick 29 = .ok (.goto 32, 3) := by decide +kernel
theorem dX12_isTrick_32 : decode cX12_isTrick 32 = .ok (.aload_n 0, 1) := by decide +kernel
theorem dX12_isTrick_33 : decode cX12_isTrick 33 = .ok (.iload 4, 2) := by decide +kernel
theorem dX12_isTrick_35 : decode cX12_isTrick 35 = .ok (.invokevirtual 299, 3) := by decide +kernel
theorem dX12_isTrick_38 : decode cX12_isTrick 38 = .ok (.ifCond .ne 7, 3) := by decide +kernel
theorem dX12_isTrick_41 : decode cX12_isTrick 41 = .ok (.iconst 1, 1) := by decide +kernel
theorem dX12_isTrick_42 : decode cX12_isTrick 42 = .ok (.goto 4, 3) := by decide +kernel
theorem dX12_isTrick_45 : decode cX12_isTrick 45 = .ok (.iconst 0, 1) := by decide +kernel
theorem dX12_isTrick_46 : decode cX12_isTrick 46 = .ok (.istore_n 3, 1) := by decide +kernel
theorem dX12_isTrick_47 : decode cX12_isTrick 47 = .ok (.aload_n 0, 1) := by decide +kernel
theorem dX12_isTrick_48 : decode cX12_isTrick 48 = .ok (.getfield 33, 3) := by decide +kernel
theorem dX12_isTrick_51 : decode cX12_isTrick 51 = .ok (.bipush 47, 2) := by decide +kernel
theorem dX12_isTrick_53 : decode cX12_isTrick 53 = .ok (.dup2, 1) := by decide +kernel
theorem dX12_isTrick_54 : decode cX12_isTrick 54 = .ok (.iaload, 1) := by decide +kernel
theorem dX12_isTrick_55 : decode cX12_isTrick 55 = .ok (.iconst 1, 1) := by decide +kernel
theorem dX12_isTrick_56 : decode cX12_isTrick 56 = .ok (.iload 4, 2) := by decide +kernel
theorem dX12_isTrick_58 : decode cX12_isTrick 58 = .ok (.ishl, 1) := by decide +kernel
theorem dX12_isTrick_59 : decode cX12_isTrick 59 = .ok (.ior, 1) := by decide +kernel
theorem dX12_isTrick_60 : decode cX12_isTrick 60 = .ok (.iastore, 1) := by decide +kernel
theorem dX12_isTrick_61 : decode cX12_isTrick 61 = .ok (.iinc 4 1, 3) := by decide +kernel
theorem dX12_isTrick_64 : decode cX12_isTrick 64 = .ok (.goto (-59), 3) := by decide +kernel
theorem dX12_isTrick_67 : decode cX12_isTrick 67 = .ok (.iload_n 3, 1) := by decide +kernel
theorem dX12_isTrick_68 : decode cX12_isTrick 68 = .ok (.ifCond .eq 15, 3) := by decide +kernel
theorem dX12_isTrick_71 : decode cX12_isTrick 71 = .ok (.aload_n 0, 1) := by decide +kernel
theorem dX12_isTrick_72 : decode cX12_isTrick 72 = .ok (.invokevirtual 317, 3) := by decide +kernel
theorem dX12_isTrick_75 : decode cX12_isTrick 75 = .ok (.iload_n 1, 1) := by decide +kernel
theorem dX12_isTrick_76 : decode cX12_isTrick 76 = .ok (.if_icmp .ne 7, 3) := by decide +kernel
theorem dX12_isTrick_79 : decode cX12_isTrick 79 = .ok (.iconst 1, 1) := by decide +kernel
theorem dX12_isTrick_80 : decode cX12_isTrick 80 = .ok (.goto 4, 3) := by decide +kernel
theorem dX12_isTrick_83 : decode cX12_isTrick 83 = .ok (.iconst 0, 1) := by decide +kernel
theorem dX12_isTrick_84 : decode cX12_isTrick 84 = .ok (.istore 4, 2) := by decide +kernel
theorem dX12_isTrick_86 : decode cX12_isTrick 86 = .ok (.aload_n 0, 1) := by decide +kernel
theorem dX12_isTrick_87 : decode cX12_isTrick 87 = .ok (.invokevirtual 320, 3) := by decide +kernel
theorem dX12_isTrick_90 : decode cX12_isTrick 90 = .ok (.iload 4, 2) := by decide +kernel
theorem dX12_isTrick_92 : decode cX12_isTrick 92 = .ok (.ireturn, 1) := by decide +kernel
set_option maxRecDepth 20000 in
theorem ggX12_trick_X12_isGuest : GoodIn wsX12_trick wsX12_isGuest := goodIn_r _ [9, 2, 10, 11, 8, 12, 77, 78, 79, 80, 81, 82, 83, 84, 85, 86, 87, 88, 89, 90, 91, 92, 93, 94, 95, 96, 97, 98, 99, 100, 101, 102, 103, 104, 105, 106, 107, 108, 109, 110, 111, 112, 113, 114, 115, 116, 117, 118, 119, 120, 121, 122, 123, 124, 125, 126, 127, 128] (by decide +kernel) (by decide +kernel)
set_option maxRecDepth 20000 in
theorem gX12_trick_X12_isGuest : GoodIn wsX12_trick (wsV RX12 254 RX12 yX12_isGuest wsX12_isGuest) := goodIn_app (goodIn_of _ (by decide +kernel)) ggX12_trick_X12_isGuest
set_option maxRecDepth 20000 in
theorem ggX12_trick_X12_tries : GoodIn wsX12_trick wsX12_tries := goodIn_r _ [16, 17, 2, 77, 78, 79, 80, 81, 82, 83, 84, 85, 86, 87, 88, 89, 90, 91, 92, 93, 94, 95, 96, 97, 98, 99, 100, 101, 102, 103, 104, 105, 106, 107, 108, 109, 110, 111, 112, 113, 114, 115, 116, 117, 118, 119, 120, 121, 122, 123, 124, 125, 126, 127, 128] (by decide +kernel) (by decide +kernel)
set_option maxRecDepth 20000 in
theorem gX12_trick_X12_tries : GoodIn wsX12_trick (wsV RX12 314 RX12 yX12_tries wsX12_tries) := goodIn_app (goodIn_of _ (by decide +kernel)) ggX12_trick_X12_tries
set_option maxRecDepth 20000 in
theorem ggX12_trick_X12_bits : GoodIn wsX12_trick wsX12_bits := goodIn_r _ [20] (by decide +kernel) (by decide +kernel)
set_option maxRecDepth 20000 in
theorem gX12_trick_X12_bits : GoodIn wsX12_trick (va_wsS RX12 277 yX12_bits wsX12_bits) := goodIn_app (goodIn_of _ (by decide +kernel)) ggX12_trick_X12_bits
set_option maxRecDepth 20000 in
theorem ggX12_trick_X12_isTrick : GoodIn wsX12_trick wsX12_isTrick := goodIn_r _ [24, 2, 25, 26, 8, 27, 28, 29, 30, 31, 32, 33, 34, 35, 10, 11, 12, 36, 37, 38, 39, 40, 41, 42, 43, 18, 19, 20, 44, 45, 46, 47, 48, 49, 50, 51, 52, 53, 54, 55, 56, 57, 58, 59, 60, 61, 62, 63, 64, 65, 66, 67, 68, 69, 70, 71, 72, 73, 74, 75, 76, 17, 77, 78, 79, 80, 81, 82, 83, 84, 85, 86, 87, 88, 89, 90, 91, 92, 93, 94, 95, 96, 97, 98, 99, 100, 101, 102, 103, 104, 105, 106, 107, 108, 109, 110, 111, 112, 113, 114, 115, 116, 117, 118, 119, 120, 121, 122, 123, 124, 125, 126, 127, 128] (by decide +kernel) (by decide +kernel)
set_option maxRecDepth 20000 in
theorem gX12_trick_X12_isTrick : GoodIn wsX12_trick (wsV RX12 323 RX12 yX12_isTrick wsX12_isTrick) := goodIn_app (goodIn_of _ (by decide +kernel)) ggX12_trick_X12_isTrick
theorem dX12_trick_0 : decode cX12_trick 0 = .ok (.aload_n 0, 1) := by decide +kernel
theorem dX12_trick_1 : decode cX12_trick 1 = .ok (.iconst 0, 1) := by decide +kernel
theorem dX12_trick_2 : decode cX12_trick 2 = .ok (.putfield 1, 3) := by decide +kernel
theorem dX12_trick_5 : decode cX12_trick 5 = .ok (.aload_n 0, 1) := by decide +kernel
theorem dX12_trick_6 : decode cX12_trick 6 = .ok (.iload_n 1, 1) := by decide +kernel
theorem dX12_trick_7 : decode cX12_trick 7 = .ok (.invokevirtual 254, 3) := by decide +kernel
theorem dX12_trick_10 : decode cX12_trick 10 = .ok (.ifCond .ne 5, 3) := by decide +kernel
theorem dX12_trick_13 : decode cX12_trick 13 = .ok (.iconst (-1), 1) := by decide +kernel
theorem dX12_trick_14 : decode cX12_trick 14 = .ok (.ireturn, 1) := by decide +kernel
theorem dX12_trick_15 : decode cX12_trick 15 = .ok (.aload_n 0, 1) := by decide +kernel
theorem dX12_trick_16 : decode cX12_trick 16 = .ok (.invokevirtual 314, 3) := by decide +kernel
theorem dX12_trick_19 : decode cX12_trick 19 = .ok (.iconst (-1), 1) := by decide +kernel
theorem dX12_trick_20 : decode cX12_trick 20 = .ok (.istore_n 2, 1) := by decide +kernel
theorem dX12_trick_21 : decode cX12_trick 21 = .ok (.iconst 0, 1) := by decide +kernel
theorem dX12_trick_22 : decode cX12_trick 22 = .ok (.istore_n 3, 1) := by decide +kernel
theorem dX12_trick_23 : decode cX12_trick 23 = .ok (.iload_n 3, 1) := by decide +kernel
theorem dX12_trick_24 : decode cX12_trick 24 = .ok (.iconst 1, 1) := by decide +kernel
theorem dX12_trick_25 : decode cX12_trick 25 = .ok (.aload_n 0, 1) := by decide +kernel
theorem dX12_trick_26 : decode cX12_trick 26 = .ok (.getfield 33, 3) := by decide +kernel
theorem dX12_trick_29 : decode cX12_trick 29 = .ok (.iconst 0, 1) := by decide +kernel
theorem dX12_trick_30 : decode cX12_trick 30 = .ok (.iaload, 1) := by decide +kernel
theorem dX12_trick_31 : decode cX12_trick 31 = .ok (.ishl, 1) := by decide +kernel
theorem dX12_trick_32 : decode cX12_trick 32 = .ok (.if_icmp .ge 35, 3) := by decide +kernel
theorem dX12_trick_35 : decode cX12_trick 35 = .ok (.iload_n 2, 1) := by decide +kernel
theorem dX12_trick_36 : decode cX12_trick 36 = .ok (.ifCond .lt 14, 3) := by decide +kernel
theorem dX12_trick_39 : decode cX12_trick 39 = .ok (.iload_n 3, 1) := by decide +kernel
theorem dX12_trick_40 : decode cX12_trick 40 = .ok (.invokestatic 277, 3) := by decide +kernel
theorem dX12_trick_43 : decode cX12_trick 43 = .ok (.iload_n 2, 1) := by decide +kernel
theorem dX12_trick_44 : decode cX12_trick 44 = .ok (.invokestatic 277, 3) := by decide +kernel
theorem dX12_trick_47 : decode cX12_trick 47 = .ok (.if_icmp .ge 14, 3) := by decide +kernel
theorem dX12_trick_50 : decode cX12_trick 50 = .ok (.aload_n 0, 1) := by decide +kernel
theorem dX12_trick_51 : decode cX12_trick 51 = .ok (.iload_n 1, 1) := by decide +kernel
theorem dX12_trick_52 : decode cX12_trick 52 = .ok (.iload_n 3, 1) := by decide +kernel
theorem dX12_trick_53 : decode cX12_trick 53 = .ok (.invokevirtual 323, 3) := by decide +kernel
theorem dX12_trick_56 : decode cX12_trick 56 = .ok (.ifCond .eq 5, 3) := by decide +kernel
theorem dX12_trick_59 : decode cX12_trick 59 = .ok (.iload_n 3, 1) := by decide +kernel
theorem dX12_trick_60 : decode cX12_trick 60 = .ok (.istore_n 2, 1) := by decide +kernel
theorem dX12_trick_61 : decode cX12_trick 61 = .ok (.iinc 3 1, 3) := by decide +kernel
theorem dX12_trick_64 : decode cX12_trick 64 = .ok (.goto (-41), 3) := by decide +kernel
theorem dX12_trick_67 : decode cX12_trick 67 = .ok (.iload_n 2, 1) := by decide +kernel
theorem dX12_trick_68 : decode cX12_trick 68 = .ok (.ifCond .ge 5, 3) := by decide +kernel
theorem dX12_trick_71 : decode cX12_trick 71 = .ok (.iconst (-1), 1) := by decide +kernel
theorem dX12_trick_72 : decode cX12_trick 72 = .ok (.ireturn, 1) := by decide +kernel
theorem dX12_trick_73 : decode cX12_trick 73 = .ok (.aload_n 0, 1) := by decide +kernel
theorem dX12_trick_74 : decode cX12_trick 74 = .ok (.iconst 1, 1) := by decide +kernel
theorem dX12_trick_75 : decode cX12_trick 75 = .ok (.putfield 326, 3) := by decide +kernel
theorem dX12_trick_78 : decode cX12_trick 78 = .ok (.aload_n 0, 1) := by decide +kernel
theorem dX12_trick_79 : decode cX12_trick 79 = .ok (.iload_n 2, 1) := by decide +kernel
theorem dX12_trick_80 : decode cX12_trick 80 = .ok (.putfield 329, 3) := by decide +kernel
theorem dX12_trick_83 : decode cX12_trick 83 = .ok (.iload_n 2, 1) := by decide +kernel
theorem dX12_trick_84 : decode cX12_trick 84 = .ok (.invokestatic 277, 3) := by decide +kernel
theorem dX12_trick_87 : decode cX12_trick 87 = .ok (.ireturn, 1) := by decide +kernel
theorem dX12_tricking_0 : decode cX12_tricking 0 = .ok (.aload_n 0, 1) := by decide +kernel
theorem dX12_tricking_1 : decode cX12_tricking 1 = .ok (.iconst 0, 1) := by decide +kernel
theorem dX12_tricking_2 : decode cX12_tricking 2 = .ok (.putfield 1, 3) := by decide +kernel
theorem dX12_tricking_5 : decode cX12_tricking 5 = .ok (.aload_n 0, 1) := by decide +kernel
theorem dX12_tricking_6 : decode cX12_tricking 6 = .ok (.getfield 326, 3) := by decide +kernel
theorem dX12_tricking_9 : decode cX12_tricking 9 = .ok (.ifCond .eq 10, 3) := by decide +kernel
theorem dX12_tricking_12 : decode cX12_tricking 12 = .ok (.aload_n 0, 1) := by decide +kernel
theorem dX12_tricking_13 : decode cX12_tricking 13 = .ok (.getfield 329, 3) := by decide +kernel
theorem dX12_tricking_16 : decode cX12_tricking 16 = .ok (.goto 4, 3) := by decide +kernel
theorem dX12_tricking_19 : decode cX12_tricking 19 = .ok (.iconst (-1), 1) := by decide +kernel
theorem dX12_tricking_20 : decode cX12_tricking 20 = .ok (.ireturn, 1) := by decide +kernel
set_option maxRecDepth 20000 in
theorem ggX12_isPush_X12_bitOf : GoodIn wsX12_isPush wsX12_bitOf := goodIn_r _ [5] (by decide +kernel) (by decide +kernel)
set_option maxRecDepth 20000 in
theorem gX12_isPush_X12_bitOf : GoodIn wsX12_isPush (va_wsS RX12 248 yX12_bitOf wsX12_bitOf) := goodIn_app (goodIn_of _ (by decide +kernel)) ggX12_isPush_X12_bitOf
set_option maxRecDepth 20000 in
theorem ggX12_isPush_X12_whySit : GoodIn wsX12_isPush wsX12_whySit := goodIn_r _ [9, 1, 10, 11, 12, 4, 13, 2, 3, 5, 14, 15, 16, 17, 51, 52, 53, 54, 55, 56, 57, 58, 59, 60, 61, 62, 63, 64, 65, 66, 67, 68, 69, 70, 71, 72, 73, 74, 75, 76, 77, 78, 79, 80, 81, 82, 83, 84, 85, 86, 87, 88, 89, 90, 91, 92, 93, 94, 95, 96, 97, 98, 99, 100, 101, 102] (by decide +kernel) (by decide +kernel)
set_option maxRecDepth 20000 in
theorem gX12_isPush_X12_whySit : GoodIn wsX12_isPush (wsV RX12 284 RX12 yX12_whySit wsX12_whySit) := goodIn_app (goodIn_of _ (by decide +kernel)) ggX12_isPush_X12_whySit
set_option maxRecDepth 20000 in
theorem ggX12_isPush_X12_sits : GoodIn wsX12_isPush wsX12_sits := goodIn_r _ [21, 1, 22, 23, 24, 4, 25, 2, 3, 5, 26, 27, 28, 29, 30, 31, 32, 33, 34, 35, 36, 51, 52, 53, 54, 55, 56, 57, 58, 59, 60, 61, 62, 63, 64, 65, 66, 67, 68, 69, 70, 71, 72, 73, 74, 75, 76, 77, 78, 79, 80, 81, 82, 83, 84, 85, 86, 87, 88, 89, 90, 91, 92, 93, 94, 95, 96, 97, 98, 99, 100, 101, 102] (by decide +kernel) (by decide +kernel)
set_option maxRecDepth 20000 in
theorem gX12_isPush_X12_sits : GoodIn wsX12_isPush (wsV RX12 287 RX12 yX12_sits wsX12_sits) := goodIn_app (goodIn_of _ (by decide +kernel)) ggX12_isPush_X12_sits
set_option maxRecDepth 20000 in
theorem ggX12_isPush_X12_hostNext : GoodIn wsX12_isPush wsX12_hostNext := goodIn_r _ [40, 41, 1, 42, 43, 44, 4, 45, 10, 11, 12, 13, 2, 3, 5, 34, 35, 36, 6, 7, 8, 9, 14, 15, 16, 17, 18, 19, 20, 21, 22, 23, 24, 25, 26, 27, 28, 29, 30, 31, 32, 33, 51, 52, 53, 54, 55, 56, 57, 58, 59, 60, 61, 62, 63, 64, 65, 66, 67, 68, 69, 70, 71, 72, 73, 74, 75, 76, 77, 78, 79, 80, 81, 82, 83, 84, 85, 86, 87, 88, 89, 90, 91, 92, 93, 94, 95, 96, 97, 98, 99, 100, 101, 102] (by decide +kernel) (by decide +kernel)
set_option maxRecDepth 20000 in
theorem gX12_isPush_X12_hostNext : GoodIn wsX12_isPush (wsV RX12 317 RX12 yX12_hostNext wsX12_hostNext) := goodIn_app (goodIn_of _ (by decide +kernel)) ggX12_isPush_X12_hostNext
set_option maxRecDepth 20000 in
theorem ggX12_isPush_X12_back : GoodIn wsX12_isPush wsX12_back := goodIn_r _ [49, 1, 50, 51, 52, 53, 54, 55, 56, 57, 58, 59, 60, 61, 62, 63, 64, 65, 66, 67, 68, 69, 70, 71, 72, 73, 74, 75, 76, 77, 78, 79, 80, 81, 82, 83, 84, 85, 86, 87, 88, 89, 90, 91, 92, 93, 94, 95, 96, 97, 98, 99, 100, 101, 102] (by decide +kernel) (by decide +kernel)
set_option maxRecDepth 20000 in
theorem gX12_isPush_X12_back : GoodIn wsX12_isPush (wsV RX12 320 RX12 yX12_back wsX12_back) := goodIn_app (goodIn_of _ (by decide +kernel)) ggX12_isPush_X12_back
theorem dX12_isPush_0 : decode cX12_isPush 0 = .ok (.iconst 1, 1) := by decide +kernel
theorem dX12_isPush_1 : decode cX12_isPush 1 = .ok (.istore_n 3, 1) := by decide +kernel
theorem dX12_isPush_2 : decode cX12_isPush 2 = .ok (.iconst 0, 1) := by decide +kernel
theorem dX12_isPush_3 : decode cX12_isPush 3 = .ok (.istore 4, 2) := by decide +kernel
theorem dX12_isPush_5 : decode cX12_isPush 5 = .ok (.iload_n 2, 1) := by decide +kernel
theorem dX12_isPush_6 : decode cX12_isPush 6 = .ok (.istore 5, 2) := by decide +kernel
theorem dX12_isPush_8 : decode cX12_isPush 8 = .ok (.iconst 0, 1) := by decide +kernel
theorem dX12_isPush_9 : decode cX12_isPush 9 = .ok (.istore 6, 2) := by decide +kernel
theorem dX12_isPush_11 : decode cX12_isPush 11 = .ok (.iload 6, 2) := by decide +kernel
theorem dX12_isPush_13 : decode cX12_isPush 13 = .ok (.aload_n 0, 1) := by decide +kernel
theorem dX12_isPush_14 : decode cX12_isPush 14 = .ok (.getfield 33, 3) := by decide +kernel
theorem dX12_isPush_17 : decode cX12_isPush 17 = .ok (.iconst 1, 1) := by decide +kernel
theorem dX12_isPush_18 : decode cX12_isPush 18 = .ok (.iaload, 1) := by decide +kernel
theorem dX12_isPush_19 : decode cX12_isPush 19 = .ok (.if_icmp .ge 74, 3) := by decide +kernel
theorem dX12_isPush_22 : decode cX12_isPush 22 = .ok (.iload_n 3, 1) := by decide +kernel
theorem dX12_isPush_23 : decode cX12_isPush 23 = .ok (.ifCond .eq 70, 3) := by decide +kernel
theorem dX12_isPush_26 : decode cX12_isPush 26 = .ok (.iload 4, 2) := by decide +kernel
theorem dX12_isPush_28 : decode cX12_isPush 28 = .ok (.ifCond .ne 65, 3) := by decide +kernel
theorem dX12_isPush_31 : decode cX12_isPush 31 = .ok (.iload_n 2, 1) := by decide +kernel
theorem dX12_isPush_32 : decode cX12_isPush 32 = .ok (.iload 6, 2) := by decide +kernel
theorem dX12_isPush_34 : decode cX12_isPush 34 = .ok (.invokestatic 248, 3) := by decide +kernel
theorem dX12_isPush_37 : decode cX12_isPush 37 = .ok (.ifCond .ne 6, 3) := by decide +kernel
theorem dX12_isPush_40 : decode cX12_isPush 40 = .ok (.goto 47, 3) := by decide +kernel
theorem dX12_isPush_43 : decode cX12_isPush 43 = .ok (.aload_n 0, 1) := by decide +kernel
theorem dX12_isPush_44 : decode cX12_isPush 44 = .ok (.iload 6, 2) := by decide +kernel
theorem dX12_isPush_46 : decode cX12_isPush 46 = .ok (.invokevirtual 284, 3) := by decide +kernel
theorem dX12_isPush_49 : decode cX12_isPush 49 = .ok (.ifCond .ne 7, 3) := by decide +kernel
theorem dX12_isPush_52 : decode cX12_isPush 52 = .ok (.iconst 1, 1) := by decide +kernel
theorem dX12_isPush_53 : decode cX12_isPush 53 = .ok (.goto 4, 3) := by decide +kernel
theorem dX12_isPush_56 : decode cX12_isPush 56 = .ok (.iconst 0, 1) := by decide +kernel
theorem dX12_isPush_57 : decode cX12_isPush 57 = .ok (.istore_n 3, 1) := by decide +kernel
theorem dX12_isPush_58 : decode cX12_isPush 58 = .ok (.iload_n 3, 1) := by decide +kernel
theorem dX12_isPush_59 : decode cX12_isPush 59 = .ok (.ifCond .eq 16, 3) := by decide +kernel
theorem dX12_isPush_62 : decode cX12_isPush 62 = .ok (.aload_n 0, 1) := by decide +kernel
theorem dX12_isPush_63 : decode cX12_isPush 63 = .ok (.iload 6, 2) := by decide +kernel
theorem dX12_isPush_65 : decode cX12_isPush 65 = .ok (.invokevirtual 287, 3) := by decide +kernel
theorem dX12_isPush_68 : decode cX12_isPush 68 = .ok (.ifCond .eq 7, 3) := by decide +kernel
theorem dX12_isPush_71 : decode cX12_isPush 71 = .ok (.iconst 1, 1) := by decide +kernel
theorem dX12_isPush_72 : decode cX12_isPush 72 = .ok (.goto 4, 3) := by decide +kernel
theorem dX12_isPush_75 : decode cX12_isPush 75 = .ok (.iconst 0, 1) := by decide +kernel
theorem dX12_isPush_76 : decode cX12_isPush 76 = .ok (.istore 4, 2) := by decide +kernel
theorem dX12_isPush_78 : decode cX12_isPush 78 = .ok (.iload 5, 2) := by decide +kernel
theorem dX12_isPush_80 : decode cX12_isPush 80 = .ok (.iconst 1, 1) := by decide +kernel
theorem dX12_isPush_81 : decode cX12_isPush 81 = .ok (.iload 6, 2) := by decide +kernel
theorem dX12_isPush_83 : decode cX12_isPush 83 = .ok (.ishl, 1) := by decide +kernel
theorem dX12_isPush_84 : decode cX12_isPush 84 = .ok (.ixor, 1) := by decide +kernel
theorem dX12_isPush_85 : decode cX12_isPush 85 = .ok (.istore 5, 2) := by decide +kernel
theorem dX12_isPush_87 : decode cX12_isPush 87 = .ok (.iinc 6 1, 3) := by decide +kernel
theorem dX12_isPush_90 : decode cX12_isPush 90 = .ok (.goto (-79), 3) := by decide +kernel
theorem dX12_isPush_93 : decode cX12_isPush 93 = .ok (.iload_n 3, 1) := by decide +kernel
theorem dX12_isPush_94 : decode cX12_isPush 94 = .ok (.ifCond .eq 41, 3) := by decide +kernel
theorem dX12_isPush_97 : decode cX12_isPush 97 = .ok (.iload 4, 2) := by decide +kernel
theorem dX12_isPush_99 : decode cX12_isPush 99 = .ok (.ifCond .eq 24, 3) := by decide +kernel
theorem dX12_isPush_102 : decode cX12_isPush 102 = .ok (.iload 5, 2) := by decide +kernel
theorem dX12_isPush_104 : decode cX12_isPush 104 = .ok (.ifCond .ne 31, 3) := by decide +kernel
theorem dX12_isPush_107 : decode cX12_isPush 107 = .ok (.aload_n 0, 1) := by decide +kernel
theorem dX12_isPush_108 : decode cX12_isPush 108 = .ok (.getfield 33, 3) := by decide +kernel
theorem dX12_isPush_111 : decode cX12_isPush 111 = .ok (.bipush 48, 2) := by decide +kernel
theorem dX12_isPush_113 : decode cX12_isPush 113 = .ok (.iaload, 1) := by decide +kernel
theorem dX12_isPush_114 : decode cX12_isPush 114 = .ok (.iload_n 1, 1) := by decide +kernel
theorem dX12_isPush_115 : decode cX12_isPush 115 = .ok (.iconst 1, 1) := by decide +kernel
theorem dX12_isPush_116 : decode cX12_isPush 116 = .ok (.iadd, 1) := by decide +kernel
theorem dX12_isPush_117 : decode cX12_isPush 117 = .ok (.if_icmp .ne 18, 3) := by decide +kernel
theorem dX12_isPush_120 : decode cX12_isPush 120 = .ok (.goto 11, 3) := by decide +kernel
theorem dX12_isPush_123 : decode cX12_isPush 123 = .ok (.aload_n 0, 1) := by decide +kernel
theorem dX12_isPush_124 : decode cX12_isPush 124 = .ok (.invokevirtual 317, 3) := by decide +kernel
theorem dX12_isPush_127 : decode cX12_isPush 127 = .ok (.iload_n 1, 1) := by decide +kernel
theorem dX12_isPush_128 : decode cX12_isPush 128 = .ok (.if_icmp .ne 7, 3) := by decide +kernel
theorem dX12_isPush_131 : decode cX12_isPush 131 = .ok (.iconst 1, 1) := by decide +kernel
theorem dX12_isPush_132 : decode cX12_isPush 132 = .ok (.goto 4, 3) := by decide +kernel
theorem dX12_isPush_135 : decode cX12_isPush 135 = .ok (.iconst 0, 1) := by decide +kernel
theorem dX12_isPush_136 : decode cX12_isPush 136 = .ok (.istore 6, 2) := by decide +kernel
theorem dX12_isPush_138 : decode cX12_isPush 138 = .ok (.aload_n 0, 1) := by decide +kernel
theorem dX12_isPush_139 : decode cX12_isPush 139 = .ok (.invokevirtual 320, 3) := by decide +kernel
theorem dX12_isPush_142 : decode cX12_isPush 142 = .ok (.iload 6, 2) := by decide +kernel
theorem dX12_isPush_144 : decode cX12_isPush 144 = .ok (.ireturn, 1) := by decide +kernel
set_option maxRecDepth 20000 in
theorem ggX12_push_X12_isGuest : GoodIn wsX12_push wsX12_isGuest := goodIn_r _ [9, 2, 10, 11, 8, 12, 69, 70, 71, 72, 73, 74, 75, 76, 77, 78, 79, 80, 81, 82, 83, 84, 85, 86, 87, 88, 89, 90, 91, 92, 93, 94, 95, 96, 97, 98, 99, 100, 101, 102, 103, 104, 105, 106, 107, 108, 109, 110, 111, 112, 113, 114, 115, 116, 117, 118, 119, 120] (by decide +kernel) (by decide +kernel)
set_option maxRecDepth 20000 in
theorem gX12_push_X12_isGuest : GoodIn wsX12_push (wsV RX12 254 RX12 yX12_isGuest wsX12_isGuest) := goodIn_app (goodIn_of _ (by decide +kernel)) ggX12_push_X12_isGuest
set_option maxRecDepth 20000 in
theorem ggX12_push_X12_doesSit : GoodIn wsX12_push wsX12_doesSit := goodIn_r _ [16, 2, 17, 18, 8, 19, 69, 70, 71, 72, 73, 74, 75, 76, 77, 78, 79, 80, 81, 82, 83, 84, 85, 86, 87, 88, 89, 90, 91, 92, 93, 94, 95, 96, 97, 98, 99, 100, 101, 102, 103, 104, 105, 106, 107, 108, 109, 110, 111, 112, 113, 114, 115, 116, 117, 118, 119, 120] (by decide +kernel) (by decide +kernel)
set_option maxRecDepth 20000 in
theorem gX12_push_X12_doesSit : GoodIn wsX12_push (wsV RX12 251 RX12 yX12_doesSit wsX12_doesSit) := goodIn_app (goodIn_of _ (by decide +kernel)) ggX12_push_X12_doesSit
set_option maxRecDepth 20000 in
theorem ggX12_push_X12_tries : GoodIn wsX12_push wsX12_tries := goodIn_r _ [23, 24, 2, 69, 70, 71, 72, 73, 74, 75, 76, 77, 78, 79, 80, 81, 82, 83, 84, 85, 86, 87, 88, 89, 90, 91, 92, 93, 94, 95, 96, 97, 98, 99, 100, 101, 102, 103, 104, 105, 106, 107, 108, 109, 110, 111, 112, 113, 114, 115, 116, 117, 118, 119, 120] (by decide +kernel) (by decide +kernel)
set_option maxRecDepth 20000 in
theorem gX12_push_X12_tries : GoodIn wsX12_push (wsV RX12 314 RX12 yX12_tries wsX12_tries) := goodIn_app (goodIn_of _ (by decide +kernel)) ggX12_push_X12_tries
set_option maxRecDepth 20000 in
theorem ggX12_push_X12_bitOf : GoodIn wsX12_push wsX12_bitOf := goodIn_r _ [19] (by decide +kernel) (by decide +kernel)
set_option maxRecDepth 20000 in
theorem gX12_push_X12_bitOf : GoodIn wsX12_push (va_wsS RX12 248 yX12_bitOf wsX12_bitOf) := goodIn_app (goodIn_of _ (by decide +kernel)) ggX12_push_X12_bitOf
set_option maxRecDepth 20000 in
theorem ggX12_push_X12_bits : GoodIn wsX12_push wsX12_bits := goodIn_r _ [27] (by decide +kernel) (by decide +kernel)
set_option maxRecDepth 20000 in
theorem gX12_push_X12_bits : GoodIn wsX12_push (va_wsS RX12 277 yX12_bits wsX12_bits) := goodIn_app (goodIn_of _ (by decide +kernel)) ggX12_push_X12_bits
set_option maxRecDepth 20000 in
theorem ggX12_push_X12_isPush : GoodIn wsX12_push wsX12_isPush := goodIn_r _ [31, 2, 17, 18, 8, 19, 32, 33, 34, 35, 13, 14, 15, 16, 36, 37, 38, 39, 40, 41, 42, 43, 44, 25, 26, 27, 45, 46, 47, 48, 49, 50, 51, 52, 53, 54, 55, 56, 57, 58, 59, 60, 61, 62, 63, 64, 65, 66, 67, 68, 24, 69, 70, 71, 72, 73, 74, 75, 76, 77, 78, 79, 80, 81, 82, 83, 84, 85, 86, 87, 88, 89, 90, 91, 92, 93, 94, 95, 96, 97, 98, 99, 100, 101, 102, 103, 104, 105, 106, 107, 108, 109, 110, 111, 112, 113, 114, 115, 116, 117, 118, 119, 120] (by decide +kernel) (by decide +kernel)
set_option maxRecDepth 20000 in
theorem gX12_push_X12_isPush : GoodIn wsX12_push (wsV RX12 332 RX12 yX12_isPush wsX12_isPush) := goodIn_app (goodIn_of _ (by decide +kernel)) ggX12_push_X12_isPush
theorem dX12_push_0 : decode cX12_push 0 = .ok (.aload_n 0, 1) := by decide +kernel
theorem dX12_push_1 : decode cX12_push 1 = .ok (.iconst 0, 1) := by decide +kernel
theorem dX12_push_2 : decode cX12_push 2 = .ok (.putfield 1, 3) := by decide +kernel
theorem dX12_push_5 : decode cX12_push 5 = .ok (.aload_n 0, 1) := by decide +kernel
theorem dX12_push_6 : decode cX12_push 6 = .ok (.iload_n 1, 1) := by decide +kernel
theorem dX12_push_7 : decode cX12_push 7 = .ok (.invokevirtual 254, 3) := by decide +kernel
theorem dX12_push_10 : decode cX12_push 10 = .ok (.ifCond .eq 11, 3) := by decide +kernel
theorem dX12_push_13 : decode cX12_push 13 = .ok (.aload_n 0, 1) := by decide +kernel
theorem dX12_push_14 : decode cX12_push 14 = .ok (.iload_n 1, 1) := by decide +kernel
theorem dX12_push_15 : decode cX12_push 15 = .ok (.invokevirtual 251, 3) := by decide +kernel
theorem dX12_push_18 : decode cX12_push 18 = .ok (.ifCond .eq 5, 3) := by decide +kernel
theorem dX12_push_21 : decode cX12_push 21 = .ok (.iconst (-1), 1) := by decide +kernel
theorem dX12_push_22 : decode cX12_push 22 = .ok (.ireturn, 1) := by decide +kernel
theorem dX12_push_23 : decode cX12_push 23 = .ok (.aload_n 0, 1) := by decide +kernel
theorem dX12_push_24 : decode cX12_push 24 = .ok (.invokevirtual 314, 3) := by decide +kernel
theorem dX12_push_27 : decode cX12_push 27 = .ok (.iconst (-1), 1) := by decide +kernel
theorem dX12_push_28 : decode cX12_push 28 = .ok (.istore_n 2, 1) := by decide +kernel
theorem dX12_push_29 : decode cX12_push 29 = .ok (.iconst 0, 1) := by decide +kernel
theorem dX12_push_30 : decode cX12_push 30 = .ok (.istore_n 3, 1) := by decide +kernel
theorem dX12_push_31 : decode cX12_push 31 = .ok (.iload_n 3, 1) := by decide +kernel
theorem dX12_push_32 : decode cX12_push 32 = .ok (.iconst 1, 1) := by decide +kernel
theorem dX12_push_33 : decode cX12_push 33 = .ok (.aload_n 0, 1) := by decide +kernel
theorem dX12_push_34 : decode cX12_push 34 = .ok (.getfield 33, 3) := by decide +kernel
theorem dX12_push_37 : decode cX12_push 37 = .ok (.iconst 1, 1) := by decide +kernel
theorem dX12_push_38 : decode cX12_push 38 = .ok (.iaload, 1) := by decide +kernel
theorem dX12_push_39 : decode cX12_push 39 = .ok (.ishl, 1) := by decide +kernel
theorem dX12_push_40 : decode cX12_push 40 = .ok (.if_icmp .ge 43, 3) := by decide +kernel
theorem dX12_push_43 : decode cX12_push 43 = .ok (.iload_n 3, 1) := by decide +kernel
theorem dX12_push_44 : decode cX12_push 44 = .ok (.iload_n 1, 1) := by decide +kernel
theorem dX12_push_45 : decode cX12_push 45 = .ok (.invokestatic 248, 3) := by decide +kernel
theorem dX12_push_48 : decode cX12_push 48 = .ok (.ifCond .ne 29, 3) := by decide +kernel
theorem dX12_push_51 : decode cX12_push 51 = .ok (.iload_n 2, 1) := by decide +kernel
theorem dX12_push_52 : decode cX12_push 52 = .ok (.ifCond .lt 14, 3) := by decide +kernel
theorem dX12_push_55 : decode cX12_push 55 = .ok (.iload_n 3, 1) := by decide +kernel
theorem dX12_push_56 : decode cX12_push 56 = .ok (.invokestatic 277, 3) := by decide +kernel
theorem dX12_push_59 : decode cX12_push 59 = .ok (.iload_n 2, 1) := by decide +kernel
theorem dX12_push_60 : decode cX12_push 60 = .ok (.invokestatic 277, 3) := by decide +kernel
theorem dX12_push_63 : decode cX12_push 63 = .ok (.if_icmp .ge 14, 3) := by decide +kernel
theorem dX12_push_66 : decode cX12_push 66 = .ok (.aload_n 0, 1) := by decide +kernel
theorem dX12_push_67 : decode cX12_push 67 = .ok (.iload_n 1, 1) := by decide +kernel
theorem dX12_push_68 : decode cX12_push 68 = .ok (.iload_n 3, 1) := by decide +kernel
theorem dX12_push_69 : decode cX12_push 69 = .ok (.invokevirtual 332, 3) := by decide +kernel
theorem dX12_push_72 : decode cX12_push 72 = .ok (.ifCond .eq 5, 3) := by decide +kernel
theorem dX12_push_75 : decode cX12_push 75 = .ok (.iload_n 3, 1) := by decide +kernel
theorem dX12_push_76 : decode cX12_push 76 = .ok (.istore_n 2, 1) := by decide +kernel
theorem dX12_push_77 : decode cX12_push 77 = .ok (.iinc 3 1, 3) := by decide +kernel
theorem dX12_push_80 : decode cX12_push 80 = .ok (.goto (-49), 3) := by decide +kernel
theorem dX12_push_83 : decode cX12_push 83 = .ok (.iload_n 2, 1) := by decide +kernel
theorem dX12_push_84 : decode cX12_push 84 = .ok (.ifCond .ge 5, 3) := by decide +kernel
theorem dX12_push_87 : decode cX12_push 87 = .ok (.iconst (-1), 1) := by decide +kernel
theorem dX12_push_88 : decode cX12_push 88 = .ok (.ireturn, 1) := by decide +kernel
theorem dX12_push_89 : decode cX12_push 89 = .ok (.aload_n 0, 1) := by decide +kernel
theorem dX12_push_90 : decode cX12_push 90 = .ok (.iconst 1, 1) := by decide +kernel
theorem dX12_push_91 : decode cX12_push 91 = .ok (.putfield 335, 3) := by decide +kernel
theorem dX12_push_94 : decode cX12_push 94 = .ok (.aload_n 0, 1) := by decide +kernel
theorem dX12_push_95 : decode cX12_push 95 = .ok (.iload_n 2, 1) := by decide +kernel
theorem dX12_push_96 : decode cX12_push 96 = .ok (.putfield 338, 3) := by decide +kernel
theorem dX12_push_99 : decode cX12_push 99 = .ok (.iload_n 2, 1) := by decide +kernel
theorem dX12_push_100 : decode cX12_push 100 = .ok (.invokestatic 277, 3) := by decide +kernel
theorem dX12_push_103 : decode cX12_push 103 = .ok (.ireturn, 1) := by decide +kernel
theorem dX12_pushing_0 : decode cX12_pushing 0 = .ok (.aload_n 0, 1) := by decide +kernel
theorem dX12_pushing_1 : decode cX12_pushing 1 = .ok (.iconst 0, 1) := by decide +kernel
theorem dX12_pushing_2 : decode cX12_pushing 2 = .ok (.putfield 1, 3) := by decide +kernel
theorem dX12_pushing_5 : decode cX12_pushing 5 = .ok (.aload_n 0, 1) := by decide +kernel
theorem dX12_pushing_6 : decode cX12_pushing 6 = .ok (.getfield 335, 3) := by decide +kernel
theorem dX12_pushing_9 : decode cX12_pushing 9 = .ok (.ifCond .eq 10, 3) := by decide +kernel
theorem dX12_pushing_12 : decode cX12_pushing 12 = .ok (.aload_n 0, 1) := by decide +kernel
theorem dX12_pushing_13 : decode cX12_pushing 13 = .ok (.getfield 338, 3) := by decide +kernel
theorem dX12_pushing_16 : decode cX12_pushing 16 = .ok (.goto 4, 3) := by decide +kernel
theorem dX12_pushing_19 : decode cX12_pushing 19 = .ok (.iconst (-1), 1) := by decide +kernel
theorem dX12_pushing_20 : decode cX12_pushing 20 = .ok (.ireturn, 1) := by decide +kernel
set_option maxRecDepth 20000 in
theorem ggX12_safe_X12_isGuest : GoodIn wsX12_safe wsX12_isGuest := goodIn_r _ [7, 2, 8, 9, 6, 10, 63, 64, 65, 66, 67, 68, 69, 70, 71, 72, 73, 74, 75, 76, 77, 78, 79, 80, 81, 82, 83, 84, 85, 86, 87, 88, 89, 90, 91, 92, 93, 94, 95, 96, 97, 98, 99, 100, 101, 102, 103, 104, 105, 106, 107, 108, 109, 110, 111, 112, 113, 114] (by decide +kernel) (by decide +kernel)
set_option maxRecDepth 20000 in
theorem gX12_safe_X12_isGuest : GoodIn wsX12_safe (wsV RX12 254 RX12 yX12_isGuest wsX12_isGuest) := goodIn_app (goodIn_of _ (by decide +kernel)) ggX12_safe_X12_isGuest
set_option maxRecDepth 20000 in
theorem ggX12_safe_X12_doesSit : GoodIn wsX12_safe wsX12_doesSit := goodIn_r _ [14, 2, 15, 16, 6, 17, 63, 64, 65, 66, 67, 68, 69, 70, 71, 72, 73, 74, 75, 76, 77, 78, 79, 80, 81, 82, 83, 84, 85, 86, 87, 88, 89, 90, 91, 92, 93, 94, 95, 96, 97, 98, 99, 100, 101, 102, 103, 104, 105, 106, 107, 108, 109, 110, 111, 112, 113, 114] (by decide +kernel) (by decide +kernel)
set_option maxRecDepth 20000 in
theorem gX12_safe_X12_doesSit : GoodIn wsX12_safe (wsV RX12 251 RX12 yX12_doesSit wsX12_doesSit) := goodIn_app (goodIn_of _ (by decide +kernel)) ggX12_safe_X12_doesSit
set_option maxRecDepth 20000 in
theorem ggX12_safe_X12_tries : GoodIn wsX12_safe wsX12_tries := goodIn_r _ [21, 22, 2, 63, 64, 65, 66, 67, 68, 69, 70, 71, 72, 73, 74, 75, 76, 77, 78, 79, 80, 81, 82, 83, 84, 85, 86, 87, 88, 89, 90, 91, 92, 93, 94, 95, 96, 97, 98, 99, 100, 101, 102, 103, 104, 105, 106, 107, 108, 109, 110, 111, 112, 113, 114] (by decide +kernel) (by decide +kernel)
set_option maxRecDepth 20000 in
theorem gX12_safe_X12_tries : GoodIn wsX12_safe (wsV RX12 314 RX12 yX12_tries wsX12_tries) := goodIn_app (goodIn_of _ (by decide +kernel)) ggX12_safe_X12_tries
set_option maxRecDepth 20000 in
theorem ggX12_safe_X12_hostNext : GoodIn wsX12_safe wsX12_hostNext := goodIn_r _ [26, 27, 2, 28, 29, 30, 6, 31, 11, 12, 13, 14, 15, 16, 17, 32, 33, 34, 35, 36, 37, 38, 39, 40, 41, 42, 43, 44, 45, 46, 47, 48, 49, 50, 51, 52, 53, 54, 55, 56, 57, 58, 63, 64, 65, 66, 67, 68, 69, 70, 71, 72, 73, 74, 75, 76, 77, 78, 79, 80, 81, 82, 83, 84, 85, 86, 87, 88, 89, 90, 91, 92, 93, 94, 95, 96, 97, 98, 99, 100, 101, 102, 103, 104, 105, 106, 107, 108, 109, 110, 111, 112, 113, 114] (by decide +kernel) (by decide +kernel)
set_option maxRecDepth 20000 in
theorem gX12_safe_X12_hostNext : GoodIn wsX12_safe (wsV RX12 317 RX12 yX12_hostNext wsX12_hostNext) := goodIn_app (goodIn_of _ (by decide +kernel)) ggX12_safe_X12_hostNext
set_option maxRecDepth 20000 in
theorem ggX12_safe_X12_back : GoodIn wsX12_safe wsX12_back := goodIn_r _ [62, 2, 22, 63, 64, 65, 66, 67, 68, 69, 70, 71, 72, 73, 74, 75, 76, 77, 78, 79, 80, 81, 82, 83, 84, 85, 86, 87, 88, 89, 90, 91, 92, 93, 94, 95, 96, 97, 98, 99, 100, 101, 102, 103, 104, 105, 106, 107, 108, 109, 110, 111, 112, 113, 114] (by decide +kernel) (by decide +kernel)
set_option maxRecDepth 20000 in
theorem gX12_safe_X12_back : GoodIn wsX12_safe (wsV RX12 320 RX12 yX12_back wsX12_back) := goodIn_app (goodIn_of _ (by decide +kernel)) ggX12_safe_X12_back
theorem dX12_safe_0 : decode cX12_safe 0 = .ok (.aload_n 0, 1) := by decide +kernel
theorem dX12_safe_1 : decode cX12_safe 1 = .ok (.iconst 0, 1) := by decide +kernel
theorem dX12_safe_2 : decode cX12_safe 2 = .ok (.putfield 1, 3) := by decide +kernel
theorem dX12_safe_5 : decode cX12_safe 5 = .ok (.aload_n 0, 1) := by decide +kernel
theorem dX12_safe_6 : decode cX12_safe 6 = .ok (.iload_n 1, 1) := by decide +kernel
theorem dX12_safe_7 : decode cX12_safe 7 = .ok (.invokevirtual 254, 3) := by decide +kernel
theorem dX12_safe_10 : decode cX12_safe 10 = .ok (.ifCond .eq 11, 3) := by decide +kernel
theorem dX12_safe_13 : decode cX12_safe 13 = .ok (.aload_n 0, 1) := by decide +kernel
theorem dX12_safe_14 : decode cX12_safe 14 = .ok (.iload_n 1, 1) := by decide +kernel
theorem dX12_safe_15 : decode cX12_safe 15 = .ok (.invokevirtual 251, 3) := by decide +kernel
theorem dX12_safe_18 : decode cX12_safe 18 = .ok (.ifCond .eq 5, 3) := by decide +kernel
theorem dX12_safe_21 : decode cX12_safe 21 = .ok (.iconst (-1), 1) := by decide +kernel
theorem dX12_safe_22 : decode cX12_safe 22 = .ok (.ireturn, 1) := by decide +kernel
theorem dX12_safe_23 : decode cX12_safe 23 = .ok (.aload_n 0, 1) := by decide +kernel
theorem dX12_safe_24 : decode cX12_safe 24 = .ok (.invokevirtual 314, 3) := by decide +kernel
theorem dX12_safe_27 : decode cX12_safe 27 = .ok (.iconst 0, 1) := by decide +kernel
theorem dX12_safe_28 : decode cX12_safe 28 = .ok (.istore_n 2, 1) := by decide +kernel
theorem dX12_safe_29 : decode cX12_safe 29 = .ok (.iconst 0, 1) := by decide +kernel
theorem dX12_safe_30 : decode cX12_safe 30 = .ok (.istore_n 3, 1) := by decide +kernel
theorem dX12_safe_31 : decode cX12_safe 31 = .ok (.iload_n 3, 1) := by decide +kernel
theorem dX12_safe_32 : decode cX12_safe 32 = .ok (.aload_n 0, 1) := by decide +kernel
theorem dX12_safe_33 : decode cX12_safe 33 = .ok (.getfield 33, 3) := by decide +kernel
theorem dX12_safe_36 : decode cX12_safe 36 = .ok (.iconst 0, 1) := by decide +kernel
theorem dX12_safe_37 : decode cX12_safe 37 = .ok (.iaload, 1) := by decide +kernel
theorem dX12_safe_38 : decode cX12_safe 38 = .ok (.if_icmp .ge 41, 3) := by decide +kernel
theorem dX12_safe_41 : decode cX12_safe 41 = .ok (.aload_n 0, 1) := by decide +kernel
theorem dX12_safe_42 : decode cX12_safe 42 = .ok (.getfield 33, 3) := by decide +kernel
theorem dX12_safe_45 : decode cX12_safe 45 = .ok (.bipush 56, 2) := by decide +kernel
theorem dX12_safe_47 : decode cX12_safe 47 = .ok (.iload_n 1, 1) := by decide +kernel
theorem dX12_safe_48 : decode cX12_safe 48 = .ok (.iadd, 1) := by decide +kernel
theorem dX12_safe_49 : decode cX12_safe 49 = .ok (.iload_n 3, 1) := by decide +kernel
theorem dX12_safe_50 : decode cX12_safe 50 = .ok (.iastore, 1) := by decide +kernel
theorem dX12_safe_51 : decode cX12_safe 51 = .ok (.iload_n 2, 1) := by decide +kernel
theorem dX12_safe_52 : decode cX12_safe 52 = .ok (.aload_n 0, 1) := by decide +kernel
theorem dX12_safe_53 : decode cX12_safe 53 = .ok (.invokevirtual 317, 3) := by decide +kernel
theorem dX12_safe_56 : decode cX12_safe 56 = .ok (.iload_n 1, 1) := by decide +kernel
theorem dX12_safe_57 : decode cX12_safe 57 = .ok (.if_icmp .ne 7, 3) := by decide +kernel
theorem dX12_safe_60 : decode cX12_safe 60 = .ok (.iconst 0, 1) := by decide +kernel
theorem dX12_safe_61 : decode cX12_safe 61 = .ok (.goto 6, 3) := by decide +kernel
theorem dX12_safe_64 : decode cX12_safe 64 = .ok (.iconst 1, 1) := by decide +kernel
theorem dX12_safe_65 : decode cX12_safe 65 = .ok (.iload_n 3, 1) := by decide +kernel
theorem dX12_safe_66 : decode cX12_safe 66 = .ok (.ishl, 1) := by decide +kernel
theorem dX12_safe_67 : decode cX12_safe 67 = .ok (.ior, 1) := by decide +kernel
theorem dX12_safe_68 : decode cX12_safe 68 = .ok (.istore_n 2, 1) := by decide +kernel
theorem dX12_safe_69 : decode cX12_safe 69 = .ok (.aload_n 0, 1) := by decide +kernel
theorem dX12_safe_70 : decode cX12_safe 70 = .ok (.invokevirtual 320, 3) := by decide +kernel
theorem dX12_safe_73 : decode cX12_safe 73 = .ok (.iinc 3 1, 3) := by decide +kernel
theorem dX12_safe_76 : decode cX12_safe 76 = .ok (.goto (-45), 3) := by decide +kernel
theorem dX12_safe_79 : decode cX12_safe 79 = .ok (.iload_n 2, 1) := by decide +kernel
theorem dX12_safe_80 : decode cX12_safe 80 = .ok (.ireturn, 1) := by decide +kernel
set_option maxRecDepth 20000 in
theorem ggX12_hosts_X12_isIn : GoodIn wsX12_hosts wsX12_isIn := goodIn_r _ [9] (by decide +kernel) (by decide +kernel)
set_option maxRecDepth 20000 in
theorem gX12_hosts_X12_isIn : GoodIn wsX12_hosts (va_wsS RX12 182 yX12_isIn wsX12_isIn) := goodIn_app (goodIn_of _ (by decide +kernel)) ggX12_hosts_X12_isIn
set_option maxRecDepth 20000 in
theorem ggX12_hosts_X12_payerOf : GoodIn wsX12_hosts wsX12_payerOf := goodIn_r _ [13, 3, 14, 15, 16, 17, 18, 19, 20, 21, 22, 23, 24, 25, 26, 27, 28, 29, 30, 31, 32, 33, 34, 35, 36, 37, 38, 39, 40, 41, 42, 43, 44, 45, 46, 47, 48, 49, 50, 51, 52, 53, 54, 55, 56, 57, 58, 59, 60, 61, 62, 63, 64, 65] (by decide +kernel) (by decide +kernel)
set_option maxRecDepth 20000 in
theorem gX12_hosts_X12_payerOf : GoodIn wsX12_hosts (wsV RX12 261 RX12 yX12_payerOf wsX12_payerOf) := goodIn_app (goodIn_of _ (by decide +kernel)) ggX12_hosts_X12_payerOf
theorem dX12_hosts_0 : decode cX12_hosts 0 = .ok (.aload_n 0, 1) := by decide +kernel
theorem dX12_hosts_1 : decode cX12_hosts 1 = .ok (.iconst 0, 1) := by decide +kernel
theorem dX12_hosts_2 : decode cX12_hosts 2 = .ok (.putfield 1, 3) := by decide +kernel
theorem dX12_hosts_5 : decode cX12_hosts 5 = .ok (.iload_n 1, 1) := by decide +kernel
theorem dX12_hosts_6 : decode cX12_hosts 6 = .ok (.iconst 1, 1) := by decide +kernel
theorem dX12_hosts_7 : decode cX12_hosts 7 = .ok (.sipush 999, 3) := by decide +kernel
theorem dX12_hosts_10 : decode cX12_hosts 10 = .ok (.invokestatic 182, 3) := by decide +kernel
theorem dX12_hosts_13 : decode cX12_hosts 13 = .ok (.ifCond .ne 5, 3) := by decide +kernel
theorem dX12_hosts_16 : decode cX12_hosts 16 = .ok (.iconst (-1), 1) := by decide +kernel
theorem dX12_hosts_17 : decode cX12_hosts 17 = .ok (.ireturn, 1) := by decide +kernel
theorem dX12_hosts_18 : decode cX12_hosts 18 = .ok (.iconst 0, 1) := by decide +kernel
theorem dX12_hosts_19 : decode cX12_hosts 19 = .ok (.istore_n 2, 1) := by decide +kernel
theorem dX12_hosts_20 : decode cX12_hosts 20 = .ok (.iload_n 2, 1) := by decide +kernel
theorem dX12_hosts_21 : decode cX12_hosts 21 = .ok (.bipush 7, 2) := by decide +kernel
theorem dX12_hosts_23 : decode cX12_hosts 23 = .ok (.if_icmp .ge 24, 3) := by decide +kernel
theorem dX12_hosts_26 : decode cX12_hosts 26 = .ok (.aload_n 0, 1) := by decide +kernel
theorem dX12_hosts_27 : decode cX12_hosts 27 = .ok (.getfield 59, 3) := by decide +kernel
theorem dX12_hosts_30 : decode cX12_hosts 30 = .ok (.iload_n 2, 1) := by decide +kernel
theorem dX12_hosts_31 : decode cX12_hosts 31 = .ok (.aload_n 0, 1) := by decide +kernel
theorem dX12_hosts_32 : decode cX12_hosts 32 = .ok (.getfield 33, 3) := by decide +kernel
theorem dX12_hosts_35 : decode cX12_hosts 35 = .ok (.bipush 49, 2) := by decide +kernel
theorem dX12_hosts_37 : decode cX12_hosts 37 = .ok (.iload_n 2, 1) := by decide +kernel
theorem dX12_hosts_38 : decode cX12_hosts 38 = .ok (.iadd, 1) := by decide +kernel
theorem dX12_hosts_39 : decode cX12_hosts 39 = .ok (.iaload, 1) := by decide +kernel
theorem dX12_hosts_40 : decode cX12_hosts 40 = .ok (.iastore, 1) := by decide +kernel
theorem dX12_hosts_41 : decode cX12_hosts 41 = .ok (.iinc 2 1, 3) := by decide +kernel
theorem dX12_hosts_44 : decode cX12_hosts 44 = .ok (.goto (-24), 3) := by decide +kernel
theorem dX12_hosts_47 : decode cX12_hosts 47 = .ok (.iconst 0, 1) := by decide +kernel
theorem dX12_hosts_48 : decode cX12_hosts 48 = .ok (.istore_n 2, 1) := by decide +kernel
theorem dX12_hosts_49 : decode cX12_hosts 49 = .ok (.iload_n 2, 1) := by decide +kernel
theorem dX12_hosts_50 : decode cX12_hosts 50 = .ok (.bipush 99, 2) := by decide +kernel
theorem dX12_hosts_52 : decode cX12_hosts 52 = .ok (.if_icmp .ge 104, 3) := by decide +kernel
theorem dX12_hosts_55 : decode cX12_hosts 55 = .ok (.iconst (-1), 1) := by decide +kernel
theorem dX12_hosts_56 : decode cX12_hosts 56 = .ok (.istore_n 3, 1) := by decide +kernel
theorem dX12_hosts_57 : decode cX12_hosts 57 = .ok (.iconst 0, 1) := by decide +kernel
theorem dX12_hosts_58 : decode cX12_hosts 58 = .ok (.istore 4, 2) := by decide +kernel
theorem dX12_hosts_60 : decode cX12_hosts 60 = .ok (.iload 4, 2) := by decide +kernel
theorem dX12_hosts_62 : decode cX12_hosts 62 = .ok (.aload_n 0, 1) := by decide +kernel
theorem dX12_hosts_63 : decode cX12_hosts 63 = .ok (.getfield 33, 3) := by decide +kernel
theorem dX12_hosts_66 : decode cX12_hosts 66 = .ok (.iconst 1, 1) := by decide +kernel
theorem dX12_hosts_67 : decode cX12_hosts 67 = .ok (.iaload, 1) := by decide +kernel
theorem dX12_hosts_68 : decode cX12_hosts 68 = .ok (.if_icmp .ge 40, 3) := by decide +kernel
theorem dX12_hosts_71 : decode cX12_hosts 71 = .ok (.iload_n 3, 1) := by decide +kernel
theorem dX12_hosts_72 : decode cX12_hosts 72 = .ok (.ifCond .lt 27, 3) := by decide +kernel
theorem dX12_hosts_75 : decode cX12_hosts 75 = .ok (.aload_n 0, 1) := by decide +kernel
theorem dX12_hosts_76 : decode cX12_hosts 76 = .ok (.getfield 59, 3) := by decide +kernel
theorem dX12_hosts_79 : decode cX12_hosts 79 = .ok (.aload_n 0, 1) := by decide +kernel
theorem dX12_hosts_80 : decode cX12_hosts 80 = .ok (.iload 4, 2) := by decide +kernel
theorem dX12_hosts_82 : decode cX12_hosts 82 = .ok (.invokevirtual 261, 3) := by decide +kernel
theorem dX12_hosts_85 : decode cX12_hosts 85 = .ok (.iaload, 1) := by decide +kernel
theorem dX12_hosts_86 : decode cX12_hosts 86 = .ok (.aload_n 0, 1) := by decide +kernel
theorem dX12_hosts_87 : decode cX12_hosts 87 = .ok (.getfield 59, 3) := by decide +kernel
theorem dX12_hosts_90 : decode cX12_hosts 90 = .ok (.aload_n 0, 1) := by decide +kernel
theorem dX12_hosts_91 : decode cX12_hosts 91 = .ok (.iload_n 3, 1) := by decide +kernel
theorem dX12_hosts_92 : decode cX12_hosts 92 = .ok (.invokevirtual 261, 3) := by decide +kernel
theorem dX12_hosts_95 : decode cX12_hosts 95 = .ok (.iaload, 1) := by decide +kernel
theorem dX12_hosts_96 : decode cX12_hosts 96 = .ok (.if_icmp .le 6, 3) := by decide +kernel
theorem dX12_hosts_99 : decode cX12_hosts 99 = .ok (.iload 4, 2) := by decide +kernel
theorem dX12_hosts_101 : decode cX12_hosts 101 = .ok (.istore_n 3, 1) := by decide +kernel
theorem dX12_hosts_102 : decode cX12_hosts 102 = .ok (.iinc 4 1, 3) := by decide +kernel
theorem dX12_hosts_105 : decode cX12_hosts 105 = .ok (.goto (-45), 3) := by decide +kernel
theorem dX12_hosts_108 : decode cX12_hosts 108 = .ok (.iload_n 3, 1) := by decide +kernel
theorem dX12_hosts_109 : decode cX12_hosts 109 = .ok (.ifCond .lt 47, 3) := by decide +kernel
theorem dX12_hosts_112 : decode cX12_hosts 112 = .ok (.aload_n 0, 1) := by decide +kernel
theorem dX12_hosts_113 : decode cX12_hosts 113 = .ok (.getfield 59, 3) := by decide +kernel
theorem dX12_hosts_116 : decode cX12_hosts 116 = .ok (.aload_n 0, 1) := by decide +kernel
theorem dX12_hosts_117 : decode cX12_hosts 117 = .ok (.iload_n 3, 1) := by decide +kernel
theorem dX12_hosts_118 : decode cX12_hosts 118 = .ok (.invokevirtual 261, 3) := by decide +kernel
theorem dX12_hosts_121 : decode cX12_hosts 121 = .ok (.iaload, 1) := by decide +kernel
theorem dX12_hosts_122 : decode cX12_hosts 122 = .ok (.iload_n 1, 1) := by decide +kernel
theorem dX12_hosts_123 : decode cX12_hosts 123 = .ok (.if_icmp .ge 6, 3) := by decide +kernel
theorem dX12_hosts_126 : decode cX12_hosts 126 = .ok (.goto 30, 3) := by decide +kernel
theorem dX12_hosts_129 : decode cX12_hosts 129 = .ok (.aload_n 0, 1) := by decide +kernel
theorem dX12_hosts_130 : decode cX12_hosts 130 = .ok (.getfield 59, 3) := by decide +kernel
theorem dX12_hosts_133 : decode cX12_hosts 133 = .ok (.aload_n 0, 1) := by decide +kernel
theorem dX12_hosts_134 : decode cX12_hosts 134 = .ok (.iload_n 3, 1) := by decide +kernel
theorem dX12_hosts_135 : decode cX12_hosts 135 = .ok (.invokevirtual 261, 3) := by decide +kernel
theorem dX12_hosts_138 : decode cX12_hosts 138 = .ok (.dup2, 1) := by decide +kernel
theorem dX12_hosts_139 : decode cX12_hosts 139 = .ok (.iaload, 1) := by decide +kernel
theorem dX12_hosts_140 : decode cX12_hosts 140 = .ok (.iload_n 1, 1) := by decide +kernel
theorem dX12_hosts_141 : decode cX12_hosts 141 = .ok (.isub, 1) := by decide +kernel
theorem dX12_hosts_142 : decode cX12_hosts 142 = .ok (.iastore, 1) := by decide +kernel
theorem dX12_hosts_143 : decode cX12_hosts 143 = .ok (.aload_n 0, 1) := by decide +kernel
theorem dX12_hosts_144 : decode cX12_hosts 144 = .ok (.getfield 62, 3) := by decide +kernel
theorem dX12_hosts_147 : decode cX12_hosts 147 = .ok (.iload_n 2, 1) := by decide +kernel
theorem dX12_hosts_148 : decode cX12_hosts 148 = .ok (.iload_n 3, 1) := by decide +kernel
theorem dX12_hosts_149 : decode cX12_hosts 149 = .ok (.iastore, 1) := by decide +kernel
theorem dX12_hosts_150 : decode cX12_hosts 150 = .ok (.iinc 2 1, 3) := by decide +kernel
theorem dX12_hosts_153 : decode cX12_hosts 153 = .ok (.goto (-104), 3) := by decide +kernel
theorem dX12_hosts_156 : decode cX12_hosts 156 = .ok (.aload_n 0, 1) := by decide +kernel
theorem dX12_hosts_157 : decode cX12_hosts 157 = .ok (.iload_n 2, 1) := by decide +kernel
theorem dX12_hosts_158 : decode cX12_hosts 158 = .ok (.putfield 65, 3) := by decide +kernel
theorem dX12_hosts_161 : decode cX12_hosts 161 = .ok (.iload_n 2, 1) := by decide +kernel
theorem dX12_hosts_162 : decode cX12_hosts 162 = .ok (.ireturn, 1) := by decide +kernel
set_option maxRecDepth 20000 in
theorem ggX12_hostAt_X12_isIn : GoodIn wsX12_hostAt wsX12_isIn := goodIn_r _ [7] (by decide +kernel) (by decide +kernel)
set_option maxRecDepth 20000 in
theorem gX12_hostAt_X12_isIn : GoodIn wsX12_hostAt (va_wsS RX12 182 yX12_isIn wsX12_isIn) := goodIn_app (goodIn_of _ (by decide +kernel)) ggX12_hostAt_X12_isIn
theorem dX12_hostAt_0 : decode cX12_hostAt 0 = .ok (.aload_n 0, 1) := by decide +kernel
theorem dX12_hostAt_1 : decode cX12_hostAt 1 = .ok (.iconst 0, 1) := by decide +kernel
theorem dX12_hostAt_2 : decode cX12_hostAt 2 = .ok (.putfield 1, 3) := by decide +kernel
theorem dX12_hostAt_5 : decode cX12_hostAt 5 = .ok (.iload_n 1, 1) := by decide +kernel
theorem dX12_hostAt_6 : decode cX12_hostAt 6 = .ok (.iconst 0, 1) := by decide +kernel
theorem dX12_hostAt_7 : decode cX12_hostAt 7 = .ok (.aload_n 0, 1) := by decide +kernel
theorem dX12_hostAt_8 : decode cX12_hostAt 8 = .ok (.getfield 65, 3) := by decide +kernel
theorem dX12_hostAt_11 : decode cX12_hostAt 11 = .ok (.iconst 1, 1) := by decide +kernel
theorem dX12_hostAt_12 : decode cX12_hostAt 12 = .ok (.isub, 1) := by decide +kernel
theorem dX12_hostAt_13 : decode cX12_hostAt 13 = .ok (.invokestatic 182, 3) := by decide +kernel
theorem dX12_hostAt_16 : decode cX12_hostAt 16 = .ok (.ifCond .eq 12, 3) := by decide +kernel
theorem dX12_hostAt_19 : decode cX12_hostAt 19 = .ok (.aload_n 0, 1) := by decide +kernel
theorem dX12_hostAt_20 : decode cX12_hostAt 20 = .ok (.getfield 62, 3) := by decide +kernel
theorem dX12_hostAt_23 : decode cX12_hostAt 23 = .ok (.iload_n 1, 1) := by decide +kernel
theorem dX12_hostAt_24 : decode cX12_hostAt 24 = .ok (.iaload, 1) := by decide +kernel
theorem dX12_hostAt_25 : decode cX12_hostAt 25 = .ok (.goto 4, 3) := by decide +kernel
theorem dX12_hostAt_28 : decode cX12_hostAt 28 = .ok (.iconst (-1), 1) := by decide +kernel
theorem dX12_hostAt_29 : decode cX12_hostAt 29 = .ok (.ireturn, 1) := by decide +kernel
set_option maxRecDepth 20000 in
theorem ggX12_isGone_X12_round : GoodIn wsX12_isGone wsX12_round := goodIn_r _ [6, 1, 7, 8, 9, 5, 10, 11, 12, 13, 14, 15, 16, 17, 18, 19, 20, 21, 22, 23, 24, 25, 26, 27, 28, 29, 30, 31, 32, 33, 34, 35, 36, 37, 38, 39, 40, 46, 47, 48, 49, 50, 51, 52, 53, 54, 55, 56, 57, 58, 59, 60, 61, 62, 63, 64, 65, 66, 67, 68, 69, 70, 71, 72, 73, 74, 75, 76, 77, 78, 79, 80, 81, 82, 83, 84, 85, 86, 87, 88, 89, 90, 91, 92, 93, 94, 95, 96, 97] (by decide +kernel) (by decide +kernel)
set_option maxRecDepth 20000 in
theorem gX12_isGone_X12_round : GoodIn wsX12_isGone (wsV RX12 290 RX12 yX12_round wsX12_round) := goodIn_app (goodIn_of _ (by decide +kernel)) ggX12_isGone_X12_round
set_option maxRecDepth 20000 in
theorem ggX12_isGone_X12_back : GoodIn wsX12_isGone wsX12_back := goodIn_r _ [44, 1, 45, 46, 47, 48, 49, 50, 51, 52, 53, 54, 55, 56, 57, 58, 59, 60, 61, 62, 63, 64, 65, 66, 67, 68, 69, 70, 71, 72, 73, 74, 75, 76, 77, 78, 79, 80, 81, 82, 83, 84, 85, 86, 87, 88, 89, 90, 91, 92, 93, 94, 95, 96, 97] (by decide +kernel) (by decide +kernel)
set_option maxRecDepth 20000 in
theorem gX12_isGone_X12_back : GoodIn wsX12_isGone (wsV RX12 320 RX12 yX12_back wsX12_back) := goodIn_app (goodIn_of _ (by decide +kernel)) ggX12_isGone_X12_back
theorem dX12_isGone_0 : decode cX12_isGone 0 = .ok (.iload_n 1, 1) := by decide +kernel
theorem dX12_isGone_1 : decode cX12_isGone 1 = .ok (.bipush 9, 2) := by decide +kernel
theorem dX12_isGone_3 : decode cX12_isGone 3 = .ok (.if_icmp .ge 16, 3) := by decide +kernel
theorem dX12_isGone_6 : decode cX12_isGone 6 = .ok (.aload_n 0, 1) := by decide +kernel
theorem dX12_isGone_7 : decode cX12_isGone 7 = .ok (.getfield 33, 3) := by decide +kernel
theorem dX12_isGone_10 : decode cX12_isGone 10 = .ok (.bipush 47, 2) := by decide +kernel
theorem dX12_isGone_12 : decode cX12_isGone 12 = .ok (.dup2, 1) := by decide +kernel
theorem dX12_isGone_13 : decode cX12_isGone 13 = .ok (.iaload, 1) := by decide +kernel
theorem dX12_isGone_14 : decode cX12_isGone 14 = .ok (.iconst 1, 1) := by decide +kernel
theorem dX12_isGone_15 : decode cX12_isGone 15 = .ok (.iload_n 1, 1) := by decide +kernel
theorem dX12_isGone_16 : decode cX12_isGone 16 = .ok (.ishl, 1) := by decide +kernel
theorem dX12_isGone_17 : decode cX12_isGone 17 = .ok (.ior, 1) := by decide +kernel
theorem dX12_isGone_18 : decode cX12_isGone 18 = .ok (.iastore, 1) := by decide +kernel
theorem dX12_isGone_19 : decode cX12_isGone 19 = .ok (.iconst 0, 1) := by decide +kernel
theorem dX12_isGone_20 : decode cX12_isGone 20 = .ok (.istore 4, 2) := by decide +kernel
theorem dX12_isGone_22 : decode cX12_isGone 22 = .ok (.iload 4, 2) := by decide +kernel
theorem dX12_isGone_24 : decode cX12_isGone 24 = .ok (.iload_n 2, 1) := by decide +kernel
theorem dX12_isGone_25 : decode cX12_isGone 25 = .ok (.if_icmp .ge 15, 3) := by decide +kernel
theorem dX12_isGone_28 : decode cX12_isGone 28 = .ok (.aload_n 0, 1) := by decide +kernel
theorem dX12_isGone_29 : decode cX12_isGone 29 = .ok (.iconst (-1), 1) := by decide +kernel
theorem dX12_isGone_30 : decode cX12_isGone 30 = .ok (.invokevirtual 290, 3) := by decide +kernel
theorem dX12_isGone_33 : decode cX12_isGone 33 = .ok (.pop, 1) := by decide +kernel
theorem dX12_isGone_34 : decode cX12_isGone 34 = .ok (.iinc 4 1, 3) := by decide +kernel
theorem dX12_isGone_37 : decode cX12_isGone 37 = .ok (.goto (-15), 3) := by decide +kernel
theorem dX12_isGone_40 : decode cX12_isGone 40 = .ok (.aload_n 0, 1) := by decide +kernel
theorem dX12_isGone_41 : decode cX12_isGone 41 = .ok (.getfield 33, 3) := by decide +kernel
theorem dX12_isGone_44 : decode cX12_isGone 44 = .ok (.bipush 63, 2) := by decide +kernel
theorem dX12_isGone_46 : decode cX12_isGone 46 = .ok (.iaload, 1) := by decide +kernel
theorem dX12_isGone_47 : decode cX12_isGone 47 = .ok (.iload_n 3, 1) := by decide +kernel
theorem dX12_isGone_48 : decode cX12_isGone 48 = .ok (.if_icmp .ne 7, 3) := by decide +kernel
theorem dX12_isGone_51 : decode cX12_isGone 51 = .ok (.iconst 1, 1) := by decide +kernel
theorem dX12_isGone_52 : decode cX12_isGone 52 = .ok (.goto 4, 3) := by decide +kernel
theorem dX12_isGone_55 : decode cX12_isGone 55 = .ok (.iconst 0, 1) := by decide +kernel
theorem dX12_isGone_56 : decode cX12_isGone 56 = .ok (.istore 4, 2) := by decide +kernel
theorem dX12_isGone_58 : decode cX12_isGone 58 = .ok (.aload_n 0, 1) := by decide +kernel
theorem dX12_isGone_59 : decode cX12_isGone 59 = .ok (.invokevirtual 320, 3) := by decide +kernel
theorem dX12_isGone_62 : decode cX12_isGone 62 = .ok (.iload 4, 2) := by decide +kernel
theorem dX12_isGone_64 : decode cX12_isGone 64 = .ok (.ireturn, 1) := by decide +kernel
set_option maxRecDepth 20000 in
theorem ggX12_gone_X12_taken : GoodIn wsX12_gone wsX12_taken := goodIn_r _ [7, 8, 2, 9, 10, 75, 76, 77, 78, 79, 80, 81, 82, 83, 84, 85, 86, 87, 88, 89, 90, 91, 92, 93, 94, 95, 96, 97, 98, 99, 100, 101, 102, 103, 104, 105, 106, 107, 108, 109, 110, 111, 112, 113, 114, 115, 116, 117, 118, 119, 120, 121, 122, 123, 124, 125, 126] (by decide +kernel) (by decide +kernel)
set_option maxRecDepth 20000 in
theorem gX12_gone_X12_taken : GoodIn wsX12_gone (wsV RX12 233 RX12 yX12_taken wsX12_taken) := goodIn_app (goodIn_of _ (by decide +kernel)) ggX12_gone_X12_taken
set_option maxRecDepth 20000 in
theorem ggX12_gone_X12_octet : GoodIn wsX12_gone wsX12_octet := goodIn_r _ [14, 15, 75, 76, 77, 78, 79, 80, 81, 82, 83, 84, 85, 86, 87, 88, 89, 90, 91, 92, 93, 94, 95, 96, 97, 98, 99, 100, 101, 102, 103, 104, 105, 106, 107, 108, 109, 110, 111, 112, 113, 114, 115, 116, 117, 118, 119, 120, 121, 122, 123, 124, 125, 126] (by decide +kernel) (by decide +kernel)
set_option maxRecDepth 20000 in
theorem gX12_gone_X12_octet : GoodIn wsX12_gone (wsV RX12 341 RX12 yX12_octet wsX12_octet) := goodIn_app (goodIn_of _ (by decide +kernel)) ggX12_gone_X12_octet
set_option maxRecDepth 20000 in
theorem ggX12_gone_X12_isIn : GoodIn wsX12_gone wsX12_isIn := goodIn_r _ [18] (by decide +kernel) (by decide +kernel)
set_option maxRecDepth 20000 in
theorem gX12_gone_X12_isIn : GoodIn wsX12_gone (va_wsS RX12 182 yX12_isIn wsX12_isIn) := goodIn_app (goodIn_of _ (by decide +kernel)) ggX12_gone_X12_isIn
set_option maxRecDepth 20000 in
theorem ggX12_gone_X12_tries : GoodIn wsX12_gone wsX12_tries := goodIn_r _ [22, 23, 24, 75, 76, 77, 78, 79, 80, 81, 82, 83, 84, 85, 86, 87, 88, 89, 90, 91, 92, 93, 94, 95, 96, 97, 98, 99, 100, 101, 102, 103, 104, 105, 106, 107, 108, 109, 110, 111, 112, 113, 114, 115, 116, 117, 118, 119, 120, 121, 122, 123, 124, 125, 126] (by decide +kernel) (by decide +kernel)
set_option maxRecDepth 20000 in
theorem gX12_gone_X12_tries : GoodIn wsX12_gone (wsV RX12 314 RX12 yX12_tries wsX12_tries) := goodIn_app (goodIn_of _ (by decide +kernel)) ggX12_gone_X12_tries
set_option maxRecDepth 20000 in
theorem ggX12_gone_X12_isChair : GoodIn wsX12_gone wsX12_isChair := goodIn_r _ [28, 24, 16, 17, 6, 18, 75, 76, 77, 78, 79, 80, 81, 82, 83, 84, 85, 86, 87, 88, 89, 90, 91, 92, 93, 94, 95, 96, 97, 98, 99, 100, 101, 102, 103, 104, 105, 106, 107, 108, 109, 110, 111, 112, 113, 114, 115, 116, 117, 118, 119, 120, 121, 122, 123, 124, 125, 126] (by decide +kernel) (by decide +kernel)
set_option maxRecDepth 20000 in
theorem gX12_gone_X12_isChair : GoodIn wsX12_gone (wsV RX12 265 RX12 yX12_isChair wsX12_isChair) := goodIn_app (goodIn_of _ (by decide +kernel)) ggX12_gone_X12_isChair
set_option maxRecDepth 20000 in
theorem ggX12_gone_X12_isGone : GoodIn wsX12_gone wsX12_isGone := goodIn_r _ [32, 24, 33, 34, 35, 6, 36, 37, 38, 39, 40, 41, 42, 43, 44, 45, 46, 47, 48, 49, 50, 51, 52, 53, 54, 55, 56, 57, 58, 59, 60, 61, 62, 63, 64, 65, 66, 67, 68, 69, 70, 71, 72, 73, 74, 23, 75, 76, 77, 78, 79, 80, 81, 82, 83, 84, 85, 86, 87, 88, 89, 90, 91, 92, 93, 94, 95, 96, 97, 98, 99, 100, 101, 102, 103, 104, 105, 106, 107, 108, 109, 110, 111, 112, 113, 114, 115, 116, 117, 118, 119, 120, 121, 122, 123, 124, 125, 126] (by decide +kernel) (by decide +kernel)
set_option maxRecDepth 20000 in
theorem gX12_gone_X12_isGone : GoodIn wsX12_gone (wsV RX12 344 RX12 yX12_isGone wsX12_isGone) := goodIn_app (goodIn_of _ (by decide +kernel)) ggX12_gone_X12_isGone
theorem dX12_gone_0 : decode cX12_gone 0 = .ok (.aload_n 0, 1) := by decide +kernel
theorem dX12_gone_1 : decode cX12_gone 1 = .ok (.iconst 0, 1) := by decide +kernel
theorem dX12_gone_2 : decode cX12_gone 2 = .ok (.putfield 1, 3) := by decide +kernel
theorem dX12_gone_5 : decode cX12_gone 5 = .ok (.aload_n 0, 1) := by decide +kernel
theorem dX12_gone_6 : decode cX12_gone 6 = .ok (.sipush 940, 3) := by decide +kernel
theorem dX12_gone_9 : decode cX12_gone 9 = .ok (.invokevirtual 233, 3) := by decide +kernel
theorem dX12_gone_12 : decode cX12_gone 12 = .ok (.aload_n 0, 1) := by decide +kernel
theorem dX12_gone_13 : decode cX12_gone 13 = .ok (.getfield 18, 3) := by decide +kernel
theorem dX12_gone_16 : decode cX12_gone 16 = .ok (.iconst 2, 1) := by decide +kernel
theorem dX12_gone_17 : decode cX12_gone 17 = .ok (.if_icmp .ne 17, 3) := by decide +kernel
theorem dX12_gone_20 : decode cX12_gone 20 = .ok (.aload_n 0, 1) := by decide +kernel
theorem dX12_gone_21 : decode cX12_gone 21 = .ok (.iconst 0, 1) := by decide +kernel
theorem dX12_gone_22 : decode cX12_gone 22 = .ok (.invokevirtual 341, 3) := by decide +kernel
theorem dX12_gone_25 : decode cX12_gone 25 = .ok (.iconst 1, 1) := by decide +kernel
theorem dX12_gone_26 : decode cX12_gone 26 = .ok (.bipush 9, 2) := by decide +kernel
theorem dX12_gone_28 : decode cX12_gone 28 = .ok (.invokestatic 182, 3) := by decide +kernel
theorem dX12_gone_31 : decode cX12_gone 31 = .ok (.ifCond .ne 5, 3) := by decide +kernel
theorem dX12_gone_34 : decode cX12_gone 34 = .ok (.iconst (-1), 1) := by decide +kernel
theorem dX12_gone_35 : decode cX12_gone 35 = .ok (.ireturn, 1) := by decide +kernel
theorem dX12_gone_36 : decode cX12_gone 36 = .ok (.aload_n 0, 1) := by decide +kernel
theorem dX12_gone_37 : decode cX12_gone 37 = .ok (.invokevirtual 314, 3) := by decide +kernel
theorem dX12_gone_40 : decode cX12_gone 40 = .ok (.iconst 0, 1) := by decide +kernel
theorem dX12_gone_41 : decode cX12_gone 41 = .ok (.istore_n 1, 1) := by decide +kernel
theorem dX12_gone_42 : decode cX12_gone 42 = .ok (.iconst 0, 1) := by decide +kernel
theorem dX12_gone_43 : decode cX12_gone 43 = .ok (.istore_n 2, 1) := by decide +kernel
theorem dX12_gone_44 : decode cX12_gone 44 = .ok (.iload_n 2, 1) := by decide +kernel
theorem dX12_gone_45 : decode cX12_gone 45 = .ok (.bipush 9, 2) := by decide +kernel
theorem dX12_gone_47 : decode cX12_gone 47 = .ok (.if_icmp .gt 51, 3) := by decide +kernel
theorem dX12_gone_50 : decode cX12_gone 50 = .ok (.iload_n 1, 1) := by decide +kernel
theorem dX12_gone_51 : decode cX12_gone 51 = .ok (.iload_n 2, 1) := by decide +kernel
theorem dX12_gone_52 : decode cX12_gone 52 = .ok (.bipush 9, 2) := by decide +kernel
theorem dX12_gone_54 : decode cX12_gone 54 = .ok (.if_icmp .eq 11, 3) := by decide +kernel
theorem dX12_gone_57 : decode cX12_gone 57 = .ok (.aload_n 0, 1) := by decide +kernel
theorem dX12_gone_58 : decode cX12_gone 58 = .ok (.iload_n 2, 1) := by decide +kernel
theorem dX12_gone_59 : decode cX12_gone 59 = .ok (.invokevirtual 265, 3) := by decide +kernel
theorem dX12_gone_62 : decode cX12_gone 62 = .ok (.ifCond .eq 27, 3) := by decide +kernel
theorem dX12_gone_65 : decode cX12_gone 65 = .ok (.aload_n 0, 1) := by decide +kernel
theorem dX12_gone_66 : decode cX12_gone 66 = .ok (.iload_n 2, 1) := by decide +kernel
theorem dX12_gone_67 : decode cX12_gone 67 = .ok (.aload_n 0, 1) := by decide +kernel
theorem dX12_gone_68 : decode cX12_gone 68 = .ok (.iconst 0, 1) := by decide +kernel
theorem dX12_gone_69 : decode cX12_gone 69 = .ok (.invokevirtual 341, 3) := by decide +kernel
theorem dX12_gone_72 : decode cX12_gone 72 = .ok (.aload_n 0, 1) := by decide +kernel
theorem dX12_gone_73 : decode cX12_gone 73 = .ok (.iconst 1, 1) := by decide +kernel
theorem dX12_gone_74 : decode cX12_gone 74 = .ok (.invokevirtual 341, 3) := by decide +kernel
theorem dX12_gone_77 : decode cX12_gone 77 = .ok (.invokevirtual 344, 3) := by decide +kernel
theorem dX12_gone_80 : decode cX12_gone 80 = .ok (.ifCond .eq 9, 3) := by decide +kernel
theorem dX12_gone_83 : decode cX12_gone 83 = .ok (.iconst 1, 1) := by decide +kernel
theorem dX12_gone_84 : decode cX12_gone 84 = .ok (.iload_n 2, 1) := by decide +kernel
theorem dX12_gone_85 : decode cX12_gone 85 = .ok (.ishl, 1) := by decide +kernel
theorem dX12_gone_86 : decode cX12_gone 86 = .ok (.goto 4, 3) := by decide +kernel
theorem dX12_gone_89 : decode cX12_gone 89 = .ok (.iconst 0, 1) := by decide +kernel
theorem dX12_gone_90 : decode cX12_gone 90 = .ok (.ior, 1) := by decide +kernel
theorem dX12_gone_91 : decode cX12_gone 91 = .ok (.istore_n 1, 1) := by decide +kernel
theorem dX12_gone_92 : decode cX12_gone 92 = .ok (.iinc 2 1, 3) := by decide +kernel
theorem dX12_gone_95 : decode cX12_gone 95 = .ok (.goto (-51), 3) := by decide +kernel
theorem dX12_gone_98 : decode cX12_gone 98 = .ok (.iload_n 1, 1) := by decide +kernel
theorem dX12_gone_99 : decode cX12_gone 99 = .ok (.ireturn, 1) := by decide +kernel
set_option maxRecDepth 20000 in
theorem ggX12_when_X12_isGuest : GoodIn wsX12_when wsX12_isGuest := goodIn_r _ [7, 2, 8, 9, 6, 10, 15, 16, 17, 18, 19, 20, 21, 22, 23, 24, 25, 26, 27, 28, 29, 30, 31, 32, 33, 34, 35, 36, 37, 38, 39, 40, 41, 42, 43, 44, 45, 46, 47, 48, 49, 50, 51, 52, 53, 54, 55, 56, 57, 58, 59, 60, 61, 62, 63, 64, 65, 66] (by decide +kernel) (by decide +kernel)
set_option maxRecDepth 20000 in
theorem gX12_when_X12_isGuest : GoodIn wsX12_when (wsV RX12 254 RX12 yX12_isGuest wsX12_isGuest) := goodIn_app (goodIn_of _ (by decide +kernel)) ggX12_when_X12_isGuest
set_option maxRecDepth 20000 in
theorem ggX12_when_X12_isChair : GoodIn wsX12_when wsX12_isChair := goodIn_r _ [14, 2, 8, 9, 6, 10, 15, 16, 17, 18, 19, 20, 21, 22, 23, 24, 25, 26, 27, 28, 29, 30, 31, 32, 33, 34, 35, 36, 37, 38, 39, 40, 41, 42, 43, 44, 45, 46, 47, 48, 49, 50, 51, 52, 53, 54, 55, 56, 57, 58, 59, 60, 61, 62, 63, 64, 65, 66] (by decide +kernel) (by decide +kernel)
set_option maxRecDepth 20000 in
theorem gX12_when_X12_isChair : GoodIn wsX12_when (wsV RX12 265 RX12 yX12_isChair wsX12_isChair) := goodIn_app (goodIn_of _ (by decide +kernel)) ggX12_when_X12_isChair
theorem dX12_when_0 : decode cX12_when 0 = .ok (.aload_n 0, 1) := by decide +kernel
theorem dX12_when_1 : decode cX12_when 1 = .ok (.iconst 0, 1) := by decide +kernel
theorem dX12_when_2 : decode cX12_when 2 = .ok (.putfield 1, 3) := by decide +kernel
theorem dX12_when_5 : decode cX12_when 5 = .ok (.aload_n 0, 1) := by decide +kernel
theorem dX12_when_6 : decode cX12_when 6 = .ok (.iload_n 1, 1) := by decide +kernel
theorem dX12_when_7 : decode cX12_when 7 = .ok (.invokevirtual 254, 3) := by decide +kernel
theorem dX12_when_10 : decode cX12_when 10 = .ok (.ifCond .eq 11, 3) := by decide +kernel
theorem dX12_when_13 : decode cX12_when 13 = .ok (.aload_n 0, 1) := by decide +kernel
theorem dX12_when_14 : decode cX12_when 14 = .ok (.iload_n 2, 1) := by decide +kernel
theorem dX12_when_15 : decode cX12_when 15 = .ok (.invokevirtual 265, 3) := by decide +kernel
theorem dX12_when_18 : decode cX12_when 18 = .ok (.ifCond .ne 5, 3) := by decide +kernel
theorem dX12_when_21 : decode cX12_when 21 = .ok (.iconst (-1), 1) := by decide +kernel
theorem dX12_when_22 : decode cX12_when 22 = .ok (.ireturn, 1) := by decide +kernel
theorem dX12_when_23 : decode cX12_when 23 = .ok (.iconst 0, 1) := by decide +kernel
theorem dX12_when_24 : decode cX12_when 24 = .ok (.istore_n 3, 1) := by decide +kernel
theorem dX12_when_25 : decode cX12_when 25 = .ok (.iload_n 3, 1) := by decide +kernel
theorem dX12_when_26 : decode cX12_when 26 = .ok (.aload_n 0, 1) := by decide +kernel
theorem dX12_when_27 : decode cX12_when 27 = .ok (.getfield 33, 3) := by decide +kernel
theorem dX12_when_30 : decode cX12_when 30 = .ok (.iconst 0, 1) := by decide +kernel
theorem dX12_when_31 : decode cX12_when 31 = .ok (.iaload, 1) := by decide +kernel
theorem dX12_when_32 : decode cX12_when 32 = .ok (.if_icmp .ge 43, 3) := by decide +kernel
theorem dX12_when_35 : decode cX12_when 35 = .ok (.aload_n 0, 1) := by decide +kernel
theorem dX12_when_36 : decode cX12_when 36 = .ok (.getfield 33, 3) := by decide +kernel
theorem dX12_when_39 : decode cX12_when 39 = .ok (.bipush 56, 2) := by decide +kernel
theorem dX12_when_41 : decode cX12_when 41 = .ok (.iload_n 1, 1) := by decide +kernel
theorem dX12_when_42 : decode cX12_when 42 = .ok (.iadd, 1) := by decide +kernel
theorem dX12_when_43 : decode cX12_when 43 = .ok (.iaload, 1) := by decide +kernel
theorem dX12_when_44 : decode cX12_when 44 = .ok (.iload_n 3, 1) := by decide +kernel
theorem dX12_when_45 : decode cX12_when 45 = .ok (.aload_n 0, 1) := by decide +kernel
theorem dX12_when_46 : decode cX12_when 46 = .ok (.getfield 33, 3) := by decide +kernel
theorem dX12_when_49 : decode cX12_when 49 = .ok (.bipush 17, 2) := by decide +kernel
theorem dX12_when_51 : decode cX12_when 51 = .ok (.iload_n 1, 1) := by decide +kernel
theorem dX12_when_52 : decode cX12_when 52 = .ok (.iadd, 1) := by decide +kernel
theorem dX12_when_53 : decode cX12_when 53 = .ok (.iaload, 1) := by decide +kernel
theorem dX12_when_54 : decode cX12_when 54 = .ok (.imul, 1) := by decide +kernel
theorem dX12_when_55 : decode cX12_when 55 = .ok (.iadd, 1) := by decide +kernel
theorem dX12_when_56 : decode cX12_when 56 = .ok (.aload_n 0, 1) := by decide +kernel
theorem dX12_when_57 : decode cX12_when 57 = .ok (.getfield 33, 3) := by decide +kernel
theorem dX12_when_60 : decode cX12_when 60 = .ok (.iconst 0, 1) := by decide +kernel
theorem dX12_when_61 : decode cX12_when 61 = .ok (.iaload, 1) := by decide +kernel
theorem dX12_when_62 : decode cX12_when 62 = .ok (.irem, 1) := by decide +kernel
theorem dX12_when_63 : decode cX12_when 63 = .ok (.iload_n 2, 1) := by decide +kernel
theorem dX12_when_64 : decode cX12_when 64 = .ok (.if_icmp .ne 5, 3) := by decide +kernel
theorem dX12_when_67 : decode cX12_when 67 = .ok (.iload_n 3, 1) := by decide +kernel
theorem dX12_when_68 : decode cX12_when 68 = .ok (.ireturn, 1) := by decide +kernel
theorem dX12_when_69 : decode cX12_when 69 = .ok (.iinc 3 1, 3) := by decide +kernel
theorem dX12_when_72 : decode cX12_when 72 = .ok (.goto (-47), 3) := by decide +kernel
theorem dX12_when_75 : decode cX12_when 75 = .ok (.iconst (-1), 1) := by decide +kernel
theorem dX12_when_76 : decode cX12_when 76 = .ok (.ireturn, 1) := by decide +kernel
set_option maxRecDepth 20000 in
theorem ggX12_menu_X12_payerOf : GoodIn wsX12_menu wsX12_payerOf := goodIn_r _ [9, 3, 23, 24, 25, 26, 27, 28, 29, 30, 31, 32, 33, 34, 35, 36, 37, 38, 39, 40, 41, 42, 43, 44, 45, 46, 47, 48, 49, 50, 51, 52, 53, 54, 55, 56, 57, 58, 59, 60, 61, 62, 63, 64, 65, 66, 67, 68, 69, 70, 71, 72, 73, 74] (by decide +kernel) (by decide +kernel)
set_option maxRecDepth 20000 in
theorem gX12_menu_X12_payerOf : GoodIn wsX12_menu (wsV RX12 261 RX12 yX12_payerOf wsX12_payerOf) := goodIn_app (goodIn_of _ (by decide +kernel)) ggX12_menu_X12_payerOf
set_option maxRecDepth 20000 in
theorem ggX12_menu_X12_lesser : GoodIn wsX12_menu wsX12_lesser := goodIn_r _ [12] (by decide +kernel) (by decide +kernel)
set_option maxRecDepth 20000 in
theorem gX12_menu_X12_lesser : GoodIn wsX12_menu (va_wsS RX12 280 yX12_lesser wsX12_lesser) := goodIn_app (goodIn_of _ (by decide +kernel)) ggX12_menu_X12_lesser
set_option maxRecDepth 20000 in
theorem ggX12_menu_X12_bits : GoodIn wsX12_menu wsX12_bits := goodIn_r _ [15] (by decide +kernel) (by decide +kernel)
set_option maxRecDepth 20000 in
theorem gX12_menu_X12_bits : GoodIn wsX12_menu (va_wsS RX12 277 yX12_bits wsX12_bits) := goodIn_app (goodIn_of _ (by decide +kernel)) ggX12_menu_X12_bits
set_option maxRecDepth 20000 in
theorem ggX12_menu_X12_costOf : GoodIn wsX12_menu wsX12_costOf := goodIn_r _ [19, 3, 20, 21, 8, 22, 23, 24, 25, 26, 27, 28, 29, 30, 31, 32, 33, 34, 35, 36, 37, 38, 39, 40, 41, 42, 43, 44, 45, 46, 47, 48, 49, 50, 51, 52, 53, 54, 55, 56, 57, 58, 59, 60, 61, 62, 63, 64, 65, 66, 67, 68, 69, 70, 71, 72, 73, 74] (by decide +kernel) (by decide +kernel)
set_option maxRecDepth 20000 in
theorem gX12_menu_X12_costOf : GoodIn wsX12_menu (wsV RX12 271 RX12 yX12_costOf wsX12_costOf) := goodIn_app (goodIn_of _ (by decide +kernel)) ggX12_menu_X12_costOf
theorem dX12_menu_0 : decode cX12_menu 0 = .ok (.aload_n 0, 1) := by decide +kernel
theorem dX12_menu_1 : decode cX12_menu 1 = .ok (.iconst 0, 1) := by decide +kernel
theorem dX12_menu_2 : decode cX12_menu 2 = .ok (.putfield 1, 3) := by decide +kernel
theorem dX12_menu_5 : decode cX12_menu 5 = .ok (.ldc_w 347, 3) := by decide +kernel
theorem dX12_menu_8 : decode cX12_menu 8 = .ok (.istore_n 1, 1) := by decide +kernel
theorem dX12_menu_9 : decode cX12_menu 9 = .ok (.iconst 0, 1) := by decide +kernel
theorem dX12_menu_10 : decode cX12_menu 10 = .ok (.istore_n 2, 1) := by decide +kernel
theorem dX12_menu_11 : decode cX12_menu 11 = .ok (.iload_n 2, 1) := by decide +kernel
theorem dX12_menu_12 : decode cX12_menu 12 = .ok (.aload_n 0, 1) := by decide +kernel
theorem dX12_menu_13 : decode cX12_menu 13 = .ok (.getfield 33, 3) := by decide +kernel
theorem dX12_menu_16 : decode cX12_menu 16 = .ok (.iconst 1, 1) := by decide +kernel
theorem dX12_menu_17 : decode cX12_menu 17 = .ok (.iaload, 1) := by decide +kernel
theorem dX12_menu_18 : decode cX12_menu 18 = .ok (.if_icmp .ge 27, 3) := by decide +kernel
theorem dX12_menu_21 : decode cX12_menu 21 = .ok (.iload_n 1, 1) := by decide +kernel
theorem dX12_menu_22 : decode cX12_menu 22 = .ok (.aload_n 0, 1) := by decide +kernel
theorem dX12_menu_23 : decode cX12_menu 23 = .ok (.getfield 33, 3) := by decide +kernel
theorem dX12_menu_26 : decode cX12_menu 26 = .ok (.bipush 49, 2) := by decide +kernel
theorem dX12_menu_28 : decode cX12_menu 28 = .ok (.aload_n 0, 1) := by decide +kernel
theorem dX12_menu_29 : decode cX12_menu 29 = .ok (.iload_n 2, 1) := by decide +kernel
theorem dX12_menu_30 : decode cX12_menu 30 = .ok (.invokevirtual 261, 3) := by decide +kernel
theorem dX12_menu_33 : decode cX12_menu 33 = .ok (.iadd, 1) := by decide +kernel
theorem dX12_menu_34 : decode cX12_menu 34 = .ok (.iaload, 1) := by decide +kernel
theorem dX12_menu_35 : decode cX12_menu 35 = .ok (.invokestatic 280, 3) := by decide +kernel
theorem dX12_menu_38 : decode cX12_menu 38 = .ok (.istore_n 1, 1) := by decide +kernel
theorem dX12_menu_39 : decode cX12_menu 39 = .ok (.iinc 2 1, 3) := by decide +kernel
theorem dX12_menu_42 : decode cX12_menu 42 = .ok (.goto (-31), 3) := by decide +kernel
theorem dX12_menu_45 : decode cX12_menu 45 = .ok (.iconst 0, 1) := by decide +kernel
theorem dX12_menu_46 : decode cX12_menu 46 = .ok (.istore_n 2, 1) := by decide +kernel
theorem dX12_menu_47 : decode cX12_menu 47 = .ok (.iconst 1, 1) := by decide +kernel
theorem dX12_menu_48 : decode cX12_menu 48 = .ok (.istore_n 3, 1) := by decide +kernel
theorem dX12_menu_49 : decode cX12_menu 49 = .ok (.iload_n 3, 1) := by decide +kernel
theorem dX12_menu_50 : decode cX12_menu 50 = .ok (.iconst 1, 1) := by decide +kernel
theorem dX12_menu_51 : decode cX12_menu 51 = .ok (.aload_n 0, 1) := by decide +kernel
theorem dX12_menu_52 : decode cX12_menu 52 = .ok (.getfield 33, 3) := by decide +kernel
theorem dX12_menu_55 : decode cX12_menu 55 = .ok (.iconst 2, 1) := by decide +kernel
theorem dX12_menu_56 : decode cX12_menu 56 = .ok (.iaload, 1) := by decide +kernel
theorem dX12_menu_57 : decode cX12_menu 57 = .ok (.ishl, 1) := by decide +kernel
theorem dX12_menu_58 : decode cX12_menu 58 = .ok (.if_icmp .ge 57, 3) := by decide +kernel
theorem dX12_menu_61 : decode cX12_menu 61 = .ok (.iload_n 3, 1) := by decide +kernel
theorem dX12_menu_62 : decode cX12_menu 62 = .ok (.invokestatic 277, 3) := by decide +kernel
theorem dX12_menu_65 : decode cX12_menu 65 = .ok (.iload_n 2, 1) := by decide +kernel
theorem dX12_menu_66 : decode cX12_menu 66 = .ok (.invokestatic 277, 3) := by decide +kernel
theorem dX12_menu_69 : decode cX12_menu 69 = .ok (.isub, 1) := by decide +kernel
theorem dX12_menu_70 : decode cX12_menu 70 = .ok (.istore 4, 2) := by decide +kernel
theorem dX12_menu_72 : decode cX12_menu 72 = .ok (.aload_n 0, 1) := by decide +kernel
theorem dX12_menu_73 : decode cX12_menu 73 = .ok (.iload_n 3, 1) := by decide +kernel
theorem dX12_menu_74 : decode cX12_menu 74 = .ok (.invokevirtual 271, 3) := by decide +kernel
theorem dX12_menu_77 : decode cX12_menu 77 = .ok (.iload_n 1, 1) := by decide +kernel
theorem dX12_menu_78 : decode cX12_menu 78 = .ok (.if_icmp .gt 31, 3) := by decide +kernel
theorem dX12_menu_81 : decode cX12_menu 81 = .ok (.iload 4, 2) := by decide +kernel
theorem dX12_menu_83 : decode cX12_menu 83 = .ok (.ifCond .lt 26, 3) := by decide +kernel
theorem dX12_menu_86 : decode cX12_menu 86 = .ok (.iload 4, 2) := by decide +kernel
theorem dX12_menu_88 : decode cX12_menu 88 = .ok (.ifCond .ne 19, 3) := by decide +kernel
theorem dX12_menu_91 : decode cX12_menu 91 = .ok (.aload_n 0, 1) := by decide +kernel
theorem dX12_menu_92 : decode cX12_menu 92 = .ok (.iload_n 3, 1) := by decide +kernel
theorem dX12_menu_93 : decode cX12_menu 93 = .ok (.invokevirtual 271, 3) := by decide +kernel
theorem dX12_menu_96 : decode cX12_menu 96 = .ok (.aload_n 0, 1) := by decide +kernel
theorem dX12_menu_97 : decode cX12_menu 97 = .ok (.iload_n 2, 1) := by decide +kernel
theorem dX12_menu_98 : decode cX12_menu 98 = .ok (.invokevirtual 271, 3) := by decide +kernel
theorem dX12_menu_101 : decode cX12_menu 101 = .ok (.if_icmp .lt 6, 3) := by decide +kernel
theorem dX12_menu_104 : decode cX12_menu 104 = .ok (.goto 5, 3) := by decide +kernel
theorem dX12_menu_107 : decode cX12_menu 107 = .ok (.iload_n 3, 1) := by decide +kernel
theorem dX12_menu_108 : decode cX12_menu 108 = .ok (.istore_n 2, 1) := by decide +kernel
theorem dX12_menu_109 : decode cX12_menu 109 = .ok (.iinc 3 1, 3) := by decide +kernel
theorem dX12_menu_112 : decode cX12_menu 112 = .ok (.goto (-63), 3) := by decide +kernel
theorem dX12_menu_115 : decode cX12_menu 115 = .ok (.aload_n 0, 1) := by decide +kernel
theorem dX12_menu_116 : decode cX12_menu 116 = .ok (.iload_n 2, 1) := by decide +kernel
theorem dX12_menu_117 : decode cX12_menu 117 = .ok (.putfield 68, 3) := by decide +kernel
theorem dX12_menu_120 : decode cX12_menu 120 = .ok (.iload_n 2, 1) := by decide +kernel
theorem dX12_menu_121 : decode cX12_menu 121 = .ok (.invokestatic 277, 3) := by decide +kernel
theorem dX12_menu_124 : decode cX12_menu 124 = .ok (.ireturn, 1) := by decide +kernel
theorem dX12_menuOf_0 : decode cX12_menuOf 0 = .ok (.aload_n 0, 1) := by decide +kernel
theorem dX12_menuOf_1 : decode cX12_menuOf 1 = .ok (.iconst 0, 1) := by decide +kernel
theorem dX12_menuOf_2 : decode cX12_menuOf 2 = .ok (.putfield 1, 3) := by decide +kernel
theorem dX12_menuOf_5 : decode cX12_menuOf 5 = .ok (.aload_n 0, 1) := by decide +kernel
theorem dX12_menuOf_6 : decode cX12_menuOf 6 = .ok (.getfield 68, 3) := by decide +kernel
theorem dX12_menuOf_9 : decode cX12_menuOf 9 = .ok (.ireturn, 1) := by decide +kernel
set_option maxRecDepth 20000 in
theorem ggX12_proud_X12_taken : GoodIn wsX12_proud wsX12_taken := goodIn_r _ [10, 11, 2, 12, 13, 28, 29, 30, 31, 32, 33, 34, 35, 36, 37, 38, 39, 40, 41, 42, 43, 44, 45, 46, 47, 48, 49, 50, 51, 52, 53, 54, 55, 56, 57, 58, 59, 60, 61, 62, 63, 64, 65, 66, 67, 68, 69, 70, 71, 72, 73, 74, 75, 76, 77, 78, 79] (by decide +kernel) (by decide +kernel)
set_option maxRecDepth 20000 in
theorem gX12_proud_X12_taken : GoodIn wsX12_proud (wsV RX12 233 RX12 yX12_taken wsX12_taken) := goodIn_app (goodIn_of _ (by decide +kernel)) ggX12_proud_X12_taken
set_option maxRecDepth 20000 in
theorem ggX12_proud_X12_isIn : GoodIn wsX12_proud wsX12_isIn := goodIn_r _ [16] (by decide +kernel) (by decide +kernel)
set_option maxRecDepth 20000 in
theorem gX12_proud_X12_isIn : GoodIn wsX12_proud (va_wsS RX12 182 yX12_isIn wsX12_isIn) := goodIn_app (goodIn_of _ (by decide +kernel)) ggX12_proud_X12_isIn
set_option maxRecDepth 20000 in
theorem ggX12_proud_X12_octet : GoodIn wsX12_proud wsX12_octet := goodIn_r _ [20, 21, 28, 29, 30, 31, 32, 33, 34, 35, 36, 37, 38, 39, 40, 41, 42, 43, 44, 45, 46, 47, 48, 49, 50, 51, 52, 53, 54, 55, 56, 57, 58, 59, 60, 61, 62, 63, 64, 65, 66, 67, 68, 69, 70, 71, 72, 73, 74, 75, 76, 77, 78, 79] (by decide +kernel) (by decide +kernel)
set_option maxRecDepth 20000 in
theorem gX12_proud_X12_octet : GoodIn wsX12_proud (wsV RX12 341 RX12 yX12_octet wsX12_octet) := goodIn_app (goodIn_of _ (by decide +kernel)) ggX12_proud_X12_octet
set_option maxRecDepth 20000 in
theorem ggX12_proud_X12_bits : GoodIn wsX12_proud wsX12_bits := goodIn_r _ [24] (by decide +kernel) (by decide +kernel)
set_option maxRecDepth 20000 in
theorem gX12_proud_X12_bits : GoodIn wsX12_proud (va_wsS RX12 277 yX12_bits wsX12_bits) := goodIn_app (goodIn_of _ (by decide +kernel)) ggX12_proud_X12_bits
set_option maxRecDepth 20000 in
theorem ggX12_proud_X12_greater : GoodIn wsX12_proud wsX12_greater := goodIn_r _ [27] (by decide +kernel) (by decide +kernel)
set_option maxRecDepth 20000 in
theorem gX12_proud_X12_greater : GoodIn wsX12_proud (va_wsS RX12 351 yX12_greater wsX12_greater) := goodIn_app (goodIn_of _ (by decide +kernel)) ggX12_proud_X12_greater
theorem dX12_proud_0 : decode cX12_proud 0 = .ok (.aload_n 0, 1) := by decide +kernel
theorem dX12_proud_1 : decode cX12_proud 1 = .ok (.iconst 0, 1) := by decide +kernel
theorem dX12_proud_2 : decode cX12_proud 2 = .ok (.putfield 1, 3) := by decide +kernel
theorem dX12_proud_5 : decode cX12_proud 5 = .ok (.aload_n 0, 1) := by decide +kernel
theorem dX12_proud_6 : decode cX12_proud 6 = .ok (.sipush 940, 3) := by decide +kernel
theorem dX12_proud_9 : decode cX12_proud 9 = .ok (.invokevirtual 233, 3) := by decide +kernel
theorem dX12_proud_12 : decode cX12_proud 12 = .ok (.aload_n 0, 1) := by decide +kernel
theorem dX12_proud_13 : decode cX12_proud 13 = .ok (.getfield 18, 3) := by decide +kernel
theorem dX12_proud_16 : decode cX12_proud 16 = .ok (.iconst 2, 1) := by decide +kernel
theorem dX12_proud_17 : decode cX12_proud 17 = .ok (.bipush 16, 2) := by decide +kernel
theorem dX12_proud_19 : decode cX12_proud 19 = .ok (.invokestatic 182, 3) := by decide +kernel
theorem dX12_proud_22 : decode cX12_proud 22 = .ok (.ifCond .eq 13, 3) := by decide +kernel
theorem dX12_proud_25 : decode cX12_proud 25 = .ok (.aload_n 0, 1) := by decide +kernel
theorem dX12_proud_26 : decode cX12_proud 26 = .ok (.getfield 18, 3) := by decide +kernel
theorem dX12_proud_29 : decode cX12_proud 29 = .ok (.iconst 2, 1) := by decide +kernel
theorem dX12_proud_30 : decode cX12_proud 30 = .ok (.irem, 1) := by decide +kernel
theorem dX12_proud_31 : decode cX12_proud 31 = .ok (.iconst 1, 1) := by decide +kernel
theorem dX12_proud_32 : decode cX12_proud 32 = .ok (.if_icmp .ne 5, 3) := by decide +kernel
theorem dX12_proud_35 : decode cX12_proud 35 = .ok (.iconst (-1), 1) := by decide +kernel
theorem dX12_proud_36 : decode cX12_proud 36 = .ok (.ireturn, 1) := by decide +kernel
theorem dX12_proud_37 : decode cX12_proud 37 = .ok (.iconst 1, 1) := by decide +kernel
theorem dX12_proud_38 : decode cX12_proud 38 = .ok (.istore_n 1, 1) := by decide +kernel
theorem dX12_proud_39 : decode cX12_proud 39 = .ok (.iload_n 1, 1) := by decide +kernel
theorem dX12_proud_40 : decode cX12_proud 40 = .ok (.aload_n 0, 1) := by decide +kernel
theorem dX12_proud_41 : decode cX12_proud 41 = .ok (.getfield 18, 3) := by decide +kernel
theorem dX12_proud_44 : decode cX12_proud 44 = .ok (.if_icmp .ge 20, 3) := by decide +kernel
theorem dX12_proud_47 : decode cX12_proud 47 = .ok (.aload_n 0, 1) := by decide +kernel
theorem dX12_proud_48 : decode cX12_proud 48 = .ok (.iload_n 1, 1) := by decide +kernel
theorem dX12_proud_49 : decode cX12_proud 49 = .ok (.invokevirtual 341, 3) := by decide +kernel
theorem dX12_proud_52 : decode cX12_proud 52 = .ok (.iconst 1, 1) := by decide +kernel
theorem dX12_proud_53 : decode cX12_proud 53 = .ok (.if_icmp .le 5, 3) := by decide +kernel
theorem dX12_proud_56 : decode cX12_proud 56 = .ok (.iconst (-1), 1) := by decide +kernel
theorem dX12_proud_57 : decode cX12_proud 57 = .ok (.ireturn, 1) := by decide +kernel
theorem dX12_proud_58 : decode cX12_proud 58 = .ok (.iinc 1 2, 3) := by decide +kernel
theorem dX12_proud_61 : decode cX12_proud 61 = .ok (.goto (-22), 3) := by decide +kernel
theorem dX12_proud_64 : decode cX12_proud 64 = .ok (.iconst 0, 1) := by decide +kernel
theorem dX12_proud_65 : decode cX12_proud 65 = .ok (.istore_n 1, 1) := by decide +kernel
theorem dX12_proud_66 : decode cX12_proud 66 = .ok (.iconst 0, 1) := by decide +kernel
theorem dX12_proud_67 : decode cX12_proud 67 = .ok (.istore_n 2, 1) := by decide +kernel
theorem dX12_proud_68 : decode cX12_proud 68 = .ok (.iload_n 2, 1) := by decide +kernel
theorem dX12_proud_69 : decode cX12_proud 69 = .ok (.bipush 10, 2) := by decide +kernel
theorem dX12_proud_71 : decode cX12_proud 71 = .ok (.if_icmp .ge 88, 3) := by decide +kernel
theorem dX12_proud_74 : decode cX12_proud 74 = .ok (.iconst 1, 1) := by decide +kernel
theorem dX12_proud_75 : decode cX12_proud 75 = .ok (.istore_n 3, 1) := by decide +kernel
theorem dX12_proud_76 : decode cX12_proud 76 = .ok (.iconst 0, 1) := by decide +kernel
theorem dX12_proud_77 : decode cX12_proud 77 = .ok (.istore 4, 2) := by decide +kernel
theorem dX12_proud_79 : decode cX12_proud 79 = .ok (.iload 4, 2) := by decide +kernel
theorem dX12_proud_81 : decode cX12_proud 81 = .ok (.aload_n 0, 1) := by decide +kernel
theorem dX12_proud_82 : decode cX12_proud 82 = .ok (.getfield 18, 3) := by decide +kernel
theorem dX12_proud_85 : decode cX12_proud 85 = .ok (.if_icmp .ge 54, 3) := by decide +kernel
theorem dX12_proud_88 : decode cX12_proud 88 = .ok (.iload_n 3, 1) := by decide +kernel
theorem dX12_proud_89 : decode cX12_proud 89 = .ok (.ifCond .eq 42, 3) := by decide +kernel
theorem dX12_proud_92 : decode cX12_proud 92 = .ok (.aload_n 0, 1) := by decide +kernel
theorem dX12_proud_93 : decode cX12_proud 93 = .ok (.iload 4, 2) := by decide +kernel
theorem dX12_proud_95 : decode cX12_proud 95 = .ok (.invokevirtual 341, 3) := by decide +kernel
theorem dX12_proud_98 : decode cX12_proud 98 = .ok (.iload_n 2, 1) := by decide +kernel
theorem dX12_proud_99 : decode cX12_proud 99 = .ok (.if_icmp .lt 7, 3) := by decide +kernel
theorem dX12_proud_102 : decode cX12_proud 102 = .ok (.iconst 1, 1) := by decide +kernel
theorem dX12_proud_103 : decode cX12_proud 103 = .ok (.goto 4, 3) := by decide +kernel
theorem dX12_proud_106 : decode cX12_proud 106 = .ok (.iconst 0, 1) := by decide +kernel
theorem dX12_proud_107 : decode cX12_proud 107 = .ok (.aload_n 0, 1) := by decide +kernel
theorem dX12_proud_108 : decode cX12_proud 108 = .ok (.iload 4, 2) := by decide +kernel
theorem dX12_proud_110 : decode cX12_proud 110 = .ok (.iconst 1, 1) := by decide +kernel
theorem dX12_proud_111 : decode cX12_proud 111 = .ok (.iadd, 1) := by decide +kernel
theorem dX12_proud_112 : decode cX12_proud 112 = .ok (.invokevirtual 341, 3) := by decide +kernel
theorem dX12_proud_115 : decode cX12_proud 115 = .ok (.iconst 1, 1) := by decide +kernel
theorem dX12_proud_116 : decode cX12_proud 116 = .ok (.if_icmp .ne 7, 3) := by decide +kernel
theorem dX12_proud_119 : decode cX12_proud 119 = .ok (.iconst 1, 1) := by decide +kernel
theorem dX12_proud_120 : decode cX12_proud 120 = .ok (.goto 4, 3) := by decide +kernel
theorem dX12_proud_123 : decode cX12_proud 123 = .ok (.iconst 0, 1) := by decide +kernel
theorem dX12_proud_124 : decode cX12_proud 124 = .ok (.if_icmp .ne 7, 3) := by decide +kernel
theorem dX12_proud_127 : decode cX12_proud 127 = .ok (.iconst 1, 1) := by decide +kernel
theorem dX12_proud_128 : decode cX12_proud 128 = .ok (.goto 4, 3) := by decide +kernel
theorem dX12_proud_131 : decode cX12_proud 131 = .ok (.iconst 0, 1) := by decide +kernel
theorem dX12_proud_132 : decode cX12_proud 132 = .ok (.istore_n 3, 1) := by decide +kernel
theorem dX12_proud_133 : decode cX12_proud 133 = .ok (.iinc 4 2, 3) := by decide +kernel
theorem dX12_proud_136 : decode cX12_proud 136 = .ok (.goto (-57), 3) := by decide +kernel
theorem dX12_proud_139 : decode cX12_proud 139 = .ok (.iload_n 1, 1) := by decide +kernel
theorem dX12_proud_140 : decode cX12_proud 140 = .ok (.iload_n 3, 1) := by decide +kernel
theorem dX12_proud_141 : decode cX12_proud 141 = .ok (.ifCond .eq 9, 3) := by decide +kernel
theorem dX12_proud_144 : decode cX12_proud 144 = .ok (.iconst 1, 1) := by decide +kernel
theorem dX12_proud_145 : decode cX12_proud 145 = .ok (.iload_n 2, 1) := by decide +kernel
theorem dX12_proud_146 : decode cX12_proud 146 = .ok (.ishl, 1) := by decide +kernel
theorem dX12_proud_147 : decode cX12_proud 147 = .ok (.goto 4, 3) := by decide +kernel
theorem dX12_proud_150 : decode cX12_proud 150 = .ok (.iconst 0, 1) := by decide +kernel
theorem dX12_proud_151 : decode cX12_proud 151 = .ok (.ior, 1) := by decide +kernel
theorem dX12_proud_152 : decode cX12_proud 152 = .ok (.istore_n 1, 1) := by decide +kernel
theorem dX12_proud_153 : decode cX12_proud 153 = .ok (.iinc 2 1, 3) := by decide +kernel
theorem dX12_proud_156 : decode cX12_proud 156 = .ok (.goto (-88), 3) := by decide +kernel
theorem dX12_proud_159 : decode cX12_proud 159 = .ok (.iload_n 1, 1) := by decide +kernel
theorem dX12_proud_160 : decode cX12_proud 160 = .ok (.ifCond .ne 5, 3) := by decide +kernel
theorem dX12_proud_163 : decode cX12_proud 163 = .ok (.iconst 0, 1) := by decide +kernel
theorem dX12_proud_164 : decode cX12_proud 164 = .ok (.ireturn, 1) := by decide +kernel
theorem dX12_proud_165 : decode cX12_proud 165 = .ok (.aload_n 0, 1) := by decide +kernel
theorem dX12_proud_166 : decode cX12_proud 166 = .ok (.iconst 1, 1) := by decide +kernel
theorem dX12_proud_167 : decode cX12_proud 167 = .ok (.putfield 348, 3) := by decide +kernel
theorem dX12_proud_170 : decode cX12_proud 170 = .ok (.ldc_w 347, 3) := by decide +kernel
theorem dX12_proud_173 : decode cX12_proud 173 = .ok (.istore_n 2, 1) := by decide +kernel
theorem dX12_proud_174 : decode cX12_proud 174 = .ok (.iconst 0, 1) := by decide +kernel
theorem dX12_proud_175 : decode cX12_proud 175 = .ok (.istore_n 3, 1) := by decide +kernel
theorem dX12_proud_176 : decode cX12_proud 176 = .ok (.iload_n 3, 1) := by decide +kernel
theorem dX12_proud_177 : decode cX12_proud 177 = .ok (.bipush 10, 2) := by decide +kernel
theorem dX12_proud_179 : decode cX12_proud 179 = .ok (.if_icmp .ge 52, 3) := by decide +kernel
theorem dX12_proud_182 : decode cX12_proud 182 = .ok (.iload_n 1, 1) := by decide +kernel
theorem dX12_proud_183 : decode cX12_proud 183 = .ok (.iconst 2, 1) := by decide +kernel
theorem dX12_proud_184 : decode cX12_proud 184 = .ok (.iload_n 3, 1) := by decide +kernel
theorem dX12_proud_185 : decode cX12_proud 185 = .ok (.ishl, 1) := by decide +kernel
theorem dX12_proud_186 : decode cX12_proud 186 = .ok (.iconst 1, 1) := by decide +kernel
theorem dX12_proud_187 : decode cX12_proud 187 = .ok (.isub, 1) := by decide +kernel
theorem dX12_proud_188 : decode cX12_proud 188 = .ok (.iand, 1) := by decide +kernel
theorem dX12_proud_189 : decode cX12_proud 189 = .ok (.invokestatic 277, 3) := by decide +kernel
theorem dX12_proud_192 : decode cX12_proud 192 = .ok (.istore 4, 2) := by decide +kernel
theorem dX12_proud_194 : decode cX12_proud 194 = .ok (.iload 4, 2) := by decide +kernel
theorem dX12_proud_196 : decode cX12_proud 196 = .ok (.iload_n 1, 1) := by decide +kernel
theorem dX12_proud_197 : decode cX12_proud 197 = .ok (.invokestatic 277, 3) := by decide +kernel
theorem dX12_proud_200 : decode cX12_proud 200 = .ok (.iload 4, 2) := by decide +kernel
theorem dX12_proud_202 : decode cX12_proud 202 = .ok (.isub, 1) := by decide +kernel
theorem dX12_proud_203 : decode cX12_proud 203 = .ok (.invokestatic 351, 3) := by decide +kernel
theorem dX12_proud_206 : decode cX12_proud 206 = .ok (.istore 5, 2) := by decide +kernel
theorem dX12_proud_208 : decode cX12_proud 208 = .ok (.iload 5, 2) := by decide +kernel
theorem dX12_proud_210 : decode cX12_proud 210 = .ok (.iload_n 2, 1) := by decide +kernel
theorem dX12_proud_211 : decode cX12_proud 211 = .ok (.if_icmp .lt 6, 3) := by decide +kernel
theorem dX12_proud_214 : decode cX12_proud 214 = .ok (.goto 11, 3) := by decide +kernel
theorem dX12_proud_217 : decode cX12_proud 217 = .ok (.iload 5, 2) := by decide +kernel
theorem dX12_proud_219 : decode cX12_proud 219 = .ok (.istore_n 2, 1) := by decide +kernel
theorem dX12_proud_220 : decode cX12_proud 220 = .ok (.aload_n 0, 1) := by decide +kernel
theorem dX12_proud_221 : decode cX12_proud 221 = .ok (.iload_n 3, 1) := by decide +kernel
theorem dX12_proud_222 : decode cX12_proud 222 = .ok (.putfield 354, 3) := by decide +kernel
theorem dX12_proud_225 : decode cX12_proud 225 = .ok (.iinc 3 1, 3) := by decide +kernel
theorem dX12_proud_228 : decode cX12_proud 228 = .ok (.goto (-52), 3) := by decide +kernel
theorem dX12_proud_231 : decode cX12_proud 231 = .ok (.iload_n 1, 1) := by decide +kernel
theorem dX12_proud_232 : decode cX12_proud 232 = .ok (.ireturn, 1) := by decide +kernel
theorem dX12_watch_0 : decode cX12_watch 0 = .ok (.aload_n 0, 1) := by decide +kernel
theorem dX12_watch_1 : decode cX12_watch 1 = .ok (.iconst 0, 1) := by decide +kernel
theorem dX12_watch_2 : decode cX12_watch 2 = .ok (.putfield 1, 3) := by decide +kernel
theorem dX12_watch_5 : decode cX12_watch 5 = .ok (.aload_n 0, 1) := by decide +kernel
theorem dX12_watch_6 : decode cX12_watch 6 = .ok (.getfield 348, 3) := by decide +kernel
theorem dX12_watch_9 : decode cX12_watch 9 = .ok (.ifCond .eq 10, 3) := by decide +kernel
theorem dX12_watch_12 : decode cX12_watch 12 = .ok (.aload_n 0, 1) := by decide +kernel
theorem dX12_watch_13 : decode cX12_watch 13 = .ok (.getfield 354, 3) := by decide +kernel
theorem dX12_watch_16 : decode cX12_watch 16 = .ok (.goto 4, 3) := by decide +kernel
theorem dX12_watch_19 : decode cX12_watch 19 = .ok (.iconst (-1), 1) := by decide +kernel
theorem dX12_watch_20 : decode cX12_watch 20 = .ok (.ireturn, 1) := by decide +kernel
set_option maxRecDepth 20000 in
theorem ggX12_mean_X12_isIn : GoodIn wsX12_mean wsX12_isIn := goodIn_r _ [5] (by decide +kernel) (by decide +kernel)
set_option maxRecDepth 20000 in
theorem gX12_mean_X12_isIn : GoodIn wsX12_mean (va_wsS RX12 182 yX12_isIn wsX12_isIn) := goodIn_app (goodIn_of _ (by decide +kernel)) ggX12_mean_X12_isIn
set_option maxRecDepth 20000 in
theorem ggX12_mean_X12_throwsIf : GoodIn wsX12_mean wsX12_throwsIf := goodIn_r _ [9, 10, 15, 16, 17, 18, 19, 20, 21, 22, 23, 24, 25, 26, 27, 28, 29, 30, 31, 32, 33, 34, 35, 36, 37, 38, 39, 40, 41, 42, 43, 44, 45, 46, 47, 48, 49, 50, 51, 52, 53, 54, 55, 56, 57, 58, 59, 60, 61, 62, 63, 64, 65, 66] (by decide +kernel) (by decide +kernel)
set_option maxRecDepth 20000 in
theorem gX12_mean_X12_throwsIf : GoodIn wsX12_mean (wsV RX12 257 RX12 yX12_throwsIf wsX12_throwsIf) := goodIn_app (goodIn_of _ (by decide +kernel)) ggX12_mean_X12_throwsIf
set_option maxRecDepth 20000 in
theorem ggX12_mean_X12_paidInAll : GoodIn wsX12_mean wsX12_paidInAll := goodIn_r _ [14, 1, 15, 16, 17, 18, 19, 20, 21, 22, 23, 24, 25, 26, 27, 28, 29, 30, 31, 32, 33, 34, 35, 36, 37, 38, 39, 40, 41, 42, 43, 44, 45, 46, 47, 48, 49, 50, 51, 52, 53, 54, 55, 56, 57, 58, 59, 60, 61, 62, 63, 64, 65, 66] (by decide +kernel) (by decide +kernel)
set_option maxRecDepth 20000 in
theorem gX12_mean_X12_paidInAll : GoodIn wsX12_mean (wsV RX12 274 RX12 yX12_paidInAll wsX12_paidInAll) := goodIn_app (goodIn_of _ (by decide +kernel)) ggX12_mean_X12_paidInAll
theorem dX12_mean_0 : decode cX12_mean 0 = .ok (.aload_n 0, 1) := by decide +kernel
theorem dX12_mean_1 : decode cX12_mean 1 = .ok (.aload_n 0, 1) := by decide +kernel
theorem dX12_mean_2 : decode cX12_mean 2 = .ok (.getfield 33, 3) := by decide +kernel
theorem dX12_mean_5 : decode cX12_mean 5 = .ok (.iconst 1, 1) := by decide +kernel
theorem dX12_mean_6 : decode cX12_mean 6 = .ok (.iaload, 1) := by decide +kernel
theorem dX12_mean_7 : decode cX12_mean 7 = .ok (.ifCond .eq 12, 3) := by decide +kernel
theorem dX12_mean_10 : decode cX12_mean 10 = .ok (.iload_n 1, 1) := by decide +kernel
theorem dX12_mean_11 : decode cX12_mean 11 = .ok (.iconst 0, 1) := by decide +kernel
theorem dX12_mean_12 : decode cX12_mean 12 = .ok (.iconst 1, 1) := by decide +kernel
theorem dX12_mean_13 : decode cX12_mean 13 = .ok (.invokestatic 182, 3) := by decide +kernel
theorem dX12_mean_16 : decode cX12_mean 16 = .ok (.ifCond .ne 7, 3) := by decide +kernel
theorem dX12_mean_19 : decode cX12_mean 19 = .ok (.iconst 1, 1) := by decide +kernel
theorem dX12_mean_20 : decode cX12_mean 20 = .ok (.goto 4, 3) := by decide +kernel
theorem dX12_mean_23 : decode cX12_mean 23 = .ok (.iconst 0, 1) := by decide +kernel
theorem dX12_mean_24 : decode cX12_mean 24 = .ok (.invokevirtual 257, 3) := by decide +kernel
theorem dX12_mean_27 : decode cX12_mean 27 = .ok (.ifCond .eq 5, 3) := by decide +kernel
theorem dX12_mean_30 : decode cX12_mean 30 = .ok (.iconst 0, 1) := by decide +kernel
theorem dX12_mean_31 : decode cX12_mean 31 = .ok (.ireturn, 1) := by decide +kernel
theorem dX12_mean_32 : decode cX12_mean 32 = .ok (.aload_n 0, 1) := by decide +kernel
theorem dX12_mean_33 : decode cX12_mean 33 = .ok (.getfield 33, 3) := by decide +kernel
theorem dX12_mean_36 : decode cX12_mean 36 = .ok (.iconst 1, 1) := by decide +kernel
theorem dX12_mean_37 : decode cX12_mean 37 = .ok (.iaload, 1) := by decide +kernel
theorem dX12_mean_38 : decode cX12_mean 38 = .ok (.istore_n 2, 1) := by decide +kernel
theorem dX12_mean_39 : decode cX12_mean 39 = .ok (.aload_n 0, 1) := by decide +kernel
theorem dX12_mean_40 : decode cX12_mean 40 = .ok (.invokevirtual 274, 3) := by decide +kernel
theorem dX12_mean_43 : decode cX12_mean 43 = .ok (.istore_n 3, 1) := by decide +kernel
theorem dX12_mean_44 : decode cX12_mean 44 = .ok (.iload_n 3, 1) := by decide +kernel
theorem dX12_mean_45 : decode cX12_mean 45 = .ok (.ifCond .eq 16, 3) := by decide +kernel
theorem dX12_mean_48 : decode cX12_mean 48 = .ok (.iload_n 2, 1) := by decide +kernel
theorem dX12_mean_49 : decode cX12_mean 49 = .ok (.iload_n 3, 1) := by decide +kernel
theorem dX12_mean_50 : decode cX12_mean 50 = .ok (.irem, 1) := by decide +kernel
theorem dX12_mean_51 : decode cX12_mean 51 = .ok (.istore 4, 2) := by decide +kernel
theorem dX12_mean_53 : decode cX12_mean 53 = .ok (.iload_n 3, 1) := by decide +kernel
theorem dX12_mean_54 : decode cX12_mean 54 = .ok (.istore_n 2, 1) := by decide +kernel
theorem dX12_mean_55 : decode cX12_mean 55 = .ok (.iload 4, 2) := by decide +kernel
theorem dX12_mean_57 : decode cX12_mean 57 = .ok (.istore_n 3, 1) := by decide +kernel
theorem dX12_mean_58 : decode cX12_mean 58 = .ok (.goto (-14), 3) := by decide +kernel
theorem dX12_mean_61 : decode cX12_mean 61 = .ok (.iload_n 1, 1) := by decide +kernel
theorem dX12_mean_62 : decode cX12_mean 62 = .ok (.ifCond .ne 10, 3) := by decide +kernel
theorem dX12_mean_65 : decode cX12_mean 65 = .ok (.aload_n 0, 1) := by decide +kernel
theorem dX12_mean_66 : decode cX12_mean 66 = .ok (.invokevirtual 274, 3) := by decide +kernel
theorem dX12_mean_69 : decode cX12_mean 69 = .ok (.goto 9, 3) := by decide +kernel
theorem dX12_mean_72 : decode cX12_mean 72 = .ok (.aload_n 0, 1) := by decide +kernel
theorem dX12_mean_73 : decode cX12_mean 73 = .ok (.getfield 33, 3) := by decide +kernel
theorem dX12_mean_76 : decode cX12_mean 76 = .ok (.iconst 1, 1) := by decide +kernel
theorem dX12_mean_77 : decode cX12_mean 77 = .ok (.iaload, 1) := by decide +kernel
theorem dX12_mean_78 : decode cX12_mean 78 = .ok (.iload_n 2, 1) := by decide +kernel
theorem dX12_mean_79 : decode cX12_mean 79 = .ok (.idiv, 1) := by decide +kernel
theorem dX12_mean_80 : decode cX12_mean 80 = .ok (.ireturn, 1) := by decide +kernel
theorem dX12_lays_0 : decode cX12_lays 0 = .ok (.aload_n 0, 1) := by decide +kernel
theorem dX12_lays_1 : decode cX12_lays 1 = .ok (.getfield 71, 3) := by decide +kernel
theorem dX12_lays_4 : decode cX12_lays 4 = .ok (.aload_n 0, 1) := by decide +kernel
theorem dX12_lays_5 : decode cX12_lays 5 = .ok (.getfield 357, 3) := by decide +kernel
theorem dX12_lays_8 : decode cX12_lays 8 = .ok (.iload_n 1, 1) := by decide +kernel
theorem dX12_lays_9 : decode cX12_lays 9 = .ok (.i2b, 1) := by decide +kernel
theorem dX12_lays_10 : decode cX12_lays 10 = .ok (.bastore, 1) := by decide +kernel
theorem dX12_lays_11 : decode cX12_lays 11 = .ok (.aload_n 0, 1) := by decide +kernel
theorem dX12_lays_12 : decode cX12_lays 12 = .ok (.dup, 1) := by decide +kernel
theorem dX12_lays_13 : decode cX12_lays 13 = .ok (.getfield 357, 3) := by decide +kernel
theorem dX12_lays_16 : decode cX12_lays 16 = .ok (.iconst 1, 1) := by decide +kernel
theorem dX12_lays_17 : decode cX12_lays 17 = .ok (.iadd, 1) := by decide +kernel
theorem dX12_lays_18 : decode cX12_lays 18 = .ok (.putfield 357, 3) := by decide +kernel
theorem dX12_lays_21 : decode cX12_lays 21 = .ok (.return_, 1) := by decide +kernel
set_option maxRecDepth 20000 in
theorem ggX12_spells_X12_lays : GoodIn wsX12_spells wsX12_lays := goodIn_r _ [6, 7, 8, 9, 10, 11, 12, 13, 14, 15, 16, 17, 18, 19, 20, 21, 22, 23, 24, 25, 26, 27, 28, 29, 30, 31, 32, 33, 34, 35, 36, 37, 38, 39, 40, 41, 42, 43, 44, 45, 46, 47, 48, 49, 50, 51, 52, 53, 54, 55, 56, 57, 58, 59, 60] (by decide +kernel) (by decide +kernel)
set_option maxRecDepth 20000 in
theorem gX12_spells_X12_lays : GoodIn wsX12_spells (wsV RX12 362 RX12 yX12_lays wsX12_lays) := goodIn_app (goodIn_of _ (by decide +kernel)) ggX12_spells_X12_lays
theorem dX12_spells_0 : decode cX12_spells 0 = .ok (.bipush 56, 2) := by decide +kernel
theorem dX12_spells_2 : decode cX12_spells 2 = .ok (.istore_n 3, 1) := by decide +kernel
theorem dX12_spells_3 : decode cX12_spells 3 = .ok (.iload_n 3, 1) := by decide +kernel
theorem dX12_spells_4 : decode cX12_spells 4 = .ok (.ifCond .lt 33, 3) := by decide +kernel
theorem dX12_spells_7 : decode cX12_spells 7 = .ok (.lload_n 1, 1) := by decide +kernel
theorem dX12_spells_8 : decode cX12_spells 8 = .ok (.iload_n 3, 1) := by decide +kernel
theorem dX12_spells_9 : decode cX12_spells 9 = .ok (.lshr, 1) := by decide +kernel
theorem dX12_spells_10 : decode cX12_spells 10 = .ok (.ldc2_w 360, 3) := by decide +kernel
theorem dX12_spells_13 : decode cX12_spells 13 = .ok (.land, 1) := by decide +kernel
theorem dX12_spells_14 : decode cX12_spells 14 = .ok (.lconst 0, 1) := by decide +kernel
theorem dX12_spells_15 : decode cX12_spells 15 = .ok (.lcmp, 1) := by decide +kernel
theorem dX12_spells_16 : decode cX12_spells 16 = .ok (.ifCond .eq 15, 3) := by decide +kernel
theorem dX12_spells_19 : decode cX12_spells 19 = .ok (.aload_n 0, 1) := by decide +kernel
theorem dX12_spells_20 : decode cX12_spells 20 = .ok (.lload_n 1, 1) := by decide +kernel
theorem dX12_spells_21 : decode cX12_spells 21 = .ok (.iload_n 3, 1) := by decide +kernel
theorem dX12_spells_22 : decode cX12_spells 22 = .ok (.lshr, 1) := by decide +kernel
theorem dX12_spells_23 : decode cX12_spells 23 = .ok (.ldc2_w 360, 3) := by decide +kernel
theorem dX12_spells_26 : decode cX12_spells 26 = .ok (.land, 1) := by decide +kernel
theorem dX12_spells_27 : decode cX12_spells 27 = .ok (.l2i, 1) := by decide +kernel
theorem dX12_spells_28 : decode cX12_spells 28 = .ok (.invokevirtual 362, 3) := by decide +kernel
theorem dX12_spells_31 : decode cX12_spells 31 = .ok (.iinc 3 (-8), 3) := by decide +kernel
theorem dX12_spells_34 : decode cX12_spells 34 = .ok (.goto (-31), 3) := by decide +kernel
theorem dX12_spells_37 : decode cX12_spells 37 = .ok (.return_, 1) := by decide +kernel
set_option maxRecDepth 20000 in
theorem ggX12_says_X12_lays : GoodIn wsX12_says wsX12_lays := goodIn_r _ [5, 6, 7, 13, 14, 15, 16, 17, 18, 19, 20, 21, 22, 23, 24, 25, 26, 27, 28, 29, 30, 31, 32, 33, 34, 35, 36, 37, 38, 39, 40, 41, 42, 43, 44, 45, 46, 47, 48, 49, 50, 51, 52, 53, 54, 55, 56, 57, 58, 59, 60, 61, 62, 63, 64] (by decide +kernel) (by decide +kernel)
set_option maxRecDepth 20000 in
theorem gX12_says_X12_lays : GoodIn wsX12_says (wsV RX12 362 RX12 yX12_lays wsX12_lays) := goodIn_app (goodIn_of _ (by decide +kernel)) ggX12_says_X12_lays
set_option maxRecDepth 20000 in
theorem ggX12_says_X12_spells : GoodIn wsX12_says wsX12_spells := goodIn_r _ [11, 12, 1, 2, 3, 4, 5, 6, 7, 13, 14, 15, 16, 17, 18, 19, 20, 21, 22, 23, 24, 25, 26, 27, 28, 29, 30, 31, 32, 33, 34, 35, 36, 37, 38, 39, 40, 41, 42, 43, 44, 45, 46, 47, 48, 49, 50, 51, 52, 53, 54, 55, 56, 57, 58, 59, 60, 61, 62, 63, 64] (by decide +kernel) (by decide +kernel)
set_option maxRecDepth 20000 in
theorem gX12_says_X12_spells : GoodIn wsX12_says (wsV RX12 365 RX12 yX12_spells wsX12_spells) := goodIn_app (goodIn_of _ (by decide +kernel)) ggX12_says_X12_spells
theorem dX12_says_0 : decode cX12_says 0 = .ok (.aload_n 0, 1) := by decide +kernel
theorem dX12_says_1 : decode cX12_says 1 = .ok (.bipush 32, 2) := by decide +kernel
theorem dX12_says_3 : decode cX12_says 3 = .ok (.invokevirtual 362, 3) := by decide +kernel
theorem dX12_says_6 : decode cX12_says 6 = .ok (.aload_n 0, 1) := by decide +kernel
theorem dX12_says_7 : decode cX12_says 7 = .ok (.lload_n 1, 1) := by decide +kernel
theorem dX12_says_8 : decode cX12_says 8 = .ok (.invokevirtual 365, 3) := by decide +kernel
theorem dX12_says_11 : decode cX12_says 11 = .ok (.return_, 1) := by decide +kernel
set_option maxRecDepth 20000 in
theorem ggX12_plate_X12_isGuest : GoodIn wsX12_plate wsX12_isGuest := goodIn_r _ [13, 7, 14, 15, 12, 16, 38, 39, 40, 41, 42, 43, 44, 45, 46, 47, 48, 49, 50, 51, 52, 53, 54, 55, 56, 57, 58, 59, 60, 61, 62, 63, 64, 65, 66, 67, 68, 69, 70, 71, 72, 73, 74, 75, 76, 77, 78, 79, 80, 81, 82, 83, 84, 85, 86, 87, 88, 89] (by decide +kernel) (by decide +kernel)
set_option maxRecDepth 20000 in
theorem gX12_plate_X12_isGuest : GoodIn wsX12_plate (wsV RX12 254 RX12 yX12_isGuest wsX12_isGuest) := goodIn_app (goodIn_of _ (by decide +kernel)) ggX12_plate_X12_isGuest
set_option maxRecDepth 20000 in
theorem ggX12_plate_X12_spells : GoodIn wsX12_plate wsX12_spells := goodIn_r _ [20, 21, 22, 23, 24, 12, 25, 26, 2, 38, 39, 40, 41, 42, 43, 44, 45, 46, 47, 48, 49, 50, 51, 52, 53, 54, 55, 56, 57, 58, 59, 60, 61, 62, 63, 64, 65, 66, 67, 68, 69, 70, 71, 72, 73, 74, 75, 76, 77, 78, 79, 80, 81, 82, 83, 84, 85, 86, 87, 88, 89] (by decide +kernel) (by decide +kernel)
set_option maxRecDepth 20000 in
theorem gX12_plate_X12_spells : GoodIn wsX12_plate (wsV RX12 365 RX12 yX12_spells wsX12_spells) := goodIn_app (goodIn_of _ (by decide +kernel)) ggX12_plate_X12_spells
set_option maxRecDepth 20000 in
theorem ggX12_plate_X12_doesSit : GoodIn wsX12_plate wsX12_doesSit := goodIn_r _ [30, 7, 31, 32, 12, 33, 38, 39, 40, 41, 42, 43, 44, 45, 46, 47, 48, 49, 50, 51, 52, 53, 54, 55, 56, 57, 58, 59, 60, 61, 62, 63, 64, 65, 66, 67, 68, 69, 70, 71, 72, 73, 74, 75, 76, 77, 78, 79, 80, 81, 82, 83, 84, 85, 86, 87, 88, 89] (by decide +kernel) (by decide +kernel)
set_option maxRecDepth 20000 in
theorem gX12_plate_X12_doesSit : GoodIn wsX12_plate (wsV RX12 251 RX12 yX12_doesSit wsX12_doesSit) := goodIn_app (goodIn_of _ (by decide +kernel)) ggX12_plate_X12_doesSit
set_option maxRecDepth 20000 in
theorem ggX12_plate_X12_says : GoodIn wsX12_plate wsX12_says := goodIn_r _ [37, 22, 23, 24, 12, 25, 26, 2, 17, 18, 19, 20, 21, 38, 39, 40, 41, 42, 43, 44, 45, 46, 47, 48, 49, 50, 51, 52, 53, 54, 55, 56, 57, 58, 59, 60, 61, 62, 63, 64, 65, 66, 67, 68, 69, 70, 71, 72, 73, 74, 75, 76, 77, 78, 79, 80, 81, 82, 83, 84, 85, 86, 87, 88, 89] (by decide +kernel) (by decide +kernel)
set_option maxRecDepth 20000 in
theorem gX12_plate_X12_says : GoodIn wsX12_plate (wsV RX12 371 RX12 yX12_says wsX12_says) := goodIn_app (goodIn_of _ (by decide +kernel)) ggX12_plate_X12_says
set_option maxRecDepth 20000 in
theorem ggX12_plate_X12_lays : GoodIn wsX12_plate wsX12_lays := goodIn_r _ [25, 26, 2, 38, 39, 40, 41, 42, 43, 44, 45, 46, 47, 48, 49, 50, 51, 52, 53, 54, 55, 56, 57, 58, 59, 60, 61, 62, 63, 64, 65, 66, 67, 68, 69, 70, 71, 72, 73, 74, 75, 76, 77, 78, 79, 80, 81, 82, 83, 84, 85, 86, 87, 88, 89] (by decide +kernel) (by decide +kernel)
set_option maxRecDepth 20000 in
theorem gX12_plate_X12_lays : GoodIn wsX12_plate (wsV RX12 362 RX12 yX12_lays wsX12_lays) := goodIn_app (goodIn_of _ (by decide +kernel)) ggX12_plate_X12_lays
theorem dX12_plate_0 : decode cX12_plate 0 = .ok (.aload_n 0, 1) := by decide +kernel
theorem dX12_plate_1 : decode cX12_plate 1 = .ok (.iconst 0, 1) := by decide +kernel
theorem dX12_plate_2 : decode cX12_plate 2 = .ok (.putfield 1, 3) := by decide +kernel
theorem dX12_plate_5 : decode cX12_plate 5 = .ok (.aload_n 0, 1) := by decide +kernel
theorem dX12_plate_6 : decode cX12_plate 6 = .ok (.iload_n 1, 1) := by decide +kernel
theorem dX12_plate_7 : decode cX12_plate 7 = .ok (.invokevirtual 254, 3) := by decide +kernel
theorem dX12_plate_10 : decode cX12_plate 10 = .ok (.ifCond .ne 5, 3) := by decide +kernel
theorem dX12_plate_13 : decode cX12_plate 13 = .ok (.iconst (-1), 1) := by decide +kernel
theorem dX12_plate_14 : decode cX12_plate 14 = .ok (.ireturn, 1) := by decide +kernel
theorem dX12_plate_15 : decode cX12_plate 15 = .ok (.aload_n 0, 1) := by decide +kernel
theorem dX12_plate_16 : decode cX12_plate 16 = .ok (.iconst 0, 1) := by decide +kernel
theorem dX12_plate_17 : decode cX12_plate 17 = .ok (.putfield 357, 3) := by decide +kernel
theorem dX12_plate_20 : decode cX12_plate 20 = .ok (.aload_n 0, 1) := by decide +kernel
theorem dX12_plate_21 : decode cX12_plate 21 = .ok (.aload_n 0, 1) := by decide +kernel
theorem dX12_plate_22 : decode cX12_plate 22 = .ok (.getfield 43, 3) := by decide +kernel
theorem dX12_plate_25 : decode cX12_plate 25 = .ok (.iload_n 1, 1) := by decide +kernel
theorem dX12_plate_26 : decode cX12_plate 26 = .ok (.laload, 1) := by decide +kernel
theorem dX12_plate_27 : decode cX12_plate 27 = .ok (.invokevirtual 365, 3) := by decide +kernel
theorem dX12_plate_30 : decode cX12_plate 30 = .ok (.aload_n 0, 1) := by decide +kernel
theorem dX12_plate_31 : decode cX12_plate 31 = .ok (.aload_n 0, 1) := by decide +kernel
theorem dX12_plate_32 : decode cX12_plate 32 = .ok (.iload_n 1, 1) := by decide +kernel
theorem dX12_plate_33 : decode cX12_plate 33 = .ok (.invokevirtual 251, 3) := by decide +kernel
theorem dX12_plate_36 : decode cX12_plate 36 = .ok (.ifCond .eq 9, 3) := by decide +kernel
theorem dX12_plate_39 : decode cX12_plate 39 = .ok (.ldc2_w 101, 3) := by decide +kernel
theorem dX12_plate_42 : decode cX12_plate 42 = .ok (.goto 6, 3) := by decide +kernel
