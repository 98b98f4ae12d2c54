set_option maxRecDepth 20000 in
theorem gX6_divide_X6_toX : GoodIn wsX6_divide (wsV RX6 70 RX6 yX6_toX wsX6_toX) := goodIn_app (goodIn_of _ (by decide +kernel)) ggX6_divide_X6_toX
set_option maxRecDepth 20000 in
theorem ggX6_divide_X6_toY : GoodIn wsX6_divide wsX6_toY := goodIn_r _ [22, 17, 8, 6, 18, 59, 60, 61, 62, 63, 64, 65, 66, 67, 68, 69, 70, 71, 72] (by decide +kernel) (by decide +kernel)
set_option maxRecDepth 20000 in
theorem gX6_divide_X6_toY : GoodIn wsX6_divide (wsV RX6 92 RX6 yX6_toY wsX6_toY) := goodIn_app (goodIn_of _ (by decide +kernel)) ggX6_divide_X6_toY
set_option maxRecDepth 20000 in
theorem ggX6_divide_X6_split : GoodIn wsX6_divide wsX6_split := goodIn_r _ [26, 6, 8, 7, 3, 5, 4, 27, 28, 11, 29, 30, 31, 32, 33, 34, 35, 36, 37, 38, 39, 40, 41, 42, 43, 44, 59, 60, 61, 62, 63, 64, 65, 66, 67, 68, 69, 70, 71, 72] (by decide +kernel) (by decide +kernel)
set_option maxRecDepth 20000 in
theorem gX6_divide_X6_split : GoodIn wsX6_divide (wsV RX6 106 RX6 yX6_split wsX6_split) := goodIn_app (goodIn_of _ (by decide +kernel)) ggX6_divide_X6_split
set_option maxRecDepth 20000 in
theorem ggX6_divide_X6_scaled : GoodIn wsX6_divide wsX6_scaled := goodIn_r _ [35] (by decide +kernel) (by decide +kernel)
set_option maxRecDepth 20000 in
theorem gX6_divide_X6_scaled : GoodIn wsX6_divide (va_wsS RX6 48 yX6_scaled wsX6_scaled) := goodIn_app (goodIn_of _ (by decide +kernel)) ggX6_divide_X6_scaled
set_option maxRecDepth 20000 in
theorem ggX6_divide_X6_taken : GoodIn wsX6_divide wsX6_taken := goodIn_r _ [44, 39, 40, 11, 41] (by decide +kernel) (by decide +kernel)
set_option maxRecDepth 20000 in
theorem gX6_divide_X6_taken : GoodIn wsX6_divide (va_wsS RX6 86 yX6_taken wsX6_taken) := goodIn_app (goodIn_of _ (by decide +kernel)) ggX6_divide_X6_taken
set_option maxRecDepth 20000 in
theorem ggX6_divide_X6_put : GoodIn wsX6_divide wsX6_put := goodIn_r _ [48, 17, 2, 18, 49, 50, 51, 11, 52, 53, 54, 27, 28, 29, 55, 56, 57, 58, 3, 7, 13, 14, 15, 16, 36, 37, 38, 39, 40, 41, 59, 60, 61, 62, 63, 64, 65, 66, 67, 68, 69, 70, 71, 72] (by decide +kernel) (by decide +kernel)
set_option maxRecDepth 20000 in
theorem gX6_divide_X6_put : GoodIn wsX6_divide (wsV RX6 98 RX6 yX6_put wsX6_put) := goodIn_app (goodIn_of _ (by decide +kernel)) ggX6_divide_X6_put
theorem dX6_divide_0 : decode cX6_divide 0 = .ok (.aload_n 0, 1) := by decide +kernel
theorem dX6_divide_1 : decode cX6_divide 1 = .ok (.iconst 0, 1) := by decide +kernel
theorem dX6_divide_2 : decode cX6_divide 2 = .ok (.putfield 45, 3) := by decide +kernel
theorem dX6_divide_5 : decode cX6_divide 5 = .ok (.iload_n 1, 1) := by decide +kernel
theorem dX6_divide_6 : decode cX6_divide 6 = .ok (.invokestatic 77, 3) := by decide +kernel
theorem dX6_divide_9 : decode cX6_divide 9 = .ok (.ifCond .eq 30, 3) := by decide +kernel
theorem dX6_divide_12 : decode cX6_divide 12 = .ok (.iload_n 2, 1) := by decide +kernel
theorem dX6_divide_13 : decode cX6_divide 13 = .ok (.invokestatic 77, 3) := by decide +kernel
theorem dX6_divide_16 : decode cX6_divide 16 = .ok (.ifCond .eq 23, 3) := by decide +kernel
theorem dX6_divide_19 : decode cX6_divide 19 = .ok (.iload_n 3, 1) := by decide +kernel
theorem dX6_divide_20 : decode cX6_divide 20 = .ok (.invokestatic 77, 3) := by decide +kernel
theorem dX6_divide_23 : decode cX6_divide 23 = .ok (.ifCond .eq 16, 3) := by decide +kernel
theorem dX6_divide_26 : decode cX6_divide 26 = .ok (.iload 4, 2) := by decide +kernel
theorem dX6_divide_28 : decode cX6_divide 28 = .ok (.invokestatic 77, 3) := by decide +kernel
theorem dX6_divide_31 : decode cX6_divide 31 = .ok (.ifCond .eq 8, 3) := by decide +kernel
theorem dX6_divide_34 : decode cX6_divide 34 = .ok (.iload_n 1, 1) := by decide +kernel
theorem dX6_divide_35 : decode cX6_divide 35 = .ok (.iload_n 2, 1) := by decide +kernel
theorem dX6_divide_36 : decode cX6_divide 36 = .ok (.if_icmp .ne 5, 3) := by decide +kernel
theorem dX6_divide_39 : decode cX6_divide 39 = .ok (.iconst (-1), 1) := by decide +kernel
theorem dX6_divide_40 : decode cX6_divide 40 = .ok (.ireturn, 1) := by decide +kernel
theorem dX6_divide_41 : decode cX6_divide 41 = .ok (.aload_n 0, 1) := by decide +kernel
theorem dX6_divide_42 : decode cX6_divide 42 = .ok (.getfield 16, 3) := by decide +kernel
theorem dX6_divide_45 : decode cX6_divide 45 = .ok (.iload 4, 2) := by decide +kernel
theorem dX6_divide_47 : decode cX6_divide 47 = .ok (.iaload, 1) := by decide +kernel
theorem dX6_divide_48 : decode cX6_divide 48 = .ok (.ifCond .ne 10, 3) := by decide +kernel
theorem dX6_divide_51 : decode cX6_divide 51 = .ok (.aload_n 0, 1) := by decide +kernel
theorem dX6_divide_52 : decode cX6_divide 52 = .ok (.iconst 1, 1) := by decide +kernel
theorem dX6_divide_53 : decode cX6_divide 53 = .ok (.putfield 45, 3) := by decide +kernel
theorem dX6_divide_56 : decode cX6_divide 56 = .ok (.iconst 0, 1) := by decide +kernel
theorem dX6_divide_57 : decode cX6_divide 57 = .ok (.ireturn, 1) := by decide +kernel
theorem dX6_divide_58 : decode cX6_divide 58 = .ok (.aload_n 0, 1) := by decide +kernel
theorem dX6_divide_59 : decode cX6_divide 59 = .ok (.getfield 16, 3) := by decide +kernel
theorem dX6_divide_62 : decode cX6_divide 62 = .ok (.iload_n 3, 1) := by decide +kernel
theorem dX6_divide_63 : decode cX6_divide 63 = .ok (.iaload, 1) := by decide +kernel
theorem dX6_divide_64 : decode cX6_divide 64 = .ok (.istore 6, 2) := by decide +kernel
theorem dX6_divide_66 : decode cX6_divide 66 = .ok (.aload_n 0, 1) := by decide +kernel
theorem dX6_divide_67 : decode cX6_divide 67 = .ok (.getfield 16, 3) := by decide +kernel
theorem dX6_divide_70 : decode cX6_divide 70 = .ok (.iload 4, 2) := by decide +kernel
theorem dX6_divide_72 : decode cX6_divide 72 = .ok (.iaload, 1) := by decide +kernel
theorem dX6_divide_73 : decode cX6_divide 73 = .ok (.istore 7, 2) := by decide +kernel
theorem dX6_divide_75 : decode cX6_divide 75 = .ok (.aload_n 0, 1) := by decide +kernel
theorem dX6_divide_76 : decode cX6_divide 76 = .ok (.iload_n 3, 1) := by decide +kernel
theorem dX6_divide_77 : decode cX6_divide 77 = .ok (.invokevirtual 70, 3) := by decide +kernel
theorem dX6_divide_80 : decode cX6_divide 80 = .ok (.aload_n 0, 1) := by decide +kernel
theorem dX6_divide_81 : decode cX6_divide 81 = .ok (.iload 4, 2) := by decide +kernel
theorem dX6_divide_83 : decode cX6_divide 83 = .ok (.invokevirtual 92, 3) := by decide +kernel
theorem dX6_divide_86 : decode cX6_divide 86 = .ok (.aload_n 0, 1) := by decide +kernel
theorem dX6_divide_87 : decode cX6_divide 87 = .ok (.invokevirtual 106, 3) := by decide +kernel
theorem dX6_divide_90 : decode cX6_divide 90 = .ok (.iload 6, 2) := by decide +kernel
theorem dX6_divide_92 : decode cX6_divide 92 = .ok (.istore 8, 2) := by decide +kernel
theorem dX6_divide_94 : decode cX6_divide 94 = .ok (.iload 5, 2) := by decide +kernel
theorem dX6_divide_96 : decode cX6_divide 96 = .ok (.ifCond .eq 107, 3) := by decide +kernel
theorem dX6_divide_99 : decode cX6_divide 99 = .ok (.aload_n 0, 1) := by decide +kernel
theorem dX6_divide_100 : decode cX6_divide 100 = .ok (.getfield 34, 3) := by decide +kernel
theorem dX6_divide_103 : decode cX6_divide 103 = .ok (.ifCond .le 100, 3) := by decide +kernel
theorem dX6_divide_106 : decode cX6_divide 106 = .ok (.iload 6, 2) := by decide +kernel
theorem dX6_divide_108 : decode cX6_divide 108 = .ok (.iload 7, 2) := by decide +kernel
theorem dX6_divide_110 : decode cX6_divide 110 = .ok (.if_icmp .eq 93, 3) := by decide +kernel
theorem dX6_divide_113 : decode cX6_divide 113 = .ok (.aload_n 0, 1) := by decide +kernel
theorem dX6_divide_114 : decode cX6_divide 114 = .ok (.aload_n 0, 1) := by decide +kernel
theorem dX6_divide_115 : decode cX6_divide 115 = .ok (.getfield 28, 3) := by decide +kernel
theorem dX6_divide_118 : decode cX6_divide 118 = .ok (.aload_n 0, 1) := by decide +kernel
theorem dX6_divide_119 : decode cX6_divide 119 = .ok (.getfield 89, 3) := by decide +kernel
theorem dX6_divide_122 : decode cX6_divide 122 = .ok (.iconst 1, 1) := by decide +kernel
theorem dX6_divide_123 : decode cX6_divide 123 = .ok (.iconst 1, 1) := by decide +kernel
theorem dX6_divide_124 : decode cX6_divide 124 = .ok (.invokestatic 48, 3) := by decide +kernel
theorem dX6_divide_127 : decode cX6_divide 127 = .ok (.putfield 89, 3) := by decide +kernel
theorem dX6_divide_130 : decode cX6_divide 130 = .ok (.iconst 0, 1) := by decide +kernel
theorem dX6_divide_131 : decode cX6_divide 131 = .ok (.istore 9, 2) := by decide +kernel
theorem dX6_divide_133 : decode cX6_divide 133 = .ok (.iload 9, 2) := by decide +kernel
theorem dX6_divide_135 : decode cX6_divide 135 = .ok (.aload_n 0, 1) := by decide +kernel
theorem dX6_divide_136 : decode cX6_divide 136 = .ok (.getfield 34, 3) := by decide +kernel
theorem dX6_divide_139 : decode cX6_divide 139 = .ok (.if_icmp .ge 23, 3) := by decide +kernel
theorem dX6_divide_142 : decode cX6_divide 142 = .ok (.aload_n 0, 1) := by decide +kernel
theorem dX6_divide_143 : decode cX6_divide 143 = .ok (.getfield 25, 3) := by decide +kernel
theorem dX6_divide_146 : decode cX6_divide 146 = .ok (.iload 9, 2) := by decide +kernel
theorem dX6_divide_148 : decode cX6_divide 148 = .ok (.aload_n 0, 1) := by decide +kernel
theorem dX6_divide_149 : decode cX6_divide 149 = .ok (.getfield 22, 3) := by decide +kernel
theorem dX6_divide_152 : decode cX6_divide 152 = .ok (.iload 9, 2) := by decide +kernel
theorem dX6_divide_154 : decode cX6_divide 154 = .ok (.iaload, 1) := by decide +kernel
theorem dX6_divide_155 : decode cX6_divide 155 = .ok (.iastore, 1) := by decide +kernel
theorem dX6_divide_156 : decode cX6_divide 156 = .ok (.iinc 9 1, 3) := by decide +kernel
theorem dX6_divide_159 : decode cX6_divide 159 = .ok (.goto (-26), 3) := by decide +kernel
theorem dX6_divide_162 : decode cX6_divide 162 = .ok (.aload_n 0, 1) := by decide +kernel
theorem dX6_divide_163 : decode cX6_divide 163 = .ok (.aload_n 0, 1) := by decide +kernel
theorem dX6_divide_164 : decode cX6_divide 164 = .ok (.getfield 34, 3) := by decide +kernel
theorem dX6_divide_167 : decode cX6_divide 167 = .ok (.putfield 55, 3) := by decide +kernel
theorem dX6_divide_170 : decode cX6_divide 170 = .ok (.aload_n 0, 1) := by decide +kernel
theorem dX6_divide_171 : decode cX6_divide 171 = .ok (.iload 4, 2) := by decide +kernel
theorem dX6_divide_173 : decode cX6_divide 173 = .ok (.invokevirtual 70, 3) := by decide +kernel
theorem dX6_divide_176 : decode cX6_divide 176 = .ok (.aload_n 0, 1) := by decide +kernel
theorem dX6_divide_177 : decode cX6_divide 177 = .ok (.aload_n 0, 1) := by decide +kernel
theorem dX6_divide_178 : decode cX6_divide 178 = .ok (.getfield 22, 3) := by decide +kernel
theorem dX6_divide_181 : decode cX6_divide 181 = .ok (.aload_n 0, 1) := by decide +kernel
theorem dX6_divide_182 : decode cX6_divide 182 = .ok (.getfield 34, 3) := by decide +kernel
theorem dX6_divide_185 : decode cX6_divide 185 = .ok (.aload_n 0, 1) := by decide +kernel
theorem dX6_divide_186 : decode cX6_divide 186 = .ok (.getfield 25, 3) := by decide +kernel
theorem dX6_divide_189 : decode cX6_divide 189 = .ok (.aload_n 0, 1) := by decide +kernel
theorem dX6_divide_190 : decode cX6_divide 190 = .ok (.getfield 55, 3) := by decide +kernel
theorem dX6_divide_193 : decode cX6_divide 193 = .ok (.invokestatic 86, 3) := by decide +kernel
theorem dX6_divide_196 : decode cX6_divide 196 = .ok (.putfield 34, 3) := by decide +kernel
theorem dX6_divide_199 : decode cX6_divide 199 = .ok (.iload 7, 2) := by decide +kernel
theorem dX6_divide_201 : decode cX6_divide 201 = .ok (.istore 8, 2) := by decide +kernel
theorem dX6_divide_203 : decode cX6_divide 203 = .ok (.iconst 0, 1) := by decide +kernel
theorem dX6_divide_204 : decode cX6_divide 204 = .ok (.istore 9, 2) := by decide +kernel
theorem dX6_divide_206 : decode cX6_divide 206 = .ok (.iload 9, 2) := by decide +kernel
theorem dX6_divide_208 : decode cX6_divide 208 = .ok (.aload_n 0, 1) := by decide +kernel
theorem dX6_divide_209 : decode cX6_divide 209 = .ok (.getfield 34, 3) := by decide +kernel
theorem dX6_divide_212 : decode cX6_divide 212 = .ok (.if_icmp .ge 23, 3) := by decide +kernel
theorem dX6_divide_215 : decode cX6_divide 215 = .ok (.aload_n 0, 1) := by decide +kernel
theorem dX6_divide_216 : decode cX6_divide 216 = .ok (.getfield 25, 3) := by decide +kernel
theorem dX6_divide_219 : decode cX6_divide 219 = .ok (.iload 9, 2) := by decide +kernel
theorem dX6_divide_221 : decode cX6_divide 221 = .ok (.aload_n 0, 1) := by decide +kernel
theorem dX6_divide_222 : decode cX6_divide 222 = .ok (.getfield 22, 3) := by decide +kernel
theorem dX6_divide_225 : decode cX6_divide 225 = .ok (.iload 9, 2) := by decide +kernel
theorem dX6_divide_227 : decode cX6_divide 227 = .ok (.iaload, 1) := by decide +kernel
theorem dX6_divide_228 : decode cX6_divide 228 = .ok (.iastore, 1) := by decide +kernel
theorem dX6_divide_229 : decode cX6_divide 229 = .ok (.iinc 9 1, 3) := by decide +kernel
theorem dX6_divide_232 : decode cX6_divide 232 = .ok (.goto (-26), 3) := by decide +kernel
theorem dX6_divide_235 : decode cX6_divide 235 = .ok (.aload_n 0, 1) := by decide +kernel
theorem dX6_divide_236 : decode cX6_divide 236 = .ok (.aload_n 0, 1) := by decide +kernel
theorem dX6_divide_237 : decode cX6_divide 237 = .ok (.getfield 34, 3) := by decide +kernel
theorem dX6_divide_240 : decode cX6_divide 240 = .ok (.putfield 55, 3) := by decide +kernel
theorem dX6_divide_243 : decode cX6_divide 243 = .ok (.aload_n 0, 1) := by decide +kernel
theorem dX6_divide_244 : decode cX6_divide 244 = .ok (.iload_n 2, 1) := by decide +kernel
theorem dX6_divide_245 : decode cX6_divide 245 = .ok (.aload_n 0, 1) := by decide +kernel
theorem dX6_divide_246 : decode cX6_divide 246 = .ok (.getfield 25, 3) := by decide +kernel
theorem dX6_divide_249 : decode cX6_divide 249 = .ok (.aload_n 0, 1) := by decide +kernel
theorem dX6_divide_250 : decode cX6_divide 250 = .ok (.getfield 55, 3) := by decide +kernel
theorem dX6_divide_253 : decode cX6_divide 253 = .ok (.iload 8, 2) := by decide +kernel
theorem dX6_divide_255 : decode cX6_divide 255 = .ok (.invokevirtual 98, 3) := by decide +kernel
theorem dX6_divide_258 : decode cX6_divide 258 = .ok (.istore 9, 2) := by decide +kernel
theorem dX6_divide_260 : decode cX6_divide 260 = .ok (.aload_n 0, 1) := by decide +kernel
theorem dX6_divide_261 : decode cX6_divide 261 = .ok (.iload_n 1, 1) := by decide +kernel
theorem dX6_divide_262 : decode cX6_divide 262 = .ok (.aload_n 0, 1) := by decide +kernel
theorem dX6_divide_263 : decode cX6_divide 263 = .ok (.getfield 28, 3) := by decide +kernel
theorem dX6_divide_266 : decode cX6_divide 266 = .ok (.aload_n 0, 1) := by decide +kernel
theorem dX6_divide_267 : decode cX6_divide 267 = .ok (.getfield 89, 3) := by decide +kernel
theorem dX6_divide_270 : decode cX6_divide 270 = .ok (.iload 6, 2) := by decide +kernel
theorem dX6_divide_272 : decode cX6_divide 272 = .ok (.iload 7, 2) := by decide +kernel
theorem dX6_divide_274 : decode cX6_divide 274 = .ok (.imul, 1) := by decide +kernel
theorem dX6_divide_275 : decode cX6_divide 275 = .ok (.invokevirtual 98, 3) := by decide +kernel
theorem dX6_divide_278 : decode cX6_divide 278 = .ok (.ireturn, 1) := by decide +kernel
set_option maxRecDepth 20000 in
theorem ggX6_gcd_X6_isRegister : GoodIn wsX6_gcd wsX6_isRegister := goodIn_r _ [9] (by decide +kernel) (by decide +kernel)
set_option maxRecDepth 20000 in
theorem gX6_gcd_X6_isRegister : GoodIn wsX6_gcd (va_wsS RX6 77 yX6_isRegister wsX6_isRegister) := goodIn_app (goodIn_of _ (by decide +kernel)) ggX6_gcd_X6_isRegister
set_option maxRecDepth 20000 in
theorem ggX6_gcd_X6_toX : GoodIn wsX6_gcd wsX6_toX := goodIn_r _ [13, 14, 2, 5, 15, 56, 57, 58, 59, 60, 61, 62, 63, 64, 65, 66, 67, 68, 69] (by decide +kernel) (by decide +kernel)
set_option maxRecDepth 20000 in
theorem gX6_gcd_X6_toX : GoodIn wsX6_gcd (wsV RX6 70 RX6 yX6_toX wsX6_toX) := goodIn_app (goodIn_of _ (by decide +kernel)) ggX6_gcd_X6_toX
set_option maxRecDepth 20000 in
theorem ggX6_gcd_X6_toY : GoodIn wsX6_gcd wsX6_toY := goodIn_r _ [19, 14, 3, 4, 15, 56, 57, 58, 59, 60, 61, 62, 63, 64, 65, 66, 67, 68, 69] (by decide +kernel) (by decide +kernel)
set_option maxRecDepth 20000 in
theorem gX6_gcd_X6_toY : GoodIn wsX6_gcd (wsV RX6 92 RX6 yX6_toY wsX6_toY) := goodIn_app (goodIn_of _ (by decide +kernel)) ggX6_gcd_X6_toY
set_option maxRecDepth 20000 in
theorem ggX6_gcd_X6_put : GoodIn wsX6_gcd wsX6_put := goodIn_r _ [23, 14, 24, 15, 25, 26, 27, 8, 28, 29, 30, 31, 32, 33, 34, 35, 36, 37, 2, 5, 10, 11, 12, 13, 38, 39, 40, 41, 42, 43, 56, 57, 58, 59, 60, 61, 62, 63, 64, 65, 66, 67, 68, 69] (by decide +kernel) (by decide +kernel)
set_option maxRecDepth 20000 in
theorem gX6_gcd_X6_put : GoodIn wsX6_gcd (wsV RX6 98 RX6 yX6_put wsX6_put) := goodIn_app (goodIn_of _ (by decide +kernel)) ggX6_gcd_X6_put
set_option maxRecDepth 20000 in
theorem ggX6_gcd_X6_isOdd : GoodIn wsX6_gcd wsX6_isOdd := goodIn_r _ [46] (by decide +kernel) (by decide +kernel)
set_option maxRecDepth 20000 in
theorem gX6_gcd_X6_isOdd : GoodIn wsX6_gcd (va_wsS RX6 109 yX6_isOdd wsX6_isOdd) := goodIn_app (goodIn_of _ (by decide +kernel)) ggX6_gcd_X6_isOdd
set_option maxRecDepth 20000 in
theorem ggX6_gcd_X6_half : GoodIn wsX6_gcd wsX6_half := goodIn_r _ [40, 41, 42, 8, 43] (by decide +kernel) (by decide +kernel)
set_option maxRecDepth 20000 in
theorem gX6_gcd_X6_half : GoodIn wsX6_gcd (va_wsS RX6 74 yX6_half wsX6_half) := goodIn_app (goodIn_of _ (by decide +kernel)) ggX6_gcd_X6_half
set_option maxRecDepth 20000 in
theorem ggX6_gcd_X6_compareRows : GoodIn wsX6_gcd wsX6_compareRows := goodIn_r _ [33] (by decide +kernel) (by decide +kernel)
set_option maxRecDepth 20000 in
theorem gX6_gcd_X6_compareRows : GoodIn wsX6_gcd (va_wsS RX6 58 yX6_compareRows wsX6_compareRows) := goodIn_app (goodIn_of _ (by decide +kernel)) ggX6_gcd_X6_compareRows
set_option maxRecDepth 20000 in
theorem ggX6_gcd_X6_taken : GoodIn wsX6_gcd wsX6_taken := goodIn_r _ [49, 41, 42, 8, 43] (by decide +kernel) (by decide +kernel)
set_option maxRecDepth 20000 in
theorem gX6_gcd_X6_taken : GoodIn wsX6_gcd (va_wsS RX6 86 yX6_taken wsX6_taken) := goodIn_app (goodIn_of _ (by decide +kernel)) ggX6_gcd_X6_taken
set_option maxRecDepth 20000 in
theorem ggX6_gcd_X6_twice : GoodIn wsX6_gcd wsX6_twice := goodIn_r _ [52, 53, 54, 8, 55] (by decide +kernel) (by decide +kernel)
set_option maxRecDepth 20000 in
theorem gX6_gcd_X6_twice : GoodIn wsX6_gcd (va_wsS RX6 38 yX6_twice wsX6_twice) := goodIn_app (goodIn_of _ (by decide +kernel)) ggX6_gcd_X6_twice
theorem dX6_gcd_0 : decode cX6_gcd 0 = .ok (.aload_n 0, 1) := by decide +kernel
theorem dX6_gcd_1 : decode cX6_gcd 1 = .ok (.iconst 0, 1) := by decide +kernel
theorem dX6_gcd_2 : decode cX6_gcd 2 = .ok (.putfield 45, 3) := by decide +kernel
theorem dX6_gcd_5 : decode cX6_gcd 5 = .ok (.iload_n 1, 1) := by decide +kernel
theorem dX6_gcd_6 : decode cX6_gcd 6 = .ok (.invokestatic 77, 3) := by decide +kernel
theorem dX6_gcd_9 : decode cX6_gcd 9 = .ok (.ifCond .eq 17, 3) := by decide +kernel
theorem dX6_gcd_12 : decode cX6_gcd 12 = .ok (.iload_n 2, 1) := by decide +kernel
theorem dX6_gcd_13 : decode cX6_gcd 13 = .ok (.invokestatic 77, 3) := by decide +kernel
theorem dX6_gcd_16 : decode cX6_gcd 16 = .ok (.ifCond .eq 10, 3) := by decide +kernel
theorem dX6_gcd_19 : decode cX6_gcd 19 = .ok (.iload_n 3, 1) := by decide +kernel
theorem dX6_gcd_20 : decode cX6_gcd 20 = .ok (.invokestatic 77, 3) := by decide +kernel
theorem dX6_gcd_23 : decode cX6_gcd 23 = .ok (.ifCond .ne 5, 3) := by decide +kernel
theorem dX6_gcd_26 : decode cX6_gcd 26 = .ok (.iconst (-1), 1) := by decide +kernel
theorem dX6_gcd_27 : decode cX6_gcd 27 = .ok (.ireturn, 1) := by decide +kernel
theorem dX6_gcd_28 : decode cX6_gcd 28 = .ok (.aload_n 0, 1) := by decide +kernel
theorem dX6_gcd_29 : decode cX6_gcd 29 = .ok (.iload_n 2, 1) := by decide +kernel
theorem dX6_gcd_30 : decode cX6_gcd 30 = .ok (.invokevirtual 70, 3) := by decide +kernel
theorem dX6_gcd_33 : decode cX6_gcd 33 = .ok (.aload_n 0, 1) := by decide +kernel
theorem dX6_gcd_34 : decode cX6_gcd 34 = .ok (.iload_n 3, 1) := by decide +kernel
theorem dX6_gcd_35 : decode cX6_gcd 35 = .ok (.invokevirtual 92, 3) := by decide +kernel
theorem dX6_gcd_38 : decode cX6_gcd 38 = .ok (.aload_n 0, 1) := by decide +kernel
theorem dX6_gcd_39 : decode cX6_gcd 39 = .ok (.getfield 34, 3) := by decide +kernel
theorem dX6_gcd_42 : decode cX6_gcd 42 = .ok (.ifCond .eq 10, 3) := by decide +kernel
theorem dX6_gcd_45 : decode cX6_gcd 45 = .ok (.aload_n 0, 1) := by decide +kernel
theorem dX6_gcd_46 : decode cX6_gcd 46 = .ok (.getfield 55, 3) := by decide +kernel
theorem dX6_gcd_49 : decode cX6_gcd 49 = .ok (.ifCond .ne 72, 3) := by decide +kernel
theorem dX6_gcd_52 : decode cX6_gcd 52 = .ok (.aload_n 0, 1) := by decide +kernel
theorem dX6_gcd_53 : decode cX6_gcd 53 = .ok (.getfield 34, 3) := by decide +kernel
theorem dX6_gcd_56 : decode cX6_gcd 56 = .ok (.ifCond .ne 18, 3) := by decide +kernel
theorem dX6_gcd_59 : decode cX6_gcd 59 = .ok (.aload_n 0, 1) := by decide +kernel
theorem dX6_gcd_60 : decode cX6_gcd 60 = .ok (.iload_n 1, 1) := by decide +kernel
theorem dX6_gcd_61 : decode cX6_gcd 61 = .ok (.aload_n 0, 1) := by decide +kernel
theorem dX6_gcd_62 : decode cX6_gcd 62 = .ok (.getfield 25, 3) := by decide +kernel
theorem dX6_gcd_65 : decode cX6_gcd 65 = .ok (.aload_n 0, 1) := by decide +kernel
theorem dX6_gcd_66 : decode cX6_gcd 66 = .ok (.getfield 55, 3) := by decide +kernel
theorem dX6_gcd_69 : decode cX6_gcd 69 = .ok (.iconst 1, 1) := by decide +kernel
theorem dX6_gcd_70 : decode cX6_gcd 70 = .ok (.invokevirtual 98, 3) := by decide +kernel
theorem dX6_gcd_73 : decode cX6_gcd 73 = .ok (.ireturn, 1) := by decide +kernel
theorem dX6_gcd_74 : decode cX6_gcd 74 = .ok (.iconst 0, 1) := by decide +kernel
theorem dX6_gcd_75 : decode cX6_gcd 75 = .ok (.istore 4, 2) := by decide +kernel
theorem dX6_gcd_77 : decode cX6_gcd 77 = .ok (.iload 4, 2) := by decide +kernel
theorem dX6_gcd_79 : decode cX6_gcd 79 = .ok (.aload_n 0, 1) := by decide +kernel
theorem dX6_gcd_80 : decode cX6_gcd 80 = .ok (.getfield 34, 3) := by decide +kernel
theorem dX6_gcd_83 : decode cX6_gcd 83 = .ok (.if_icmp .ge 23, 3) := by decide +kernel
theorem dX6_gcd_86 : decode cX6_gcd 86 = .ok (.aload_n 0, 1) := by decide +kernel
theorem dX6_gcd_87 : decode cX6_gcd 87 = .ok (.getfield 25, 3) := by decide +kernel
theorem dX6_gcd_90 : decode cX6_gcd 90 = .ok (.iload 4, 2) := by decide +kernel
theorem dX6_gcd_92 : decode cX6_gcd 92 = .ok (.aload_n 0, 1) := by decide +kernel
theorem dX6_gcd_93 : decode cX6_gcd 93 = .ok (.getfield 22, 3) := by decide +kernel
theorem dX6_gcd_96 : decode cX6_gcd 96 = .ok (.iload 4, 2) := by decide +kernel
theorem dX6_gcd_98 : decode cX6_gcd 98 = .ok (.iaload, 1) := by decide +kernel
theorem dX6_gcd_99 : decode cX6_gcd 99 = .ok (.iastore, 1) := by decide +kernel
theorem dX6_gcd_100 : decode cX6_gcd 100 = .ok (.iinc 4 1, 3) := by decide +kernel
theorem dX6_gcd_103 : decode cX6_gcd 103 = .ok (.goto (-26), 3) := by decide +kernel
theorem dX6_gcd_106 : decode cX6_gcd 106 = .ok (.aload_n 0, 1) := by decide +kernel
theorem dX6_gcd_107 : decode cX6_gcd 107 = .ok (.iload_n 1, 1) := by decide +kernel
theorem dX6_gcd_108 : decode cX6_gcd 108 = .ok (.aload_n 0, 1) := by decide +kernel
theorem dX6_gcd_109 : decode cX6_gcd 109 = .ok (.getfield 25, 3) := by decide +kernel
theorem dX6_gcd_112 : decode cX6_gcd 112 = .ok (.aload_n 0, 1) := by decide +kernel
theorem dX6_gcd_113 : decode cX6_gcd 113 = .ok (.getfield 34, 3) := by decide +kernel
theorem dX6_gcd_116 : decode cX6_gcd 116 = .ok (.iconst 1, 1) := by decide +kernel
theorem dX6_gcd_117 : decode cX6_gcd 117 = .ok (.invokevirtual 98, 3) := by decide +kernel
theorem dX6_gcd_120 : decode cX6_gcd 120 = .ok (.ireturn, 1) := by decide +kernel
theorem dX6_gcd_121 : decode cX6_gcd 121 = .ok (.iconst 0, 1) := by decide +kernel
theorem dX6_gcd_122 : decode cX6_gcd 122 = .ok (.istore 4, 2) := by decide +kernel
theorem dX6_gcd_124 : decode cX6_gcd 124 = .ok (.aload_n 0, 1) := by decide +kernel
theorem dX6_gcd_125 : decode cX6_gcd 125 = .ok (.getfield 22, 3) := by decide +kernel
theorem dX6_gcd_128 : decode cX6_gcd 128 = .ok (.aload_n 0, 1) := by decide +kernel
theorem dX6_gcd_129 : decode cX6_gcd 129 = .ok (.getfield 34, 3) := by decide +kernel
theorem dX6_gcd_132 : decode cX6_gcd 132 = .ok (.invokestatic 109, 3) := by decide +kernel
theorem dX6_gcd_135 : decode cX6_gcd 135 = .ok (.ifCond .ne 53, 3) := by decide +kernel
theorem dX6_gcd_138 : decode cX6_gcd 138 = .ok (.aload_n 0, 1) := by decide +kernel
theorem dX6_gcd_139 : decode cX6_gcd 139 = .ok (.getfield 25, 3) := by decide +kernel
theorem dX6_gcd_142 : decode cX6_gcd 142 = .ok (.aload_n 0, 1) := by decide +kernel
theorem dX6_gcd_143 : decode cX6_gcd 143 = .ok (.getfield 55, 3) := by decide +kernel
theorem dX6_gcd_146 : decode cX6_gcd 146 = .ok (.invokestatic 109, 3) := by decide +kernel
theorem dX6_gcd_149 : decode cX6_gcd 149 = .ok (.ifCond .ne 39, 3) := by decide +kernel
theorem dX6_gcd_152 : decode cX6_gcd 152 = .ok (.aload_n 0, 1) := by decide +kernel
theorem dX6_gcd_153 : decode cX6_gcd 153 = .ok (.aload_n 0, 1) := by decide +kernel
theorem dX6_gcd_154 : decode cX6_gcd 154 = .ok (.getfield 22, 3) := by decide +kernel
theorem dX6_gcd_157 : decode cX6_gcd 157 = .ok (.aload_n 0, 1) := by decide +kernel
theorem dX6_gcd_158 : decode cX6_gcd 158 = .ok (.getfield 34, 3) := by decide +kernel
theorem dX6_gcd_161 : decode cX6_gcd 161 = .ok (.invokestatic 74, 3) := by decide +kernel
theorem dX6_gcd_164 : decode cX6_gcd 164 = .ok (.putfield 34, 3) := by decide +kernel
theorem dX6_gcd_167 : decode cX6_gcd 167 = .ok (.aload_n 0, 1) := by decide +kernel
theorem dX6_gcd_168 : decode cX6_gcd 168 = .ok (.aload_n 0, 1) := by decide +kernel
theorem dX6_gcd_169 : decode cX6_gcd 169 = .ok (.getfield 25, 3) := by decide +kernel
theorem dX6_gcd_172 : decode cX6_gcd 172 = .ok (.aload_n 0, 1) := by decide +kernel
theorem dX6_gcd_173 : decode cX6_gcd 173 = .ok (.getfield 55, 3) := by decide +kernel
theorem dX6_gcd_176 : decode cX6_gcd 176 = .ok (.invokestatic 74, 3) := by decide +kernel
theorem dX6_gcd_179 : decode cX6_gcd 179 = .ok (.putfield 55, 3) := by decide +kernel
theorem dX6_gcd_182 : decode cX6_gcd 182 = .ok (.iinc 4 1, 3) := by decide +kernel
theorem dX6_gcd_185 : decode cX6_gcd 185 = .ok (.goto (-61), 3) := by decide +kernel
theorem dX6_gcd_188 : decode cX6_gcd 188 = .ok (.aload_n 0, 1) := by decide +kernel
theorem dX6_gcd_189 : decode cX6_gcd 189 = .ok (.getfield 34, 3) := by decide +kernel
theorem dX6_gcd_192 : decode cX6_gcd 192 = .ok (.ifCond .le 141, 3) := by decide +kernel
theorem dX6_gcd_195 : decode cX6_gcd 195 = .ok (.aload_n 0, 1) := by decide +kernel
theorem dX6_gcd_196 : decode cX6_gcd 196 = .ok (.getfield 22, 3) := by decide +kernel
theorem dX6_gcd_199 : decode cX6_gcd 199 = .ok (.aload_n 0, 1) := by decide +kernel
theorem dX6_gcd_200 : decode cX6_gcd 200 = .ok (.getfield 34, 3) := by decide +kernel
theorem dX6_gcd_203 : decode cX6_gcd 203 = .ok (.invokestatic 109, 3) := by decide +kernel
theorem dX6_gcd_206 : decode cX6_gcd 206 = .ok (.ifCond .ne 21, 3) := by decide +kernel
theorem dX6_gcd_209 : decode cX6_gcd 209 = .ok (.aload_n 0, 1) := by decide +kernel
theorem dX6_gcd_210 : decode cX6_gcd 210 = .ok (.aload_n 0, 1) := by decide +kernel
theorem dX6_gcd_211 : decode cX6_gcd 211 = .ok (.getfield 22, 3) := by decide +kernel
theorem dX6_gcd_214 : decode cX6_gcd 214 = .ok (.aload_n 0, 1) := by decide +kernel
theorem dX6_gcd_215 : decode cX6_gcd 215 = .ok (.getfield 34, 3) := by decide +kernel
theorem dX6_gcd_218 : decode cX6_gcd 218 = .ok (.invokestatic 74, 3) := by decide +kernel
theorem dX6_gcd_221 : decode cX6_gcd 221 = .ok (.putfield 34, 3) := by decide +kernel
theorem dX6_gcd_224 : decode cX6_gcd 224 = .ok (.goto (-29), 3) := by decide +kernel
theorem dX6_gcd_227 : decode cX6_gcd 227 = .ok (.aload_n 0, 1) := by decide +kernel
theorem dX6_gcd_228 : decode cX6_gcd 228 = .ok (.getfield 25, 3) := by decide +kernel
theorem dX6_gcd_231 : decode cX6_gcd 231 = .ok (.aload_n 0, 1) := by decide +kernel
theorem dX6_gcd_232 : decode cX6_gcd 232 = .ok (.getfield 55, 3) := by decide +kernel
theorem dX6_gcd_235 : decode cX6_gcd 235 = .ok (.invokestatic 109, 3) := by decide +kernel
theorem dX6_gcd_238 : decode cX6_gcd 238 = .ok (.ifCond .ne 21, 3) := by decide +kernel
theorem dX6_gcd_241 : decode cX6_gcd 241 = .ok (.aload_n 0, 1) := by decide +kernel
theorem dX6_gcd_242 : decode cX6_gcd 242 = .ok (.aload_n 0, 1) := by decide +kernel
theorem dX6_gcd_243 : decode cX6_gcd 243 = .ok (.getfield 25, 3) := by decide +kernel
theorem dX6_gcd_246 : decode cX6_gcd 246 = .ok (.aload_n 0, 1) := by decide +kernel
theorem dX6_gcd_247 : decode cX6_gcd 247 = .ok (.getfield 55, 3) := by decide +kernel
theorem dX6_gcd_250 : decode cX6_gcd 250 = .ok (.invokestatic 74, 3) := by decide +kernel
theorem dX6_gcd_253 : decode cX6_gcd 253 = .ok (.putfield 55, 3) := by decide +kernel
theorem dX6_gcd_256 : decode cX6_gcd 256 = .ok (.goto (-29), 3) := by decide +kernel
theorem dX6_gcd_259 : decode cX6_gcd 259 = .ok (.aload_n 0, 1) := by decide +kernel
theorem dX6_gcd_260 : decode cX6_gcd 260 = .ok (.getfield 22, 3) := by decide +kernel
theorem dX6_gcd_263 : decode cX6_gcd 263 = .ok (.aload_n 0, 1) := by decide +kernel
theorem dX6_gcd_264 : decode cX6_gcd 264 = .ok (.getfield 34, 3) := by decide +kernel
theorem dX6_gcd_267 : decode cX6_gcd 267 = .ok (.aload_n 0, 1) := by decide +kernel
theorem dX6_gcd_268 : decode cX6_gcd 268 = .ok (.getfield 25, 3) := by decide +kernel
theorem dX6_gcd_271 : decode cX6_gcd 271 = .ok (.aload_n 0, 1) := by decide +kernel
theorem dX6_gcd_272 : decode cX6_gcd 272 = .ok (.getfield 55, 3) := by decide +kernel
theorem dX6_gcd_275 : decode cX6_gcd 275 = .ok (.invokestatic 58, 3) := by decide +kernel
theorem dX6_gcd_278 : decode cX6_gcd 278 = .ok (.ifCond .lt 29, 3) := by decide +kernel
theorem dX6_gcd_281 : decode cX6_gcd 281 = .ok (.aload_n 0, 1) := by decide +kernel
theorem dX6_gcd_282 : decode cX6_gcd 282 = .ok (.aload_n 0, 1) := by decide +kernel
theorem dX6_gcd_283 : decode cX6_gcd 283 = .ok (.getfield 22, 3) := by decide +kernel
theorem dX6_gcd_286 : decode cX6_gcd 286 = .ok (.aload_n 0, 1) := by decide +kernel
theorem dX6_gcd_287 : decode cX6_gcd 287 = .ok (.getfield 34, 3) := by decide +kernel
theorem dX6_gcd_290 : decode cX6_gcd 290 = .ok (.aload_n 0, 1) := by decide +kernel
theorem dX6_gcd_291 : decode cX6_gcd 291 = .ok (.getfield 25, 3) := by decide +kernel
theorem dX6_gcd_294 : decode cX6_gcd 294 = .ok (.aload_n 0, 1) := by decide +kernel
theorem dX6_gcd_295 : decode cX6_gcd 295 = .ok (.getfield 55, 3) := by decide +kernel
theorem dX6_gcd_298 : decode cX6_gcd 298 = .ok (.invokestatic 86, 3) := by decide +kernel
theorem dX6_gcd_301 : decode cX6_gcd 301 = .ok (.putfield 34, 3) := by decide +kernel
theorem dX6_gcd_304 : decode cX6_gcd 304 = .ok (.goto (-116), 3) := by decide +kernel
theorem dX6_gcd_307 : decode cX6_gcd 307 = .ok (.aload_n 0, 1) := by decide +kernel
theorem dX6_gcd_308 : decode cX6_gcd 308 = .ok (.aload_n 0, 1) := by decide +kernel
theorem dX6_gcd_309 : decode cX6_gcd 309 = .ok (.getfield 25, 3) := by decide +kernel
theorem dX6_gcd_312 : decode cX6_gcd 312 = .ok (.aload_n 0, 1) := by decide +kernel
theorem dX6_gcd_313 : decode cX6_gcd 313 = .ok (.getfield 55, 3) := by decide +kernel
theorem dX6_gcd_316 : decode cX6_gcd 316 = .ok (.aload_n 0, 1) := by decide +kernel
theorem dX6_gcd_317 : decode cX6_gcd 317 = .ok (.getfield 22, 3) := by decide +kernel
theorem dX6_gcd_320 : decode cX6_gcd 320 = .ok (.aload_n 0, 1) := by decide +kernel
theorem dX6_gcd_321 : decode cX6_gcd 321 = .ok (.getfield 34, 3) := by decide +kernel
theorem dX6_gcd_324 : decode cX6_gcd 324 = .ok (.invokestatic 86, 3) := by decide +kernel
theorem dX6_gcd_327 : decode cX6_gcd 327 = .ok (.putfield 55, 3) := by decide +kernel
theorem dX6_gcd_330 : decode cX6_gcd 330 = .ok (.goto (-142), 3) := by decide +kernel
theorem dX6_gcd_333 : decode cX6_gcd 333 = .ok (.iconst 0, 1) := by decide +kernel
theorem dX6_gcd_334 : decode cX6_gcd 334 = .ok (.istore 5, 2) := by decide +kernel
theorem dX6_gcd_336 : decode cX6_gcd 336 = .ok (.iload 5, 2) := by decide +kernel
theorem dX6_gcd_338 : decode cX6_gcd 338 = .ok (.iload 4, 2) := by decide +kernel
theorem dX6_gcd_340 : decode cX6_gcd 340 = .ok (.if_icmp .ge 24, 3) := by decide +kernel
theorem dX6_gcd_343 : decode cX6_gcd 343 = .ok (.aload_n 0, 1) := by decide +kernel
theorem dX6_gcd_344 : decode cX6_gcd 344 = .ok (.aload_n 0, 1) := by decide +kernel
theorem dX6_gcd_345 : decode cX6_gcd 345 = .ok (.getfield 25, 3) := by decide +kernel
theorem dX6_gcd_348 : decode cX6_gcd 348 = .ok (.aload_n 0, 1) := by decide +kernel
theorem dX6_gcd_349 : decode cX6_gcd 349 = .ok (.getfield 55, 3) := by decide +kernel
theorem dX6_gcd_352 : decode cX6_gcd 352 = .ok (.invokestatic 38, 3) := by decide +kernel
theorem dX6_gcd_355 : decode cX6_gcd 355 = .ok (.putfield 55, 3) := by decide +kernel
theorem dX6_gcd_358 : decode cX6_gcd 358 = .ok (.iinc 5 1, 3) := by decide +kernel
theorem dX6_gcd_361 : decode cX6_gcd 361 = .ok (.goto (-25), 3) := by decide +kernel
theorem dX6_gcd_364 : decode cX6_gcd 364 = .ok (.aload_n 0, 1) := by decide +kernel
theorem dX6_gcd_365 : decode cX6_gcd 365 = .ok (.iload_n 1, 1) := by decide +kernel
theorem dX6_gcd_366 : decode cX6_gcd 366 = .ok (.aload_n 0, 1) := by decide +kernel
theorem dX6_gcd_367 : decode cX6_gcd 367 = .ok (.getfield 25, 3) := by decide +kernel
theorem dX6_gcd_370 : decode cX6_gcd 370 = .ok (.aload_n 0, 1) := by decide +kernel
theorem dX6_gcd_371 : decode cX6_gcd 371 = .ok (.getfield 55, 3) := by decide +kernel
theorem dX6_gcd_374 : decode cX6_gcd 374 = .ok (.iconst 1, 1) := by decide +kernel
theorem dX6_gcd_375 : decode cX6_gcd 375 = .ok (.invokevirtual 98, 3) := by decide +kernel
theorem dX6_gcd_378 : decode cX6_gcd 378 = .ok (.ireturn, 1) := by decide +kernel
set_option maxRecDepth 20000 in
theorem ggX6_root_X6_isRegister : GoodIn wsX6_root wsX6_isRegister := goodIn_r _ [12] (by decide +kernel) (by decide +kernel)
set_option maxRecDepth 20000 in
theorem gX6_root_X6_isRegister : GoodIn wsX6_root (va_wsS RX6 77 yX6_isRegister wsX6_isRegister) := goodIn_app (goodIn_of _ (by decide +kernel)) ggX6_root_X6_isRegister
set_option maxRecDepth 20000 in
theorem ggX6_root_X6_toX : GoodIn wsX6_root wsX6_toX := goodIn_r _ [16, 17, 6, 5, 18, 55, 56, 57, 58, 59, 60, 61, 62, 63, 64, 65, 66, 67, 68] (by decide +kernel) (by decide +kernel)
set_option maxRecDepth 20000 in
theorem gX6_root_X6_toX : GoodIn wsX6_root (wsV RX6 70 RX6 yX6_toX wsX6_toX) := goodIn_app (goodIn_of _ (by decide +kernel)) ggX6_root_X6_toX
set_option maxRecDepth 20000 in
theorem ggX6_root_X6_compareRows : GoodIn wsX6_root wsX6_compareRows := goodIn_r _ [21] (by decide +kernel) (by decide +kernel)
set_option maxRecDepth 20000 in
theorem gX6_root_X6_compareRows : GoodIn wsX6_root (va_wsS RX6 58 yX6_compareRows wsX6_compareRows) := goodIn_app (goodIn_of _ (by decide +kernel)) ggX6_root_X6_compareRows
set_option maxRecDepth 20000 in
theorem ggX6_root_X6_scaled : GoodIn wsX6_root wsX6_scaled := goodIn_r _ [24] (by decide +kernel) (by decide +kernel)
set_option maxRecDepth 20000 in
theorem gX6_root_X6_scaled : GoodIn wsX6_root (va_wsS RX6 48 yX6_scaled wsX6_scaled) := goodIn_app (goodIn_of _ (by decide +kernel)) ggX6_root_X6_scaled
set_option maxRecDepth 20000 in
theorem ggX6_root_X6_isOne : GoodIn wsX6_root wsX6_isOne := goodIn_r _ [28, 4, 3, 55, 56, 57, 58, 59, 60, 61, 62, 63, 64, 65, 66, 67, 68] (by decide +kernel) (by decide +kernel)
set_option maxRecDepth 20000 in
theorem gX6_root_X6_isOne : GoodIn wsX6_root (wsV RX6 112 RX6 yX6_isOne wsX6_isOne) := goodIn_app (goodIn_of _ (by decide +kernel)) ggX6_root_X6_isOne
set_option maxRecDepth 20000 in
theorem ggX6_root_X6_half : GoodIn wsX6_root wsX6_half := goodIn_r _ [31, 32, 33, 11, 34] (by decide +kernel) (by decide +kernel)
set_option maxRecDepth 20000 in
theorem gX6_root_X6_half : GoodIn wsX6_root (va_wsS RX6 74 yX6_half wsX6_half) := goodIn_app (goodIn_of _ (by decide +kernel)) ggX6_root_X6_half
set_option maxRecDepth 20000 in
theorem ggX6_root_X6_added : GoodIn wsX6_root wsX6_added := goodIn_r _ [37] (by decide +kernel) (by decide +kernel)
set_option maxRecDepth 20000 in
theorem gX6_root_X6_added : GoodIn wsX6_root (va_wsS RX6 83 yX6_added wsX6_added) := goodIn_app (goodIn_of _ (by decide +kernel)) ggX6_root_X6_added
set_option maxRecDepth 20000 in
theorem ggX6_root_X6_taken : GoodIn wsX6_root wsX6_taken := goodIn_r _ [40, 32, 33, 11, 34] (by decide +kernel) (by decide +kernel)
set_option maxRecDepth 20000 in
theorem gX6_root_X6_taken : GoodIn wsX6_root (va_wsS RX6 86 yX6_taken wsX6_taken) := goodIn_app (goodIn_of _ (by decide +kernel)) ggX6_root_X6_taken
set_option maxRecDepth 20000 in
theorem ggX6_root_X6_put : GoodIn wsX6_root wsX6_put := goodIn_r _ [44, 17, 2, 18, 45, 46, 47, 11, 48, 49, 50, 19, 20, 21, 51, 52, 53, 54, 6, 5, 13, 14, 15, 16, 29, 30, 31, 32, 33, 34, 55, 56, 57, 58, 59, 60, 61, 62, 63, 64, 65, 66, 67, 68] (by decide +kernel) (by decide +kernel)
set_option maxRecDepth 20000 in
theorem gX6_root_X6_put : GoodIn wsX6_root (wsV RX6 98 RX6 yX6_put wsX6_put) := goodIn_app (goodIn_of _ (by decide +kernel)) ggX6_root_X6_put
theorem dX6_root_0 : decode cX6_root 0 = .ok (.aload_n 0, 1) := by decide +kernel
theorem dX6_root_1 : decode cX6_root 1 = .ok (.iconst 0, 1) := by decide +kernel
theorem dX6_root_2 : decode cX6_root 2 = .ok (.putfield 45, 3) := by decide +kernel
theorem dX6_root_5 : decode cX6_root 5 = .ok (.iload_n 1, 1) := by decide +kernel
theorem dX6_root_6 : decode cX6_root 6 = .ok (.invokestatic 77, 3) := by decide +kernel
theorem dX6_root_9 : decode cX6_root 9 = .ok (.ifCond .eq 10, 3) := by decide +kernel
theorem dX6_root_12 : decode cX6_root 12 = .ok (.iload_n 2, 1) := by decide +kernel
theorem dX6_root_13 : decode cX6_root 13 = .ok (.invokestatic 77, 3) := by decide +kernel
theorem dX6_root_16 : decode cX6_root 16 = .ok (.ifCond .ne 5, 3) := by decide +kernel
theorem dX6_root_19 : decode cX6_root 19 = .ok (.iconst (-1), 1) := by decide +kernel
theorem dX6_root_20 : decode cX6_root 20 = .ok (.ireturn, 1) := by decide +kernel
theorem dX6_root_21 : decode cX6_root 21 = .ok (.aload_n 0, 1) := by decide +kernel
theorem dX6_root_22 : decode cX6_root 22 = .ok (.getfield 16, 3) := by decide +kernel
theorem dX6_root_25 : decode cX6_root 25 = .ok (.iload_n 2, 1) := by decide +kernel
theorem dX6_root_26 : decode cX6_root 26 = .ok (.iaload, 1) := by decide +kernel
theorem dX6_root_27 : decode cX6_root 27 = .ok (.ifCond .ge 10, 3) := by decide +kernel
theorem dX6_root_30 : decode cX6_root 30 = .ok (.aload_n 0, 1) := by decide +kernel
theorem dX6_root_31 : decode cX6_root 31 = .ok (.iconst 1, 1) := by decide +kernel
theorem dX6_root_32 : decode cX6_root 32 = .ok (.putfield 45, 3) := by decide +kernel
theorem dX6_root_35 : decode cX6_root 35 = .ok (.iconst 0, 1) := by decide +kernel
theorem dX6_root_36 : decode cX6_root 36 = .ok (.ireturn, 1) := by decide +kernel
theorem dX6_root_37 : decode cX6_root 37 = .ok (.aload_n 0, 1) := by decide +kernel
theorem dX6_root_38 : decode cX6_root 38 = .ok (.iload_n 2, 1) := by decide +kernel
theorem dX6_root_39 : decode cX6_root 39 = .ok (.invokevirtual 70, 3) := by decide +kernel
theorem dX6_root_42 : decode cX6_root 42 = .ok (.aload_n 0, 1) := by decide +kernel
theorem dX6_root_43 : decode cX6_root 43 = .ok (.getfield 25, 3) := by decide +kernel
theorem dX6_root_46 : decode cX6_root 46 = .ok (.iconst 0, 1) := by decide +kernel
theorem dX6_root_47 : decode cX6_root 47 = .ok (.iconst 1, 1) := by decide +kernel
theorem dX6_root_48 : decode cX6_root 48 = .ok (.iastore, 1) := by decide +kernel
theorem dX6_root_49 : decode cX6_root 49 = .ok (.aload_n 0, 1) := by decide +kernel
theorem dX6_root_50 : decode cX6_root 50 = .ok (.iconst 1, 1) := by decide +kernel
theorem dX6_root_51 : decode cX6_root 51 = .ok (.putfield 55, 3) := by decide +kernel
theorem dX6_root_54 : decode cX6_root 54 = .ok (.aload_n 0, 1) := by decide +kernel
theorem dX6_root_55 : decode cX6_root 55 = .ok (.getfield 25, 3) := by decide +kernel
theorem dX6_root_58 : decode cX6_root 58 = .ok (.aload_n 0, 1) := by decide +kernel
theorem dX6_root_59 : decode cX6_root 59 = .ok (.getfield 55, 3) := by decide +kernel
theorem dX6_root_62 : decode cX6_root 62 = .ok (.aload_n 0, 1) := by decide +kernel
theorem dX6_root_63 : decode cX6_root 63 = .ok (.getfield 22, 3) := by decide +kernel
theorem dX6_root_66 : decode cX6_root 66 = .ok (.aload_n 0, 1) := by decide +kernel
theorem dX6_root_67 : decode cX6_root 67 = .ok (.getfield 34, 3) := by decide +kernel
theorem dX6_root_70 : decode cX6_root 70 = .ok (.invokestatic 58, 3) := by decide +kernel
theorem dX6_root_73 : decode cX6_root 73 = .ok (.ifCond .gt 23, 3) := by decide +kernel
theorem dX6_root_76 : decode cX6_root 76 = .ok (.aload_n 0, 1) := by decide +kernel
theorem dX6_root_77 : decode cX6_root 77 = .ok (.aload_n 0, 1) := by decide +kernel
theorem dX6_root_78 : decode cX6_root 78 = .ok (.getfield 25, 3) := by decide +kernel
theorem dX6_root_81 : decode cX6_root 81 = .ok (.aload_n 0, 1) := by decide +kernel
theorem dX6_root_82 : decode cX6_root 82 = .ok (.getfield 55, 3) := by decide +kernel
theorem dX6_root_85 : decode cX6_root 85 = .ok (.iconst 4, 1) := by decide +kernel
theorem dX6_root_86 : decode cX6_root 86 = .ok (.iconst 0, 1) := by decide +kernel
theorem dX6_root_87 : decode cX6_root 87 = .ok (.invokestatic 48, 3) := by decide +kernel
theorem dX6_root_90 : decode cX6_root 90 = .ok (.putfield 55, 3) := by decide +kernel
theorem dX6_root_93 : decode cX6_root 93 = .ok (.goto (-39), 3) := by decide +kernel
theorem dX6_root_96 : decode cX6_root 96 = .ok (.aload_n 0, 1) := by decide +kernel
theorem dX6_root_97 : decode cX6_root 97 = .ok (.iconst 0, 1) := by decide +kernel
theorem dX6_root_98 : decode cX6_root 98 = .ok (.putfield 89, 3) := by decide +kernel
theorem dX6_root_101 : decode cX6_root 101 = .ok (.aload_n 0, 1) := by decide +kernel
theorem dX6_root_102 : decode cX6_root 102 = .ok (.invokevirtual 112, 3) := by decide +kernel
theorem dX6_root_105 : decode cX6_root 105 = .ok (.ifCond .eq 206, 3) := by decide +kernel
theorem dX6_root_108 : decode cX6_root 108 = .ok (.aload_n 0, 1) := by decide +kernel
theorem dX6_root_109 : decode cX6_root 109 = .ok (.aload_n 0, 1) := by decide +kernel
theorem dX6_root_110 : decode cX6_root 110 = .ok (.getfield 25, 3) := by decide +kernel
theorem dX6_root_113 : decode cX6_root 113 = .ok (.aload_n 0, 1) := by decide +kernel
theorem dX6_root_114 : decode cX6_root 114 = .ok (.getfield 55, 3) := by decide +kernel
theorem dX6_root_117 : decode cX6_root 117 = .ok (.invokestatic 74, 3) := by decide +kernel
theorem dX6_root_120 : decode cX6_root 120 = .ok (.putfield 55, 3) := by decide +kernel
theorem dX6_root_123 : decode cX6_root 123 = .ok (.aload_n 0, 1) := by decide +kernel
theorem dX6_root_124 : decode cX6_root 124 = .ok (.aload_n 0, 1) := by decide +kernel
theorem dX6_root_125 : decode cX6_root 125 = .ok (.getfield 25, 3) := by decide +kernel
theorem dX6_root_128 : decode cX6_root 128 = .ok (.aload_n 0, 1) := by decide +kernel
theorem dX6_root_129 : decode cX6_root 129 = .ok (.getfield 55, 3) := by decide +kernel
theorem dX6_root_132 : decode cX6_root 132 = .ok (.invokestatic 74, 3) := by decide +kernel
theorem dX6_root_135 : decode cX6_root 135 = .ok (.putfield 55, 3) := by decide +kernel
theorem dX6_root_138 : decode cX6_root 138 = .ok (.aload_n 0, 1) := by decide +kernel
theorem dX6_root_139 : decode cX6_root 139 = .ok (.aload_n 0, 1) := by decide +kernel
theorem dX6_root_140 : decode cX6_root 140 = .ok (.getfield 28, 3) := by decide +kernel
theorem dX6_root_143 : decode cX6_root 143 = .ok (.aload_n 0, 1) := by decide +kernel
theorem dX6_root_144 : decode cX6_root 144 = .ok (.getfield 89, 3) := by decide +kernel
theorem dX6_root_147 : decode cX6_root 147 = .ok (.aload_n 0, 1) := by decide +kernel
theorem dX6_root_148 : decode cX6_root 148 = .ok (.getfield 25, 3) := by decide +kernel
theorem dX6_root_151 : decode cX6_root 151 = .ok (.aload_n 0, 1) := by decide +kernel
theorem dX6_root_152 : decode cX6_root 152 = .ok (.getfield 55, 3) := by decide +kernel
theorem dX6_root_155 : decode cX6_root 155 = .ok (.invokestatic 83, 3) := by decide +kernel
theorem dX6_root_158 : decode cX6_root 158 = .ok (.putfield 89, 3) := by decide +kernel
theorem dX6_root_161 : decode cX6_root 161 = .ok (.aload_n 0, 1) := by decide +kernel
theorem dX6_root_162 : decode cX6_root 162 = .ok (.getfield 28, 3) := by decide +kernel
theorem dX6_root_165 : decode cX6_root 165 = .ok (.aload_n 0, 1) := by decide +kernel
theorem dX6_root_166 : decode cX6_root 166 = .ok (.getfield 89, 3) := by decide +kernel
theorem dX6_root_169 : decode cX6_root 169 = .ok (.aload_n 0, 1) := by decide +kernel
theorem dX6_root_170 : decode cX6_root 170 = .ok (.getfield 22, 3) := by decide +kernel
theorem dX6_root_173 : decode cX6_root 173 = .ok (.aload_n 0, 1) := by decide +kernel
theorem dX6_root_174 : decode cX6_root 174 = .ok (.getfield 34, 3) := by decide +kernel
theorem dX6_root_177 : decode cX6_root 177 = .ok (.invokestatic 58, 3) := by decide +kernel
theorem dX6_root_180 : decode cX6_root 180 = .ok (.ifCond .gt 90, 3) := by decide +kernel
theorem dX6_root_183 : decode cX6_root 183 = .ok (.aload_n 0, 1) := by decide +kernel
theorem dX6_root_184 : decode cX6_root 184 = .ok (.aload_n 0, 1) := by decide +kernel
theorem dX6_root_185 : decode cX6_root 185 = .ok (.getfield 22, 3) := by decide +kernel
theorem dX6_root_188 : decode cX6_root 188 = .ok (.aload_n 0, 1) := by decide +kernel
theorem dX6_root_189 : decode cX6_root 189 = .ok (.getfield 34, 3) := by decide +kernel
theorem dX6_root_192 : decode cX6_root 192 = .ok (.aload_n 0, 1) := by decide +kernel
theorem dX6_root_193 : decode cX6_root 193 = .ok (.getfield 28, 3) := by decide +kernel
theorem dX6_root_196 : decode cX6_root 196 = .ok (.aload_n 0, 1) := by decide +kernel
theorem dX6_root_197 : decode cX6_root 197 = .ok (.getfield 89, 3) := by decide +kernel
theorem dX6_root_200 : decode cX6_root 200 = .ok (.invokestatic 86, 3) := by decide +kernel
theorem dX6_root_203 : decode cX6_root 203 = .ok (.putfield 34, 3) := by decide +kernel
theorem dX6_root_206 : decode cX6_root 206 = .ok (.aload_n 0, 1) := by decide +kernel
theorem dX6_root_207 : decode cX6_root 207 = .ok (.aload_n 0, 1) := by decide +kernel
theorem dX6_root_208 : decode cX6_root 208 = .ok (.getfield 28, 3) := by decide +kernel
theorem dX6_root_211 : decode cX6_root 211 = .ok (.aload_n 0, 1) := by decide +kernel
theorem dX6_root_212 : decode cX6_root 212 = .ok (.getfield 89, 3) := by decide +kernel
theorem dX6_root_215 : decode cX6_root 215 = .ok (.aload_n 0, 1) := by decide +kernel
theorem dX6_root_216 : decode cX6_root 216 = .ok (.getfield 25, 3) := by decide +kernel
theorem dX6_root_219 : decode cX6_root 219 = .ok (.aload_n 0, 1) := by decide +kernel
theorem dX6_root_220 : decode cX6_root 220 = .ok (.getfield 55, 3) := by decide +kernel
theorem dX6_root_223 : decode cX6_root 223 = .ok (.invokestatic 86, 3) := by decide +kernel
theorem dX6_root_226 : decode cX6_root 226 = .ok (.putfield 89, 3) := by decide +kernel
theorem dX6_root_229 : decode cX6_root 229 = .ok (.aload_n 0, 1) := by decide +kernel
theorem dX6_root_230 : decode cX6_root 230 = .ok (.aload_n 0, 1) := by decide +kernel
theorem dX6_root_231 : decode cX6_root 231 = .ok (.getfield 28, 3) := by decide +kernel
theorem dX6_root_234 : decode cX6_root 234 = .ok (.aload_n 0, 1) := by decide +kernel
theorem dX6_root_235 : decode cX6_root 235 = .ok (.getfield 89, 3) := by decide +kernel
theorem dX6_root_238 : decode cX6_root 238 = .ok (.invokestatic 74, 3) := by decide +kernel
theorem dX6_root_241 : decode cX6_root 241 = .ok (.putfield 89, 3) := by decide +kernel
theorem dX6_root_244 : decode cX6_root 244 = .ok (.aload_n 0, 1) := by decide +kernel
theorem dX6_root_245 : decode cX6_root 245 = .ok (.aload_n 0, 1) := by decide +kernel
theorem dX6_root_246 : decode cX6_root 246 = .ok (.getfield 28, 3) := by decide +kernel
theorem dX6_root_249 : decode cX6_root 249 = .ok (.aload_n 0, 1) := by decide +kernel
theorem dX6_root_250 : decode cX6_root 250 = .ok (.getfield 89, 3) := by decide +kernel
theorem dX6_root_253 : decode cX6_root 253 = .ok (.aload_n 0, 1) := by decide +kernel
theorem dX6_root_254 : decode cX6_root 254 = .ok (.getfield 25, 3) := by decide +kernel
theorem dX6_root_257 : decode cX6_root 257 = .ok (.aload_n 0, 1) := by decide +kernel
theorem dX6_root_258 : decode cX6_root 258 = .ok (.getfield 55, 3) := by decide +kernel
theorem dX6_root_261 : decode cX6_root 261 = .ok (.invokestatic 83, 3) := by decide +kernel
theorem dX6_root_264 : decode cX6_root 264 = .ok (.putfield 89, 3) := by decide +kernel
theorem dX6_root_267 : decode cX6_root 267 = .ok (.goto (-166), 3) := by decide +kernel
theorem dX6_root_270 : decode cX6_root 270 = .ok (.aload_n 0, 1) := by decide +kernel
theorem dX6_root_271 : decode cX6_root 271 = .ok (.aload_n 0, 1) := by decide +kernel
theorem dX6_root_272 : decode cX6_root 272 = .ok (.getfield 28, 3) := by decide +kernel
theorem dX6_root_275 : decode cX6_root 275 = .ok (.aload_n 0, 1) := by decide +kernel
theorem dX6_root_276 : decode cX6_root 276 = .ok (.getfield 89, 3) := by decide +kernel
theorem dX6_root_279 : decode cX6_root 279 = .ok (.aload_n 0, 1) := by decide +kernel
theorem dX6_root_280 : decode cX6_root 280 = .ok (.getfield 25, 3) := by decide +kernel
theorem dX6_root_283 : decode cX6_root 283 = .ok (.aload_n 0, 1) := by decide +kernel
theorem dX6_root_284 : decode cX6_root 284 = .ok (.getfield 55, 3) := by decide +kernel
theorem dX6_root_287 : decode cX6_root 287 = .ok (.invokestatic 86, 3) := by decide +kernel
theorem dX6_root_290 : decode cX6_root 290 = .ok (.putfield 89, 3) := by decide +kernel
theorem dX6_root_293 : decode cX6_root 293 = .ok (.aload_n 0, 1) := by decide +kernel
theorem dX6_root_294 : decode cX6_root 294 = .ok (.aload_n 0, 1) := by decide +kernel
theorem dX6_root_295 : decode cX6_root 295 = .ok (.getfield 28, 3) := by decide +kernel
theorem dX6_root_298 : decode cX6_root 298 = .ok (.aload_n 0, 1) := by decide +kernel
theorem dX6_root_299 : decode cX6_root 299 = .ok (.getfield 89, 3) := by decide +kernel
theorem dX6_root_302 : decode cX6_root 302 = .ok (.invokestatic 74, 3) := by decide +kernel
theorem dX6_root_305 : decode cX6_root 305 = .ok (.putfield 89, 3) := by decide +kernel
theorem dX6_root_308 : decode cX6_root 308 = .ok (.goto (-207), 3) := by decide +kernel
theorem dX6_root_311 : decode cX6_root 311 = .ok (.aload_n 0, 1) := by decide +kernel
theorem dX6_root_312 : decode cX6_root 312 = .ok (.iload_n 1, 1) := by decide +kernel
theorem dX6_root_313 : decode cX6_root 313 = .ok (.aload_n 0, 1) := by decide +kernel
theorem dX6_root_314 : decode cX6_root 314 = .ok (.getfield 28, 3) := by decide +kernel
theorem dX6_root_317 : decode cX6_root 317 = .ok (.aload_n 0, 1) := by decide +kernel
theorem dX6_root_318 : decode cX6_root 318 = .ok (.getfield 89, 3) := by decide +kernel
theorem dX6_root_321 : decode cX6_root 321 = .ok (.iconst 1, 1) := by decide +kernel
theorem dX6_root_322 : decode cX6_root 322 = .ok (.invokevirtual 98, 3) := by decide +kernel
theorem dX6_root_325 : decode cX6_root 325 = .ok (.ireturn, 1) := by decide +kernel
theorem dX6_isOne_0 : decode cX6_isOne 0 = .ok (.aload_n 0, 1) := by decide +kernel
theorem dX6_isOne_1 : decode cX6_isOne 1 = .ok (.getfield 55, 3) := by decide +kernel
theorem dX6_isOne_4 : decode cX6_isOne 4 = .ok (.iconst 1, 1) := by decide +kernel
theorem dX6_isOne_5 : decode cX6_isOne 5 = .ok (.if_icmp .gt 21, 3) := by decide +kernel
theorem dX6_isOne_8 : decode cX6_isOne 8 = .ok (.aload_n 0, 1) := by decide +kernel
theorem dX6_isOne_9 : decode cX6_isOne 9 = .ok (.getfield 55, 3) := by decide +kernel
theorem dX6_isOne_12 : decode cX6_isOne 12 = .ok (.iconst 1, 1) := by decide +kernel
theorem dX6_isOne_13 : decode cX6_isOne 13 = .ok (.if_icmp .ne 17, 3) := by decide +kernel
theorem dX6_isOne_16 : decode cX6_isOne 16 = .ok (.aload_n 0, 1) := by decide +kernel
theorem dX6_isOne_17 : decode cX6_isOne 17 = .ok (.getfield 25, 3) := by decide +kernel
theorem dX6_isOne_20 : decode cX6_isOne 20 = .ok (.iconst 0, 1) := by decide +kernel
theorem dX6_isOne_21 : decode cX6_isOne 21 = .ok (.iaload, 1) := by decide +kernel
theorem dX6_isOne_22 : decode cX6_isOne 22 = .ok (.iconst 1, 1) := by decide +kernel
theorem dX6_isOne_23 : decode cX6_isOne 23 = .ok (.if_icmp .le 7, 3) := by decide +kernel
theorem dX6_isOne_26 : decode cX6_isOne 26 = .ok (.iconst 1, 1) := by decide +kernel
theorem dX6_isOne_27 : decode cX6_isOne 27 = .ok (.goto 4, 3) := by decide +kernel
theorem dX6_isOne_30 : decode cX6_isOne 30 = .ok (.iconst 0, 1) := by decide +kernel
theorem dX6_isOne_31 : decode cX6_isOne 31 = .ok (.ireturn, 1) := by decide +kernel
set_option maxRecDepth 20000 in
theorem ggX6_shift_X6_isRegister : GoodIn wsX6_shift wsX6_isRegister := goodIn_r _ [9] (by decide +kernel) (by decide +kernel)
set_option maxRecDepth 20000 in
theorem gX6_shift_X6_isRegister : GoodIn wsX6_shift (va_wsS RX6 77 yX6_isRegister wsX6_isRegister) := goodIn_app (goodIn_of _ (by decide +kernel)) ggX6_shift_X6_isRegister
set_option maxRecDepth 20000 in
theorem ggX6_shift_X6_toX : GoodIn wsX6_shift wsX6_toX := goodIn_r _ [13, 14, 3, 2, 15, 45, 46, 47, 48, 49, 50, 51, 52, 53, 54, 55, 56, 57, 58] (by decide +kernel) (by decide +kernel)
set_option maxRecDepth 20000 in
theorem gX6_shift_X6_toX : GoodIn wsX6_shift (wsV RX6 70 RX6 yX6_toX wsX6_toX) := goodIn_app (goodIn_of _ (by decide +kernel)) ggX6_shift_X6_toX
set_option maxRecDepth 20000 in
theorem ggX6_shift_X6_twice : GoodIn wsX6_shift wsX6_twice := goodIn_r _ [18, 19, 20, 8, 21] (by decide +kernel) (by decide +kernel)
set_option maxRecDepth 20000 in
theorem gX6_shift_X6_twice : GoodIn wsX6_shift (va_wsS RX6 38 yX6_twice wsX6_twice) := goodIn_app (goodIn_of _ (by decide +kernel)) ggX6_shift_X6_twice
set_option maxRecDepth 20000 in
theorem ggX6_shift_X6_isWithin : GoodIn wsX6_shift wsX6_isWithin := goodIn_r _ [25, 26, 27, 28, 29, 8, 30, 45, 46, 47, 48, 49, 50, 51, 52, 53, 54, 55, 56, 57, 58] (by decide +kernel) (by decide +kernel)
set_option maxRecDepth 20000 in
theorem gX6_shift_X6_isWithin : GoodIn wsX6_shift (wsV RX6 62 RX6 yX6_isWithin wsX6_isWithin) := goodIn_app (goodIn_of _ (by decide +kernel)) ggX6_shift_X6_isWithin
set_option maxRecDepth 20000 in
theorem ggX6_shift_X6_half : GoodIn wsX6_shift wsX6_half := goodIn_r _ [33, 34, 35, 8, 36] (by decide +kernel) (by decide +kernel)
set_option maxRecDepth 20000 in
theorem gX6_shift_X6_half : GoodIn wsX6_shift (va_wsS RX6 74 yX6_half wsX6_half) := goodIn_app (goodIn_of _ (by decide +kernel)) ggX6_shift_X6_half
set_option maxRecDepth 20000 in
theorem ggX6_shift_X6_put : GoodIn wsX6_shift wsX6_put := goodIn_r _ [40, 14, 5, 15, 22, 23, 24, 8, 25, 26, 27, 28, 29, 30, 41, 42, 43, 44, 3, 2, 10, 11, 12, 13, 31, 32, 33, 34, 35, 36, 45, 46, 47, 48, 49, 50, 51, 52, 53, 54, 55, 56, 57, 58] (by decide +kernel) (by decide +kernel)
set_option maxRecDepth 20000 in
theorem gX6_shift_X6_put : GoodIn wsX6_shift (wsV RX6 98 RX6 yX6_put wsX6_put) := goodIn_app (goodIn_of _ (by decide +kernel)) ggX6_shift_X6_put
theorem dX6_shift_0 : decode cX6_shift 0 = .ok (.aload_n 0, 1) := by decide +kernel
theorem dX6_shift_1 : decode cX6_shift 1 = .ok (.iconst 0, 1) := by decide +kernel
theorem dX6_shift_2 : decode cX6_shift 2 = .ok (.putfield 45, 3) := by decide +kernel
theorem dX6_shift_5 : decode cX6_shift 5 = .ok (.iload_n 1, 1) := by decide +kernel
theorem dX6_shift_6 : decode cX6_shift 6 = .ok (.invokestatic 77, 3) := by decide +kernel
theorem dX6_shift_9 : decode cX6_shift 9 = .ok (.ifCond .eq 24, 3) := by decide +kernel
theorem dX6_shift_12 : decode cX6_shift 12 = .ok (.iload_n 2, 1) := by decide +kernel
theorem dX6_shift_13 : decode cX6_shift 13 = .ok (.invokestatic 77, 3) := by decide +kernel
theorem dX6_shift_16 : decode cX6_shift 16 = .ok (.ifCond .eq 17, 3) := by decide +kernel
theorem dX6_shift_19 : decode cX6_shift 19 = .ok (.iload_n 3, 1) := by decide +kernel
theorem dX6_shift_20 : decode cX6_shift 20 = .ok (.sipush (-4096), 3) := by decide +kernel
theorem dX6_shift_23 : decode cX6_shift 23 = .ok (.if_icmp .lt 10, 3) := by decide +kernel
theorem dX6_shift_26 : decode cX6_shift 26 = .ok (.iload_n 3, 1) := by decide +kernel
theorem dX6_shift_27 : decode cX6_shift 27 = .ok (.sipush 4096, 3) := by decide +kernel
theorem dX6_shift_30 : decode cX6_shift 30 = .ok (.if_icmp .le 5, 3) := by decide +kernel
theorem dX6_shift_33 : decode cX6_shift 33 = .ok (.iconst (-1), 1) := by decide +kernel
theorem dX6_shift_34 : decode cX6_shift 34 = .ok (.ireturn, 1) := by decide +kernel
theorem dX6_shift_35 : decode cX6_shift 35 = .ok (.aload_n 0, 1) := by decide +kernel
theorem dX6_shift_36 : decode cX6_shift 36 = .ok (.iload_n 2, 1) := by decide +kernel
theorem dX6_shift_37 : decode cX6_shift 37 = .ok (.invokevirtual 70, 3) := by decide +kernel
theorem dX6_shift_40 : decode cX6_shift 40 = .ok (.iconst 0, 1) := by decide +kernel
theorem dX6_shift_41 : decode cX6_shift 41 = .ok (.istore 4, 2) := by decide +kernel
theorem dX6_shift_43 : decode cX6_shift 43 = .ok (.iload 4, 2) := by decide +kernel
theorem dX6_shift_45 : decode cX6_shift 45 = .ok (.iload_n 3, 1) := by decide +kernel
theorem dX6_shift_46 : decode cX6_shift 46 = .ok (.if_icmp .ge 41, 3) := by decide +kernel
theorem dX6_shift_49 : decode cX6_shift 49 = .ok (.aload_n 0, 1) := by decide +kernel
theorem dX6_shift_50 : decode cX6_shift 50 = .ok (.aload_n 0, 1) := by decide +kernel
theorem dX6_shift_51 : decode cX6_shift 51 = .ok (.getfield 22, 3) := by decide +kernel
theorem dX6_shift_54 : decode cX6_shift 54 = .ok (.aload_n 0, 1) := by decide +kernel
theorem dX6_shift_55 : decode cX6_shift 55 = .ok (.getfield 34, 3) := by decide +kernel
theorem dX6_shift_58 : decode cX6_shift 58 = .ok (.invokestatic 38, 3) := by decide +kernel
theorem dX6_shift_61 : decode cX6_shift 61 = .ok (.putfield 34, 3) := by decide +kernel
theorem dX6_shift_64 : decode cX6_shift 64 = .ok (.aload_n 0, 1) := by decide +kernel
theorem dX6_shift_65 : decode cX6_shift 65 = .ok (.aload_n 0, 1) := by decide +kernel
theorem dX6_shift_66 : decode cX6_shift 66 = .ok (.getfield 22, 3) := by decide +kernel
theorem dX6_shift_69 : decode cX6_shift 69 = .ok (.aload_n 0, 1) := by decide +kernel
theorem dX6_shift_70 : decode cX6_shift 70 = .ok (.getfield 34, 3) := by decide +kernel
theorem dX6_shift_73 : decode cX6_shift 73 = .ok (.invokevirtual 62, 3) := by decide +kernel
theorem dX6_shift_76 : decode cX6_shift 76 = .ok (.ifCond .ne 5, 3) := by decide +kernel
theorem dX6_shift_79 : decode cX6_shift 79 = .ok (.iconst (-1), 1) := by decide +kernel
theorem dX6_shift_80 : decode cX6_shift 80 = .ok (.ireturn, 1) := by decide +kernel
theorem dX6_shift_81 : decode cX6_shift 81 = .ok (.iinc 4 1, 3) := by decide +kernel
theorem dX6_shift_84 : decode cX6_shift 84 = .ok (.goto (-41), 3) := by decide +kernel
theorem dX6_shift_87 : decode cX6_shift 87 = .ok (.iconst 0, 1) := by decide +kernel
theorem dX6_shift_88 : decode cX6_shift 88 = .ok (.istore 4, 2) := by decide +kernel
theorem dX6_shift_90 : decode cX6_shift 90 = .ok (.iload 4, 2) := by decide +kernel
theorem dX6_shift_92 : decode cX6_shift 92 = .ok (.iload_n 3, 1) := by decide +kernel
theorem dX6_shift_93 : decode cX6_shift 93 = .ok (.ineg, 1) := by decide +kernel
theorem dX6_shift_94 : decode cX6_shift 94 = .ok (.if_icmp .ge 24, 3) := by decide +kernel
theorem dX6_shift_97 : decode cX6_shift 97 = .ok (.aload_n 0, 1) := by decide +kernel
theorem dX6_shift_98 : decode cX6_shift 98 = .ok (.aload_n 0, 1) := by decide +kernel
theorem dX6_shift_99 : decode cX6_shift 99 = .ok (.getfield 22, 3) := by decide +kernel
theorem dX6_shift_102 : decode cX6_shift 102 = .ok (.aload_n 0, 1) := by decide +kernel
theorem dX6_shift_103 : decode cX6_shift 103 = .ok (.getfield 34, 3) := by decide +kernel
theorem dX6_shift_106 : decode cX6_shift 106 = .ok (.invokestatic 74, 3) := by decide +kernel
theorem dX6_shift_109 : decode cX6_shift 109 = .ok (.putfield 34, 3) := by decide +kernel
theorem dX6_shift_112 : decode cX6_shift 112 = .ok (.iinc 4 1, 3) := by decide +kernel
theorem dX6_shift_115 : decode cX6_shift 115 = .ok (.goto (-25), 3) := by decide +kernel
theorem dX6_shift_118 : decode cX6_shift 118 = .ok (.iconst 0, 1) := by decide +kernel
theorem dX6_shift_119 : decode cX6_shift 119 = .ok (.istore 4, 2) := by decide +kernel
theorem dX6_shift_121 : decode cX6_shift 121 = .ok (.iload 4, 2) := by decide +kernel
theorem dX6_shift_123 : decode cX6_shift 123 = .ok (.aload_n 0, 1) := by decide +kernel
theorem dX6_shift_124 : decode cX6_shift 124 = .ok (.getfield 34, 3) := by decide +kernel
theorem dX6_shift_127 : decode cX6_shift 127 = .ok (.if_icmp .ge 23, 3) := by decide +kernel
theorem dX6_shift_130 : decode cX6_shift 130 = .ok (.aload_n 0, 1) := by decide +kernel
theorem dX6_shift_131 : decode cX6_shift 131 = .ok (.getfield 25, 3) := by decide +kernel
theorem dX6_shift_134 : decode cX6_shift 134 = .ok (.iload 4, 2) := by decide +kernel
theorem dX6_shift_136 : decode cX6_shift 136 = .ok (.aload_n 0, 1) := by decide +kernel
theorem dX6_shift_137 : decode cX6_shift 137 = .ok (.getfield 22, 3) := by decide +kernel
theorem dX6_shift_140 : decode cX6_shift 140 = .ok (.iload 4, 2) := by decide +kernel
theorem dX6_shift_142 : decode cX6_shift 142 = .ok (.iaload, 1) := by decide +kernel
theorem dX6_shift_143 : decode cX6_shift 143 = .ok (.iastore, 1) := by decide +kernel
theorem dX6_shift_144 : decode cX6_shift 144 = .ok (.iinc 4 1, 3) := by decide +kernel
theorem dX6_shift_147 : decode cX6_shift 147 = .ok (.goto (-26), 3) := by decide +kernel
theorem dX6_shift_150 : decode cX6_shift 150 = .ok (.aload_n 0, 1) := by decide +kernel
theorem dX6_shift_151 : decode cX6_shift 151 = .ok (.iload_n 1, 1) := by decide +kernel
theorem dX6_shift_152 : decode cX6_shift 152 = .ok (.aload_n 0, 1) := by decide +kernel
theorem dX6_shift_153 : decode cX6_shift 153 = .ok (.getfield 25, 3) := by decide +kernel
theorem dX6_shift_156 : decode cX6_shift 156 = .ok (.aload_n 0, 1) := by decide +kernel
theorem dX6_shift_157 : decode cX6_shift 157 = .ok (.getfield 34, 3) := by decide +kernel
theorem dX6_shift_160 : decode cX6_shift 160 = .ok (.aload_n 0, 1) := by decide +kernel
theorem dX6_shift_161 : decode cX6_shift 161 = .ok (.getfield 16, 3) := by decide +kernel
theorem dX6_shift_164 : decode cX6_shift 164 = .ok (.iload_n 2, 1) := by decide +kernel
theorem dX6_shift_165 : decode cX6_shift 165 = .ok (.iaload, 1) := by decide +kernel
theorem dX6_shift_166 : decode cX6_shift 166 = .ok (.invokevirtual 98, 3) := by decide +kernel
theorem dX6_shift_169 : decode cX6_shift 169 = .ok (.ireturn, 1) := by decide +kernel
set_option maxRecDepth 20000 in
theorem ggX6_power_X6_isRegister : GoodIn wsX6_power wsX6_isRegister := goodIn_r _ [10] (by decide +kernel) (by decide +kernel)
set_option maxRecDepth 20000 in
theorem gX6_power_X6_isRegister : GoodIn wsX6_power (va_wsS RX6 77 yX6_isRegister wsX6_isRegister) := goodIn_app (goodIn_of _ (by decide +kernel)) ggX6_power_X6_isRegister
set_option maxRecDepth 20000 in
theorem ggX6_power_X6_toY : GoodIn wsX6_power wsX6_toY := goodIn_r _ [14, 15, 16, 17, 18, 50, 51, 52, 53, 54, 55, 56, 57, 58, 59, 60, 61, 62, 63] (by decide +kernel) (by decide +kernel)
set_option maxRecDepth 20000 in
theorem gX6_power_X6_toY : GoodIn wsX6_power (wsV RX6 92 RX6 yX6_toY wsX6_toY) := goodIn_app (goodIn_of _ (by decide +kernel)) ggX6_power_X6_toY
set_option maxRecDepth 20000 in
theorem ggX6_power_X6_multiply : GoodIn wsX6_power wsX6_multiply := goodIn_r _ [22, 4, 16, 2, 5, 17, 3, 23, 24, 9, 25, 50, 51, 52, 53, 54, 55, 56, 57, 58, 59, 60, 61, 62, 63] (by decide +kernel) (by decide +kernel)
set_option maxRecDepth 20000 in
theorem gX6_power_X6_multiply : GoodIn wsX6_power (wsV RX6 95 RX6 yX6_multiply wsX6_multiply) := goodIn_app (goodIn_of _ (by decide +kernel)) ggX6_power_X6_multiply
set_option maxRecDepth 20000 in
theorem ggX6_power_X6_isWithin : GoodIn wsX6_power wsX6_isWithin := goodIn_r _ [29, 30, 31, 32, 33, 9, 34, 50, 51, 52, 53, 54, 55, 56, 57, 58, 59, 60, 61, 62, 63] (by decide +kernel) (by decide +kernel)
set_option maxRecDepth 20000 in
theorem gX6_power_X6_isWithin : GoodIn wsX6_power (wsV RX6 62 RX6 yX6_isWithin wsX6_isWithin) := goodIn_app (goodIn_of _ (by decide +kernel)) ggX6_power_X6_isWithin
set_option maxRecDepth 20000 in
theorem ggX6_power_X6_put : GoodIn wsX6_power wsX6_put := goodIn_r _ [38, 15, 6, 18, 26, 27, 28, 9, 29, 30, 31, 32, 33, 34, 39, 40, 41, 42, 4, 5, 43, 44, 45, 46, 47, 48, 49, 23, 24, 25, 50, 51, 52, 53, 54, 55, 56, 57, 58, 59, 60, 61, 62, 63] (by decide +kernel) (by decide +kernel)
set_option maxRecDepth 20000 in
theorem gX6_power_X6_put : GoodIn wsX6_power (wsV RX6 98 RX6 yX6_put wsX6_put) := goodIn_app (goodIn_of _ (by decide +kernel)) ggX6_power_X6_put
theorem dX6_power_0 : decode cX6_power 0 = .ok (.aload_n 0, 1) := by decide +kernel
theorem dX6_power_1 : decode cX6_power 1 = .ok (.iconst 0, 1) := by decide +kernel
theorem dX6_power_2 : decode cX6_power 2 = .ok (.putfield 45, 3) := by decide +kernel
theorem dX6_power_5 : decode cX6_power 5 = .ok (.iload_n 1, 1) := by decide +kernel
theorem dX6_power_6 : decode cX6_power 6 = .ok (.invokestatic 77, 3) := by decide +kernel
theorem dX6_power_9 : decode cX6_power 9 = .ok (.ifCond .eq 21, 3) := by decide +kernel
theorem dX6_power_12 : decode cX6_power 12 = .ok (.iload_n 2, 1) := by decide +kernel
theorem dX6_power_13 : decode cX6_power 13 = .ok (.invokestatic 77, 3) := by decide +kernel
theorem dX6_power_16 : decode cX6_power 16 = .ok (.ifCond .eq 14, 3) := by decide +kernel
theorem dX6_power_19 : decode cX6_power 19 = .ok (.iload_n 3, 1) := by decide +kernel
theorem dX6_power_20 : decode cX6_power 20 = .ok (.ifCond .lt 10, 3) := by decide +kernel
theorem dX6_power_23 : decode cX6_power 23 = .ok (.iload_n 3, 1) := by decide +kernel
theorem dX6_power_24 : decode cX6_power 24 = .ok (.sipush 4096, 3) := by decide +kernel
theorem dX6_power_27 : decode cX6_power 27 = .ok (.if_icmp .le 5, 3) := by decide +kernel
theorem dX6_power_30 : decode cX6_power 30 = .ok (.iconst (-1), 1) := by decide +kernel
theorem dX6_power_31 : decode cX6_power 31 = .ok (.ireturn, 1) := by decide +kernel
theorem dX6_power_32 : decode cX6_power 32 = .ok (.aload_n 0, 1) := by decide +kernel
theorem dX6_power_33 : decode cX6_power 33 = .ok (.iload_n 2, 1) := by decide +kernel
theorem dX6_power_34 : decode cX6_power 34 = .ok (.invokevirtual 92, 3) := by decide +kernel
theorem dX6_power_37 : decode cX6_power 37 = .ok (.aload_n 0, 1) := by decide +kernel
theorem dX6_power_38 : decode cX6_power 38 = .ok (.getfield 28, 3) := by decide +kernel
theorem dX6_power_41 : decode cX6_power 41 = .ok (.iconst 0, 1) := by decide +kernel
theorem dX6_power_42 : decode cX6_power 42 = .ok (.iconst 1, 1) := by decide +kernel
theorem dX6_power_43 : decode cX6_power 43 = .ok (.iastore, 1) := by decide +kernel
theorem dX6_power_44 : decode cX6_power 44 = .ok (.aload_n 0, 1) := by decide +kernel
theorem dX6_power_45 : decode cX6_power 45 = .ok (.iconst 1, 1) := by decide +kernel
theorem dX6_power_46 : decode cX6_power 46 = .ok (.putfield 89, 3) := by decide +kernel
theorem dX6_power_49 : decode cX6_power 49 = .ok (.iconst 1, 1) := by decide +kernel
theorem dX6_power_50 : decode cX6_power 50 = .ok (.istore 4, 2) := by decide +kernel
theorem dX6_power_52 : decode cX6_power 52 = .ok (.iconst 0, 1) := by decide +kernel
theorem dX6_power_53 : decode cX6_power 53 = .ok (.istore 5, 2) := by decide +kernel
theorem dX6_power_55 : decode cX6_power 55 = .ok (.iload 5, 2) := by decide +kernel
theorem dX6_power_57 : decode cX6_power 57 = .ok (.iload_n 3, 1) := by decide +kernel
theorem dX6_power_58 : decode cX6_power 58 = .ok (.if_icmp .ge 81, 3) := by decide +kernel
theorem dX6_power_61 : decode cX6_power 61 = .ok (.aload_n 0, 1) := by decide +kernel
theorem dX6_power_62 : decode cX6_power 62 = .ok (.aload_n 0, 1) := by decide +kernel
theorem dX6_power_63 : decode cX6_power 63 = .ok (.getfield 89, 3) := by decide +kernel
theorem dX6_power_66 : decode cX6_power 66 = .ok (.putfield 34, 3) := by decide +kernel
theorem dX6_power_69 : decode cX6_power 69 = .ok (.iconst 0, 1) := by decide +kernel
theorem dX6_power_70 : decode cX6_power 70 = .ok (.istore 6, 2) := by decide +kernel
theorem dX6_power_72 : decode cX6_power 72 = .ok (.iload 6, 2) := by decide +kernel
theorem dX6_power_74 : decode cX6_power 74 = .ok (.aload_n 0, 1) := by decide +kernel
theorem dX6_power_75 : decode cX6_power 75 = .ok (.getfield 89, 3) := by decide +kernel
theorem dX6_power_78 : decode cX6_power 78 = .ok (.if_icmp .ge 23, 3) := by decide +kernel
theorem dX6_power_81 : decode cX6_power 81 = .ok (.aload_n 0, 1) := by decide +kernel
theorem dX6_power_82 : decode cX6_power 82 = .ok (.getfield 22, 3) := by decide +kernel
theorem dX6_power_85 : decode cX6_power 85 = .ok (.iload 6, 2) := by decide +kernel
theorem dX6_power_87 : decode cX6_power 87 = .ok (.aload_n 0, 1) := by decide +kernel
theorem dX6_power_88 : decode cX6_power 88 = .ok (.getfield 28, 3) := by decide +kernel
theorem dX6_power_91 : decode cX6_power 91 = .ok (.iload 6, 2) := by decide +kernel
theorem dX6_power_93 : decode cX6_power 93 = .ok (.iaload, 1) := by decide +kernel
theorem dX6_power_94 : decode cX6_power 94 = .ok (.iastore, 1) := by decide +kernel
theorem dX6_power_95 : decode cX6_power 95 = .ok (.iinc 6 1, 3) := by decide +kernel
theorem dX6_power_98 : decode cX6_power 98 = .ok (.goto (-26), 3) := by decide +kernel
theorem dX6_power_101 : decode cX6_power 101 = .ok (.aload_n 0, 1) := by decide +kernel
theorem dX6_power_102 : decode cX6_power 102 = .ok (.invokevirtual 95, 3) := by decide +kernel
theorem dX6_power_105 : decode cX6_power 105 = .ok (.iload 4, 2) := by decide +kernel
theorem dX6_power_107 : decode cX6_power 107 = .ok (.aload_n 0, 1) := by decide +kernel
theorem dX6_power_108 : decode cX6_power 108 = .ok (.getfield 16, 3) := by decide +kernel
theorem dX6_power_111 : decode cX6_power 111 = .ok (.iload_n 2, 1) := by decide +kernel
theorem dX6_power_112 : decode cX6_power 112 = .ok (.iaload, 1) := by decide +kernel
theorem dX6_power_113 : decode cX6_power 113 = .ok (.imul, 1) := by decide +kernel
theorem dX6_power_114 : decode cX6_power 114 = .ok (.istore 4, 2) := by decide +kernel
theorem dX6_power_116 : decode cX6_power 116 = .ok (.aload_n 0, 1) := by decide +kernel
theorem dX6_power_117 : decode cX6_power 117 = .ok (.aload_n 0, 1) := by decide +kernel
theorem dX6_power_118 : decode cX6_power 118 = .ok (.getfield 28, 3) := by decide +kernel
theorem dX6_power_121 : decode cX6_power 121 = .ok (.aload_n 0, 1) := by decide +kernel
theorem dX6_power_122 : decode cX6_power 122 = .ok (.getfield 89, 3) := by decide +kernel
theorem dX6_power_125 : decode cX6_power 125 = .ok (.invokevirtual 62, 3) := by decide +kernel
theorem dX6_power_128 : decode cX6_power 128 = .ok (.ifCond .ne 5, 3) := by decide +kernel
theorem dX6_power_131 : decode cX6_power 131 = .ok (.iconst (-1), 1) := by decide +kernel
theorem dX6_power_132 : decode cX6_power 132 = .ok (.ireturn, 1) := by decide +kernel
theorem dX6_power_133 : decode cX6_power 133 = .ok (.iinc 5 1, 3) := by decide +kernel
theorem dX6_power_136 : decode cX6_power 136 = .ok (.goto (-81), 3) := by decide +kernel
theorem dX6_power_139 : decode cX6_power 139 = .ok (.aload_n 0, 1) := by decide +kernel
theorem dX6_power_140 : decode cX6_power 140 = .ok (.iload_n 1, 1) := by decide +kernel
theorem dX6_power_141 : decode cX6_power 141 = .ok (.aload_n 0, 1) := by decide +kernel
theorem dX6_power_142 : decode cX6_power 142 = .ok (.getfield 28, 3) := by decide +kernel
theorem dX6_power_145 : decode cX6_power 145 = .ok (.aload_n 0, 1) := by decide +kernel
theorem dX6_power_146 : decode cX6_power 146 = .ok (.getfield 89, 3) := by decide +kernel
theorem dX6_power_149 : decode cX6_power 149 = .ok (.iload 4, 2) := by decide +kernel
theorem dX6_power_151 : decode cX6_power 151 = .ok (.invokevirtual 98, 3) := by decide +kernel
theorem dX6_power_154 : decode cX6_power 154 = .ok (.ireturn, 1) := by decide +kernel
set_option maxRecDepth 20000 in
theorem ggX6_compare_X6_isRegister : GoodIn wsX6_compare wsX6_isRegister := goodIn_r _ [10] (by decide +kernel) (by decide +kernel)
set_option maxRecDepth 20000 in
theorem gX6_compare_X6_isRegister : GoodIn wsX6_compare (va_wsS RX6 77 yX6_isRegister wsX6_isRegister) := goodIn_app (goodIn_of _ (by decide +kernel)) ggX6_compare_X6_isRegister
set_option maxRecDepth 20000 in
theorem ggX6_compare_X6_toX : GoodIn wsX6_compare wsX6_toX := goodIn_r _ [14, 15, 4, 3, 16, 24, 25, 26, 27, 28, 29, 30, 31, 32, 33, 34, 35, 36, 37] (by decide +kernel) (by decide +kernel)
set_option maxRecDepth 20000 in
theorem gX6_compare_X6_toX : GoodIn wsX6_compare (wsV RX6 70 RX6 yX6_toX wsX6_toX) := goodIn_app (goodIn_of _ (by decide +kernel)) ggX6_compare_X6_toX
set_option maxRecDepth 20000 in
theorem ggX6_compare_X6_toY : GoodIn wsX6_compare wsX6_toY := goodIn_r _ [20, 15, 6, 5, 16, 24, 25, 26, 27, 28, 29, 30, 31, 32, 33, 34, 35, 36, 37] (by decide +kernel) (by decide +kernel)
set_option maxRecDepth 20000 in
theorem gX6_compare_X6_toY : GoodIn wsX6_compare (wsV RX6 92 RX6 yX6_toY wsX6_toY) := goodIn_app (goodIn_of _ (by decide +kernel)) ggX6_compare_X6_toY
set_option maxRecDepth 20000 in
theorem ggX6_compare_X6_compareRows : GoodIn wsX6_compare wsX6_compareRows := goodIn_r _ [23] (by decide +kernel) (by decide +kernel)
set_option maxRecDepth 20000 in
theorem gX6_compare_X6_compareRows : GoodIn wsX6_compare (va_wsS RX6 58 yX6_compareRows wsX6_compareRows) := goodIn_app (goodIn_of _ (by decide +kernel)) ggX6_compare_X6_compareRows
theorem dX6_compare_0 : decode cX6_compare 0 = .ok (.aload_n 0, 1) := by decide +kernel
theorem dX6_compare_1 : decode cX6_compare 1 = .ok (.iconst 0, 1) := by decide +kernel
theorem dX6_compare_2 : decode cX6_compare 2 = .ok (.putfield 45, 3) := by decide +kernel
theorem dX6_compare_5 : decode cX6_compare 5 = .ok (.iload_n 1, 1) := by decide +kernel
theorem dX6_compare_6 : decode cX6_compare 6 = .ok (.invokestatic 77, 3) := by decide +kernel
theorem dX6_compare_9 : decode cX6_compare 9 = .ok (.ifCond .eq 10, 3) := by decide +kernel
theorem dX6_compare_12 : decode cX6_compare 12 = .ok (.iload_n 2, 1) := by decide +kernel
theorem dX6_compare_13 : decode cX6_compare 13 = .ok (.invokestatic 77, 3) := by decide +kernel
theorem dX6_compare_16 : decode cX6_compare 16 = .ok (.ifCond .ne 5, 3) := by decide +kernel
theorem dX6_compare_19 : decode cX6_compare 19 = .ok (.iconst 2, 1) := by decide +kernel
theorem dX6_compare_20 : decode cX6_compare 20 = .ok (.ireturn, 1) := by decide +kernel
theorem dX6_compare_21 : decode cX6_compare 21 = .ok (.aload_n 0, 1) := by decide +kernel
theorem dX6_compare_22 : decode cX6_compare 22 = .ok (.getfield 16, 3) := by decide +kernel
theorem dX6_compare_25 : decode cX6_compare 25 = .ok (.iload_n 1, 1) := by decide +kernel
theorem dX6_compare_26 : decode cX6_compare 26 = .ok (.iaload, 1) := by decide +kernel
theorem dX6_compare_27 : decode cX6_compare 27 = .ok (.aload_n 0, 1) := by decide +kernel
theorem dX6_compare_28 : decode cX6_compare 28 = .ok (.getfield 16, 3) := by decide +kernel
theorem dX6_compare_31 : decode cX6_compare 31 = .ok (.iload_n 2, 1) := by decide +kernel
theorem dX6_compare_32 : decode cX6_compare 32 = .ok (.iaload, 1) := by decide +kernel
theorem dX6_compare_33 : decode cX6_compare 33 = .ok (.if_icmp .eq 24, 3) := by decide +kernel
theorem dX6_compare_36 : decode cX6_compare 36 = .ok (.aload_n 0, 1) := by decide +kernel
theorem dX6_compare_37 : decode cX6_compare 37 = .ok (.getfield 16, 3) := by decide +kernel
theorem dX6_compare_40 : decode cX6_compare 40 = .ok (.iload_n 1, 1) := by decide +kernel
theorem dX6_compare_41 : decode cX6_compare 41 = .ok (.iaload, 1) := by decide +kernel
theorem dX6_compare_42 : decode cX6_compare 42 = .ok (.aload_n 0, 1) := by decide +kernel
theorem dX6_compare_43 : decode cX6_compare 43 = .ok (.getfield 16, 3) := by decide +kernel
theorem dX6_compare_46 : decode cX6_compare 46 = .ok (.iload_n 2, 1) := by decide +kernel
theorem dX6_compare_47 : decode cX6_compare 47 = .ok (.iaload, 1) := by decide +kernel
theorem dX6_compare_48 : decode cX6_compare 48 = .ok (.if_icmp .ge 7, 3) := by decide +kernel
theorem dX6_compare_51 : decode cX6_compare 51 = .ok (.iconst (-1), 1) := by decide +kernel
theorem dX6_compare_52 : decode cX6_compare 52 = .ok (.goto 4, 3) := by decide +kernel
theorem dX6_compare_55 : decode cX6_compare 55 = .ok (.iconst 1, 1) := by decide +kernel
theorem dX6_compare_56 : decode cX6_compare 56 = .ok (.ireturn, 1) := by decide +kernel
theorem dX6_compare_57 : decode cX6_compare 57 = .ok (.aload_n 0, 1) := by decide +kernel
theorem dX6_compare_58 : decode cX6_compare 58 = .ok (.iload_n 1, 1) := by decide +kernel
theorem dX6_compare_59 : decode cX6_compare 59 = .ok (.invokevirtual 70, 3) := by decide +kernel
theorem dX6_compare_62 : decode cX6_compare 62 = .ok (.aload_n 0, 1) := by decide +kernel
theorem dX6_compare_63 : decode cX6_compare 63 = .ok (.iload_n 2, 1) := by decide +kernel
theorem dX6_compare_64 : decode cX6_compare 64 = .ok (.invokevirtual 92, 3) := by decide +kernel
theorem dX6_compare_67 : decode cX6_compare 67 = .ok (.aload_n 0, 1) := by decide +kernel
theorem dX6_compare_68 : decode cX6_compare 68 = .ok (.getfield 22, 3) := by decide +kernel
theorem dX6_compare_71 : decode cX6_compare 71 = .ok (.aload_n 0, 1) := by decide +kernel
theorem dX6_compare_72 : decode cX6_compare 72 = .ok (.getfield 34, 3) := by decide +kernel
theorem dX6_compare_75 : decode cX6_compare 75 = .ok (.aload_n 0, 1) := by decide +kernel
theorem dX6_compare_76 : decode cX6_compare 76 = .ok (.getfield 25, 3) := by decide +kernel
theorem dX6_compare_79 : decode cX6_compare 79 = .ok (.aload_n 0, 1) := by decide +kernel
theorem dX6_compare_80 : decode cX6_compare 80 = .ok (.getfield 55, 3) := by decide +kernel
theorem dX6_compare_83 : decode cX6_compare 83 = .ok (.invokestatic 58, 3) := by decide +kernel
theorem dX6_compare_86 : decode cX6_compare 86 = .ok (.istore_n 3, 1) := by decide +kernel
theorem dX6_compare_87 : decode cX6_compare 87 = .ok (.aload_n 0, 1) := by decide +kernel
theorem dX6_compare_88 : decode cX6_compare 88 = .ok (.getfield 16, 3) := by decide +kernel
theorem dX6_compare_91 : decode cX6_compare 91 = .ok (.iload_n 1, 1) := by decide +kernel
theorem dX6_compare_92 : decode cX6_compare 92 = .ok (.iaload, 1) := by decide +kernel
theorem dX6_compare_93 : decode cX6_compare 93 = .ok (.ifCond .ge 8, 3) := by decide +kernel
theorem dX6_compare_96 : decode cX6_compare 96 = .ok (.iload_n 3, 1) := by decide +kernel
theorem dX6_compare_97 : decode cX6_compare 97 = .ok (.ineg, 1) := by decide +kernel
theorem dX6_compare_98 : decode cX6_compare 98 = .ok (.goto 4, 3) := by decide +kernel
theorem dX6_compare_101 : decode cX6_compare 101 = .ok (.iload_n 3, 1) := by decide +kernel
theorem dX6_compare_102 : decode cX6_compare 102 = .ok (.ireturn, 1) := by decide +kernel
set_option maxRecDepth 20000 in
theorem ggX6_sign_X6_isRegister : GoodIn wsX6_sign wsX6_isRegister := goodIn_r _ [6] (by decide +kernel) (by decide +kernel)
set_option maxRecDepth 20000 in
theorem gX6_sign_X6_isRegister : GoodIn wsX6_sign (va_wsS RX6 77 yX6_isRegister wsX6_isRegister) := goodIn_app (goodIn_of _ (by decide +kernel)) ggX6_sign_X6_isRegister
theorem dX6_sign_0 : decode cX6_sign 0 = .ok (.aload_n 0, 1) := by decide +kernel
theorem dX6_sign_1 : decode cX6_sign 1 = .ok (.iconst 0, 1) := by decide +kernel
theorem dX6_sign_2 : decode cX6_sign 2 = .ok (.putfield 45, 3) := by decide +kernel
theorem dX6_sign_5 : decode cX6_sign 5 = .ok (.iload_n 1, 1) := by decide +kernel
theorem dX6_sign_6 : decode cX6_sign 6 = .ok (.invokestatic 77, 3) := by decide +kernel
theorem dX6_sign_9 : decode cX6_sign 9 = .ok (.ifCond .eq 12, 3) := by decide +kernel
theorem dX6_sign_12 : decode cX6_sign 12 = .ok (.aload_n 0, 1) := by decide +kernel
theorem dX6_sign_13 : decode cX6_sign 13 = .ok (.getfield 16, 3) := by decide +kernel
theorem dX6_sign_16 : decode cX6_sign 16 = .ok (.iload_n 1, 1) := by decide +kernel
theorem dX6_sign_17 : decode cX6_sign 17 = .ok (.iaload, 1) := by decide +kernel
theorem dX6_sign_18 : decode cX6_sign 18 = .ok (.goto 4, 3) := by decide +kernel
theorem dX6_sign_21 : decode cX6_sign 21 = .ok (.iconst 2, 1) := by decide +kernel
theorem dX6_sign_22 : decode cX6_sign 22 = .ok (.ireturn, 1) := by decide +kernel
set_option maxRecDepth 20000 in
theorem ggX6_bits_X6_isRegister : GoodIn wsX6_bits wsX6_isRegister := goodIn_r _ [5] (by decide +kernel) (by decide +kernel)
set_option maxRecDepth 20000 in
theorem gX6_bits_X6_isRegister : GoodIn wsX6_bits (va_wsS RX6 77 yX6_isRegister wsX6_isRegister) := goodIn_app (goodIn_of _ (by decide +kernel)) ggX6_bits_X6_isRegister
set_option maxRecDepth 20000 in
theorem ggX6_bits_X6_bitsOf : GoodIn wsX6_bits wsX6_bitsOf := goodIn_r _ [9, 10, 11, 12, 13, 14, 4, 15, 16, 17, 18, 19, 20, 21, 22, 23, 24, 25, 26, 27, 28, 29, 30, 31, 32, 33, 34, 35, 36, 37] (by decide +kernel) (by decide +kernel)
set_option maxRecDepth 20000 in
theorem gX6_bits_X6_bitsOf : GoodIn wsX6_bits (wsV RX6 66 RX6 yX6_bitsOf wsX6_bitsOf) := goodIn_app (goodIn_of _ (by decide +kernel)) ggX6_bits_X6_bitsOf
theorem dX6_bits_0 : decode cX6_bits 0 = .ok (.aload_n 0, 1) := by decide +kernel
theorem dX6_bits_1 : decode cX6_bits 1 = .ok (.iconst 0, 1) := by decide +kernel
theorem dX6_bits_2 : decode cX6_bits 2 = .ok (.putfield 45, 3) := by decide +kernel
theorem dX6_bits_5 : decode cX6_bits 5 = .ok (.iload_n 1, 1) := by decide +kernel
theorem dX6_bits_6 : decode cX6_bits 6 = .ok (.invokestatic 77, 3) := by decide +kernel
theorem dX6_bits_9 : decode cX6_bits 9 = .ok (.ifCond .eq 11, 3) := by decide +kernel
theorem dX6_bits_12 : decode cX6_bits 12 = .ok (.aload_n 0, 1) := by decide +kernel
theorem dX6_bits_13 : decode cX6_bits 13 = .ok (.iload_n 1, 1) := by decide +kernel
theorem dX6_bits_14 : decode cX6_bits 14 = .ok (.invokevirtual 66, 3) := by decide +kernel
theorem dX6_bits_17 : decode cX6_bits 17 = .ok (.goto 4, 3) := by decide +kernel
theorem dX6_bits_20 : decode cX6_bits 20 = .ok (.iconst (-1), 1) := by decide +kernel
theorem dX6_bits_21 : decode cX6_bits 21 = .ok (.ireturn, 1) := by decide +kernel
set_option maxRecDepth 20000 in
theorem ggX6_part_X6_isRegister : GoodIn wsX6_part wsX6_isRegister := goodIn_r _ [7] (by decide +kernel) (by decide +kernel)
set_option maxRecDepth 20000 in
theorem gX6_part_X6_isRegister : GoodIn wsX6_part (va_wsS RX6 77 yX6_isRegister wsX6_isRegister) := goodIn_app (goodIn_of _ (by decide +kernel)) ggX6_part_X6_isRegister
set_option maxRecDepth 20000 in
theorem ggX6_part_X6_toX : GoodIn wsX6_part wsX6_toX := goodIn_r _ [11, 12, 2, 3, 13, 23, 24, 25, 26, 27, 28, 29, 30, 31, 32, 33, 34, 35, 36] (by decide +kernel) (by decide +kernel)
set_option maxRecDepth 20000 in
theorem gX6_part_X6_toX : GoodIn wsX6_part (wsV RX6 70 RX6 yX6_toX wsX6_toX) := goodIn_app (goodIn_of _ (by decide +kernel)) ggX6_part_X6_toX
set_option maxRecDepth 20000 in
theorem ggX6_part_X6_half : GoodIn wsX6_part wsX6_half := goodIn_r _ [16, 17, 18, 6, 19] (by decide +kernel) (by decide +kernel)
set_option maxRecDepth 20000 in
theorem gX6_part_X6_half : GoodIn wsX6_part (va_wsS RX6 74 yX6_half wsX6_half) := goodIn_app (goodIn_of _ (by decide +kernel)) ggX6_part_X6_half
set_option maxRecDepth 20000 in
theorem ggX6_part_X6_isOdd : GoodIn wsX6_part wsX6_isOdd := goodIn_r _ [22] (by decide +kernel) (by decide +kernel)
set_option maxRecDepth 20000 in
theorem gX6_part_X6_isOdd : GoodIn wsX6_part (va_wsS RX6 109 yX6_isOdd wsX6_isOdd) := goodIn_app (goodIn_of _ (by decide +kernel)) ggX6_part_X6_isOdd
theorem dX6_part_0 : decode cX6_part 0 = .ok (.aload_n 0, 1) := by decide +kernel
theorem dX6_part_1 : decode cX6_part 1 = .ok (.iconst 0, 1) := by decide +kernel
theorem dX6_part_2 : decode cX6_part 2 = .ok (.putfield 45, 3) := by decide +kernel
theorem dX6_part_5 : decode cX6_part 5 = .ok (.iload_n 1, 1) := by decide +kernel
theorem dX6_part_6 : decode cX6_part 6 = .ok (.invokestatic 77, 3) := by decide +kernel
theorem dX6_part_9 : decode cX6_part 9 = .ok (.ifCond .eq 7, 3) := by decide +kernel
theorem dX6_part_12 : decode cX6_part 12 = .ok (.iload_n 2, 1) := by decide +kernel
theorem dX6_part_13 : decode cX6_part 13 = .ok (.ifCond .ge 5, 3) := by decide +kernel
theorem dX6_part_16 : decode cX6_part 16 = .ok (.iconst (-1), 1) := by decide +kernel
theorem dX6_part_17 : decode cX6_part 17 = .ok (.ireturn, 1) := by decide +kernel
theorem dX6_part_18 : decode cX6_part 18 = .ok (.aload_n 0, 1) := by decide +kernel
theorem dX6_part_19 : decode cX6_part 19 = .ok (.iload_n 1, 1) := by decide +kernel
theorem dX6_part_20 : decode cX6_part 20 = .ok (.invokevirtual 70, 3) := by decide +kernel
theorem dX6_part_23 : decode cX6_part 23 = .ok (.iconst 0, 1) := by decide +kernel
theorem dX6_part_24 : decode cX6_part 24 = .ok (.istore_n 3, 1) := by decide +kernel
theorem dX6_part_25 : decode cX6_part 25 = .ok (.iload_n 3, 1) := by decide +kernel
theorem dX6_part_26 : decode cX6_part 26 = .ok (.iload_n 2, 1) := by decide +kernel
theorem dX6_part_27 : decode cX6_part 27 = .ok (.if_icmp .ge 31, 3) := by decide +kernel
theorem dX6_part_30 : decode cX6_part 30 = .ok (.aload_n 0, 1) := by decide +kernel
theorem dX6_part_31 : decode cX6_part 31 = .ok (.getfield 34, 3) := by decide +kernel
theorem dX6_part_34 : decode cX6_part 34 = .ok (.ifCond .le 24, 3) := by decide +kernel
theorem dX6_part_37 : decode cX6_part 37 = .ok (.aload_n 0, 1) := by decide +kernel
theorem dX6_part_38 : decode cX6_part 38 = .ok (.aload_n 0, 1) := by decide +kernel
theorem dX6_part_39 : decode cX6_part 39 = .ok (.getfield 22, 3) := by decide +kernel
theorem dX6_part_42 : decode cX6_part 42 = .ok (.aload_n 0, 1) := by decide +kernel
theorem dX6_part_43 : decode cX6_part 43 = .ok (.getfield 34, 3) := by decide +kernel
theorem dX6_part_46 : decode cX6_part 46 = .ok (.invokestatic 74, 3) := by decide +kernel
theorem dX6_part_49 : decode cX6_part 49 = .ok (.putfield 34, 3) := by decide +kernel
theorem dX6_part_52 : decode cX6_part 52 = .ok (.iinc 3 1, 3) := by decide +kernel
theorem dX6_part_55 : decode cX6_part 55 = .ok (.goto (-30), 3) := by decide +kernel
theorem dX6_part_58 : decode cX6_part 58 = .ok (.iconst 0, 1) := by decide +kernel
theorem dX6_part_59 : decode cX6_part 59 = .ok (.istore_n 3, 1) := by decide +kernel
theorem dX6_part_60 : decode cX6_part 60 = .ok (.iconst 0, 1) := by decide +kernel
theorem dX6_part_61 : decode cX6_part 61 = .ok (.istore 4, 2) := by decide +kernel
theorem dX6_part_63 : decode cX6_part 63 = .ok (.iload 4, 2) := by decide +kernel
theorem dX6_part_65 : decode cX6_part 65 = .ok (.bipush 30, 2) := by decide +kernel
theorem dX6_part_67 : decode cX6_part 67 = .ok (.if_icmp .ge 45, 3) := by decide +kernel
theorem dX6_part_70 : decode cX6_part 70 = .ok (.aload_n 0, 1) := by decide +kernel
theorem dX6_part_71 : decode cX6_part 71 = .ok (.getfield 22, 3) := by decide +kernel
theorem dX6_part_74 : decode cX6_part 74 = .ok (.aload_n 0, 1) := by decide +kernel
theorem dX6_part_75 : decode cX6_part 75 = .ok (.getfield 34, 3) := by decide +kernel
theorem dX6_part_78 : decode cX6_part 78 = .ok (.invokestatic 109, 3) := by decide +kernel
theorem dX6_part_81 : decode cX6_part 81 = .ok (.ifCond .eq 10, 3) := by decide +kernel
theorem dX6_part_84 : decode cX6_part 84 = .ok (.iload_n 3, 1) := by decide +kernel
theorem dX6_part_85 : decode cX6_part 85 = .ok (.iconst 1, 1) := by decide +kernel
theorem dX6_part_86 : decode cX6_part 86 = .ok (.iload 4, 2) := by decide +kernel
theorem dX6_part_88 : decode cX6_part 88 = .ok (.ishl, 1) := by decide +kernel
theorem dX6_part_89 : decode cX6_part 89 = .ok (.ior, 1) := by decide +kernel
theorem dX6_part_90 : decode cX6_part 90 = .ok (.istore_n 3, 1) := by decide +kernel
theorem dX6_part_91 : decode cX6_part 91 = .ok (.aload_n 0, 1) := by decide +kernel
theorem dX6_part_92 : decode cX6_part 92 = .ok (.aload_n 0, 1) := by decide +kernel
theorem dX6_part_93 : decode cX6_part 93 = .ok (.getfield 22, 3) := by decide +kernel
theorem dX6_part_96 : decode cX6_part 96 = .ok (.aload_n 0, 1) := by decide +kernel
theorem dX6_part_97 : decode cX6_part 97 = .ok (.getfield 34, 3) := by decide +kernel
theorem dX6_part_100 : decode cX6_part 100 = .ok (.invokestatic 74, 3) := by decide +kernel
theorem dX6_part_103 : decode cX6_part 103 = .ok (.putfield 34, 3) := by decide +kernel
theorem dX6_part_106 : decode cX6_part 106 = .ok (.iinc 4 1, 3) := by decide +kernel
theorem dX6_part_109 : decode cX6_part 109 = .ok (.goto (-46), 3) := by decide +kernel
theorem dX6_part_112 : decode cX6_part 112 = .ok (.iload_n 3, 1) := by decide +kernel
theorem dX6_part_113 : decode cX6_part 113 = .ok (.ireturn, 1) := by decide +kernel
set_option maxRecDepth 20000 in
theorem ggX6_anyBelow_X6_toX : GoodIn wsX6_anyBelow wsX6_toX := goodIn_r _ [7, 8, 1, 2, 9, 19, 20, 21, 22, 23, 24, 25, 26, 27, 28, 29, 30, 31, 32] (by decide +kernel) (by decide +kernel)
set_option maxRecDepth 20000 in
theorem gX6_anyBelow_X6_toX : GoodIn wsX6_anyBelow (wsV RX6 70 RX6 yX6_toX wsX6_toX) := goodIn_app (goodIn_of _ (by decide +kernel)) ggX6_anyBelow_X6_toX
set_option maxRecDepth 20000 in
theorem ggX6_anyBelow_X6_isOdd : GoodIn wsX6_anyBelow wsX6_isOdd := goodIn_r _ [12] (by decide +kernel) (by decide +kernel)
set_option maxRecDepth 20000 in
theorem gX6_anyBelow_X6_isOdd : GoodIn wsX6_anyBelow (va_wsS RX6 109 yX6_isOdd wsX6_isOdd) := goodIn_app (goodIn_of _ (by decide +kernel)) ggX6_anyBelow_X6_isOdd
set_option maxRecDepth 20000 in
theorem ggX6_anyBelow_X6_half : GoodIn wsX6_anyBelow wsX6_half := goodIn_r _ [15, 16, 17, 6, 18] (by decide +kernel) (by decide +kernel)
set_option maxRecDepth 20000 in
theorem gX6_anyBelow_X6_half : GoodIn wsX6_anyBelow (va_wsS RX6 74 yX6_half wsX6_half) := goodIn_app (goodIn_of _ (by decide +kernel)) ggX6_anyBelow_X6_half
theorem dX6_anyBelow_0 : decode cX6_anyBelow 0 = .ok (.aload_n 0, 1) := by decide +kernel
theorem dX6_anyBelow_1 : decode cX6_anyBelow 1 = .ok (.iload_n 1, 1) := by decide +kernel
theorem dX6_anyBelow_2 : decode cX6_anyBelow 2 = .ok (.invokevirtual 70, 3) := by decide +kernel
theorem dX6_anyBelow_5 : decode cX6_anyBelow 5 = .ok (.iconst 0, 1) := by decide +kernel
theorem dX6_anyBelow_6 : decode cX6_anyBelow 6 = .ok (.istore_n 3, 1) := by decide +kernel
theorem dX6_anyBelow_7 : decode cX6_anyBelow 7 = .ok (.iload_n 3, 1) := by decide +kernel
theorem dX6_anyBelow_8 : decode cX6_anyBelow 8 = .ok (.iload_n 2, 1) := by decide +kernel
theorem dX6_anyBelow_9 : decode cX6_anyBelow 9 = .ok (.if_icmp .ge 47, 3) := by decide +kernel
theorem dX6_anyBelow_12 : decode cX6_anyBelow 12 = .ok (.aload_n 0, 1) := by decide +kernel
theorem dX6_anyBelow_13 : decode cX6_anyBelow 13 = .ok (.getfield 34, 3) := by decide +kernel
theorem dX6_anyBelow_16 : decode cX6_anyBelow 16 = .ok (.ifCond .le 40, 3) := by decide +kernel
theorem dX6_anyBelow_19 : decode cX6_anyBelow 19 = .ok (.aload_n 0, 1) := by decide +kernel
theorem dX6_anyBelow_20 : decode cX6_anyBelow 20 = .ok (.getfield 22, 3) := by decide +kernel
theorem dX6_anyBelow_23 : decode cX6_anyBelow 23 = .ok (.aload_n 0, 1) := by decide +kernel
theorem dX6_anyBelow_24 : decode cX6_anyBelow 24 = .ok (.getfield 34, 3) := by decide +kernel
theorem dX6_anyBelow_27 : decode cX6_anyBelow 27 = .ok (.invokestatic 109, 3) := by decide +kernel
theorem dX6_anyBelow_30 : decode cX6_anyBelow 30 = .ok (.ifCond .eq 5, 3) := by decide +kernel
theorem dX6_anyBelow_33 : decode cX6_anyBelow 33 = .ok (.iconst 1, 1) := by decide +kernel
theorem dX6_anyBelow_34 : decode cX6_anyBelow 34 = .ok (.ireturn, 1) := by decide +kernel
theorem dX6_anyBelow_35 : decode cX6_anyBelow 35 = .ok (.aload_n 0, 1) := by decide +kernel
theorem dX6_anyBelow_36 : decode cX6_anyBelow 36 = .ok (.aload_n 0, 1) := by decide +kernel
theorem dX6_anyBelow_37 : decode cX6_anyBelow 37 = .ok (.getfield 22, 3) := by decide +kernel
theorem dX6_anyBelow_40 : decode cX6_anyBelow 40 = .ok (.aload_n 0, 1) := by decide +kernel
theorem dX6_anyBelow_41 : decode cX6_anyBelow 41 = .ok (.getfield 34, 3) := by decide +kernel
theorem dX6_anyBelow_44 : decode cX6_anyBelow 44 = .ok (.invokestatic 74, 3) := by decide +kernel
theorem dX6_anyBelow_47 : decode cX6_anyBelow 47 = .ok (.putfield 34, 3) := by decide +kernel
theorem dX6_anyBelow_50 : decode cX6_anyBelow 50 = .ok (.iinc 3 1, 3) := by decide +kernel
theorem dX6_anyBelow_53 : decode cX6_anyBelow 53 = .ok (.goto (-46), 3) := by decide +kernel
theorem dX6_anyBelow_56 : decode cX6_anyBelow 56 = .ok (.iconst 0, 1) := by decide +kernel
theorem dX6_anyBelow_57 : decode cX6_anyBelow 57 = .ok (.ireturn, 1) := by decide +kernel
set_option maxRecDepth 20000 in
theorem ggX6_hasBelow_X6_isRegister : GoodIn wsX6_hasBelow wsX6_isRegister := goodIn_r _ [5] (by decide +kernel) (by decide +kernel)
set_option maxRecDepth 20000 in
theorem gX6_hasBelow_X6_isRegister : GoodIn wsX6_hasBelow (va_wsS RX6 77 yX6_isRegister wsX6_isRegister) := goodIn_app (goodIn_of _ (by decide +kernel)) ggX6_hasBelow_X6_isRegister
set_option maxRecDepth 20000 in
theorem ggX6_hasBelow_X6_anyBelow : GoodIn wsX6_hasBelow wsX6_anyBelow := goodIn_r _ [9, 10, 11, 12, 13, 14, 4, 15, 16, 17, 18, 19, 20, 21, 22, 23, 24, 25, 26, 27, 28, 29, 30, 31, 32, 33, 34, 35, 36, 37, 38, 39, 40] (by decide +kernel) (by decide +kernel)
set_option maxRecDepth 20000 in
theorem gX6_hasBelow_X6_anyBelow : GoodIn wsX6_hasBelow (wsV RX6 116 RX6 yX6_anyBelow wsX6_anyBelow) := goodIn_app (goodIn_of _ (by decide +kernel)) ggX6_hasBelow_X6_anyBelow
theorem dX6_hasBelow_0 : decode cX6_hasBelow 0 = .ok (.aload_n 0, 1) := by decide +kernel
theorem dX6_hasBelow_1 : decode cX6_hasBelow 1 = .ok (.iconst 0, 1) := by decide +kernel
theorem dX6_hasBelow_2 : decode cX6_hasBelow 2 = .ok (.putfield 45, 3) := by decide +kernel
theorem dX6_hasBelow_5 : decode cX6_hasBelow 5 = .ok (.iload_n 1, 1) := by decide +kernel
theorem dX6_hasBelow_6 : decode cX6_hasBelow 6 = .ok (.invokestatic 77, 3) := by decide +kernel
theorem dX6_hasBelow_9 : decode cX6_hasBelow 9 = .ok (.ifCond .eq 16, 3) := by decide +kernel
theorem dX6_hasBelow_12 : decode cX6_hasBelow 12 = .ok (.aload_n 0, 1) := by decide +kernel
theorem dX6_hasBelow_13 : decode cX6_hasBelow 13 = .ok (.iload_n 1, 1) := by decide +kernel
theorem dX6_hasBelow_14 : decode cX6_hasBelow 14 = .ok (.iload_n 2, 1) := by decide +kernel
theorem dX6_hasBelow_15 : decode cX6_hasBelow 15 = .ok (.invokevirtual 116, 3) := by decide +kernel
theorem dX6_hasBelow_18 : decode cX6_hasBelow 18 = .ok (.ifCond .eq 7, 3) := by decide +kernel
theorem dX6_hasBelow_21 : decode cX6_hasBelow 21 = .ok (.iconst 1, 1) := by decide +kernel
theorem dX6_hasBelow_22 : decode cX6_hasBelow 22 = .ok (.goto 4, 3) := by decide +kernel
theorem dX6_hasBelow_25 : decode cX6_hasBelow 25 = .ok (.iconst 0, 1) := by decide +kernel
theorem dX6_hasBelow_26 : decode cX6_hasBelow 26 = .ok (.ireturn, 1) := by decide +kernel
set_option maxRecDepth 20000 in
theorem ggX6_isLong_X6_bitsOf : GoodIn wsX6_isLong wsX6_bitsOf := goodIn_r _ [6, 7, 8, 9, 10, 11, 5, 12, 13, 14, 15, 16, 17, 18, 19, 20, 28, 29, 30, 31, 32, 33, 34, 35, 36, 37, 38, 39, 40, 41] (by decide +kernel) (by decide +kernel)
set_option maxRecDepth 20000 in
theorem gX6_isLong_X6_bitsOf : GoodIn wsX6_isLong (wsV RX6 66 RX6 yX6_bitsOf wsX6_bitsOf) := goodIn_app (goodIn_of _ (by decide +kernel)) ggX6_isLong_X6_bitsOf
set_option maxRecDepth 20000 in
theorem ggX6_isLong_X6_anyBelow : GoodIn wsX6_isLong wsX6_anyBelow := goodIn_r _ [24, 7, 8, 9, 10, 11, 5, 12, 13, 14, 25, 26, 27, 15, 16, 17, 18, 19, 20, 28, 29, 30, 31, 32, 33, 34, 35, 36, 37, 38, 39, 40, 41] (by decide +kernel) (by decide +kernel)
set_option maxRecDepth 20000 in
theorem gX6_isLong_X6_anyBelow : GoodIn wsX6_isLong (wsV RX6 116 RX6 yX6_anyBelow wsX6_anyBelow) := goodIn_app (goodIn_of _ (by decide +kernel)) ggX6_isLong_X6_anyBelow
theorem dX6_isLong_0 : decode cX6_isLong 0 = .ok (.aload_n 0, 1) := by decide +kernel
theorem dX6_isLong_1 : decode cX6_isLong 1 = .ok (.iload_n 1, 1) := by decide +kernel
theorem dX6_isLong_2 : decode cX6_isLong 2 = .ok (.invokevirtual 66, 3) := by decide +kernel
theorem dX6_isLong_5 : decode cX6_isLong 5 = .ok (.istore_n 2, 1) := by decide +kernel
theorem dX6_isLong_6 : decode cX6_isLong 6 = .ok (.iload_n 2, 1) := by decide +kernel
theorem dX6_isLong_7 : decode cX6_isLong 7 = .ok (.bipush 64, 2) := by decide +kernel
theorem dX6_isLong_9 : decode cX6_isLong 9 = .ok (.if_icmp .lt 28, 3) := by decide +kernel
theorem dX6_isLong_12 : decode cX6_isLong 12 = .ok (.iload_n 2, 1) := by decide +kernel
theorem dX6_isLong_13 : decode cX6_isLong 13 = .ok (.bipush 64, 2) := by decide +kernel
theorem dX6_isLong_15 : decode cX6_isLong 15 = .ok (.if_icmp .ne 26, 3) := by decide +kernel
theorem dX6_isLong_18 : decode cX6_isLong 18 = .ok (.aload_n 0, 1) := by decide +kernel
theorem dX6_isLong_19 : decode cX6_isLong 19 = .ok (.getfield 16, 3) := by decide +kernel
theorem dX6_isLong_22 : decode cX6_isLong 22 = .ok (.iload_n 1, 1) := by decide +kernel
theorem dX6_isLong_23 : decode cX6_isLong 23 = .ok (.iaload, 1) := by decide +kernel
theorem dX6_isLong_24 : decode cX6_isLong 24 = .ok (.ifCond .ge 17, 3) := by decide +kernel
theorem dX6_isLong_27 : decode cX6_isLong 27 = .ok (.aload_n 0, 1) := by decide +kernel
theorem dX6_isLong_28 : decode cX6_isLong 28 = .ok (.iload_n 1, 1) := by decide +kernel
theorem dX6_isLong_29 : decode cX6_isLong 29 = .ok (.bipush 63, 2) := by decide +kernel
theorem dX6_isLong_31 : decode cX6_isLong 31 = .ok (.invokevirtual 116, 3) := by decide +kernel
theorem dX6_isLong_34 : decode cX6_isLong 34 = .ok (.ifCond .ne 7, 3) := by decide +kernel
theorem dX6_isLong_37 : decode cX6_isLong 37 = .ok (.iconst 1, 1) := by decide +kernel
theorem dX6_isLong_38 : decode cX6_isLong 38 = .ok (.goto 4, 3) := by decide +kernel
theorem dX6_isLong_41 : decode cX6_isLong 41 = .ok (.iconst 0, 1) := by decide +kernel
theorem dX6_isLong_42 : decode cX6_isLong 42 = .ok (.ireturn, 1) := by decide +kernel
set_option maxRecDepth 20000 in
theorem ggX6_low_X6_isRegister : GoodIn wsX6_low wsX6_isRegister := goodIn_r _ [9] (by decide +kernel) (by decide +kernel)
set_option maxRecDepth 20000 in
theorem gX6_low_X6_isRegister : GoodIn wsX6_low (va_wsS RX6 77 yX6_isRegister wsX6_isRegister) := goodIn_app (goodIn_of _ (by decide +kernel)) ggX6_low_X6_isRegister
set_option maxRecDepth 20000 in
theorem ggX6_low_X6_isLong : GoodIn wsX6_low wsX6_isLong := goodIn_r _ [13, 4, 14, 15, 16, 8, 17, 18, 19, 20, 21, 22, 23, 2, 5, 24, 25, 26, 27, 28, 29, 30, 31, 32, 33, 34, 35, 36, 37, 38, 39, 40, 41, 42, 43, 44, 45, 46, 47, 48, 49, 50] (by decide +kernel) (by decide +kernel)
set_option maxRecDepth 20000 in
theorem gX6_low_X6_isLong : GoodIn wsX6_low (wsV RX6 120 RX6 yX6_isLong wsX6_isLong) := goodIn_app (goodIn_of _ (by decide +kernel)) ggX6_low_X6_isLong
theorem dX6_low_0 : decode cX6_low 0 = .ok (.aload_n 0, 1) := by decide +kernel
theorem dX6_low_1 : decode cX6_low 1 = .ok (.iconst 0, 1) := by decide +kernel
theorem dX6_low_2 : decode cX6_low 2 = .ok (.putfield 45, 3) := by decide +kernel
theorem dX6_low_5 : decode cX6_low 5 = .ok (.iload_n 1, 1) := by decide +kernel
theorem dX6_low_6 : decode cX6_low 6 = .ok (.invokestatic 77, 3) := by decide +kernel
theorem dX6_low_9 : decode cX6_low 9 = .ok (.ifCond .eq 11, 3) := by decide +kernel
theorem dX6_low_12 : decode cX6_low 12 = .ok (.aload_n 0, 1) := by decide +kernel
theorem dX6_low_13 : decode cX6_low 13 = .ok (.iload_n 1, 1) := by decide +kernel
theorem dX6_low_14 : decode cX6_low 14 = .ok (.invokevirtual 120, 3) := by decide +kernel
theorem dX6_low_17 : decode cX6_low 17 = .ok (.ifCond .ne 5, 3) := by decide +kernel
theorem dX6_low_20 : decode cX6_low 20 = .ok (.lconst 0, 1) := by decide +kernel
theorem dX6_low_21 : decode cX6_low 21 = .ok (.lreturn, 1) := by decide +kernel
theorem dX6_low_22 : decode cX6_low 22 = .ok (.lconst 0, 1) := by decide +kernel
theorem dX6_low_23 : decode cX6_low 23 = .ok (.lstore_n 2, 1) := by decide +kernel
theorem dX6_low_24 : decode cX6_low 24 = .ok (.aload_n 0, 1) := by decide +kernel
theorem dX6_low_25 : decode cX6_low 25 = .ok (.getfield 13, 3) := by decide +kernel
theorem dX6_low_28 : decode cX6_low 28 = .ok (.iload_n 1, 1) := by decide +kernel
theorem dX6_low_29 : decode cX6_low 29 = .ok (.iaload, 1) := by decide +kernel
theorem dX6_low_30 : decode cX6_low 30 = .ok (.iconst 1, 1) := by decide +kernel
theorem dX6_low_31 : decode cX6_low 31 = .ok (.isub, 1) := by decide +kernel
theorem dX6_low_32 : decode cX6_low 32 = .ok (.istore 4, 2) := by decide +kernel
theorem dX6_low_34 : decode cX6_low 34 = .ok (.iload 4, 2) := by decide +kernel
theorem dX6_low_36 : decode cX6_low 36 = .ok (.ifCond .lt 37, 3) := by decide +kernel
theorem dX6_low_39 : decode cX6_low 39 = .ok (.lload_n 2, 1) := by decide +kernel
theorem dX6_low_40 : decode cX6_low 40 = .ok (.ldc2_w 81, 3) := by decide +kernel
theorem dX6_low_43 : decode cX6_low 43 = .ok (.lmul, 1) := by decide +kernel
theorem dX6_low_44 : decode cX6_low 44 = .ok (.aload_n 0, 1) := by decide +kernel
theorem dX6_low_45 : decode cX6_low 45 = .ok (.getfield 16, 3) := by decide +kernel
theorem dX6_low_48 : decode cX6_low 48 = .ok (.iload_n 1, 1) := by decide +kernel
theorem dX6_low_49 : decode cX6_low 49 = .ok (.iaload, 1) := by decide +kernel
theorem dX6_low_50 : decode cX6_low 50 = .ok (.aload_n 0, 1) := by decide +kernel
theorem dX6_low_51 : decode cX6_low 51 = .ok (.getfield 7, 3) := by decide +kernel
theorem dX6_low_54 : decode cX6_low 54 = .ok (.sipush 320, 3) := by decide +kernel
theorem dX6_low_57 : decode cX6_low 57 = .ok (.iload_n 1, 1) := by decide +kernel
theorem dX6_low_58 : decode cX6_low 58 = .ok (.imul, 1) := by decide +kernel
theorem dX6_low_59 : decode cX6_low 59 = .ok (.iload 4, 2) := by decide +kernel
theorem dX6_low_61 : decode cX6_low 61 = .ok (.iadd, 1) := by decide +kernel
theorem dX6_low_62 : decode cX6_low 62 = .ok (.iaload, 1) := by decide +kernel
theorem dX6_low_63 : decode cX6_low 63 = .ok (.imul, 1) := by decide +kernel
theorem dX6_low_64 : decode cX6_low 64 = .ok (.i2l, 1) := by decide +kernel
theorem dX6_low_65 : decode cX6_low 65 = .ok (.ladd, 1) := by decide +kernel
theorem dX6_low_66 : decode cX6_low 66 = .ok (.lstore_n 2, 1) := by decide +kernel
theorem dX6_low_67 : decode cX6_low 67 = .ok (.iinc 4 (-1), 3) := by decide +kernel
theorem dX6_low_70 : decode cX6_low 70 = .ok (.goto (-36), 3) := by decide +kernel
theorem dX6_low_73 : decode cX6_low 73 = .ok (.lload_n 2, 1) := by decide +kernel
theorem dX6_low_74 : decode cX6_low 74 = .ok (.lreturn, 1) := by decide +kernel
set_option maxRecDepth 20000 in
theorem ggX6_fits_X6_isRegister : GoodIn wsX6_fits wsX6_isRegister := goodIn_r _ [5] (by decide +kernel) (by decide +kernel)
set_option maxRecDepth 20000 in
theorem gX6_fits_X6_isRegister : GoodIn wsX6_fits (va_wsS RX6 77 yX6_isRegister wsX6_isRegister) := goodIn_app (goodIn_of _ (by decide +kernel)) ggX6_fits_X6_isRegister
set_option maxRecDepth 20000 in
theorem ggX6_fits_X6_isLong : GoodIn wsX6_fits wsX6_isLong := goodIn_r _ [9, 10, 11, 12, 13, 4, 14, 15, 16, 17, 18, 19, 20, 21, 22, 23, 24, 25, 26, 27, 28, 29, 30, 31, 32, 33, 34, 35, 36, 37, 38, 39, 40, 41, 42, 43, 44, 45, 46, 47, 48, 49] (by decide +kernel) (by decide +kernel)
set_option maxRecDepth 20000 in
theorem gX6_fits_X6_isLong : GoodIn wsX6_fits (wsV RX6 120 RX6 yX6_isLong wsX6_isLong) := goodIn_app (goodIn_of _ (by decide +kernel)) ggX6_fits_X6_isLong
theorem dX6_fits_0 : decode cX6_fits 0 = .ok (.aload_n 0, 1) := by decide +kernel
theorem dX6_fits_1 : decode cX6_fits 1 = .ok (.iconst 0, 1) := by decide +kernel
theorem dX6_fits_2 : decode cX6_fits 2 = .ok (.putfield 45, 3) := by decide +kernel
theorem dX6_fits_5 : decode cX6_fits 5 = .ok (.iload_n 1, 1) := by decide +kernel
theorem dX6_fits_6 : decode cX6_fits 6 = .ok (.invokestatic 77, 3) := by decide +kernel
theorem dX6_fits_9 : decode cX6_fits 9 = .ok (.ifCond .eq 15, 3) := by decide +kernel
theorem dX6_fits_12 : decode cX6_fits 12 = .ok (.aload_n 0, 1) := by decide +kernel
theorem dX6_fits_13 : decode cX6_fits 13 = .ok (.iload_n 1, 1) := by decide +kernel
theorem dX6_fits_14 : decode cX6_fits 14 = .ok (.invokevirtual 120, 3) := by decide +kernel
theorem dX6_fits_17 : decode cX6_fits 17 = .ok (.ifCond .eq 7, 3) := by decide +kernel
theorem dX6_fits_20 : decode cX6_fits 20 = .ok (.iconst 1, 1) := by decide +kernel
theorem dX6_fits_21 : decode cX6_fits 21 = .ok (.goto 4, 3) := by decide +kernel
theorem dX6_fits_24 : decode cX6_fits 24 = .ok (.iconst 0, 1) := by decide +kernel
theorem dX6_fits_25 : decode cX6_fits 25 = .ok (.ireturn, 1) := by decide +kernel
set_option maxRecDepth 20000 in
theorem ggX6_write_X6_isRegister : GoodIn wsX6_write wsX6_isRegister := goodIn_r _ [10] (by decide +kernel) (by decide +kernel)
set_option maxRecDepth 20000 in
theorem gX6_write_X6_isRegister : GoodIn wsX6_write (va_wsS RX6 77 yX6_isRegister wsX6_isRegister) := goodIn_app (goodIn_of _ (by decide +kernel)) ggX6_write_X6_isRegister
set_option maxRecDepth 20000 in
theorem ggX6_write_X6_toX : GoodIn wsX6_write wsX6_toX := goodIn_r _ [14, 15, 2, 3, 16, 20, 21, 22, 23, 24, 25, 26, 27, 28, 29, 30, 31, 32, 33] (by decide +kernel) (by decide +kernel)
set_option maxRecDepth 20000 in
theorem gX6_write_X6_toX : GoodIn wsX6_write (wsV RX6 70 RX6 yX6_toX wsX6_toX) := goodIn_app (goodIn_of _ (by decide +kernel)) ggX6_write_X6_toX
set_option maxRecDepth 20000 in
theorem ggX6_write_X6_shortened : GoodIn wsX6_write wsX6_shortened := goodIn_r _ [19] (by decide +kernel) (by decide +kernel)
set_option maxRecDepth 20000 in
theorem gX6_write_X6_shortened : GoodIn wsX6_write (va_wsS RX6 52 yX6_shortened wsX6_shortened) := goodIn_app (goodIn_of _ (by decide +kernel)) ggX6_write_X6_shortened
theorem dX6_write_0 : decode cX6_write 0 = .ok (.aload_n 0, 1) := by decide +kernel
theorem dX6_write_1 : decode cX6_write 1 = .ok (.iconst 0, 1) := by decide +kernel
theorem dX6_write_2 : decode cX6_write 2 = .ok (.putfield 45, 3) := by decide +kernel
theorem dX6_write_5 : decode cX6_write 5 = .ok (.iload_n 1, 1) := by decide +kernel
theorem dX6_write_6 : decode cX6_write 6 = .ok (.invokestatic 77, 3) := by decide +kernel
theorem dX6_write_9 : decode cX6_write 9 = .ok (.ifCond .eq 14, 3) := by decide +kernel
theorem dX6_write_12 : decode cX6_write 12 = .ok (.iload_n 2, 1) := by decide +kernel
theorem dX6_write_13 : decode cX6_write 13 = .ok (.iconst 2, 1) := by decide +kernel
theorem dX6_write_14 : decode cX6_write 14 = .ok (.if_icmp .lt 9, 3) := by decide +kernel
theorem dX6_write_17 : decode cX6_write 17 = .ok (.iload_n 2, 1) := by decide +kernel
theorem dX6_write_18 : decode cX6_write 18 = .ok (.bipush 16, 2) := by decide +kernel
theorem dX6_write_20 : decode cX6_write 20 = .ok (.if_icmp .le 5, 3) := by decide +kernel
theorem dX6_write_23 : decode cX6_write 23 = .ok (.iconst (-1), 1) := by decide +kernel
theorem dX6_write_24 : decode cX6_write 24 = .ok (.ireturn, 1) := by decide +kernel
theorem dX6_write_25 : decode cX6_write 25 = .ok (.aload_n 0, 1) := by decide +kernel
theorem dX6_write_26 : decode cX6_write 26 = .ok (.iload_n 1, 1) := by decide +kernel
theorem dX6_write_27 : decode cX6_write 27 = .ok (.invokevirtual 70, 3) := by decide +kernel
theorem dX6_write_30 : decode cX6_write 30 = .ok (.iconst 0, 1) := by decide +kernel
theorem dX6_write_31 : decode cX6_write 31 = .ok (.istore_n 3, 1) := by decide +kernel
theorem dX6_write_32 : decode cX6_write 32 = .ok (.aload_n 0, 1) := by decide +kernel
theorem dX6_write_33 : decode cX6_write 33 = .ok (.getfield 34, 3) := by decide +kernel
theorem dX6_write_36 : decode cX6_write 36 = .ok (.ifCond .gt 7, 3) := by decide +kernel
theorem dX6_write_39 : decode cX6_write 39 = .ok (.iload_n 3, 1) := by decide +kernel
theorem dX6_write_40 : decode cX6_write 40 = .ok (.ifCond .ne 105, 3) := by decide +kernel
theorem dX6_write_43 : decode cX6_write 43 = .ok (.iconst 0, 1) := by decide +kernel
theorem dX6_write_44 : decode cX6_write 44 = .ok (.istore 4, 2) := by decide +kernel
theorem dX6_write_46 : decode cX6_write 46 = .ok (.aload_n 0, 1) := by decide +kernel
theorem dX6_write_47 : decode cX6_write 47 = .ok (.getfield 34, 3) := by decide +kernel
theorem dX6_write_50 : decode cX6_write 50 = .ok (.iconst 1, 1) := by decide +kernel
theorem dX6_write_51 : decode cX6_write 51 = .ok (.isub, 1) := by decide +kernel
theorem dX6_write_52 : decode cX6_write 52 = .ok (.istore 5, 2) := by decide +kernel
theorem dX6_write_54 : decode cX6_write 54 = .ok (.iload 5, 2) := by decide +kernel
theorem dX6_write_56 : decode cX6_write 56 = .ok (.ifCond .lt 42, 3) := by decide +kernel
theorem dX6_write_59 : decode cX6_write 59 = .ok (.iload 4, 2) := by decide +kernel
theorem dX6_write_61 : decode cX6_write 61 = .ok (.sipush 10000, 3) := by decide +kernel
theorem dX6_write_64 : decode cX6_write 64 = .ok (.imul, 1) := by decide +kernel
theorem dX6_write_65 : decode cX6_write 65 = .ok (.aload_n 0, 1) := by decide +kernel
theorem dX6_write_66 : decode cX6_write 66 = .ok (.getfield 22, 3) := by decide +kernel
theorem dX6_write_69 : decode cX6_write 69 = .ok (.iload 5, 2) := by decide +kernel
theorem dX6_write_71 : decode cX6_write 71 = .ok (.iaload, 1) := by decide +kernel
theorem dX6_write_72 : decode cX6_write 72 = .ok (.iadd, 1) := by decide +kernel
theorem dX6_write_73 : decode cX6_write 73 = .ok (.istore 6, 2) := by decide +kernel
theorem dX6_write_75 : decode cX6_write 75 = .ok (.aload_n 0, 1) := by decide +kernel
theorem dX6_write_76 : decode cX6_write 76 = .ok (.getfield 22, 3) := by decide +kernel
theorem dX6_write_79 : decode cX6_write 79 = .ok (.iload 5, 2) := by decide +kernel
theorem dX6_write_81 : decode cX6_write 81 = .ok (.iload 6, 2) := by decide +kernel
theorem dX6_write_83 : decode cX6_write 83 = .ok (.iload_n 2, 1) := by decide +kernel
theorem dX6_write_84 : decode cX6_write 84 = .ok (.idiv, 1) := by decide +kernel
theorem dX6_write_85 : decode cX6_write 85 = .ok (.iastore, 1) := by decide +kernel
theorem dX6_write_86 : decode cX6_write 86 = .ok (.iload 6, 2) := by decide +kernel
theorem dX6_write_88 : decode cX6_write 88 = .ok (.iload_n 2, 1) := by decide +kernel
theorem dX6_write_89 : decode cX6_write 89 = .ok (.irem, 1) := by decide +kernel
theorem dX6_write_90 : decode cX6_write 90 = .ok (.istore 4, 2) := by decide +kernel
theorem dX6_write_92 : decode cX6_write 92 = .ok (.iinc 5 (-1), 3) := by decide +kernel
theorem dX6_write_95 : decode cX6_write 95 = .ok (.goto (-41), 3) := by decide +kernel
theorem dX6_write_98 : decode cX6_write 98 = .ok (.aload_n 0, 1) := by decide +kernel
theorem dX6_write_99 : decode cX6_write 99 = .ok (.aload_n 0, 1) := by decide +kernel
theorem dX6_write_100 : decode cX6_write 100 = .ok (.getfield 22, 3) := by decide +kernel
theorem dX6_write_103 : decode cX6_write 103 = .ok (.aload_n 0, 1) := by decide +kernel
theorem dX6_write_104 : decode cX6_write 104 = .ok (.getfield 34, 3) := by decide +kernel
theorem dX6_write_107 : decode cX6_write 107 = .ok (.invokestatic 52, 3) := by decide +kernel
theorem dX6_write_110 : decode cX6_write 110 = .ok (.putfield 34, 3) := by decide +kernel
theorem dX6_write_113 : decode cX6_write 113 = .ok (.aload_n 0, 1) := by decide +kernel
theorem dX6_write_114 : decode cX6_write 114 = .ok (.getfield 31, 3) := by decide +kernel
theorem dX6_write_117 : decode cX6_write 117 = .ok (.iload_n 3, 1) := by decide +kernel
theorem dX6_write_118 : decode cX6_write 118 = .ok (.iload 4, 2) := by decide +kernel
theorem dX6_write_120 : decode cX6_write 120 = .ok (.bipush 10, 2) := by decide +kernel
theorem dX6_write_122 : decode cX6_write 122 = .ok (.if_icmp .ge 11, 3) := by decide +kernel
theorem dX6_write_125 : decode cX6_write 125 = .ok (.bipush 48, 2) := by decide +kernel
theorem dX6_write_127 : decode cX6_write 127 = .ok (.iload 4, 2) := by decide +kernel
theorem dX6_write_129 : decode cX6_write 129 = .ok (.iadd, 1) := by decide +kernel
theorem dX6_write_130 : decode cX6_write 130 = .ok (.goto 8, 3) := by decide +kernel
theorem dX6_write_133 : decode cX6_write 133 = .ok (.bipush 87, 2) := by decide +kernel
theorem dX6_write_135 : decode cX6_write 135 = .ok (.iload 4, 2) := by decide +kernel
theorem dX6_write_137 : decode cX6_write 137 = .ok (.iadd, 1) := by decide +kernel
theorem dX6_write_138 : decode cX6_write 138 = .ok (.iastore, 1) := by decide +kernel
theorem dX6_write_139 : decode cX6_write 139 = .ok (.iinc 3 1, 3) := by decide +kernel
theorem dX6_write_142 : decode cX6_write 142 = .ok (.goto (-110), 3) := by decide +kernel
theorem dX6_write_145 : decode cX6_write 145 = .ok (.aload_n 0, 1) := by decide +kernel
theorem dX6_write_146 : decode cX6_write 146 = .ok (.getfield 16, 3) := by decide +kernel
theorem dX6_write_149 : decode cX6_write 149 = .ok (.iload_n 1, 1) := by decide +kernel
theorem dX6_write_150 : decode cX6_write 150 = .ok (.iaload, 1) := by decide +kernel
theorem dX6_write_151 : decode cX6_write 151 = .ok (.ifCond .ge 14, 3) := by decide +kernel
theorem dX6_write_154 : decode cX6_write 154 = .ok (.aload_n 0, 1) := by decide +kernel
theorem dX6_write_155 : decode cX6_write 155 = .ok (.getfield 31, 3) := by decide +kernel
theorem dX6_write_158 : decode cX6_write 158 = .ok (.iload_n 3, 1) := by decide +kernel
theorem dX6_write_159 : decode cX6_write 159 = .ok (.bipush 45, 2) := by decide +kernel
theorem dX6_write_161 : decode cX6_write 161 = .ok (.iastore, 1) := by decide +kernel
theorem dX6_write_162 : decode cX6_write 162 = .ok (.iinc 3 1, 3) := by decide +kernel
theorem dX6_write_165 : decode cX6_write 165 = .ok (.iconst 0, 1) := by decide +kernel
theorem dX6_write_166 : decode cX6_write 166 = .ok (.istore 4, 2) := by decide +kernel
theorem dX6_write_168 : decode cX6_write 168 = .ok (.iload 4, 2) := by decide +kernel
theorem dX6_write_170 : decode cX6_write 170 = .ok (.iload_n 3, 1) := by decide +kernel
theorem dX6_write_171 : decode cX6_write 171 = .ok (.iconst 2, 1) := by decide +kernel
theorem dX6_write_172 : decode cX6_write 172 = .ok (.idiv, 1) := by decide +kernel
theorem dX6_write_173 : decode cX6_write 173 = .ok (.if_icmp .ge 49, 3) := by decide +kernel
theorem dX6_write_176 : decode cX6_write 176 = .ok (.aload_n 0, 1) := by decide +kernel
theorem dX6_write_177 : decode cX6_write 177 = .ok (.getfield 31, 3) := by decide +kernel
theorem dX6_write_180 : decode cX6_write 180 = .ok (.iload 4, 2) := by decide +kernel
theorem dX6_write_182 : decode cX6_write 182 = .ok (.iaload, 1) := by decide +kernel
theorem dX6_write_183 : decode cX6_write 183 = .ok (.istore 5, 2) := by decide +kernel
theorem dX6_write_185 : decode cX6_write 185 = .ok (.aload_n 0, 1) := by decide +kernel
theorem dX6_write_186 : decode cX6_write 186 = .ok (.getfield 31, 3) := by decide +kernel
theorem dX6_write_189 : decode cX6_write 189 = .ok (.iload 4, 2) := by decide +kernel
theorem dX6_write_191 : decode cX6_write 191 = .ok (.aload_n 0, 1) := by decide +kernel
theorem dX6_write_192 : decode cX6_write 192 = .ok (.getfield 31, 3) := by decide +kernel
theorem dX6_write_195 : decode cX6_write 195 = .ok (.iload_n 3, 1) := by decide +kernel
theorem dX6_write_196 : decode cX6_write 196 = .ok (.iconst 1, 1) := by decide +kernel
theorem dX6_write_197 : decode cX6_write 197 = .ok (.isub, 1) := by decide +kernel
theorem dX6_write_198 : decode cX6_write 198 = .ok (.iload 4, 2) := by decide +kernel
theorem dX6_write_200 : decode cX6_write 200 = .ok (.isub, 1) := by decide +kernel
theorem dX6_write_201 : decode cX6_write 201 = .ok (.iaload, 1) := by decide +kernel
theorem dX6_write_202 : decode cX6_write 202 = .ok (.iastore, 1) := by decide +kernel
theorem dX6_write_203 : decode cX6_write 203 = .ok (.aload_n 0, 1) := by decide +kernel
theorem dX6_write_204 : decode cX6_write 204 = .ok (.getfield 31, 3) := by decide +kernel
theorem dX6_write_207 : decode cX6_write 207 = .ok (.iload_n 3, 1) := by decide +kernel
theorem dX6_write_208 : decode cX6_write 208 = .ok (.iconst 1, 1) := by decide +kernel
theorem dX6_write_209 : decode cX6_write 209 = .ok (.isub, 1) := by decide +kernel
theorem dX6_write_210 : decode cX6_write 210 = .ok (.iload 4, 2) := by decide +kernel
theorem dX6_write_212 : decode cX6_write 212 = .ok (.isub, 1) := by decide +kernel
theorem dX6_write_213 : decode cX6_write 213 = .ok (.iload 5, 2) := by decide +kernel
theorem dX6_write_215 : decode cX6_write 215 = .ok (.iastore, 1) := by decide +kernel
theorem dX6_write_216 : decode cX6_write 216 = .ok (.iinc 4 1, 3) := by decide +kernel
theorem dX6_write_219 : decode cX6_write 219 = .ok (.goto (-51), 3) := by decide +kernel
theorem dX6_write_222 : decode cX6_write 222 = .ok (.aload_n 0, 1) := by decide +kernel
theorem dX6_write_223 : decode cX6_write 223 = .ok (.iload_n 3, 1) := by decide +kernel
theorem dX6_write_224 : decode cX6_write 224 = .ok (.putfield 123, 3) := by decide +kernel
theorem dX6_write_227 : decode cX6_write 227 = .ok (.iload_n 3, 1) := by decide +kernel
theorem dX6_write_228 : decode cX6_write 228 = .ok (.ireturn, 1) := by decide +kernel
theorem dX6_type_0 : decode cX6_type 0 = .ok (.aload_n 0, 1) := by decide +kernel
theorem dX6_type_1 : decode cX6_type 1 = .ok (.iconst 0, 1) := by decide +kernel
theorem dX6_type_2 : decode cX6_type 2 = .ok (.putfield 45, 3) := by decide +kernel
theorem dX6_type_5 : decode cX6_type 5 = .ok (.iload_n 1, 1) := by decide +kernel
theorem dX6_type_6 : decode cX6_type 6 = .ok (.ifCond .lt 19, 3) := by decide +kernel
theorem dX6_type_9 : decode cX6_type 9 = .ok (.iload_n 1, 1) := by decide +kernel
theorem dX6_type_10 : decode cX6_type 10 = .ok (.bipush 127, 2) := by decide +kernel
theorem dX6_type_12 : decode cX6_type 12 = .ok (.if_icmp .gt 13, 3) := by decide +kernel
theorem dX6_type_15 : decode cX6_type 15 = .ok (.aload_n 0, 1) := by decide +kernel
theorem dX6_type_16 : decode cX6_type 16 = .ok (.getfield 123, 3) := by decide +kernel
theorem dX6_type_19 : decode cX6_type 19 = .ok (.sipush 1300, 3) := by decide +kernel
theorem dX6_type_22 : decode cX6_type 22 = .ok (.if_icmp .lt 5, 3) := by decide +kernel
theorem dX6_type_25 : decode cX6_type 25 = .ok (.iconst (-1), 1) := by decide +kernel
theorem dX6_type_26 : decode cX6_type 26 = .ok (.ireturn, 1) := by decide +kernel
theorem dX6_type_27 : decode cX6_type 27 = .ok (.aload_n 0, 1) := by decide +kernel
theorem dX6_type_28 : decode cX6_type 28 = .ok (.getfield 31, 3) := by decide +kernel
theorem dX6_type_31 : decode cX6_type 31 = .ok (.aload_n 0, 1) := by decide +kernel
theorem dX6_type_32 : decode cX6_type 32 = .ok (.getfield 123, 3) := by decide +kernel
theorem dX6_type_35 : decode cX6_type 35 = .ok (.iload_n 1, 1) := by decide +kernel
theorem dX6_type_36 : decode cX6_type 36 = .ok (.iastore, 1) := by decide +kernel
theorem dX6_type_37 : decode cX6_type 37 = .ok (.aload_n 0, 1) := by decide +kernel
theorem dX6_type_38 : decode cX6_type 38 = .ok (.dup, 1) := by decide +kernel
theorem dX6_type_39 : decode cX6_type 39 = .ok (.getfield 123, 3) := by decide +kernel
theorem dX6_type_42 : decode cX6_type 42 = .ok (.iconst 1, 1) := by decide +kernel
theorem dX6_type_43 : decode cX6_type 43 = .ok (.iadd, 1) := by decide +kernel
theorem dX6_type_44 : decode cX6_type 44 = .ok (.putfield 123, 3) := by decide +kernel
theorem dX6_type_47 : decode cX6_type 47 = .ok (.aload_n 0, 1) := by decide +kernel
theorem dX6_type_48 : decode cX6_type 48 = .ok (.getfield 123, 3) := by decide +kernel
theorem dX6_type_51 : decode cX6_type 51 = .ok (.ireturn, 1) := by decide +kernel
theorem dX6_clear_0 : decode cX6_clear 0 = .ok (.aload_n 0, 1) := by decide +kernel
theorem dX6_clear_1 : decode cX6_clear 1 = .ok (.iconst 0, 1) := by decide +kernel
theorem dX6_clear_2 : decode cX6_clear 2 = .ok (.putfield 45, 3) := by decide +kernel
theorem dX6_clear_5 : decode cX6_clear 5 = .ok (.aload_n 0, 1) := by decide +kernel
theorem dX6_clear_6 : decode cX6_clear 6 = .ok (.iconst 0, 1) := by decide +kernel
theorem dX6_clear_7 : decode cX6_clear 7 = .ok (.putfield 123, 3) := by decide +kernel
theorem dX6_clear_10 : decode cX6_clear 10 = .ok (.return_, 1) := by decide +kernel
theorem dX6_character_0 : decode cX6_character 0 = .ok (.aload_n 0, 1) := by decide +kernel
theorem dX6_character_1 : decode cX6_character 1 = .ok (.iconst 0, 1) := by decide +kernel
theorem dX6_character_2 : decode cX6_character 2 = .ok (.putfield 45, 3) := by decide +kernel
theorem dX6_character_5 : decode cX6_character 5 = .ok (.iload_n 1, 1) := by decide +kernel
theorem dX6_character_6 : decode cX6_character 6 = .ok (.ifCond .lt 11, 3) := by decide +kernel
theorem dX6_character_9 : decode cX6_character 9 = .ok (.iload_n 1, 1) := by decide +kernel
theorem dX6_character_10 : decode cX6_character 10 = .ok (.aload_n 0, 1) := by decide +kernel
theorem dX6_character_11 : decode cX6_character 11 = .ok (.getfield 123, 3) := by decide +kernel
theorem dX6_character_14 : decode cX6_character 14 = .ok (.if_icmp .lt 7, 3) := by decide +kernel
theorem dX6_character_17 : decode cX6_character 17 = .ok (.iconst (-1), 1) := by decide +kernel
theorem dX6_character_18 : decode cX6_character 18 = .ok (.goto 9, 3) := by decide +kernel
theorem dX6_character_21 : decode cX6_character 21 = .ok (.aload_n 0, 1) := by decide +kernel
theorem dX6_character_22 : decode cX6_character 22 = .ok (.getfield 31, 3) := by decide +kernel
theorem dX6_character_25 : decode cX6_character 25 = .ok (.iload_n 1, 1) := by decide +kernel
theorem dX6_character_26 : decode cX6_character 26 = .ok (.iaload, 1) := by decide +kernel
theorem dX6_character_27 : decode cX6_character 27 = .ok (.ireturn, 1) := by decide +kernel
theorem dX6_digit_0 : decode cX6_digit 0 = .ok (.iload_n 0, 1) := by decide +kernel
theorem dX6_digit_1 : decode cX6_digit 1 = .ok (.bipush 48, 2) := by decide +kernel
theorem dX6_digit_3 : decode cX6_digit 3 = .ok (.if_icmp .lt 16, 3) := by decide +kernel
theorem dX6_digit_6 : decode cX6_digit 6 = .ok (.iload_n 0, 1) := by decide +kernel
theorem dX6_digit_7 : decode cX6_digit 7 = .ok (.bipush 57, 2) := by decide +kernel
theorem dX6_digit_9 : decode cX6_digit 9 = .ok (.if_icmp .gt 10, 3) := by decide +kernel
theorem dX6_digit_12 : decode cX6_digit 12 = .ok (.iload_n 0, 1) := by decide +kernel
theorem dX6_digit_13 : decode cX6_digit 13 = .ok (.bipush 48, 2) := by decide +kernel
theorem dX6_digit_15 : decode cX6_digit 15 = .ok (.isub, 1) := by decide +kernel
theorem dX6_digit_16 : decode cX6_digit 16 = .ok (.goto 43, 3) := by decide +kernel
theorem dX6_digit_19 : decode cX6_digit 19 = .ok (.iload_n 0, 1) := by decide +kernel
theorem dX6_digit_20 : decode cX6_digit 20 = .ok (.bipush 97, 2) := by decide +kernel
theorem dX6_digit_22 : decode cX6_digit 22 = .ok (.if_icmp .lt 16, 3) := by decide +kernel
theorem dX6_digit_25 : decode cX6_digit 25 = .ok (.iload_n 0, 1) := by decide +kernel
theorem dX6_digit_26 : decode cX6_digit 26 = .ok (.bipush 102, 2) := by decide +kernel
theorem dX6_digit_28 : decode cX6_digit 28 = .ok (.if_icmp .gt 10, 3) := by decide +kernel
theorem dX6_digit_31 : decode cX6_digit 31 = .ok (.iload_n 0, 1) := by decide +kernel
theorem dX6_digit_32 : decode cX6_digit 32 = .ok (.bipush 87, 2) := by decide +kernel
theorem dX6_digit_34 : decode cX6_digit 34 = .ok (.isub, 1) := by decide +kernel
theorem dX6_digit_35 : decode cX6_digit 35 = .ok (.goto 24, 3) := by decide +kernel
theorem dX6_digit_38 : decode cX6_digit 38 = .ok (.iload_n 0, 1) := by decide +kernel
theorem dX6_digit_39 : decode cX6_digit 39 = .ok (.bipush 65, 2) := by decide +kernel
theorem dX6_digit_41 : decode cX6_digit 41 = .ok (.if_icmp .lt 16, 3) := by decide +kernel
theorem dX6_digit_44 : decode cX6_digit 44 = .ok (.iload_n 0, 1) := by decide +kernel
theorem dX6_digit_45 : decode cX6_digit 45 = .ok (.bipush 70, 2) := by decide +kernel
