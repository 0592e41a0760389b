theorem dX8_reads_201 : decode cX8_reads 201 = .ok (.if_icmp .ne 52, 3) := by decide +kernel
theorem dX8_reads_204 : decode cX8_reads 204 = .ok (.aload_n 0, 1) := by decide +kernel
theorem dX8_reads_205 : decode cX8_reads 205 = .ok (.getfield 45, 3) := by decide +kernel
theorem dX8_reads_208 : decode cX8_reads 208 = .ok (.iload_n 3, 1) := by decide +kernel
theorem dX8_reads_209 : decode cX8_reads 209 = .ok (.iaload, 1) := by decide +kernel
theorem dX8_reads_210 : decode cX8_reads 210 = .ok (.ifCond .le 43, 3) := by decide +kernel
theorem dX8_reads_213 : decode cX8_reads 213 = .ok (.iload_n 1, 1) := by decide +kernel
theorem dX8_reads_214 : decode cX8_reads 214 = .ok (.iconst 1, 1) := by decide +kernel
theorem dX8_reads_215 : decode cX8_reads 215 = .ok (.if_icmp .le 22, 3) := by decide +kernel
theorem dX8_reads_218 : decode cX8_reads 218 = .ok (.aload_n 0, 1) := by decide +kernel
theorem dX8_reads_219 : decode cX8_reads 219 = .ok (.getfield 45, 3) := by decide +kernel
theorem dX8_reads_222 : decode cX8_reads 222 = .ok (.iload_n 3, 1) := by decide +kernel
theorem dX8_reads_223 : decode cX8_reads 223 = .ok (.iaload, 1) := by decide +kernel
theorem dX8_reads_224 : decode cX8_reads 224 = .ok (.iconst 1, 1) := by decide +kernel
theorem dX8_reads_225 : decode cX8_reads 225 = .ok (.if_icmp .ne 12, 3) := by decide +kernel
theorem dX8_reads_228 : decode cX8_reads 228 = .ok (.aload_n 0, 1) := by decide +kernel
theorem dX8_reads_229 : decode cX8_reads 229 = .ok (.iconst 5, 1) := by decide +kernel
theorem dX8_reads_230 : decode cX8_reads 230 = .ok (.aload_n 0, 1) := by decide +kernel
theorem dX8_reads_231 : decode cX8_reads 231 = .ok (.getfield 140, 3) := by decide +kernel
theorem dX8_reads_234 : decode cX8_reads 234 = .ok (.invokevirtual 150, 3) := by decide +kernel
theorem dX8_reads_237 : decode cX8_reads 237 = .ok (.iinc 1 (-1), 3) := by decide +kernel
theorem dX8_reads_240 : decode cX8_reads 240 = .ok (.aload_n 0, 1) := by decide +kernel
theorem dX8_reads_241 : decode cX8_reads 241 = .ok (.dup, 1) := by decide +kernel
theorem dX8_reads_242 : decode cX8_reads 242 = .ok (.getfield 140, 3) := by decide +kernel
theorem dX8_reads_245 : decode cX8_reads 245 = .ok (.iconst 1, 1) := by decide +kernel
theorem dX8_reads_246 : decode cX8_reads 246 = .ok (.iadd, 1) := by decide +kernel
theorem dX8_reads_247 : decode cX8_reads 247 = .ok (.putfield 140, 3) := by decide +kernel
theorem dX8_reads_250 : decode cX8_reads 250 = .ok (.goto 12, 3) := by decide +kernel
theorem dX8_reads_253 : decode cX8_reads 253 = .ok (.aload_n 0, 1) := by decide +kernel
theorem dX8_reads_254 : decode cX8_reads 254 = .ok (.iconst 1, 1) := by decide +kernel
theorem dX8_reads_255 : decode cX8_reads 255 = .ok (.aload_n 0, 1) := by decide +kernel
theorem dX8_reads_256 : decode cX8_reads 256 = .ok (.getfield 140, 3) := by decide +kernel
theorem dX8_reads_259 : decode cX8_reads 259 = .ok (.invokevirtual 150, 3) := by decide +kernel
theorem dX8_reads_262 : decode cX8_reads 262 = .ok (.goto (-202), 3) := by decide +kernel
theorem dX8_reads_265 : decode cX8_reads 265 = .ok (.aload_n 0, 1) := by decide +kernel
theorem dX8_reads_266 : decode cX8_reads 266 = .ok (.invokevirtual 147, 3) := by decide +kernel
theorem dX8_reads_269 : decode cX8_reads 269 = .ok (.aload_n 0, 1) := by decide +kernel
theorem dX8_reads_270 : decode cX8_reads 270 = .ok (.getfield 140, 3) := by decide +kernel
theorem dX8_reads_273 : decode cX8_reads 273 = .ok (.aload_n 0, 1) := by decide +kernel
theorem dX8_reads_274 : decode cX8_reads 274 = .ok (.getfield 134, 3) := by decide +kernel
theorem dX8_reads_277 : decode cX8_reads 277 = .ok (.if_icmp .ge 12, 3) := by decide +kernel
theorem dX8_reads_280 : decode cX8_reads 280 = .ok (.aload_n 0, 1) := by decide +kernel
theorem dX8_reads_281 : decode cX8_reads 281 = .ok (.iconst 1, 1) := by decide +kernel
theorem dX8_reads_282 : decode cX8_reads 282 = .ok (.aload_n 0, 1) := by decide +kernel
theorem dX8_reads_283 : decode cX8_reads 283 = .ok (.getfield 140, 3) := by decide +kernel
theorem dX8_reads_286 : decode cX8_reads 286 = .ok (.invokevirtual 150, 3) := by decide +kernel
theorem dX8_reads_289 : decode cX8_reads 289 = .ok (.iconst 0, 1) := by decide +kernel
theorem dX8_reads_290 : decode cX8_reads 290 = .ok (.istore_n 2, 1) := by decide +kernel
theorem dX8_reads_291 : decode cX8_reads 291 = .ok (.iload_n 2, 1) := by decide +kernel
theorem dX8_reads_292 : decode cX8_reads 292 = .ok (.aload_n 0, 1) := by decide +kernel
theorem dX8_reads_293 : decode cX8_reads 293 = .ok (.getfield 116, 3) := by decide +kernel
theorem dX8_reads_296 : decode cX8_reads 296 = .ok (.if_icmp .ge 28, 3) := by decide +kernel
theorem dX8_reads_299 : decode cX8_reads 299 = .ok (.aload_n 0, 1) := by decide +kernel
theorem dX8_reads_300 : decode cX8_reads 300 = .ok (.getfield 51, 3) := by decide +kernel
theorem dX8_reads_303 : decode cX8_reads 303 = .ok (.iload_n 2, 1) := by decide +kernel
theorem dX8_reads_304 : decode cX8_reads 304 = .ok (.baload, 1) := by decide +kernel
theorem dX8_reads_305 : decode cX8_reads 305 = .ok (.ifCond .ne 13, 3) := by decide +kernel
theorem dX8_reads_308 : decode cX8_reads 308 = .ok (.aload_n 0, 1) := by decide +kernel
theorem dX8_reads_309 : decode cX8_reads 309 = .ok (.bipush 6, 2) := by decide +kernel
theorem dX8_reads_311 : decode cX8_reads 311 = .ok (.aload_n 0, 1) := by decide +kernel
theorem dX8_reads_312 : decode cX8_reads 312 = .ok (.getfield 134, 3) := by decide +kernel
theorem dX8_reads_315 : decode cX8_reads 315 = .ok (.invokevirtual 150, 3) := by decide +kernel
theorem dX8_reads_318 : decode cX8_reads 318 = .ok (.iinc 2 1, 3) := by decide +kernel
theorem dX8_reads_321 : decode cX8_reads 321 = .ok (.goto (-30), 3) := by decide +kernel
theorem dX8_reads_324 : decode cX8_reads 324 = .ok (.return_, 1) := by decide +kernel
set_option maxRecDepth 20000 in
theorem ggX8_number_X8_byteAt : GoodIn wsX8_number wsX8_byteAt := goodIn_r _ [11, 12, 13, 27, 28, 29, 30, 31, 32, 33, 34, 35, 36, 37, 38, 39, 40, 41, 42, 43, 44, 45, 46, 47, 48, 49, 50, 51, 52, 53, 54, 55, 56, 57, 58, 59, 60, 61, 62, 63, 64, 65, 66, 67, 68] (by decide +kernel) (by decide +kernel)
set_option maxRecDepth 20000 in
theorem gX8_number_X8_byteAt : GoodIn wsX8_number (wsV RX8 143 RX8 yX8_byteAt wsX8_byteAt) := goodIn_app (goodIn_of _ (by decide +kernel)) ggX8_number_X8_byteAt
set_option maxRecDepth 20000 in
theorem ggX8_number_X8_isDigit : GoodIn wsX8_number wsX8_isDigit := goodIn_r _ [16] (by decide +kernel) (by decide +kernel)
set_option maxRecDepth 20000 in
theorem gX8_number_X8_isDigit : GoodIn wsX8_number (va_wsS RX8 158 yX8_isDigit wsX8_isDigit) := goodIn_app (goodIn_of _ (by decide +kernel)) ggX8_number_X8_isDigit
set_option maxRecDepth 20000 in
theorem ggX8_number_X8_wrong : GoodIn wsX8_number wsX8_wrong := goodIn_r _ [20, 6, 21, 27, 28, 29, 30, 31, 32, 33, 34, 35, 36, 37, 38, 39, 40, 41, 42, 43, 44, 45, 46, 47, 48, 49, 50, 51, 52, 53, 54, 55, 56, 57, 58, 59, 60, 61, 62, 63, 64, 65, 66, 67, 68] (by decide +kernel) (by decide +kernel)
set_option maxRecDepth 20000 in
theorem gX8_number_X8_wrong : GoodIn wsX8_number (wsV RX8 150 RX8 yX8_wrong wsX8_wrong) := goodIn_app (goodIn_of _ (by decide +kernel)) ggX8_number_X8_wrong
set_option maxRecDepth 20000 in
theorem ggX8_number_X8_adds : GoodIn wsX8_number wsX8_adds := goodIn_r _ [25, 26, 4, 27, 28, 29, 30, 31, 32, 33, 34, 35, 36, 37, 38, 39, 40, 41, 42, 43, 44, 45, 46, 47, 48, 49, 50, 51, 52, 53, 54, 55, 56, 57, 58, 59, 60, 61, 62, 63, 64, 65, 66, 67, 68] (by decide +kernel) (by decide +kernel)
set_option maxRecDepth 20000 in
theorem gX8_number_X8_adds : GoodIn wsX8_number (wsV RX8 165 RX8 yX8_adds wsX8_adds) := goodIn_app (goodIn_of _ (by decide +kernel)) ggX8_number_X8_adds
theorem dX8_number_0 : decode cX8_number 0 = .ok (.aload_n 0, 1) := by decide +kernel
theorem dX8_number_1 : decode cX8_number 1 = .ok (.getfield 140, 3) := by decide +kernel
theorem dX8_number_4 : decode cX8_number 4 = .ok (.istore_n 2, 1) := by decide +kernel
theorem dX8_number_5 : decode cX8_number 5 = .ok (.iconst 0, 1) := by decide +kernel
theorem dX8_number_6 : decode cX8_number 6 = .ok (.istore_n 3, 1) := by decide +kernel
theorem dX8_number_7 : decode cX8_number 7 = .ok (.aload_n 0, 1) := by decide +kernel
theorem dX8_number_8 : decode cX8_number 8 = .ok (.aload_n 0, 1) := by decide +kernel
theorem dX8_number_9 : decode cX8_number 9 = .ok (.getfield 140, 3) := by decide +kernel
theorem dX8_number_12 : decode cX8_number 12 = .ok (.invokevirtual 143, 3) := by decide +kernel
theorem dX8_number_15 : decode cX8_number 15 = .ok (.invokestatic 158, 3) := by decide +kernel
theorem dX8_number_18 : decode cX8_number 18 = .ok (.ifCond .eq 44, 3) := by decide +kernel
theorem dX8_number_21 : decode cX8_number 21 = .ok (.iload_n 3, 1) := by decide +kernel
theorem dX8_number_22 : decode cX8_number 22 = .ok (.sipush 1000, 3) := by decide +kernel
theorem dX8_number_25 : decode cX8_number 25 = .ok (.if_icmp .le 7, 3) := by decide +kernel
theorem dX8_number_28 : decode cX8_number 28 = .ok (.iload_n 3, 1) := by decide +kernel
theorem dX8_number_29 : decode cX8_number 29 = .ok (.goto 19, 3) := by decide +kernel
theorem dX8_number_32 : decode cX8_number 32 = .ok (.bipush 10, 2) := by decide +kernel
theorem dX8_number_34 : decode cX8_number 34 = .ok (.iload_n 3, 1) := by decide +kernel
theorem dX8_number_35 : decode cX8_number 35 = .ok (.imul, 1) := by decide +kernel
theorem dX8_number_36 : decode cX8_number 36 = .ok (.aload_n 0, 1) := by decide +kernel
theorem dX8_number_37 : decode cX8_number 37 = .ok (.aload_n 0, 1) := by decide +kernel
theorem dX8_number_38 : decode cX8_number 38 = .ok (.getfield 140, 3) := by decide +kernel
theorem dX8_number_41 : decode cX8_number 41 = .ok (.invokevirtual 143, 3) := by decide +kernel
theorem dX8_number_44 : decode cX8_number 44 = .ok (.iadd, 1) := by decide +kernel
theorem dX8_number_45 : decode cX8_number 45 = .ok (.bipush 48, 2) := by decide +kernel
theorem dX8_number_47 : decode cX8_number 47 = .ok (.isub, 1) := by decide +kernel
theorem dX8_number_48 : decode cX8_number 48 = .ok (.istore_n 3, 1) := by decide +kernel
theorem dX8_number_49 : decode cX8_number 49 = .ok (.aload_n 0, 1) := by decide +kernel
theorem dX8_number_50 : decode cX8_number 50 = .ok (.dup, 1) := by decide +kernel
theorem dX8_number_51 : decode cX8_number 51 = .ok (.getfield 140, 3) := by decide +kernel
theorem dX8_number_54 : decode cX8_number 54 = .ok (.iconst 1, 1) := by decide +kernel
theorem dX8_number_55 : decode cX8_number 55 = .ok (.iadd, 1) := by decide +kernel
theorem dX8_number_56 : decode cX8_number 56 = .ok (.putfield 140, 3) := by decide +kernel
theorem dX8_number_59 : decode cX8_number 59 = .ok (.goto (-52), 3) := by decide +kernel
theorem dX8_number_62 : decode cX8_number 62 = .ok (.iload_n 3, 1) := by decide +kernel
theorem dX8_number_63 : decode cX8_number 63 = .ok (.aload_n 0, 1) := by decide +kernel
theorem dX8_number_64 : decode cX8_number 64 = .ok (.getfield 116, 3) := by decide +kernel
theorem dX8_number_67 : decode cX8_number 67 = .ok (.if_icmp .lt 12, 3) := by decide +kernel
theorem dX8_number_70 : decode cX8_number 70 = .ok (.aload_n 0, 1) := by decide +kernel
theorem dX8_number_71 : decode cX8_number 71 = .ok (.iconst 2, 1) := by decide +kernel
theorem dX8_number_72 : decode cX8_number 72 = .ok (.iload_n 2, 1) := by decide +kernel
theorem dX8_number_73 : decode cX8_number 73 = .ok (.invokevirtual 150, 3) := by decide +kernel
theorem dX8_number_76 : decode cX8_number 76 = .ok (.goto 40, 3) := by decide +kernel
theorem dX8_number_79 : decode cX8_number 79 = .ok (.aload_n 0, 1) := by decide +kernel
theorem dX8_number_80 : decode cX8_number 80 = .ok (.getfield 51, 3) := by decide +kernel
theorem dX8_number_83 : decode cX8_number 83 = .ok (.iload_n 3, 1) := by decide +kernel
theorem dX8_number_84 : decode cX8_number 84 = .ok (.baload, 1) := by decide +kernel
theorem dX8_number_85 : decode cX8_number 85 = .ok (.ifCond .eq 12, 3) := by decide +kernel
theorem dX8_number_88 : decode cX8_number 88 = .ok (.aload_n 0, 1) := by decide +kernel
theorem dX8_number_89 : decode cX8_number 89 = .ok (.iconst 3, 1) := by decide +kernel
theorem dX8_number_90 : decode cX8_number 90 = .ok (.iload_n 2, 1) := by decide +kernel
theorem dX8_number_91 : decode cX8_number 91 = .ok (.invokevirtual 150, 3) := by decide +kernel
theorem dX8_number_94 : decode cX8_number 94 = .ok (.goto 22, 3) := by decide +kernel
theorem dX8_number_97 : decode cX8_number 97 = .ok (.aload_n 0, 1) := by decide +kernel
theorem dX8_number_98 : decode cX8_number 98 = .ok (.getfield 45, 3) := by decide +kernel
theorem dX8_number_101 : decode cX8_number 101 = .ok (.iload_n 1, 1) := by decide +kernel
theorem dX8_number_102 : decode cX8_number 102 = .ok (.iaload, 1) := by decide +kernel
theorem dX8_number_103 : decode cX8_number 103 = .ok (.aload_n 0, 1) := by decide +kernel
theorem dX8_number_104 : decode cX8_number 104 = .ok (.getfield 23, 3) := by decide +kernel
theorem dX8_number_107 : decode cX8_number 107 = .ok (.if_icmp .ne 9, 3) := by decide +kernel
theorem dX8_number_110 : decode cX8_number 110 = .ok (.aload_n 0, 1) := by decide +kernel
theorem dX8_number_111 : decode cX8_number 111 = .ok (.iconst 4, 1) := by decide +kernel
theorem dX8_number_112 : decode cX8_number 112 = .ok (.iload_n 2, 1) := by decide +kernel
theorem dX8_number_113 : decode cX8_number 113 = .ok (.invokevirtual 150, 3) := by decide +kernel
theorem dX8_number_116 : decode cX8_number 116 = .ok (.aload_n 0, 1) := by decide +kernel
theorem dX8_number_117 : decode cX8_number 117 = .ok (.getfield 137, 3) := by decide +kernel
theorem dX8_number_120 : decode cX8_number 120 = .ok (.ifCond .le 4, 3) := by decide +kernel
theorem dX8_number_123 : decode cX8_number 123 = .ok (.return_, 1) := by decide +kernel
theorem dX8_number_124 : decode cX8_number 124 = .ok (.aload_n 0, 1) := by decide +kernel
theorem dX8_number_125 : decode cX8_number 125 = .ok (.getfield 51, 3) := by decide +kernel
theorem dX8_number_128 : decode cX8_number 128 = .ok (.iload_n 3, 1) := by decide +kernel
theorem dX8_number_129 : decode cX8_number 129 = .ok (.iconst 1, 1) := by decide +kernel
theorem dX8_number_130 : decode cX8_number 130 = .ok (.bastore, 1) := by decide +kernel
theorem dX8_number_131 : decode cX8_number 131 = .ok (.aload_n 0, 1) := by decide +kernel
theorem dX8_number_132 : decode cX8_number 132 = .ok (.iload_n 1, 1) := by decide +kernel
theorem dX8_number_133 : decode cX8_number 133 = .ok (.iload_n 3, 1) := by decide +kernel
theorem dX8_number_134 : decode cX8_number 134 = .ok (.invokevirtual 165, 3) := by decide +kernel
theorem dX8_number_137 : decode cX8_number 137 = .ok (.return_, 1) := by decide +kernel
set_option maxRecDepth 20000 in
theorem ggX8_tell_X8_bad : GoodIn wsX8_tell wsX8_bad := goodIn_r _ [13, 1, 58, 59, 60, 61, 62, 63, 64, 65, 66, 67, 68, 69, 70, 71, 72, 73, 74, 75, 76, 77, 78, 79, 80, 81, 82, 83, 84, 85, 86, 87, 88, 89, 90, 91, 92, 93, 94, 95, 96, 97, 98, 99] (by decide +kernel) (by decide +kernel)
set_option maxRecDepth 20000 in
theorem gX8_tell_X8_bad : GoodIn wsX8_tell (wsV RX8 112 RX8 yX8_bad wsX8_bad) := goodIn_app (goodIn_of _ (by decide +kernel)) ggX8_tell_X8_bad
set_option maxRecDepth 20000 in
theorem ggX8_tell_X8_reads : GoodIn wsX8_tell wsX8_reads := goodIn_r _ [17, 4, 3, 18, 5, 19, 20, 21, 8, 22, 23, 24, 12, 25, 26, 27, 28, 29, 30, 31, 32, 33, 34, 6, 35, 36, 37, 38, 7, 39, 40, 41, 42, 43, 44, 45, 46, 47, 48, 49, 50, 58, 59, 60, 61, 62, 63, 64, 65, 66, 67, 68, 69, 70, 71, 72, 73, 74, 75, 76, 77, 78, 79, 80, 81, 82, 83, 84, 85, 86, 87, 88, 89, 90, 91, 92, 93, 94, 95, 96, 97, 98, 99] (by decide +kernel) (by decide +kernel)
set_option maxRecDepth 20000 in
theorem gX8_tell_X8_reads : GoodIn wsX8_tell (wsV RX8 168 RX8 yX8_reads wsX8_reads) := goodIn_app (goodIn_of _ (by decide +kernel)) ggX8_tell_X8_reads
set_option maxRecDepth 20000 in
theorem ggX8_tell_X8_becomes : GoodIn wsX8_tell wsX8_becomes := goodIn_r _ [54, 55, 50, 56, 19, 7, 57, 58, 59, 60, 61, 62, 63, 64, 65, 66, 67, 68, 69, 70, 71, 72, 73, 74, 75, 76, 77, 78, 79, 80, 81, 82, 83, 84, 85, 86, 87, 88, 89, 90, 91, 92, 93, 94, 95, 96, 97, 98, 99] (by decide +kernel) (by decide +kernel)
set_option maxRecDepth 20000 in
theorem gX8_tell_X8_becomes : GoodIn wsX8_tell (wsV RX8 171 RX8 yX8_becomes wsX8_becomes) := goodIn_app (goodIn_of _ (by decide +kernel)) ggX8_tell_X8_becomes
theorem dX8_tell_0 : decode cX8_tell 0 = .ok (.aload_n 0, 1) := by decide +kernel
theorem dX8_tell_1 : decode cX8_tell 1 = .ok (.iconst 0, 1) := by decide +kernel
theorem dX8_tell_2 : decode cX8_tell 2 = .ok (.putfield 101, 3) := by decide +kernel
theorem dX8_tell_5 : decode cX8_tell 5 = .ok (.aload_n 0, 1) := by decide +kernel
theorem dX8_tell_6 : decode cX8_tell 6 = .ok (.iload_n 1, 1) := by decide +kernel
theorem dX8_tell_7 : decode cX8_tell 7 = .ok (.ifCond .lt 11, 3) := by decide +kernel
theorem dX8_tell_10 : decode cX8_tell 10 = .ok (.iload_n 1, 1) := by decide +kernel
theorem dX8_tell_11 : decode cX8_tell 11 = .ok (.aload_n 0, 1) := by decide +kernel
theorem dX8_tell_12 : decode cX8_tell 12 = .ok (.getfield 125, 3) := by decide +kernel
theorem dX8_tell_15 : decode cX8_tell 15 = .ok (.if_icmp .le 7, 3) := by decide +kernel
theorem dX8_tell_18 : decode cX8_tell 18 = .ok (.iconst 1, 1) := by decide +kernel
theorem dX8_tell_19 : decode cX8_tell 19 = .ok (.goto 4, 3) := by decide +kernel
theorem dX8_tell_22 : decode cX8_tell 22 = .ok (.iconst 0, 1) := by decide +kernel
theorem dX8_tell_23 : decode cX8_tell 23 = .ok (.iconst 1, 1) := by decide +kernel
theorem dX8_tell_24 : decode cX8_tell 24 = .ok (.invokevirtual 112, 3) := by decide +kernel
theorem dX8_tell_27 : decode cX8_tell 27 = .ok (.ifCond .eq 5, 3) := by decide +kernel
theorem dX8_tell_30 : decode cX8_tell 30 = .ok (.iconst 0, 1) := by decide +kernel
theorem dX8_tell_31 : decode cX8_tell 31 = .ok (.ireturn, 1) := by decide +kernel
theorem dX8_tell_32 : decode cX8_tell 32 = .ok (.aload_n 0, 1) := by decide +kernel
theorem dX8_tell_33 : decode cX8_tell 33 = .ok (.iload_n 1, 1) := by decide +kernel
theorem dX8_tell_34 : decode cX8_tell 34 = .ok (.putfield 134, 3) := by decide +kernel
theorem dX8_tell_37 : decode cX8_tell 37 = .ok (.aload_n 0, 1) := by decide +kernel
theorem dX8_tell_38 : decode cX8_tell 38 = .ok (.iconst 0, 1) := by decide +kernel
theorem dX8_tell_39 : decode cX8_tell 39 = .ok (.putfield 125, 3) := by decide +kernel
theorem dX8_tell_42 : decode cX8_tell 42 = .ok (.aload_n 0, 1) := by decide +kernel
theorem dX8_tell_43 : decode cX8_tell 43 = .ok (.iconst 0, 1) := by decide +kernel
theorem dX8_tell_44 : decode cX8_tell 44 = .ok (.putfield 140, 3) := by decide +kernel
theorem dX8_tell_47 : decode cX8_tell 47 = .ok (.aload_n 0, 1) := by decide +kernel
theorem dX8_tell_48 : decode cX8_tell 48 = .ok (.iconst 0, 1) := by decide +kernel
theorem dX8_tell_49 : decode cX8_tell 49 = .ok (.putfield 137, 3) := by decide +kernel
theorem dX8_tell_52 : decode cX8_tell 52 = .ok (.aload_n 0, 1) := by decide +kernel
theorem dX8_tell_53 : decode cX8_tell 53 = .ok (.iconst (-1), 1) := by decide +kernel
theorem dX8_tell_54 : decode cX8_tell 54 = .ok (.putfield 48, 3) := by decide +kernel
theorem dX8_tell_57 : decode cX8_tell 57 = .ok (.aload_n 0, 1) := by decide +kernel
theorem dX8_tell_58 : decode cX8_tell 58 = .ok (.iconst 0, 1) := by decide +kernel
theorem dX8_tell_59 : decode cX8_tell 59 = .ok (.putfield 131, 3) := by decide +kernel
theorem dX8_tell_62 : decode cX8_tell 62 = .ok (.iconst 0, 1) := by decide +kernel
theorem dX8_tell_63 : decode cX8_tell 63 = .ok (.istore_n 2, 1) := by decide +kernel
theorem dX8_tell_64 : decode cX8_tell 64 = .ok (.iload_n 2, 1) := by decide +kernel
theorem dX8_tell_65 : decode cX8_tell 65 = .ok (.bipush 40, 2) := by decide +kernel
theorem dX8_tell_67 : decode cX8_tell 67 = .ok (.if_icmp .ge 16, 3) := by decide +kernel
theorem dX8_tell_70 : decode cX8_tell 70 = .ok (.aload_n 0, 1) := by decide +kernel
theorem dX8_tell_71 : decode cX8_tell 71 = .ok (.getfield 51, 3) := by decide +kernel
theorem dX8_tell_74 : decode cX8_tell 74 = .ok (.iload_n 2, 1) := by decide +kernel
theorem dX8_tell_75 : decode cX8_tell 75 = .ok (.iconst 0, 1) := by decide +kernel
theorem dX8_tell_76 : decode cX8_tell 76 = .ok (.bastore, 1) := by decide +kernel
theorem dX8_tell_77 : decode cX8_tell 77 = .ok (.iinc 2 1, 3) := by decide +kernel
theorem dX8_tell_80 : decode cX8_tell 80 = .ok (.goto (-16), 3) := by decide +kernel
theorem dX8_tell_83 : decode cX8_tell 83 = .ok (.aload_n 0, 1) := by decide +kernel
theorem dX8_tell_84 : decode cX8_tell 84 = .ok (.invokevirtual 168, 3) := by decide +kernel
theorem dX8_tell_87 : decode cX8_tell 87 = .ok (.aload_n 0, 1) := by decide +kernel
theorem dX8_tell_88 : decode cX8_tell 88 = .ok (.getfield 137, 3) := by decide +kernel
theorem dX8_tell_91 : decode cX8_tell 91 = .ok (.ifCond .le 11, 3) := by decide +kernel
theorem dX8_tell_94 : decode cX8_tell 94 = .ok (.aload_n 0, 1) := by decide +kernel
theorem dX8_tell_95 : decode cX8_tell 95 = .ok (.getfield 137, 3) := by decide +kernel
theorem dX8_tell_98 : decode cX8_tell 98 = .ok (.bipush 10, 2) := by decide +kernel
theorem dX8_tell_100 : decode cX8_tell 100 = .ok (.isub, 1) := by decide +kernel
theorem dX8_tell_101 : decode cX8_tell 101 = .ok (.ireturn, 1) := by decide +kernel
theorem dX8_tell_102 : decode cX8_tell 102 = .ok (.aload_n 0, 1) := by decide +kernel
theorem dX8_tell_103 : decode cX8_tell 103 = .ok (.invokevirtual 171, 3) := by decide +kernel
theorem dX8_tell_106 : decode cX8_tell 106 = .ok (.iconst 0, 1) := by decide +kernel
theorem dX8_tell_107 : decode cX8_tell 107 = .ok (.ireturn, 1) := by decide +kernel
theorem dX8_fault_0 : decode cX8_fault 0 = .ok (.aload_n 0, 1) := by decide +kernel
theorem dX8_fault_1 : decode cX8_fault 1 = .ok (.iconst 0, 1) := by decide +kernel
theorem dX8_fault_2 : decode cX8_fault 2 = .ok (.putfield 101, 3) := by decide +kernel
theorem dX8_fault_5 : decode cX8_fault 5 = .ok (.aload_n 0, 1) := by decide +kernel
theorem dX8_fault_6 : decode cX8_fault 6 = .ok (.getfield 48, 3) := by decide +kernel
theorem dX8_fault_9 : decode cX8_fault 9 = .ok (.ireturn, 1) := by decide +kernel
theorem dX8_puts_0 : decode cX8_puts 0 = .ok (.aload_n 0, 1) := by decide +kernel
theorem dX8_puts_1 : decode cX8_puts 1 = .ok (.getfield 33, 3) := by decide +kernel
theorem dX8_puts_4 : decode cX8_puts 4 = .ok (.aload_n 0, 1) := by decide +kernel
theorem dX8_puts_5 : decode cX8_puts 5 = .ok (.getfield 128, 3) := by decide +kernel
theorem dX8_puts_8 : decode cX8_puts 8 = .ok (.iload_n 1, 1) := by decide +kernel
theorem dX8_puts_9 : decode cX8_puts 9 = .ok (.i2b, 1) := by decide +kernel
theorem dX8_puts_10 : decode cX8_puts 10 = .ok (.bastore, 1) := by decide +kernel
theorem dX8_puts_11 : decode cX8_puts 11 = .ok (.aload_n 0, 1) := by decide +kernel
theorem dX8_puts_12 : decode cX8_puts 12 = .ok (.dup, 1) := by decide +kernel
theorem dX8_puts_13 : decode cX8_puts 13 = .ok (.getfield 128, 3) := by decide +kernel
theorem dX8_puts_16 : decode cX8_puts 16 = .ok (.iconst 1, 1) := by decide +kernel
theorem dX8_puts_17 : decode cX8_puts 17 = .ok (.iadd, 1) := by decide +kernel
theorem dX8_puts_18 : decode cX8_puts 18 = .ok (.putfield 128, 3) := by decide +kernel
theorem dX8_puts_21 : decode cX8_puts 21 = .ok (.return_, 1) := by decide +kernel
set_option maxRecDepth 20000 in
theorem ggX8_list_X8_puts : GoodIn wsX8_list wsX8_puts := goodIn_r _ [7, 8, 9, 13, 14, 15, 16, 17, 18, 19, 20, 21, 22, 23, 24, 25, 26, 27, 28, 29, 30, 31, 32, 33, 34, 35, 36, 37, 38, 39, 40, 41, 42, 43, 44, 45, 46, 47, 48, 49, 50, 51, 52, 53, 54] (by decide +kernel) (by decide +kernel)
set_option maxRecDepth 20000 in
theorem gX8_list_X8_puts : GoodIn wsX8_list (wsV RX8 174 RX8 yX8_puts wsX8_puts) := goodIn_app (goodIn_of _ (by decide +kernel)) ggX8_list_X8_puts
set_option maxRecDepth 20000 in
theorem ggX8_list_X8_list : GoodIn wsX8_list wsX8_list := goodIn_r _ [0, 1, 2, 3, 4, 5, 6, 7, 8, 9, 10, 11, 12, 13, 14, 15, 16, 17, 18, 19, 20, 21, 22, 23, 24, 25, 26, 27, 28, 29, 30, 31, 32, 33, 34, 35, 36, 37, 38, 39, 40, 41, 42, 43, 44, 45, 46, 47, 48, 49, 50, 51, 52, 53, 54] (by decide +kernel) (by decide +kernel)
set_option maxRecDepth 20000 in
theorem gX8_list_X8_list : GoodIn wsX8_list (wsV RX8 177 RX8 yX8_list wsX8_list) := goodIn_app (goodIn_of _ (by decide +kernel)) ggX8_list_X8_list
theorem dX8_list_0 : decode cX8_list 0 = .ok (.aload_n 0, 1) := by decide +kernel
theorem dX8_list_1 : decode cX8_list 1 = .ok (.bipush 40, 2) := by decide +kernel
theorem dX8_list_3 : decode cX8_list 3 = .ok (.invokevirtual 174, 3) := by decide +kernel
theorem dX8_list_6 : decode cX8_list 6 = .ok (.iconst 0, 1) := by decide +kernel
theorem dX8_list_7 : decode cX8_list 7 = .ok (.istore_n 2, 1) := by decide +kernel
theorem dX8_list_8 : decode cX8_list 8 = .ok (.iload_n 2, 1) := by decide +kernel
theorem dX8_list_9 : decode cX8_list 9 = .ok (.aload_n 0, 1) := by decide +kernel
theorem dX8_list_10 : decode cX8_list 10 = .ok (.getfield 39, 3) := by decide +kernel
theorem dX8_list_13 : decode cX8_list 13 = .ok (.iload_n 1, 1) := by decide +kernel
theorem dX8_list_14 : decode cX8_list 14 = .ok (.iaload, 1) := by decide +kernel
theorem dX8_list_15 : decode cX8_list 15 = .ok (.if_icmp .ge 74, 3) := by decide +kernel
theorem dX8_list_18 : decode cX8_list 18 = .ok (.iload_n 2, 1) := by decide +kernel
theorem dX8_list_19 : decode cX8_list 19 = .ok (.ifCond .le 9, 3) := by decide +kernel
theorem dX8_list_22 : decode cX8_list 22 = .ok (.aload_n 0, 1) := by decide +kernel
theorem dX8_list_23 : decode cX8_list 23 = .ok (.bipush 32, 2) := by decide +kernel
theorem dX8_list_25 : decode cX8_list 25 = .ok (.invokevirtual 174, 3) := by decide +kernel
theorem dX8_list_28 : decode cX8_list 28 = .ok (.aload_n 0, 1) := by decide +kernel
theorem dX8_list_29 : decode cX8_list 29 = .ok (.getfield 36, 3) := by decide +kernel
theorem dX8_list_32 : decode cX8_list 32 = .ok (.bipush 9, 2) := by decide +kernel
theorem dX8_list_34 : decode cX8_list 34 = .ok (.iload_n 1, 1) := by decide +kernel
theorem dX8_list_35 : decode cX8_list 35 = .ok (.imul, 1) := by decide +kernel
theorem dX8_list_36 : decode cX8_list 36 = .ok (.iload_n 2, 1) := by decide +kernel
theorem dX8_list_37 : decode cX8_list 37 = .ok (.iadd, 1) := by decide +kernel
theorem dX8_list_38 : decode cX8_list 38 = .ok (.iaload, 1) := by decide +kernel
theorem dX8_list_39 : decode cX8_list 39 = .ok (.istore_n 3, 1) := by decide +kernel
theorem dX8_list_40 : decode cX8_list 40 = .ok (.iload_n 3, 1) := by decide +kernel
theorem dX8_list_41 : decode cX8_list 41 = .ok (.ifCond .ge 14, 3) := by decide +kernel
theorem dX8_list_44 : decode cX8_list 44 = .ok (.aload_n 0, 1) := by decide +kernel
theorem dX8_list_45 : decode cX8_list 45 = .ok (.bipush (-2), 2) := by decide +kernel
theorem dX8_list_47 : decode cX8_list 47 = .ok (.iload_n 3, 1) := by decide +kernel
theorem dX8_list_48 : decode cX8_list 48 = .ok (.isub, 1) := by decide +kernel
theorem dX8_list_49 : decode cX8_list 49 = .ok (.invokevirtual 177, 3) := by decide +kernel
theorem dX8_list_52 : decode cX8_list 52 = .ok (.goto 31, 3) := by decide +kernel
theorem dX8_list_55 : decode cX8_list 55 = .ok (.iload_n 3, 1) := by decide +kernel
theorem dX8_list_56 : decode cX8_list 56 = .ok (.bipush 9, 2) := by decide +kernel
theorem dX8_list_58 : decode cX8_list 58 = .ok (.if_icmp .le 14, 3) := by decide +kernel
theorem dX8_list_61 : decode cX8_list 61 = .ok (.aload_n 0, 1) := by decide +kernel
theorem dX8_list_62 : decode cX8_list 62 = .ok (.bipush 48, 2) := by decide +kernel
theorem dX8_list_64 : decode cX8_list 64 = .ok (.iload_n 3, 1) := by decide +kernel
theorem dX8_list_65 : decode cX8_list 65 = .ok (.bipush 10, 2) := by decide +kernel
theorem dX8_list_67 : decode cX8_list 67 = .ok (.idiv, 1) := by decide +kernel
theorem dX8_list_68 : decode cX8_list 68 = .ok (.iadd, 1) := by decide +kernel
theorem dX8_list_69 : decode cX8_list 69 = .ok (.invokevirtual 174, 3) := by decide +kernel
theorem dX8_list_72 : decode cX8_list 72 = .ok (.aload_n 0, 1) := by decide +kernel
theorem dX8_list_73 : decode cX8_list 73 = .ok (.bipush 48, 2) := by decide +kernel
theorem dX8_list_75 : decode cX8_list 75 = .ok (.iload_n 3, 1) := by decide +kernel
theorem dX8_list_76 : decode cX8_list 76 = .ok (.bipush 10, 2) := by decide +kernel
theorem dX8_list_78 : decode cX8_list 78 = .ok (.irem, 1) := by decide +kernel
theorem dX8_list_79 : decode cX8_list 79 = .ok (.iadd, 1) := by decide +kernel
theorem dX8_list_80 : decode cX8_list 80 = .ok (.invokevirtual 174, 3) := by decide +kernel
theorem dX8_list_83 : decode cX8_list 83 = .ok (.iinc 2 1, 3) := by decide +kernel
theorem dX8_list_86 : decode cX8_list 86 = .ok (.goto (-78), 3) := by decide +kernel
theorem dX8_list_89 : decode cX8_list 89 = .ok (.aload_n 0, 1) := by decide +kernel
theorem dX8_list_90 : decode cX8_list 90 = .ok (.bipush 41, 2) := by decide +kernel
theorem dX8_list_92 : decode cX8_list 92 = .ok (.invokevirtual 174, 3) := by decide +kernel
theorem dX8_list_95 : decode cX8_list 95 = .ok (.return_, 1) := by decide +kernel
set_option maxRecDepth 20000 in
theorem ggX8_print_X8_list : GoodIn wsX8_print wsX8_list := goodIn_r _ [8, 9, 10, 11, 12, 13, 7, 14, 15, 3, 4, 5, 6, 16, 17, 18, 19, 20, 21, 22, 23, 24, 25, 26, 27, 28, 29, 30, 31, 32, 33, 34, 35, 36, 37, 38, 39, 40, 41, 42, 43, 44, 45, 46, 47, 48, 49, 50, 51, 52, 53, 54, 55, 56, 57] (by decide +kernel) (by decide +kernel)
set_option maxRecDepth 20000 in
theorem gX8_print_X8_list : GoodIn wsX8_print (wsV RX8 177 RX8 yX8_list wsX8_list) := goodIn_app (goodIn_of _ (by decide +kernel)) ggX8_print_X8_list
theorem dX8_print_0 : decode cX8_print 0 = .ok (.aload_n 0, 1) := by decide +kernel
theorem dX8_print_1 : decode cX8_print 1 = .ok (.iconst 0, 1) := by decide +kernel
theorem dX8_print_2 : decode cX8_print 2 = .ok (.putfield 101, 3) := by decide +kernel
theorem dX8_print_5 : decode cX8_print 5 = .ok (.aload_n 0, 1) := by decide +kernel
theorem dX8_print_6 : decode cX8_print 6 = .ok (.getfield 119, 3) := by decide +kernel
theorem dX8_print_9 : decode cX8_print 9 = .ok (.ifCond .ne 5, 3) := by decide +kernel
theorem dX8_print_12 : decode cX8_print 12 = .ok (.iconst (-1), 1) := by decide +kernel
theorem dX8_print_13 : decode cX8_print 13 = .ok (.ireturn, 1) := by decide +kernel
theorem dX8_print_14 : decode cX8_print 14 = .ok (.aload_n 0, 1) := by decide +kernel
theorem dX8_print_15 : decode cX8_print 15 = .ok (.iconst 0, 1) := by decide +kernel
theorem dX8_print_16 : decode cX8_print 16 = .ok (.putfield 128, 3) := by decide +kernel
theorem dX8_print_19 : decode cX8_print 19 = .ok (.aload_n 0, 1) := by decide +kernel
theorem dX8_print_20 : decode cX8_print 20 = .ok (.iconst 0, 1) := by decide +kernel
theorem dX8_print_21 : decode cX8_print 21 = .ok (.invokevirtual 177, 3) := by decide +kernel
theorem dX8_print_24 : decode cX8_print 24 = .ok (.aload_n 0, 1) := by decide +kernel
theorem dX8_print_25 : decode cX8_print 25 = .ok (.getfield 128, 3) := by decide +kernel
theorem dX8_print_28 : decode cX8_print 28 = .ok (.ireturn, 1) := by decide +kernel
theorem dX8_way_0 : decode cX8_way 0 = .ok (.aload_n 0, 1) := by decide +kernel
theorem dX8_way_1 : decode cX8_way 1 = .ok (.iconst 0, 1) := by decide +kernel
theorem dX8_way_2 : decode cX8_way 2 = .ok (.putfield 180, 3) := by decide +kernel
theorem dX8_way_5 : decode cX8_way 5 = .ok (.iload_n 1, 1) := by decide +kernel
theorem dX8_way_6 : decode cX8_way 6 = .ok (.istore_n 2, 1) := by decide +kernel
theorem dX8_way_7 : decode cX8_way 7 = .ok (.iload_n 2, 1) := by decide +kernel
theorem dX8_way_8 : decode cX8_way 8 = .ok (.bipush (-2), 2) := by decide +kernel
theorem dX8_way_10 : decode cX8_way 10 = .ok (.if_icmp .eq 108, 3) := by decide +kernel
theorem dX8_way_13 : decode cX8_way 13 = .ok (.iconst 0, 1) := by decide +kernel
theorem dX8_way_14 : decode cX8_way 14 = .ok (.istore_n 3, 1) := by decide +kernel
theorem dX8_way_15 : decode cX8_way 15 = .ok (.iconst 0, 1) := by decide +kernel
theorem dX8_way_16 : decode cX8_way 16 = .ok (.istore 4, 2) := by decide +kernel
theorem dX8_way_18 : decode cX8_way 18 = .ok (.iload 4, 2) := by decide +kernel
theorem dX8_way_20 : decode cX8_way 20 = .ok (.aload_n 0, 1) := by decide +kernel
theorem dX8_way_21 : decode cX8_way 21 = .ok (.getfield 39, 3) := by decide +kernel
theorem dX8_way_24 : decode cX8_way 24 = .ok (.iload_n 3, 1) := by decide +kernel
theorem dX8_way_25 : decode cX8_way 25 = .ok (.iaload, 1) := by decide +kernel
theorem dX8_way_26 : decode cX8_way 26 = .ok (.if_icmp .eq 19, 3) := by decide +kernel
theorem dX8_way_29 : decode cX8_way 29 = .ok (.aload_n 0, 1) := by decide +kernel
theorem dX8_way_30 : decode cX8_way 30 = .ok (.getfield 36, 3) := by decide +kernel
theorem dX8_way_33 : decode cX8_way 33 = .ok (.bipush 9, 2) := by decide +kernel
theorem dX8_way_35 : decode cX8_way 35 = .ok (.iload_n 3, 1) := by decide +kernel
theorem dX8_way_36 : decode cX8_way 36 = .ok (.imul, 1) := by decide +kernel
theorem dX8_way_37 : decode cX8_way 37 = .ok (.iload 4, 2) := by decide +kernel
theorem dX8_way_39 : decode cX8_way 39 = .ok (.iadd, 1) := by decide +kernel
theorem dX8_way_40 : decode cX8_way 40 = .ok (.iaload, 1) := by decide +kernel
theorem dX8_way_41 : decode cX8_way 41 = .ok (.iload_n 2, 1) := by decide +kernel
theorem dX8_way_42 : decode cX8_way 42 = .ok (.if_icmp .eq 35, 3) := by decide +kernel
theorem dX8_way_45 : decode cX8_way 45 = .ok (.iload 4, 2) := by decide +kernel
theorem dX8_way_47 : decode cX8_way 47 = .ok (.aload_n 0, 1) := by decide +kernel
theorem dX8_way_48 : decode cX8_way 48 = .ok (.getfield 39, 3) := by decide +kernel
theorem dX8_way_51 : decode cX8_way 51 = .ok (.iload_n 3, 1) := by decide +kernel
theorem dX8_way_52 : decode cX8_way 52 = .ok (.iaload, 1) := by decide +kernel
theorem dX8_way_53 : decode cX8_way 53 = .ok (.if_icmp .ge 10, 3) := by decide +kernel
theorem dX8_way_56 : decode cX8_way 56 = .ok (.iload 4, 2) := by decide +kernel
theorem dX8_way_58 : decode cX8_way 58 = .ok (.iconst 1, 1) := by decide +kernel
theorem dX8_way_59 : decode cX8_way 59 = .ok (.iadd, 1) := by decide +kernel
theorem dX8_way_60 : decode cX8_way 60 = .ok (.goto 4, 3) := by decide +kernel
theorem dX8_way_63 : decode cX8_way 63 = .ok (.iconst 0, 1) := by decide +kernel
theorem dX8_way_64 : decode cX8_way 64 = .ok (.istore 4, 2) := by decide +kernel
theorem dX8_way_66 : decode cX8_way 66 = .ok (.iload 4, 2) := by decide +kernel
theorem dX8_way_68 : decode cX8_way 68 = .ok (.ifCond .ne (-50), 3) := by decide +kernel
theorem dX8_way_71 : decode cX8_way 71 = .ok (.iinc 3 1, 3) := by decide +kernel
theorem dX8_way_74 : decode cX8_way 74 = .ok (.goto (-56), 3) := by decide +kernel
theorem dX8_way_77 : decode cX8_way 77 = .ok (.aload_n 0, 1) := by decide +kernel
theorem dX8_way_78 : decode cX8_way 78 = .ok (.getfield 58, 3) := by decide +kernel
theorem dX8_way_81 : decode cX8_way 81 = .ok (.aload_n 0, 1) := by decide +kernel
theorem dX8_way_82 : decode cX8_way 82 = .ok (.getfield 180, 3) := by decide +kernel
theorem dX8_way_85 : decode cX8_way 85 = .ok (.iload_n 3, 1) := by decide +kernel
theorem dX8_way_86 : decode cX8_way 86 = .ok (.iastore, 1) := by decide +kernel
theorem dX8_way_87 : decode cX8_way 87 = .ok (.aload_n 0, 1) := by decide +kernel
theorem dX8_way_88 : decode cX8_way 88 = .ok (.getfield 61, 3) := by decide +kernel
theorem dX8_way_91 : decode cX8_way 91 = .ok (.aload_n 0, 1) := by decide +kernel
theorem dX8_way_92 : decode cX8_way 92 = .ok (.getfield 180, 3) := by decide +kernel
theorem dX8_way_95 : decode cX8_way 95 = .ok (.iload 4, 2) := by decide +kernel
theorem dX8_way_97 : decode cX8_way 97 = .ok (.iconst 1, 1) := by decide +kernel
theorem dX8_way_98 : decode cX8_way 98 = .ok (.iadd, 1) := by decide +kernel
theorem dX8_way_99 : decode cX8_way 99 = .ok (.iastore, 1) := by decide +kernel
theorem dX8_way_100 : decode cX8_way 100 = .ok (.aload_n 0, 1) := by decide +kernel
theorem dX8_way_101 : decode cX8_way 101 = .ok (.dup, 1) := by decide +kernel
theorem dX8_way_102 : decode cX8_way 102 = .ok (.getfield 180, 3) := by decide +kernel
theorem dX8_way_105 : decode cX8_way 105 = .ok (.iconst 1, 1) := by decide +kernel
theorem dX8_way_106 : decode cX8_way 106 = .ok (.iadd, 1) := by decide +kernel
theorem dX8_way_107 : decode cX8_way 107 = .ok (.putfield 180, 3) := by decide +kernel
theorem dX8_way_110 : decode cX8_way 110 = .ok (.bipush (-2), 2) := by decide +kernel
theorem dX8_way_112 : decode cX8_way 112 = .ok (.iload_n 3, 1) := by decide +kernel
theorem dX8_way_113 : decode cX8_way 113 = .ok (.isub, 1) := by decide +kernel
theorem dX8_way_114 : decode cX8_way 114 = .ok (.istore_n 2, 1) := by decide +kernel
theorem dX8_way_115 : decode cX8_way 115 = .ok (.goto (-108), 3) := by decide +kernel
theorem dX8_way_118 : decode cX8_way 118 = .ok (.iconst 0, 1) := by decide +kernel
theorem dX8_way_119 : decode cX8_way 119 = .ok (.istore_n 3, 1) := by decide +kernel
theorem dX8_way_120 : decode cX8_way 120 = .ok (.aload_n 0, 1) := by decide +kernel
theorem dX8_way_121 : decode cX8_way 121 = .ok (.getfield 180, 3) := by decide +kernel
theorem dX8_way_124 : decode cX8_way 124 = .ok (.iconst 1, 1) := by decide +kernel
theorem dX8_way_125 : decode cX8_way 125 = .ok (.isub, 1) := by decide +kernel
theorem dX8_way_126 : decode cX8_way 126 = .ok (.istore 4, 2) := by decide +kernel
theorem dX8_way_128 : decode cX8_way 128 = .ok (.iload_n 3, 1) := by decide +kernel
theorem dX8_way_129 : decode cX8_way 129 = .ok (.iload 4, 2) := by decide +kernel
theorem dX8_way_131 : decode cX8_way 131 = .ok (.if_icmp .ge 72, 3) := by decide +kernel
theorem dX8_way_134 : decode cX8_way 134 = .ok (.aload_n 0, 1) := by decide +kernel
theorem dX8_way_135 : decode cX8_way 135 = .ok (.getfield 58, 3) := by decide +kernel
theorem dX8_way_138 : decode cX8_way 138 = .ok (.iload_n 3, 1) := by decide +kernel
theorem dX8_way_139 : decode cX8_way 139 = .ok (.iaload, 1) := by decide +kernel
theorem dX8_way_140 : decode cX8_way 140 = .ok (.istore 5, 2) := by decide +kernel
theorem dX8_way_142 : decode cX8_way 142 = .ok (.aload_n 0, 1) := by decide +kernel
theorem dX8_way_143 : decode cX8_way 143 = .ok (.getfield 58, 3) := by decide +kernel
theorem dX8_way_146 : decode cX8_way 146 = .ok (.iload_n 3, 1) := by decide +kernel
theorem dX8_way_147 : decode cX8_way 147 = .ok (.aload_n 0, 1) := by decide +kernel
theorem dX8_way_148 : decode cX8_way 148 = .ok (.getfield 58, 3) := by decide +kernel
theorem dX8_way_151 : decode cX8_way 151 = .ok (.iload 4, 2) := by decide +kernel
theorem dX8_way_153 : decode cX8_way 153 = .ok (.iaload, 1) := by decide +kernel
theorem dX8_way_154 : decode cX8_way 154 = .ok (.iastore, 1) := by decide +kernel
theorem dX8_way_155 : decode cX8_way 155 = .ok (.aload_n 0, 1) := by decide +kernel
theorem dX8_way_156 : decode cX8_way 156 = .ok (.getfield 58, 3) := by decide +kernel
theorem dX8_way_159 : decode cX8_way 159 = .ok (.iload 4, 2) := by decide +kernel
theorem dX8_way_161 : decode cX8_way 161 = .ok (.iload 5, 2) := by decide +kernel
theorem dX8_way_163 : decode cX8_way 163 = .ok (.iastore, 1) := by decide +kernel
theorem dX8_way_164 : decode cX8_way 164 = .ok (.aload_n 0, 1) := by decide +kernel
theorem dX8_way_165 : decode cX8_way 165 = .ok (.getfield 61, 3) := by decide +kernel
theorem dX8_way_168 : decode cX8_way 168 = .ok (.iload_n 3, 1) := by decide +kernel
theorem dX8_way_169 : decode cX8_way 169 = .ok (.iaload, 1) := by decide +kernel
theorem dX8_way_170 : decode cX8_way 170 = .ok (.istore 5, 2) := by decide +kernel
theorem dX8_way_172 : decode cX8_way 172 = .ok (.aload_n 0, 1) := by decide +kernel
theorem dX8_way_173 : decode cX8_way 173 = .ok (.getfield 61, 3) := by decide +kernel
theorem dX8_way_176 : decode cX8_way 176 = .ok (.iload_n 3, 1) := by decide +kernel
theorem dX8_way_177 : decode cX8_way 177 = .ok (.aload_n 0, 1) := by decide +kernel
theorem dX8_way_178 : decode cX8_way 178 = .ok (.getfield 61, 3) := by decide +kernel
theorem dX8_way_181 : decode cX8_way 181 = .ok (.iload 4, 2) := by decide +kernel
theorem dX8_way_183 : decode cX8_way 183 = .ok (.iaload, 1) := by decide +kernel
theorem dX8_way_184 : decode cX8_way 184 = .ok (.iastore, 1) := by decide +kernel
theorem dX8_way_185 : decode cX8_way 185 = .ok (.aload_n 0, 1) := by decide +kernel
theorem dX8_way_186 : decode cX8_way 186 = .ok (.getfield 61, 3) := by decide +kernel
theorem dX8_way_189 : decode cX8_way 189 = .ok (.iload 4, 2) := by decide +kernel
theorem dX8_way_191 : decode cX8_way 191 = .ok (.iload 5, 2) := by decide +kernel
theorem dX8_way_193 : decode cX8_way 193 = .ok (.iastore, 1) := by decide +kernel
theorem dX8_way_194 : decode cX8_way 194 = .ok (.iinc 3 1, 3) := by decide +kernel
theorem dX8_way_197 : decode cX8_way 197 = .ok (.iinc 4 (-1), 3) := by decide +kernel
theorem dX8_way_200 : decode cX8_way 200 = .ok (.goto (-72), 3) := by decide +kernel
theorem dX8_way_203 : decode cX8_way 203 = .ok (.return_, 1) := by decide +kernel
set_option maxRecDepth 20000 in
theorem ggX8_stepsOf_X8_way : GoodIn wsX8_stepsOf wsX8_way := goodIn_r _ [9, 2, 10, 11, 12, 4, 13, 14, 15, 16, 17, 18, 19, 20, 21, 22, 23, 24, 25, 26, 27, 28, 29, 30, 31, 32, 33, 34, 35, 36, 37, 38, 39, 40, 41, 42, 43, 44, 45, 46, 47, 48, 49, 50, 51, 52, 53, 54] (by decide +kernel) (by decide +kernel)
set_option maxRecDepth 20000 in
theorem gX8_stepsOf_X8_way : GoodIn wsX8_stepsOf (wsV RX8 183 RX8 yX8_way wsX8_way) := goodIn_app (goodIn_of _ (by decide +kernel)) ggX8_stepsOf_X8_way
theorem dX8_stepsOf_0 : decode cX8_stepsOf 0 = .ok (.aload_n 0, 1) := by decide +kernel
theorem dX8_stepsOf_1 : decode cX8_stepsOf 1 = .ok (.iload_n 1, 1) := by decide +kernel
theorem dX8_stepsOf_2 : decode cX8_stepsOf 2 = .ok (.invokevirtual 183, 3) := by decide +kernel
theorem dX8_stepsOf_5 : decode cX8_stepsOf 5 = .ok (.aload_n 0, 1) := by decide +kernel
theorem dX8_stepsOf_6 : decode cX8_stepsOf 6 = .ok (.getfield 20, 3) := by decide +kernel
theorem dX8_stepsOf_9 : decode cX8_stepsOf 9 = .ok (.aload_n 0, 1) := by decide +kernel
theorem dX8_stepsOf_10 : decode cX8_stepsOf 10 = .ok (.getfield 180, 3) := by decide +kernel
theorem dX8_stepsOf_13 : decode cX8_stepsOf 13 = .ok (.iconst 1, 1) := by decide +kernel
theorem dX8_stepsOf_14 : decode cX8_stepsOf 14 = .ok (.isub, 1) := by decide +kernel
theorem dX8_stepsOf_15 : decode cX8_stepsOf 15 = .ok (.imul, 1) := by decide +kernel
theorem dX8_stepsOf_16 : decode cX8_stepsOf 16 = .ok (.istore_n 2, 1) := by decide +kernel
theorem dX8_stepsOf_17 : decode cX8_stepsOf 17 = .ok (.iconst 0, 1) := by decide +kernel
theorem dX8_stepsOf_18 : decode cX8_stepsOf 18 = .ok (.istore_n 3, 1) := by decide +kernel
theorem dX8_stepsOf_19 : decode cX8_stepsOf 19 = .ok (.iload_n 3, 1) := by decide +kernel
theorem dX8_stepsOf_20 : decode cX8_stepsOf 20 = .ok (.aload_n 0, 1) := by decide +kernel
theorem dX8_stepsOf_21 : decode cX8_stepsOf 21 = .ok (.getfield 180, 3) := by decide +kernel
theorem dX8_stepsOf_24 : decode cX8_stepsOf 24 = .ok (.if_icmp .ge 23, 3) := by decide +kernel
theorem dX8_stepsOf_27 : decode cX8_stepsOf 27 = .ok (.iload_n 2, 1) := by decide +kernel
theorem dX8_stepsOf_28 : decode cX8_stepsOf 28 = .ok (.aload_n 0, 1) := by decide +kernel
theorem dX8_stepsOf_29 : decode cX8_stepsOf 29 = .ok (.getfield 16, 3) := by decide +kernel
theorem dX8_stepsOf_32 : decode cX8_stepsOf 32 = .ok (.aload_n 0, 1) := by decide +kernel
theorem dX8_stepsOf_33 : decode cX8_stepsOf 33 = .ok (.getfield 61, 3) := by decide +kernel
theorem dX8_stepsOf_36 : decode cX8_stepsOf 36 = .ok (.iload_n 3, 1) := by decide +kernel
theorem dX8_stepsOf_37 : decode cX8_stepsOf 37 = .ok (.iaload, 1) := by decide +kernel
theorem dX8_stepsOf_38 : decode cX8_stepsOf 38 = .ok (.imul, 1) := by decide +kernel
theorem dX8_stepsOf_39 : decode cX8_stepsOf 39 = .ok (.iadd, 1) := by decide +kernel
theorem dX8_stepsOf_40 : decode cX8_stepsOf 40 = .ok (.istore_n 2, 1) := by decide +kernel
theorem dX8_stepsOf_41 : decode cX8_stepsOf 41 = .ok (.iinc 3 1, 3) := by decide +kernel
theorem dX8_stepsOf_44 : decode cX8_stepsOf 44 = .ok (.goto (-25), 3) := by decide +kernel
theorem dX8_stepsOf_47 : decode cX8_stepsOf 47 = .ok (.iload_n 2, 1) := by decide +kernel
theorem dX8_stepsOf_48 : decode cX8_stepsOf 48 = .ok (.ireturn, 1) := by decide +kernel
set_option maxRecDepth 20000 in
theorem ggX8_costOf_X8_stepsOf : GoodIn wsX8_costOf wsX8_stepsOf := goodIn_r _ [7, 8, 9, 10, 11, 12, 13, 14, 6, 15, 16, 17, 18, 19, 20, 21, 22, 23, 24, 25, 26, 27, 28, 29, 30, 31, 32, 33, 34, 35, 36, 37, 38, 39, 40, 41, 42, 43, 44, 45, 46, 47, 48, 49, 50, 51, 52, 53, 54, 55, 56, 57, 58, 59, 60] (by decide +kernel) (by decide +kernel)
set_option maxRecDepth 20000 in
theorem gX8_costOf_X8_stepsOf : GoodIn wsX8_costOf (wsV RX8 186 RX8 yX8_stepsOf wsX8_stepsOf) := goodIn_app (goodIn_of _ (by decide +kernel)) ggX8_costOf_X8_stepsOf
theorem dX8_costOf_0 : decode cX8_costOf 0 = .ok (.lconst 0, 1) := by decide +kernel
theorem dX8_costOf_1 : decode cX8_costOf 1 = .ok (.lstore_n 1, 1) := by decide +kernel
theorem dX8_costOf_2 : decode cX8_costOf 2 = .ok (.iconst 0, 1) := by decide +kernel
theorem dX8_costOf_3 : decode cX8_costOf 3 = .ok (.istore_n 3, 1) := by decide +kernel
theorem dX8_costOf_4 : decode cX8_costOf 4 = .ok (.iload_n 3, 1) := by decide +kernel
theorem dX8_costOf_5 : decode cX8_costOf 5 = .ok (.aload_n 0, 1) := by decide +kernel
theorem dX8_costOf_6 : decode cX8_costOf 6 = .ok (.getfield 116, 3) := by decide +kernel
theorem dX8_costOf_9 : decode cX8_costOf 9 = .ok (.if_icmp .ge 26, 3) := by decide +kernel
theorem dX8_costOf_12 : decode cX8_costOf 12 = .ok (.lload_n 1, 1) := by decide +kernel
theorem dX8_costOf_13 : decode cX8_costOf 13 = .ok (.aload_n 0, 1) := by decide +kernel
theorem dX8_costOf_14 : decode cX8_costOf 14 = .ok (.getfield 9, 3) := by decide +kernel
theorem dX8_costOf_17 : decode cX8_costOf 17 = .ok (.iload_n 3, 1) := by decide +kernel
theorem dX8_costOf_18 : decode cX8_costOf 18 = .ok (.iaload, 1) := by decide +kernel
theorem dX8_costOf_19 : decode cX8_costOf 19 = .ok (.i2l, 1) := by decide +kernel
theorem dX8_costOf_20 : decode cX8_costOf 20 = .ok (.aload_n 0, 1) := by decide +kernel
theorem dX8_costOf_21 : decode cX8_costOf 21 = .ok (.iload_n 3, 1) := by decide +kernel
theorem dX8_costOf_22 : decode cX8_costOf 22 = .ok (.invokevirtual 186, 3) := by decide +kernel
theorem dX8_costOf_25 : decode cX8_costOf 25 = .ok (.i2l, 1) := by decide +kernel
theorem dX8_costOf_26 : decode cX8_costOf 26 = .ok (.lmul, 1) := by decide +kernel
theorem dX8_costOf_27 : decode cX8_costOf 27 = .ok (.ladd, 1) := by decide +kernel
theorem dX8_costOf_28 : decode cX8_costOf 28 = .ok (.lstore_n 1, 1) := by decide +kernel
theorem dX8_costOf_29 : decode cX8_costOf 29 = .ok (.iinc 3 1, 3) := by decide +kernel
theorem dX8_costOf_32 : decode cX8_costOf 32 = .ok (.goto (-28), 3) := by decide +kernel
theorem dX8_costOf_35 : decode cX8_costOf 35 = .ok (.lload_n 1, 1) := by decide +kernel
theorem dX8_costOf_36 : decode cX8_costOf 36 = .ok (.lreturn, 1) := by decide +kernel
set_option maxRecDepth 20000 in
theorem ggX8_cost_X8_costOf : GoodIn wsX8_cost wsX8_costOf := goodIn_r _ [8, 9, 10, 11, 12, 13, 7, 14, 15, 16, 17, 18, 19, 20, 21, 22, 23, 24, 25, 26, 27, 28, 29, 30, 31, 32, 33, 34, 35, 36, 37, 38, 39, 40, 41, 42, 43, 44, 45, 46, 47, 48, 49, 50, 51, 52, 53, 54, 55, 56, 57, 58, 59, 60, 61, 62, 63, 64, 65, 66, 67] (by decide +kernel) (by decide +kernel)
set_option maxRecDepth 20000 in
theorem gX8_cost_X8_costOf : GoodIn wsX8_cost (wsV RX8 191 RX8 yX8_costOf wsX8_costOf) := goodIn_app (goodIn_of _ (by decide +kernel)) ggX8_cost_X8_costOf
theorem dX8_cost_0 : decode cX8_cost 0 = .ok (.aload_n 0, 1) := by decide +kernel
theorem dX8_cost_1 : decode cX8_cost 1 = .ok (.iconst 0, 1) := by decide +kernel
theorem dX8_cost_2 : decode cX8_cost 2 = .ok (.putfield 101, 3) := by decide +kernel
theorem dX8_cost_5 : decode cX8_cost 5 = .ok (.aload_n 0, 1) := by decide +kernel
theorem dX8_cost_6 : decode cX8_cost 6 = .ok (.getfield 119, 3) := by decide +kernel
theorem dX8_cost_9 : decode cX8_cost 9 = .ok (.ifCond .ne 9, 3) := by decide +kernel
theorem dX8_cost_12 : decode cX8_cost 12 = .ok (.ldc2_w 189, 3) := by decide +kernel
theorem dX8_cost_15 : decode cX8_cost 15 = .ok (.goto 7, 3) := by decide +kernel
theorem dX8_cost_18 : decode cX8_cost 18 = .ok (.aload_n 0, 1) := by decide +kernel
theorem dX8_cost_19 : decode cX8_cost 19 = .ok (.invokevirtual 191, 3) := by decide +kernel
theorem dX8_cost_22 : decode cX8_cost 22 = .ok (.lreturn, 1) := by decide +kernel
set_option maxRecDepth 20000 in
theorem ggX8_steps_X8_isCommand : GoodIn wsX8_steps wsX8_isCommand := goodIn_r _ [6, 7, 8, 24, 25, 26, 27, 28, 29, 30, 31, 32, 33, 34, 35, 36, 37, 38, 39, 40, 41, 42, 43, 44, 45, 46, 47, 48, 49, 50, 51, 52, 53, 54, 55, 56, 57, 58, 59, 60, 61, 62, 63, 64, 65] (by decide +kernel) (by decide +kernel)
set_option maxRecDepth 20000 in
theorem gX8_steps_X8_isCommand : GoodIn wsX8_steps (wsV RX8 122 RX8 yX8_isCommand wsX8_isCommand) := goodIn_app (goodIn_of _ (by decide +kernel)) ggX8_steps_X8_isCommand
set_option maxRecDepth 20000 in
theorem ggX8_steps_X8_stepsOf : GoodIn wsX8_steps wsX8_stepsOf := goodIn_r _ [12, 13, 14, 15, 16, 17, 18, 19, 5, 20, 21, 22, 23, 24, 25, 26, 27, 28, 29, 30, 31, 32, 33, 34, 35, 36, 37, 38, 39, 40, 41, 42, 43, 44, 45, 46, 47, 48, 49, 50, 51, 52, 53, 54, 55, 56, 57, 58, 59, 60, 61, 62, 63, 64, 65] (by decide +kernel) (by decide +kernel)
set_option maxRecDepth 20000 in
theorem gX8_steps_X8_stepsOf : GoodIn wsX8_steps (wsV RX8 186 RX8 yX8_stepsOf wsX8_stepsOf) := goodIn_app (goodIn_of _ (by decide +kernel)) ggX8_steps_X8_stepsOf
theorem dX8_steps_0 : decode cX8_steps 0 = .ok (.aload_n 0, 1) := by decide +kernel
theorem dX8_steps_1 : decode cX8_steps 1 = .ok (.iload_n 1, 1) := by decide +kernel
theorem dX8_steps_2 : decode cX8_steps 2 = .ok (.invokevirtual 122, 3) := by decide +kernel
theorem dX8_steps_5 : decode cX8_steps 5 = .ok (.ifCond .ne 5, 3) := by decide +kernel
theorem dX8_steps_8 : decode cX8_steps 8 = .ok (.iconst 0, 1) := by decide +kernel
theorem dX8_steps_9 : decode cX8_steps 9 = .ok (.ireturn, 1) := by decide +kernel
theorem dX8_steps_10 : decode cX8_steps 10 = .ok (.aload_n 0, 1) := by decide +kernel
theorem dX8_steps_11 : decode cX8_steps 11 = .ok (.getfield 119, 3) := by decide +kernel
theorem dX8_steps_14 : decode cX8_steps 14 = .ok (.ifCond .ne 7, 3) := by decide +kernel
theorem dX8_steps_17 : decode cX8_steps 17 = .ok (.iconst (-1), 1) := by decide +kernel
theorem dX8_steps_18 : decode cX8_steps 18 = .ok (.goto 8, 3) := by decide +kernel
theorem dX8_steps_21 : decode cX8_steps 21 = .ok (.aload_n 0, 1) := by decide +kernel
theorem dX8_steps_22 : decode cX8_steps 22 = .ok (.iload_n 1, 1) := by decide +kernel
theorem dX8_steps_23 : decode cX8_steps 23 = .ok (.invokevirtual 186, 3) := by decide +kernel
theorem dX8_steps_26 : decode cX8_steps 26 = .ok (.ireturn, 1) := by decide +kernel
set_option maxRecDepth 20000 in
theorem ggX8_place_X8_isCommand : GoodIn wsX8_place wsX8_isCommand := goodIn_r _ [8, 9, 10, 18, 19, 20, 21, 22, 23, 24, 25, 26, 27, 28, 29, 30, 31, 32, 33, 34, 35, 36, 37, 38, 39, 40, 41, 42, 43, 44, 45, 46, 47, 48, 49, 50, 51, 52, 53, 54, 55, 56, 57, 58, 59] (by decide +kernel) (by decide +kernel)
set_option maxRecDepth 20000 in
theorem gX8_place_X8_isCommand : GoodIn wsX8_place (wsV RX8 122 RX8 yX8_isCommand wsX8_isCommand) := goodIn_app (goodIn_of _ (by decide +kernel)) ggX8_place_X8_isCommand
set_option maxRecDepth 20000 in
theorem ggX8_place_X8_way : GoodIn wsX8_place wsX8_way := goodIn_r _ [14, 2, 15, 16, 17, 3, 18, 19, 20, 21, 22, 23, 24, 25, 26, 27, 28, 29, 30, 31, 32, 33, 34, 35, 36, 37, 38, 39, 40, 41, 42, 43, 44, 45, 46, 47, 48, 49, 50, 51, 52, 53, 54, 55, 56, 57, 58, 59] (by decide +kernel) (by decide +kernel)
set_option maxRecDepth 20000 in
theorem gX8_place_X8_way : GoodIn wsX8_place (wsV RX8 183 RX8 yX8_way wsX8_way) := goodIn_app (goodIn_of _ (by decide +kernel)) ggX8_place_X8_way
theorem dX8_place_0 : decode cX8_place 0 = .ok (.aload_n 0, 1) := by decide +kernel
theorem dX8_place_1 : decode cX8_place 1 = .ok (.iload_n 1, 1) := by decide +kernel
theorem dX8_place_2 : decode cX8_place 2 = .ok (.invokevirtual 122, 3) := by decide +kernel
theorem dX8_place_5 : decode cX8_place 5 = .ok (.ifCond .eq 10, 3) := by decide +kernel
theorem dX8_place_8 : decode cX8_place 8 = .ok (.aload_n 0, 1) := by decide +kernel
theorem dX8_place_9 : decode cX8_place 9 = .ok (.getfield 119, 3) := by decide +kernel
theorem dX8_place_12 : decode cX8_place 12 = .ok (.ifCond .ne 5, 3) := by decide +kernel
theorem dX8_place_15 : decode cX8_place 15 = .ok (.iconst 0, 1) := by decide +kernel
theorem dX8_place_16 : decode cX8_place 16 = .ok (.ireturn, 1) := by decide +kernel
theorem dX8_place_17 : decode cX8_place 17 = .ok (.aload_n 0, 1) := by decide +kernel
theorem dX8_place_18 : decode cX8_place 18 = .ok (.iload_n 1, 1) := by decide +kernel
theorem dX8_place_19 : decode cX8_place 19 = .ok (.invokevirtual 183, 3) := by decide +kernel
theorem dX8_place_22 : decode cX8_place 22 = .ok (.iload_n 2, 1) := by decide +kernel
theorem dX8_place_23 : decode cX8_place 23 = .ok (.ifCond .lt 20, 3) := by decide +kernel
theorem dX8_place_26 : decode cX8_place 26 = .ok (.iload_n 2, 1) := by decide +kernel
theorem dX8_place_27 : decode cX8_place 27 = .ok (.aload_n 0, 1) := by decide +kernel
theorem dX8_place_28 : decode cX8_place 28 = .ok (.getfield 180, 3) := by decide +kernel
theorem dX8_place_31 : decode cX8_place 31 = .ok (.if_icmp .ge 12, 3) := by decide +kernel
theorem dX8_place_34 : decode cX8_place 34 = .ok (.aload_n 0, 1) := by decide +kernel
theorem dX8_place_35 : decode cX8_place 35 = .ok (.getfield 61, 3) := by decide +kernel
theorem dX8_place_38 : decode cX8_place 38 = .ok (.iload_n 2, 1) := by decide +kernel
theorem dX8_place_39 : decode cX8_place 39 = .ok (.iaload, 1) := by decide +kernel
theorem dX8_place_40 : decode cX8_place 40 = .ok (.goto 4, 3) := by decide +kernel
theorem dX8_place_43 : decode cX8_place 43 = .ok (.iconst 0, 1) := by decide +kernel
theorem dX8_place_44 : decode cX8_place 44 = .ok (.ireturn, 1) := by decide +kernel
set_option maxRecDepth 20000 in
theorem ggX8_gathers_X8_gathers : GoodIn wsX8_gathers wsX8_gathers := goodIn_r _ [0, 1, 2, 3, 4, 5, 6, 7, 8, 9, 10, 11, 12, 13, 14, 15, 16, 17, 18, 19, 20, 21, 22, 23, 24, 25, 26, 27, 28, 29, 30, 31, 32, 33, 34, 35, 36, 37, 38, 39, 40, 41, 42, 43, 44, 45, 46, 47, 48, 49, 50] (by decide +kernel) (by decide +kernel)
set_option maxRecDepth 20000 in
theorem gX8_gathers_X8_gathers : GoodIn wsX8_gathers (wsV RX8 195 RX8 yX8_gathers wsX8_gathers) := goodIn_app (goodIn_of _ (by decide +kernel)) ggX8_gathers_X8_gathers
theorem dX8_gathers_0 : decode cX8_gathers 0 = .ok (.iconst 0, 1) := by decide +kernel
theorem dX8_gathers_1 : decode cX8_gathers 1 = .ok (.istore_n 2, 1) := by decide +kernel
theorem dX8_gathers_2 : decode cX8_gathers 2 = .ok (.iconst 0, 1) := by decide +kernel
theorem dX8_gathers_3 : decode cX8_gathers 3 = .ok (.istore_n 3, 1) := by decide +kernel
theorem dX8_gathers_4 : decode cX8_gathers 4 = .ok (.iload_n 3, 1) := by decide +kernel
theorem dX8_gathers_5 : decode cX8_gathers 5 = .ok (.aload_n 0, 1) := by decide +kernel
theorem dX8_gathers_6 : decode cX8_gathers 6 = .ok (.getfield 39, 3) := by decide +kernel
theorem dX8_gathers_9 : decode cX8_gathers 9 = .ok (.iload_n 1, 1) := by decide +kernel
theorem dX8_gathers_10 : decode cX8_gathers 10 = .ok (.iaload, 1) := by decide +kernel
theorem dX8_gathers_11 : decode cX8_gathers 11 = .ok (.if_icmp .ge 83, 3) := by decide +kernel
theorem dX8_gathers_14 : decode cX8_gathers 14 = .ok (.aload_n 0, 1) := by decide +kernel
theorem dX8_gathers_15 : decode cX8_gathers 15 = .ok (.getfield 36, 3) := by decide +kernel
theorem dX8_gathers_18 : decode cX8_gathers 18 = .ok (.bipush 9, 2) := by decide +kernel
theorem dX8_gathers_20 : decode cX8_gathers 20 = .ok (.iload_n 1, 1) := by decide +kernel
theorem dX8_gathers_21 : decode cX8_gathers 21 = .ok (.imul, 1) := by decide +kernel
theorem dX8_gathers_22 : decode cX8_gathers 22 = .ok (.iload_n 3, 1) := by decide +kernel
theorem dX8_gathers_23 : decode cX8_gathers 23 = .ok (.iadd, 1) := by decide +kernel
theorem dX8_gathers_24 : decode cX8_gathers 24 = .ok (.iaload, 1) := by decide +kernel
theorem dX8_gathers_25 : decode cX8_gathers 25 = .ok (.istore 4, 2) := by decide +kernel
theorem dX8_gathers_27 : decode cX8_gathers 27 = .ok (.iload 4, 2) := by decide +kernel
theorem dX8_gathers_29 : decode cX8_gathers 29 = .ok (.ifCond .ge 18, 3) := by decide +kernel
theorem dX8_gathers_32 : decode cX8_gathers 32 = .ok (.iload_n 2, 1) := by decide +kernel
theorem dX8_gathers_33 : decode cX8_gathers 33 = .ok (.aload_n 0, 1) := by decide +kernel
theorem dX8_gathers_34 : decode cX8_gathers 34 = .ok (.bipush (-2), 2) := by decide +kernel
theorem dX8_gathers_36 : decode cX8_gathers 36 = .ok (.iload 4, 2) := by decide +kernel
theorem dX8_gathers_38 : decode cX8_gathers 38 = .ok (.isub, 1) := by decide +kernel
theorem dX8_gathers_39 : decode cX8_gathers 39 = .ok (.invokevirtual 195, 3) := by decide +kernel
theorem dX8_gathers_42 : decode cX8_gathers 42 = .ok (.iadd, 1) := by decide +kernel
theorem dX8_gathers_43 : decode cX8_gathers 43 = .ok (.istore_n 2, 1) := by decide +kernel
theorem dX8_gathers_44 : decode cX8_gathers 44 = .ok (.goto 44, 3) := by decide +kernel
theorem dX8_gathers_47 : decode cX8_gathers 47 = .ok (.iinc 2 1, 3) := by decide +kernel
theorem dX8_gathers_50 : decode cX8_gathers 50 = .ok (.iconst 0, 1) := by decide +kernel
theorem dX8_gathers_51 : decode cX8_gathers 51 = .ok (.istore 5, 2) := by decide +kernel
theorem dX8_gathers_53 : decode cX8_gathers 53 = .ok (.iload 5, 2) := by decide +kernel
theorem dX8_gathers_55 : decode cX8_gathers 55 = .ok (.bipush 24, 2) := by decide +kernel
theorem dX8_gathers_57 : decode cX8_gathers 57 = .ok (.if_icmp .ge 31, 3) := by decide +kernel
theorem dX8_gathers_60 : decode cX8_gathers 60 = .ok (.aload_n 0, 1) := by decide +kernel
theorem dX8_gathers_61 : decode cX8_gathers 61 = .ok (.getfield 64, 3) := by decide +kernel
theorem dX8_gathers_64 : decode cX8_gathers 64 = .ok (.iload 5, 2) := by decide +kernel
theorem dX8_gathers_66 : decode cX8_gathers 66 = .ok (.dup2, 1) := by decide +kernel
theorem dX8_gathers_67 : decode cX8_gathers 67 = .ok (.iaload, 1) := by decide +kernel
theorem dX8_gathers_68 : decode cX8_gathers 68 = .ok (.aload_n 0, 1) := by decide +kernel
theorem dX8_gathers_69 : decode cX8_gathers 69 = .ok (.getfield 13, 3) := by decide +kernel
theorem dX8_gathers_72 : decode cX8_gathers 72 = .ok (.iload 4, 2) := by decide +kernel
theorem dX8_gathers_74 : decode cX8_gathers 74 = .ok (.iaload, 1) := by decide +kernel
theorem dX8_gathers_75 : decode cX8_gathers 75 = .ok (.iload 5, 2) := by decide +kernel
theorem dX8_gathers_77 : decode cX8_gathers 77 = .ok (.ishr, 1) := by decide +kernel
theorem dX8_gathers_78 : decode cX8_gathers 78 = .ok (.iconst 1, 1) := by decide +kernel
theorem dX8_gathers_79 : decode cX8_gathers 79 = .ok (.iand, 1) := by decide +kernel
theorem dX8_gathers_80 : decode cX8_gathers 80 = .ok (.iadd, 1) := by decide +kernel
theorem dX8_gathers_81 : decode cX8_gathers 81 = .ok (.iastore, 1) := by decide +kernel
theorem dX8_gathers_82 : decode cX8_gathers 82 = .ok (.iinc 5 1, 3) := by decide +kernel
theorem dX8_gathers_85 : decode cX8_gathers 85 = .ok (.goto (-32), 3) := by decide +kernel
theorem dX8_gathers_88 : decode cX8_gathers 88 = .ok (.iinc 3 1, 3) := by decide +kernel
theorem dX8_gathers_91 : decode cX8_gathers 91 = .ok (.goto (-87), 3) := by decide +kernel
theorem dX8_gathers_94 : decode cX8_gathers 94 = .ok (.iload_n 2, 1) := by decide +kernel
theorem dX8_gathers_95 : decode cX8_gathers 95 = .ok (.ireturn, 1) := by decide +kernel
set_option maxRecDepth 20000 in
theorem ggX8_heading_X8_gathers : GoodIn wsX8_heading wsX8_gathers := goodIn_r _ [7, 8, 9, 2, 1, 3, 4, 5, 6, 10, 11, 12, 13, 14, 15, 16, 17, 18, 19, 20, 21, 22, 23, 24, 25, 26, 27, 28, 29, 30, 31, 32, 33, 34, 35, 36, 37, 38, 39, 40, 41, 42, 43, 44, 45, 46, 47, 48, 49, 50, 51] (by decide +kernel) (by decide +kernel)
set_option maxRecDepth 20000 in
theorem gX8_heading_X8_gathers : GoodIn wsX8_heading (wsV RX8 195 RX8 yX8_gathers wsX8_gathers) := goodIn_app (goodIn_of _ (by decide +kernel)) ggX8_heading_X8_gathers
theorem dX8_heading_0 : decode cX8_heading 0 = .ok (.iload_n 1, 1) := by decide +kernel
theorem dX8_heading_1 : decode cX8_heading 1 = .ok (.ifCond .lt 10, 3) := by decide +kernel
theorem dX8_heading_4 : decode cX8_heading 4 = .ok (.aload_n 0, 1) := by decide +kernel
theorem dX8_heading_5 : decode cX8_heading 5 = .ok (.getfield 13, 3) := by decide +kernel
theorem dX8_heading_8 : decode cX8_heading 8 = .ok (.iload_n 1, 1) := by decide +kernel
theorem dX8_heading_9 : decode cX8_heading 9 = .ok (.iaload, 1) := by decide +kernel
theorem dX8_heading_10 : decode cX8_heading 10 = .ok (.ireturn, 1) := by decide +kernel
theorem dX8_heading_11 : decode cX8_heading 11 = .ok (.iconst 0, 1) := by decide +kernel
theorem dX8_heading_12 : decode cX8_heading 12 = .ok (.istore_n 2, 1) := by decide +kernel
theorem dX8_heading_13 : decode cX8_heading 13 = .ok (.iload_n 2, 1) := by decide +kernel
theorem dX8_heading_14 : decode cX8_heading 14 = .ok (.bipush 24, 2) := by decide +kernel
theorem dX8_heading_16 : decode cX8_heading 16 = .ok (.if_icmp .ge 16, 3) := by decide +kernel
theorem dX8_heading_19 : decode cX8_heading 19 = .ok (.aload_n 0, 1) := by decide +kernel
theorem dX8_heading_20 : decode cX8_heading 20 = .ok (.getfield 64, 3) := by decide +kernel
theorem dX8_heading_23 : decode cX8_heading 23 = .ok (.iload_n 2, 1) := by decide +kernel
theorem dX8_heading_24 : decode cX8_heading 24 = .ok (.iconst 0, 1) := by decide +kernel
theorem dX8_heading_25 : decode cX8_heading 25 = .ok (.iastore, 1) := by decide +kernel
theorem dX8_heading_26 : decode cX8_heading 26 = .ok (.iinc 2 1, 3) := by decide +kernel
theorem dX8_heading_29 : decode cX8_heading 29 = .ok (.goto (-16), 3) := by decide +kernel
theorem dX8_heading_32 : decode cX8_heading 32 = .ok (.aload_n 0, 1) := by decide +kernel
theorem dX8_heading_33 : decode cX8_heading 33 = .ok (.bipush (-2), 2) := by decide +kernel
theorem dX8_heading_35 : decode cX8_heading 35 = .ok (.iload_n 1, 1) := by decide +kernel
theorem dX8_heading_36 : decode cX8_heading 36 = .ok (.isub, 1) := by decide +kernel
theorem dX8_heading_37 : decode cX8_heading 37 = .ok (.invokevirtual 195, 3) := by decide +kernel
theorem dX8_heading_40 : decode cX8_heading 40 = .ok (.istore_n 2, 1) := by decide +kernel
theorem dX8_heading_41 : decode cX8_heading 41 = .ok (.iconst 0, 1) := by decide +kernel
theorem dX8_heading_42 : decode cX8_heading 42 = .ok (.istore_n 3, 1) := by decide +kernel
theorem dX8_heading_43 : decode cX8_heading 43 = .ok (.iconst 0, 1) := by decide +kernel
theorem dX8_heading_44 : decode cX8_heading 44 = .ok (.istore 4, 2) := by decide +kernel
theorem dX8_heading_46 : decode cX8_heading 46 = .ok (.iload 4, 2) := by decide +kernel
theorem dX8_heading_48 : decode cX8_heading 48 = .ok (.bipush 24, 2) := by decide +kernel
theorem dX8_heading_50 : decode cX8_heading 50 = .ok (.if_icmp .ge 33, 3) := by decide +kernel
theorem dX8_heading_53 : decode cX8_heading 53 = .ok (.iload_n 3, 1) := by decide +kernel
theorem dX8_heading_54 : decode cX8_heading 54 = .ok (.iconst 2, 1) := by decide +kernel
theorem dX8_heading_55 : decode cX8_heading 55 = .ok (.aload_n 0, 1) := by decide +kernel
theorem dX8_heading_56 : decode cX8_heading 56 = .ok (.getfield 64, 3) := by decide +kernel
theorem dX8_heading_59 : decode cX8_heading 59 = .ok (.iload 4, 2) := by decide +kernel
theorem dX8_heading_61 : decode cX8_heading 61 = .ok (.iaload, 1) := by decide +kernel
theorem dX8_heading_62 : decode cX8_heading 62 = .ok (.imul, 1) := by decide +kernel
theorem dX8_heading_63 : decode cX8_heading 63 = .ok (.iload_n 2, 1) := by decide +kernel
theorem dX8_heading_64 : decode cX8_heading 64 = .ok (.if_icmp .lt 10, 3) := by decide +kernel
theorem dX8_heading_67 : decode cX8_heading 67 = .ok (.iconst 1, 1) := by decide +kernel
theorem dX8_heading_68 : decode cX8_heading 68 = .ok (.iload 4, 2) := by decide +kernel
theorem dX8_heading_70 : decode cX8_heading 70 = .ok (.ishl, 1) := by decide +kernel
theorem dX8_heading_71 : decode cX8_heading 71 = .ok (.goto 4, 3) := by decide +kernel
theorem dX8_heading_74 : decode cX8_heading 74 = .ok (.iconst 0, 1) := by decide +kernel
theorem dX8_heading_75 : decode cX8_heading 75 = .ok (.ior, 1) := by decide +kernel
theorem dX8_heading_76 : decode cX8_heading 76 = .ok (.istore_n 3, 1) := by decide +kernel
theorem dX8_heading_77 : decode cX8_heading 77 = .ok (.iinc 4 1, 3) := by decide +kernel
theorem dX8_heading_80 : decode cX8_heading 80 = .ok (.goto (-34), 3) := by decide +kernel
theorem dX8_heading_83 : decode cX8_heading 83 = .ok (.iload_n 3, 1) := by decide +kernel
theorem dX8_heading_84 : decode cX8_heading 84 = .ok (.ireturn, 1) := by decide +kernel
theorem dX8_ones_0 : decode cX8_ones 0 = .ok (.iconst 0, 1) := by decide +kernel
theorem dX8_ones_1 : decode cX8_ones 1 = .ok (.istore_n 1, 1) := by decide +kernel
theorem dX8_ones_2 : decode cX8_ones 2 = .ok (.iconst 0, 1) := by decide +kernel
theorem dX8_ones_3 : decode cX8_ones 3 = .ok (.istore_n 2, 1) := by decide +kernel
theorem dX8_ones_4 : decode cX8_ones 4 = .ok (.iload_n 2, 1) := by decide +kernel
theorem dX8_ones_5 : decode cX8_ones 5 = .ok (.bipush 24, 2) := by decide +kernel
theorem dX8_ones_7 : decode cX8_ones 7 = .ok (.if_icmp .ge 17, 3) := by decide +kernel
theorem dX8_ones_10 : decode cX8_ones 10 = .ok (.iload_n 1, 1) := by decide +kernel
theorem dX8_ones_11 : decode cX8_ones 11 = .ok (.iload_n 0, 1) := by decide +kernel
theorem dX8_ones_12 : decode cX8_ones 12 = .ok (.iload_n 2, 1) := by decide +kernel
theorem dX8_ones_13 : decode cX8_ones 13 = .ok (.ishr, 1) := by decide +kernel
theorem dX8_ones_14 : decode cX8_ones 14 = .ok (.iconst 1, 1) := by decide +kernel
theorem dX8_ones_15 : decode cX8_ones 15 = .ok (.iand, 1) := by decide +kernel
theorem dX8_ones_16 : decode cX8_ones 16 = .ok (.iadd, 1) := by decide +kernel
theorem dX8_ones_17 : decode cX8_ones 17 = .ok (.istore_n 1, 1) := by decide +kernel
theorem dX8_ones_18 : decode cX8_ones 18 = .ok (.iinc 2 1, 3) := by decide +kernel
theorem dX8_ones_21 : decode cX8_ones 21 = .ok (.goto (-17), 3) := by decide +kernel
theorem dX8_ones_24 : decode cX8_ones 24 = .ok (.iload_n 1, 1) := by decide +kernel
theorem dX8_ones_25 : decode cX8_ones 25 = .ok (.ireturn, 1) := by decide +kernel
set_option maxRecDepth 20000 in
theorem ggX8_misled_X8_isCommand : GoodIn wsX8_misled wsX8_isCommand := goodIn_r _ [12, 13, 14, 31, 32, 33, 34, 35, 36, 37, 38, 39, 40, 41, 42, 43, 44, 45, 46, 47, 48, 49, 50, 51, 52, 53, 54, 55, 56, 57, 58, 59, 60, 61, 62, 63, 64, 65, 66, 67, 68, 69, 70, 71, 72] (by decide +kernel) (by decide +kernel)
set_option maxRecDepth 20000 in
theorem gX8_misled_X8_isCommand : GoodIn wsX8_misled (wsV RX8 122 RX8 yX8_isCommand wsX8_isCommand) := goodIn_app (goodIn_of _ (by decide +kernel)) ggX8_misled_X8_isCommand
set_option maxRecDepth 20000 in
theorem ggX8_misled_X8_way : GoodIn wsX8_misled wsX8_way := goodIn_r _ [18, 2, 7, 5, 3, 6, 31, 32, 33, 34, 35, 36, 37, 38, 39, 40, 41, 42, 43, 44, 45, 46, 47, 48, 49, 50, 51, 52, 53, 54, 55, 56, 57, 58, 59, 60, 61, 62, 63, 64, 65, 66, 67, 68, 69, 70, 71, 72] (by decide +kernel) (by decide +kernel)
set_option maxRecDepth 20000 in
theorem gX8_misled_X8_way : GoodIn wsX8_misled (wsV RX8 183 RX8 yX8_way wsX8_way) := goodIn_app (goodIn_of _ (by decide +kernel)) ggX8_misled_X8_way
set_option maxRecDepth 20000 in
theorem ggX8_misled_X8_heading : GoodIn wsX8_misled wsX8_heading := goodIn_r _ [22, 4, 23, 24, 25, 26, 11, 27, 7, 5, 31, 32, 33, 34, 35, 36, 37, 38, 39, 40, 41, 42, 43, 44, 45, 46, 47, 48, 49, 50, 51, 52, 53, 54, 55, 56, 57, 58, 59, 60, 61, 62, 63, 64, 65, 66, 67, 68, 69, 70, 71, 72] (by decide +kernel) (by decide +kernel)
set_option maxRecDepth 20000 in
theorem gX8_misled_X8_heading : GoodIn wsX8_misled (wsV RX8 198 RX8 yX8_heading wsX8_heading) := goodIn_app (goodIn_of _ (by decide +kernel)) ggX8_misled_X8_heading
set_option maxRecDepth 20000 in
theorem ggX8_misled_X8_ones : GoodIn wsX8_misled wsX8_ones := goodIn_r _ [30] (by decide +kernel) (by decide +kernel)
set_option maxRecDepth 20000 in
theorem gX8_misled_X8_ones : GoodIn wsX8_misled (va_wsS RX8 201 yX8_ones wsX8_ones) := goodIn_app (goodIn_of _ (by decide +kernel)) ggX8_misled_X8_ones
theorem dX8_misled_0 : decode cX8_misled 0 = .ok (.aload_n 0, 1) := by decide +kernel
theorem dX8_misled_1 : decode cX8_misled 1 = .ok (.iload_n 1, 1) := by decide +kernel
theorem dX8_misled_2 : decode cX8_misled 2 = .ok (.invokevirtual 122, 3) := by decide +kernel
theorem dX8_misled_5 : decode cX8_misled 5 = .ok (.ifCond .ne 5, 3) := by decide +kernel
theorem dX8_misled_8 : decode cX8_misled 8 = .ok (.iconst 0, 1) := by decide +kernel
theorem dX8_misled_9 : decode cX8_misled 9 = .ok (.ireturn, 1) := by decide +kernel
theorem dX8_misled_10 : decode cX8_misled 10 = .ok (.aload_n 0, 1) := by decide +kernel
theorem dX8_misled_11 : decode cX8_misled 11 = .ok (.getfield 119, 3) := by decide +kernel
theorem dX8_misled_14 : decode cX8_misled 14 = .ok (.ifCond .ne 5, 3) := by decide +kernel
theorem dX8_misled_17 : decode cX8_misled 17 = .ok (.iconst (-1), 1) := by decide +kernel
theorem dX8_misled_18 : decode cX8_misled 18 = .ok (.ireturn, 1) := by decide +kernel
theorem dX8_misled_19 : decode cX8_misled 19 = .ok (.aload_n 0, 1) := by decide +kernel
theorem dX8_misled_20 : decode cX8_misled 20 = .ok (.iload_n 1, 1) := by decide +kernel
theorem dX8_misled_21 : decode cX8_misled 21 = .ok (.invokevirtual 183, 3) := by decide +kernel
theorem dX8_misled_24 : decode cX8_misled 24 = .ok (.iconst 0, 1) := by decide +kernel
theorem dX8_misled_25 : decode cX8_misled 25 = .ok (.istore_n 2, 1) := by decide +kernel
theorem dX8_misled_26 : decode cX8_misled 26 = .ok (.iload_n 2, 1) := by decide +kernel
theorem dX8_misled_27 : decode cX8_misled 27 = .ok (.aload_n 0, 1) := by decide +kernel
theorem dX8_misled_28 : decode cX8_misled 28 = .ok (.getfield 180, 3) := by decide +kernel
theorem dX8_misled_31 : decode cX8_misled 31 = .ok (.if_icmp .ge 116, 3) := by decide +kernel
theorem dX8_misled_34 : decode cX8_misled 34 = .ok (.aload_n 0, 1) := by decide +kernel
theorem dX8_misled_35 : decode cX8_misled 35 = .ok (.getfield 58, 3) := by decide +kernel
theorem dX8_misled_38 : decode cX8_misled 38 = .ok (.iload_n 2, 1) := by decide +kernel
theorem dX8_misled_39 : decode cX8_misled 39 = .ok (.iaload, 1) := by decide +kernel
theorem dX8_misled_40 : decode cX8_misled 40 = .ok (.istore_n 3, 1) := by decide +kernel
theorem dX8_misled_41 : decode cX8_misled 41 = .ok (.aload_n 0, 1) := by decide +kernel
theorem dX8_misled_42 : decode cX8_misled 42 = .ok (.getfield 13, 3) := by decide +kernel
theorem dX8_misled_45 : decode cX8_misled 45 = .ok (.iload_n 1, 1) := by decide +kernel
theorem dX8_misled_46 : decode cX8_misled 46 = .ok (.iaload, 1) := by decide +kernel
theorem dX8_misled_47 : decode cX8_misled 47 = .ok (.aload_n 0, 1) := by decide +kernel
theorem dX8_misled_48 : decode cX8_misled 48 = .ok (.aload_n 0, 1) := by decide +kernel
theorem dX8_misled_49 : decode cX8_misled 49 = .ok (.getfield 36, 3) := by decide +kernel
theorem dX8_misled_52 : decode cX8_misled 52 = .ok (.bipush 9, 2) := by decide +kernel
theorem dX8_misled_54 : decode cX8_misled 54 = .ok (.iload_n 3, 1) := by decide +kernel
theorem dX8_misled_55 : decode cX8_misled 55 = .ok (.imul, 1) := by decide +kernel
theorem dX8_misled_56 : decode cX8_misled 56 = .ok (.aload_n 0, 1) := by decide +kernel
theorem dX8_misled_57 : decode cX8_misled 57 = .ok (.getfield 61, 3) := by decide +kernel
theorem dX8_misled_60 : decode cX8_misled 60 = .ok (.iload_n 2, 1) := by decide +kernel
theorem dX8_misled_61 : decode cX8_misled 61 = .ok (.iaload, 1) := by decide +kernel
theorem dX8_misled_62 : decode cX8_misled 62 = .ok (.iadd, 1) := by decide +kernel
theorem dX8_misled_63 : decode cX8_misled 63 = .ok (.iconst 1, 1) := by decide +kernel
theorem dX8_misled_64 : decode cX8_misled 64 = .ok (.isub, 1) := by decide +kernel
theorem dX8_misled_65 : decode cX8_misled 65 = .ok (.iaload, 1) := by decide +kernel
theorem dX8_misled_66 : decode cX8_misled 66 = .ok (.invokevirtual 198, 3) := by decide +kernel
theorem dX8_misled_69 : decode cX8_misled 69 = .ok (.iand, 1) := by decide +kernel
theorem dX8_misled_70 : decode cX8_misled 70 = .ok (.invokestatic 201, 3) := by decide +kernel
theorem dX8_misled_73 : decode cX8_misled 73 = .ok (.istore 4, 2) := by decide +kernel
theorem dX8_misled_75 : decode cX8_misled 75 = .ok (.iconst 0, 1) := by decide +kernel
theorem dX8_misled_76 : decode cX8_misled 76 = .ok (.istore 5, 2) := by decide +kernel
theorem dX8_misled_78 : decode cX8_misled 78 = .ok (.iload 5, 2) := by decide +kernel
theorem dX8_misled_80 : decode cX8_misled 80 = .ok (.aload_n 0, 1) := by decide +kernel
theorem dX8_misled_81 : decode cX8_misled 81 = .ok (.getfield 39, 3) := by decide +kernel
theorem dX8_misled_84 : decode cX8_misled 84 = .ok (.iload_n 3, 1) := by decide +kernel
theorem dX8_misled_85 : decode cX8_misled 85 = .ok (.iaload, 1) := by decide +kernel
theorem dX8_misled_86 : decode cX8_misled 86 = .ok (.if_icmp .ge 55, 3) := by decide +kernel
theorem dX8_misled_89 : decode cX8_misled 89 = .ok (.iload 5, 2) := by decide +kernel
theorem dX8_misled_91 : decode cX8_misled 91 = .ok (.aload_n 0, 1) := by decide +kernel
theorem dX8_misled_92 : decode cX8_misled 92 = .ok (.getfield 61, 3) := by decide +kernel
theorem dX8_misled_95 : decode cX8_misled 95 = .ok (.iload_n 2, 1) := by decide +kernel
theorem dX8_misled_96 : decode cX8_misled 96 = .ok (.iaload, 1) := by decide +kernel
theorem dX8_misled_97 : decode cX8_misled 97 = .ok (.iconst 1, 1) := by decide +kernel
theorem dX8_misled_98 : decode cX8_misled 98 = .ok (.isub, 1) := by decide +kernel
theorem dX8_misled_99 : decode cX8_misled 99 = .ok (.if_icmp .eq 36, 3) := by decide +kernel
theorem dX8_misled_102 : decode cX8_misled 102 = .ok (.aload_n 0, 1) := by decide +kernel
theorem dX8_misled_103 : decode cX8_misled 103 = .ok (.getfield 13, 3) := by decide +kernel
theorem dX8_misled_106 : decode cX8_misled 106 = .ok (.iload_n 1, 1) := by decide +kernel
theorem dX8_misled_107 : decode cX8_misled 107 = .ok (.iaload, 1) := by decide +kernel
theorem dX8_misled_108 : decode cX8_misled 108 = .ok (.aload_n 0, 1) := by decide +kernel
theorem dX8_misled_109 : decode cX8_misled 109 = .ok (.aload_n 0, 1) := by decide +kernel
theorem dX8_misled_110 : decode cX8_misled 110 = .ok (.getfield 36, 3) := by decide +kernel
theorem dX8_misled_113 : decode cX8_misled 113 = .ok (.bipush 9, 2) := by decide +kernel
theorem dX8_misled_115 : decode cX8_misled 115 = .ok (.iload_n 3, 1) := by decide +kernel
theorem dX8_misled_116 : decode cX8_misled 116 = .ok (.imul, 1) := by decide +kernel
theorem dX8_misled_117 : decode cX8_misled 117 = .ok (.iload 5, 2) := by decide +kernel
theorem dX8_misled_119 : decode cX8_misled 119 = .ok (.iadd, 1) := by decide +kernel
theorem dX8_misled_120 : decode cX8_misled 120 = .ok (.iaload, 1) := by decide +kernel
theorem dX8_misled_121 : decode cX8_misled 121 = .ok (.invokevirtual 198, 3) := by decide +kernel
theorem dX8_misled_124 : decode cX8_misled 124 = .ok (.iand, 1) := by decide +kernel
theorem dX8_misled_125 : decode cX8_misled 125 = .ok (.invokestatic 201, 3) := by decide +kernel
theorem dX8_misled_128 : decode cX8_misled 128 = .ok (.iload 4, 2) := by decide +kernel
theorem dX8_misled_130 : decode cX8_misled 130 = .ok (.if_icmp .lt 5, 3) := by decide +kernel
theorem dX8_misled_133 : decode cX8_misled 133 = .ok (.iload_n 2, 1) := by decide +kernel
theorem dX8_misled_134 : decode cX8_misled 134 = .ok (.ireturn, 1) := by decide +kernel
theorem dX8_misled_135 : decode cX8_misled 135 = .ok (.iinc 5 1, 3) := by decide +kernel
theorem dX8_misled_138 : decode cX8_misled 138 = .ok (.goto (-60), 3) := by decide +kernel
theorem dX8_misled_141 : decode cX8_misled 141 = .ok (.iinc 2 1, 3) := by decide +kernel
theorem dX8_misled_144 : decode cX8_misled 144 = .ok (.goto (-118), 3) := by decide +kernel
theorem dX8_misled_147 : decode cX8_misled 147 = .ok (.iconst (-1), 1) := by decide +kernel
theorem dX8_misled_148 : decode cX8_misled 148 = .ok (.ireturn, 1) := by decide +kernel
theorem dX8_span_0 : decode cX8_span 0 = .ok (.bipush 41, 2) := by decide +kernel
theorem dX8_span_2 : decode cX8_span 2 = .ok (.iload_n 0, 1) := by decide +kernel
theorem dX8_span_3 : decode cX8_span 3 = .ok (.imul, 1) := by decide +kernel
theorem dX8_span_4 : decode cX8_span 4 = .ok (.iload_n 1, 1) := by decide +kernel
theorem dX8_span_5 : decode cX8_span 5 = .ok (.iadd, 1) := by decide +kernel
theorem dX8_span_6 : decode cX8_span 6 = .ok (.bipush 11, 2) := by decide +kernel
theorem dX8_span_8 : decode cX8_span 8 = .ok (.imul, 1) := by decide +kernel
theorem dX8_span_9 : decode cX8_span 9 = .ok (.iload_n 2, 1) := by decide +kernel
theorem dX8_span_10 : decode cX8_span 10 = .ok (.iadd, 1) := by decide +kernel
theorem dX8_span_11 : decode cX8_span 11 = .ok (.ireturn, 1) := by decide +kernel
set_option maxRecDepth 20000 in
theorem ggX8_spans_X8_span : GoodIn wsX8_spans wsX8_span := goodIn_r _ [12] (by decide +kernel) (by decide +kernel)
set_option maxRecDepth 20000 in
theorem gX8_spans_X8_span : GoodIn wsX8_spans (va_wsS RX8 204 yX8_span wsX8_span) := goodIn_app (goodIn_of _ (by decide +kernel)) ggX8_spans_X8_span
theorem dX8_spans_0 : decode cX8_spans 0 = .ok (.iload_n 1, 1) := by decide +kernel
theorem dX8_spans_1 : decode cX8_spans 1 = .ok (.iload_n 2, 1) := by decide +kernel
theorem dX8_spans_2 : decode cX8_spans 2 = .ok (.iload_n 3, 1) := by decide +kernel
theorem dX8_spans_3 : decode cX8_spans 3 = .ok (.invokestatic 204, 3) := by decide +kernel
theorem dX8_spans_6 : decode cX8_spans 6 = .ok (.istore 4, 2) := by decide +kernel
theorem dX8_spans_8 : decode cX8_spans 8 = .ok (.aload_n 0, 1) := by decide +kernel
theorem dX8_spans_9 : decode cX8_spans 9 = .ok (.getfield 67, 3) := by decide +kernel
theorem dX8_spans_12 : decode cX8_spans 12 = .ok (.iload 4, 2) := by decide +kernel
theorem dX8_spans_14 : decode cX8_spans 14 = .ok (.ldc2_w 208, 3) := by decide +kernel
theorem dX8_spans_17 : decode cX8_spans 17 = .ok (.lastore, 1) := by decide +kernel
theorem dX8_spans_18 : decode cX8_spans 18 = .ok (.iload_n 2, 1) := by decide +kernel
theorem dX8_spans_19 : decode cX8_spans 19 = .ok (.iload_n 1, 1) := by decide +kernel
theorem dX8_spans_20 : decode cX8_spans 20 = .ok (.isub, 1) := by decide +kernel
theorem dX8_spans_21 : decode cX8_spans 21 = .ok (.istore 5, 2) := by decide +kernel
theorem dX8_spans_23 : decode cX8_spans 23 = .ok (.iconst 1, 1) := by decide +kernel
theorem dX8_spans_24 : decode cX8_spans 24 = .ok (.istore 6, 2) := by decide +kernel
theorem dX8_spans_26 : decode cX8_spans 26 = .ok (.iload 6, 2) := by decide +kernel
theorem dX8_spans_28 : decode cX8_spans 28 = .ok (.iload_n 3, 1) := by decide +kernel
theorem dX8_spans_29 : decode cX8_spans 29 = .ok (.iconst 1, 1) := by decide +kernel
theorem dX8_spans_30 : decode cX8_spans 30 = .ok (.if_icmp .ne 16, 3) := by decide +kernel
theorem dX8_spans_33 : decode cX8_spans 33 = .ok (.iload 5, 2) := by decide +kernel
theorem dX8_spans_35 : decode cX8_spans 35 = .ok (.iconst 1, 1) := by decide +kernel
theorem dX8_spans_36 : decode cX8_spans 36 = .ok (.if_icmp .le 10, 3) := by decide +kernel
theorem dX8_spans_39 : decode cX8_spans 39 = .ok (.iload 5, 2) := by decide +kernel
theorem dX8_spans_41 : decode cX8_spans 41 = .ok (.iconst 1, 1) := by decide +kernel
theorem dX8_spans_42 : decode cX8_spans 42 = .ok (.isub, 1) := by decide +kernel
theorem dX8_spans_43 : decode cX8_spans 43 = .ok (.goto 5, 3) := by decide +kernel
theorem dX8_spans_46 : decode cX8_spans 46 = .ok (.iload 5, 2) := by decide +kernel
theorem dX8_spans_48 : decode cX8_spans 48 = .ok (.if_icmp .gt 222, 3) := by decide +kernel
theorem dX8_spans_51 : decode cX8_spans 51 = .ok (.aload_n 0, 1) := by decide +kernel
theorem dX8_spans_52 : decode cX8_spans 52 = .ok (.getfield 77, 3) := by decide +kernel
theorem dX8_spans_55 : decode cX8_spans 55 = .ok (.iload_n 1, 1) := by decide +kernel
theorem dX8_spans_56 : decode cX8_spans 56 = .ok (.iload 6, 2) := by decide +kernel
theorem dX8_spans_58 : decode cX8_spans 58 = .ok (.iadd, 1) := by decide +kernel
theorem dX8_spans_59 : decode cX8_spans 59 = .ok (.laload, 1) := by decide +kernel
theorem dX8_spans_60 : decode cX8_spans 60 = .ok (.aload_n 0, 1) := by decide +kernel
theorem dX8_spans_61 : decode cX8_spans 61 = .ok (.getfield 77, 3) := by decide +kernel
theorem dX8_spans_64 : decode cX8_spans 64 = .ok (.iload_n 1, 1) := by decide +kernel
theorem dX8_spans_65 : decode cX8_spans 65 = .ok (.laload, 1) := by decide +kernel
theorem dX8_spans_66 : decode cX8_spans 66 = .ok (.lsub, 1) := by decide +kernel
theorem dX8_spans_67 : decode cX8_spans 67 = .ok (.lstore 7, 2) := by decide +kernel
theorem dX8_spans_69 : decode cX8_spans 69 = .ok (.aload_n 0, 1) := by decide +kernel
theorem dX8_spans_70 : decode cX8_spans 70 = .ok (.getfield 16, 3) := by decide +kernel
theorem dX8_spans_73 : decode cX8_spans 73 = .ok (.iload_n 3, 1) := by decide +kernel
theorem dX8_spans_74 : decode cX8_spans 74 = .ok (.imul, 1) := by decide +kernel
theorem dX8_spans_75 : decode cX8_spans 75 = .ok (.i2l, 1) := by decide +kernel
theorem dX8_spans_76 : decode cX8_spans 76 = .ok (.lload 7, 2) := by decide +kernel
theorem dX8_spans_78 : decode cX8_spans 78 = .ok (.lmul, 1) := by decide +kernel
theorem dX8_spans_79 : decode cX8_spans 79 = .ok (.lstore 9, 2) := by decide +kernel
theorem dX8_spans_81 : decode cX8_spans 81 = .ok (.iconst 0, 1) := by decide +kernel
theorem dX8_spans_82 : decode cX8_spans 82 = .ok (.istore 11, 2) := by decide +kernel
theorem dX8_spans_84 : decode cX8_spans 84 = .ok (.iload 6, 2) := by decide +kernel
theorem dX8_spans_86 : decode cX8_spans 86 = .ok (.iconst 1, 1) := by decide +kernel
theorem dX8_spans_87 : decode cX8_spans 87 = .ok (.if_icmp .le 49, 3) := by decide +kernel
theorem dX8_spans_90 : decode cX8_spans 90 = .ok (.lload 9, 2) := by decide +kernel
theorem dX8_spans_92 : decode cX8_spans 92 = .ok (.aload_n 0, 1) := by decide +kernel
theorem dX8_spans_93 : decode cX8_spans 93 = .ok (.getfield 20, 3) := by decide +kernel
theorem dX8_spans_96 : decode cX8_spans 96 = .ok (.i2l, 1) := by decide +kernel
theorem dX8_spans_97 : decode cX8_spans 97 = .ok (.lload 7, 2) := by decide +kernel
theorem dX8_spans_99 : decode cX8_spans 99 = .ok (.lmul, 1) := by decide +kernel
theorem dX8_spans_100 : decode cX8_spans 100 = .ok (.aload_n 0, 1) := by decide +kernel
theorem dX8_spans_101 : decode cX8_spans 101 = .ok (.getfield 67, 3) := by decide +kernel
theorem dX8_spans_104 : decode cX8_spans 104 = .ok (.iload_n 1, 1) := by decide +kernel
theorem dX8_spans_105 : decode cX8_spans 105 = .ok (.iload_n 1, 1) := by decide +kernel
theorem dX8_spans_106 : decode cX8_spans 106 = .ok (.iload 6, 2) := by decide +kernel
theorem dX8_spans_108 : decode cX8_spans 108 = .ok (.iadd, 1) := by decide +kernel
theorem dX8_spans_109 : decode cX8_spans 109 = .ok (.iconst 1, 1) := by decide +kernel
theorem dX8_spans_110 : decode cX8_spans 110 = .ok (.invokestatic 204, 3) := by decide +kernel
theorem dX8_spans_113 : decode cX8_spans 113 = .ok (.laload, 1) := by decide +kernel
theorem dX8_spans_114 : decode cX8_spans 114 = .ok (.ladd, 1) := by decide +kernel
theorem dX8_spans_115 : decode cX8_spans 115 = .ok (.ladd, 1) := by decide +kernel
theorem dX8_spans_116 : decode cX8_spans 116 = .ok (.lstore 9, 2) := by decide +kernel
theorem dX8_spans_118 : decode cX8_spans 118 = .ok (.iconst 1, 1) := by decide +kernel
theorem dX8_spans_119 : decode cX8_spans 119 = .ok (.aload_n 0, 1) := by decide +kernel
theorem dX8_spans_120 : decode cX8_spans 120 = .ok (.getfield 71, 3) := by decide +kernel
theorem dX8_spans_123 : decode cX8_spans 123 = .ok (.iload_n 1, 1) := by decide +kernel
theorem dX8_spans_124 : decode cX8_spans 124 = .ok (.iload_n 1, 1) := by decide +kernel
theorem dX8_spans_125 : decode cX8_spans 125 = .ok (.iload 6, 2) := by decide +kernel
theorem dX8_spans_127 : decode cX8_spans 127 = .ok (.iadd, 1) := by decide +kernel
theorem dX8_spans_128 : decode cX8_spans 128 = .ok (.iconst 1, 1) := by decide +kernel
theorem dX8_spans_129 : decode cX8_spans 129 = .ok (.invokestatic 204, 3) := by decide +kernel
theorem dX8_spans_132 : decode cX8_spans 132 = .ok (.iaload, 1) := by decide +kernel
theorem dX8_spans_133 : decode cX8_spans 133 = .ok (.iadd, 1) := by decide +kernel
theorem dX8_spans_134 : decode cX8_spans 134 = .ok (.istore 11, 2) := by decide +kernel
theorem dX8_spans_136 : decode cX8_spans 136 = .ok (.iload 6, 2) := by decide +kernel
theorem dX8_spans_138 : decode cX8_spans 138 = .ok (.iload 5, 2) := by decide +kernel
theorem dX8_spans_140 : decode cX8_spans 140 = .ok (.if_icmp .ge 56, 3) := by decide +kernel
theorem dX8_spans_143 : decode cX8_spans 143 = .ok (.iload_n 3, 1) := by decide +kernel
theorem dX8_spans_144 : decode cX8_spans 144 = .ok (.aload_n 0, 1) := by decide +kernel
theorem dX8_spans_145 : decode cX8_spans 145 = .ok (.getfield 23, 3) := by decide +kernel
theorem dX8_spans_148 : decode cX8_spans 148 = .ok (.if_icmp .ne 6, 3) := by decide +kernel
theorem dX8_spans_151 : decode cX8_spans 151 = .ok (.goto 113, 3) := by decide +kernel
theorem dX8_spans_154 : decode cX8_spans 154 = .ok (.lload 9, 2) := by decide +kernel
theorem dX8_spans_156 : decode cX8_spans 156 = .ok (.aload_n 0, 1) := by decide +kernel
theorem dX8_spans_157 : decode cX8_spans 157 = .ok (.getfield 67, 3) := by decide +kernel
theorem dX8_spans_160 : decode cX8_spans 160 = .ok (.iload_n 1, 1) := by decide +kernel
theorem dX8_spans_161 : decode cX8_spans 161 = .ok (.iload 6, 2) := by decide +kernel
theorem dX8_spans_163 : decode cX8_spans 163 = .ok (.iadd, 1) := by decide +kernel
theorem dX8_spans_164 : decode cX8_spans 164 = .ok (.iload_n 2, 1) := by decide +kernel
theorem dX8_spans_165 : decode cX8_spans 165 = .ok (.iload_n 3, 1) := by decide +kernel
theorem dX8_spans_166 : decode cX8_spans 166 = .ok (.iconst 1, 1) := by decide +kernel
theorem dX8_spans_167 : decode cX8_spans 167 = .ok (.iadd, 1) := by decide +kernel
theorem dX8_spans_168 : decode cX8_spans 168 = .ok (.invokestatic 204, 3) := by decide +kernel
theorem dX8_spans_171 : decode cX8_spans 171 = .ok (.laload, 1) := by decide +kernel
theorem dX8_spans_172 : decode cX8_spans 172 = .ok (.ladd, 1) := by decide +kernel
theorem dX8_spans_173 : decode cX8_spans 173 = .ok (.lstore 9, 2) := by decide +kernel
theorem dX8_spans_175 : decode cX8_spans 175 = .ok (.iload 11, 2) := by decide +kernel
theorem dX8_spans_177 : decode cX8_spans 177 = .ok (.aload_n 0, 1) := by decide +kernel
theorem dX8_spans_178 : decode cX8_spans 178 = .ok (.getfield 71, 3) := by decide +kernel
theorem dX8_spans_181 : decode cX8_spans 181 = .ok (.iload_n 1, 1) := by decide +kernel
theorem dX8_spans_182 : decode cX8_spans 182 = .ok (.iload 6, 2) := by decide +kernel
theorem dX8_spans_184 : decode cX8_spans 184 = .ok (.iadd, 1) := by decide +kernel
theorem dX8_spans_185 : decode cX8_spans 185 = .ok (.iload_n 2, 1) := by decide +kernel
theorem dX8_spans_186 : decode cX8_spans 186 = .ok (.iload_n 3, 1) := by decide +kernel
theorem dX8_spans_187 : decode cX8_spans 187 = .ok (.iconst 1, 1) := by decide +kernel
theorem dX8_spans_188 : decode cX8_spans 188 = .ok (.iadd, 1) := by decide +kernel
theorem dX8_spans_189 : decode cX8_spans 189 = .ok (.invokestatic 204, 3) := by decide +kernel
theorem dX8_spans_192 : decode cX8_spans 192 = .ok (.iaload, 1) := by decide +kernel
theorem dX8_spans_193 : decode cX8_spans 193 = .ok (.iadd, 1) := by decide +kernel
theorem dX8_spans_194 : decode cX8_spans 194 = .ok (.istore 11, 2) := by decide +kernel
theorem dX8_spans_196 : decode cX8_spans 196 = .ok (.lload 9, 2) := by decide +kernel
theorem dX8_spans_198 : decode cX8_spans 198 = .ok (.aload_n 0, 1) := by decide +kernel
theorem dX8_spans_199 : decode cX8_spans 199 = .ok (.getfield 67, 3) := by decide +kernel
theorem dX8_spans_202 : decode cX8_spans 202 = .ok (.iload 4, 2) := by decide +kernel
theorem dX8_spans_204 : decode cX8_spans 204 = .ok (.laload, 1) := by decide +kernel
theorem dX8_spans_205 : decode cX8_spans 205 = .ok (.lcmp, 1) := by decide +kernel
theorem dX8_spans_206 : decode cX8_spans 206 = .ok (.ifCond .gt 58, 3) := by decide +kernel
theorem dX8_spans_209 : decode cX8_spans 209 = .ok (.lload 9, 2) := by decide +kernel
theorem dX8_spans_211 : decode cX8_spans 211 = .ok (.aload_n 0, 1) := by decide +kernel
theorem dX8_spans_212 : decode cX8_spans 212 = .ok (.getfield 67, 3) := by decide +kernel
theorem dX8_spans_215 : decode cX8_spans 215 = .ok (.iload 4, 2) := by decide +kernel
theorem dX8_spans_217 : decode cX8_spans 217 = .ok (.laload, 1) := by decide +kernel
theorem dX8_spans_218 : decode cX8_spans 218 = .ok (.lcmp, 1) := by decide +kernel
theorem dX8_spans_219 : decode cX8_spans 219 = .ok (.ifCond .ne 18, 3) := by decide +kernel
theorem dX8_spans_222 : decode cX8_spans 222 = .ok (.iload 11, 2) := by decide +kernel
theorem dX8_spans_224 : decode cX8_spans 224 = .ok (.aload_n 0, 1) := by decide +kernel
theorem dX8_spans_225 : decode cX8_spans 225 = .ok (.getfield 71, 3) := by decide +kernel
theorem dX8_spans_228 : decode cX8_spans 228 = .ok (.iload 4, 2) := by decide +kernel
theorem dX8_spans_230 : decode cX8_spans 230 = .ok (.iaload, 1) := by decide +kernel
theorem dX8_spans_231 : decode cX8_spans 231 = .ok (.if_icmp .lt 6, 3) := by decide +kernel
theorem dX8_spans_234 : decode cX8_spans 234 = .ok (.goto 30, 3) := by decide +kernel
theorem dX8_spans_237 : decode cX8_spans 237 = .ok (.aload_n 0, 1) := by decide +kernel
theorem dX8_spans_238 : decode cX8_spans 238 = .ok (.getfield 67, 3) := by decide +kernel
theorem dX8_spans_241 : decode cX8_spans 241 = .ok (.iload 4, 2) := by decide +kernel
theorem dX8_spans_243 : decode cX8_spans 243 = .ok (.lload 9, 2) := by decide +kernel
theorem dX8_spans_245 : decode cX8_spans 245 = .ok (.lastore, 1) := by decide +kernel
theorem dX8_spans_246 : decode cX8_spans 246 = .ok (.aload_n 0, 1) := by decide +kernel
theorem dX8_spans_247 : decode cX8_spans 247 = .ok (.getfield 71, 3) := by decide +kernel
theorem dX8_spans_250 : decode cX8_spans 250 = .ok (.iload 4, 2) := by decide +kernel
theorem dX8_spans_252 : decode cX8_spans 252 = .ok (.iload 11, 2) := by decide +kernel
theorem dX8_spans_254 : decode cX8_spans 254 = .ok (.iastore, 1) := by decide +kernel
theorem dX8_spans_255 : decode cX8_spans 255 = .ok (.aload_n 0, 1) := by decide +kernel
theorem dX8_spans_256 : decode cX8_spans 256 = .ok (.getfield 74, 3) := by decide +kernel
theorem dX8_spans_259 : decode cX8_spans 259 = .ok (.iload 4, 2) := by decide +kernel
theorem dX8_spans_261 : decode cX8_spans 261 = .ok (.iload 6, 2) := by decide +kernel
theorem dX8_spans_263 : decode cX8_spans 263 = .ok (.iastore, 1) := by decide +kernel
theorem dX8_spans_264 : decode cX8_spans 264 = .ok (.iinc 6 1, 3) := by decide +kernel
theorem dX8_spans_267 : decode cX8_spans 267 = .ok (.goto (-241), 3) := by decide +kernel
theorem dX8_spans_270 : decode cX8_spans 270 = .ok (.return_, 1) := by decide +kernel
set_option maxRecDepth 20000 in
theorem ggX8_plan_X8_spans : GoodIn wsX8_plan wsX8_spans := goodIn_r _ [13, 8, 14, 4, 15, 16, 17, 6, 18, 19, 20, 12, 21, 43, 44, 45, 46, 47, 48, 49, 50, 51, 52, 53, 54, 55, 56, 57, 58, 59, 60, 61, 62, 63, 64, 65, 66, 67, 68, 69, 70, 71, 72, 73, 74, 75, 76, 77, 78, 79, 80, 81, 82, 83, 84] (by decide +kernel) (by decide +kernel)
set_option maxRecDepth 20000 in
theorem gX8_plan_X8_spans : GoodIn wsX8_plan (wsV RX8 210 RX8 yX8_spans wsX8_spans) := goodIn_app (goodIn_of _ (by decide +kernel)) ggX8_plan_X8_spans
set_option maxRecDepth 20000 in
theorem ggX8_plan_X8_newList : GoodIn wsX8_plan wsX8_newList := goodIn_r _ [25, 26, 7, 43, 44, 45, 46, 47, 48, 49, 50, 51, 52, 53, 54, 55, 56, 57, 58, 59, 60, 61, 62, 63, 64, 65, 66, 67, 68, 69, 70, 71, 72, 73, 74, 75, 76, 77, 78, 79, 80, 81, 82, 83, 84] (by decide +kernel) (by decide +kernel)
set_option maxRecDepth 20000 in
theorem gX8_plan_X8_newList : GoodIn wsX8_plan (wsV RX8 154 RX8 yX8_newList wsX8_newList) := goodIn_app (goodIn_of _ (by decide +kernel)) ggX8_plan_X8_newList
set_option maxRecDepth 20000 in
theorem ggX8_plan_X8_builds : GoodIn wsX8_plan wsX8_builds := goodIn_r _ [30, 18, 19, 20, 12, 21, 31, 32, 33, 34, 35, 26, 22, 23, 24, 25, 7, 27, 28, 29, 43, 44, 45, 46, 47, 48, 49, 50, 51, 52, 53, 54, 55, 56, 57, 58, 59, 60, 61, 62, 63, 64, 65, 66, 67, 68, 69, 70, 71, 72, 73, 74, 75, 76, 77, 78, 79, 80, 81, 82, 83, 84] (by decide +kernel) (by decide +kernel)
set_option maxRecDepth 20000 in
theorem gX8_plan_X8_builds : GoodIn wsX8_plan (wsV RX8 214 RX8 yX8_builds wsX8_builds) := goodIn_app (goodIn_of _ (by decide +kernel)) ggX8_plan_X8_builds
set_option maxRecDepth 20000 in
theorem ggX8_plan_X8_becomes : GoodIn wsX8_plan wsX8_becomes := goodIn_r _ [39, 40, 35, 41, 26, 7, 42, 43, 44, 45, 46, 47, 48, 49, 50, 51, 52, 53, 54, 55, 56, 57, 58, 59, 60, 61, 62, 63, 64, 65, 66, 67, 68, 69, 70, 71, 72, 73, 74, 75, 76, 77, 78, 79, 80, 81, 82, 83, 84] (by decide +kernel) (by decide +kernel)
set_option maxRecDepth 20000 in
theorem gX8_plan_X8_becomes : GoodIn wsX8_plan (wsV RX8 171 RX8 yX8_becomes wsX8_becomes) := goodIn_app (goodIn_of _ (by decide +kernel)) ggX8_plan_X8_becomes
set_option maxRecDepth 20000 in
theorem ggX8_plan_X8_span : GoodIn wsX8_plan wsX8_span := goodIn_r _ [21] (by decide +kernel) (by decide +kernel)
set_option maxRecDepth 20000 in
theorem gX8_plan_X8_span : GoodIn wsX8_plan (va_wsS RX8 204 yX8_span wsX8_span) := goodIn_app (goodIn_of _ (by decide +kernel)) ggX8_plan_X8_span
theorem dX8_plan_0 : decode cX8_plan 0 = .ok (.aload_n 0, 1) := by decide +kernel
theorem dX8_plan_1 : decode cX8_plan 1 = .ok (.iconst 0, 1) := by decide +kernel
theorem dX8_plan_2 : decode cX8_plan 2 = .ok (.putfield 101, 3) := by decide +kernel
theorem dX8_plan_5 : decode cX8_plan 5 = .ok (.aload_n 0, 1) := by decide +kernel
theorem dX8_plan_6 : decode cX8_plan 6 = .ok (.getfield 116, 3) := by decide +kernel
theorem dX8_plan_9 : decode cX8_plan 9 = .ok (.ifCond .ne 7, 3) := by decide +kernel
theorem dX8_plan_12 : decode cX8_plan 12 = .ok (.ldc2_w 189, 3) := by decide +kernel
theorem dX8_plan_15 : decode cX8_plan 15 = .ok (.lreturn, 1) := by decide +kernel
theorem dX8_plan_16 : decode cX8_plan 16 = .ok (.iconst 0, 1) := by decide +kernel
theorem dX8_plan_17 : decode cX8_plan 17 = .ok (.istore_n 1, 1) := by decide +kernel
theorem dX8_plan_18 : decode cX8_plan 18 = .ok (.iload_n 1, 1) := by decide +kernel
theorem dX8_plan_19 : decode cX8_plan 19 = .ok (.aload_n 0, 1) := by decide +kernel
theorem dX8_plan_20 : decode cX8_plan 20 = .ok (.getfield 116, 3) := by decide +kernel
theorem dX8_plan_23 : decode cX8_plan 23 = .ok (.if_icmp .ge 31, 3) := by decide +kernel
theorem dX8_plan_26 : decode cX8_plan 26 = .ok (.aload_n 0, 1) := by decide +kernel
theorem dX8_plan_27 : decode cX8_plan 27 = .ok (.getfield 77, 3) := by decide +kernel
theorem dX8_plan_30 : decode cX8_plan 30 = .ok (.iload_n 1, 1) := by decide +kernel
theorem dX8_plan_31 : decode cX8_plan 31 = .ok (.iconst 1, 1) := by decide +kernel
theorem dX8_plan_32 : decode cX8_plan 32 = .ok (.iadd, 1) := by decide +kernel
theorem dX8_plan_33 : decode cX8_plan 33 = .ok (.aload_n 0, 1) := by decide +kernel
theorem dX8_plan_34 : decode cX8_plan 34 = .ok (.getfield 77, 3) := by decide +kernel
theorem dX8_plan_37 : decode cX8_plan 37 = .ok (.iload_n 1, 1) := by decide +kernel
theorem dX8_plan_38 : decode cX8_plan 38 = .ok (.laload, 1) := by decide +kernel
theorem dX8_plan_39 : decode cX8_plan 39 = .ok (.aload_n 0, 1) := by decide +kernel
theorem dX8_plan_40 : decode cX8_plan 40 = .ok (.getfield 9, 3) := by decide +kernel
theorem dX8_plan_43 : decode cX8_plan 43 = .ok (.iload_n 1, 1) := by decide +kernel
theorem dX8_plan_44 : decode cX8_plan 44 = .ok (.iaload, 1) := by decide +kernel
theorem dX8_plan_45 : decode cX8_plan 45 = .ok (.i2l, 1) := by decide +kernel
theorem dX8_plan_46 : decode cX8_plan 46 = .ok (.ladd, 1) := by decide +kernel
theorem dX8_plan_47 : decode cX8_plan 47 = .ok (.lastore, 1) := by decide +kernel
theorem dX8_plan_48 : decode cX8_plan 48 = .ok (.iinc 1 1, 3) := by decide +kernel
theorem dX8_plan_51 : decode cX8_plan 51 = .ok (.goto (-33), 3) := by decide +kernel
theorem dX8_plan_54 : decode cX8_plan 54 = .ok (.iconst 1, 1) := by decide +kernel
theorem dX8_plan_55 : decode cX8_plan 55 = .ok (.istore_n 1, 1) := by decide +kernel
theorem dX8_plan_56 : decode cX8_plan 56 = .ok (.iload_n 1, 1) := by decide +kernel
theorem dX8_plan_57 : decode cX8_plan 57 = .ok (.aload_n 0, 1) := by decide +kernel
theorem dX8_plan_58 : decode cX8_plan 58 = .ok (.getfield 116, 3) := by decide +kernel
theorem dX8_plan_61 : decode cX8_plan 61 = .ok (.if_icmp .gt 52, 3) := by decide +kernel
theorem dX8_plan_64 : decode cX8_plan 64 = .ok (.iconst 0, 1) := by decide +kernel
theorem dX8_plan_65 : decode cX8_plan 65 = .ok (.istore_n 2, 1) := by decide +kernel
theorem dX8_plan_66 : decode cX8_plan 66 = .ok (.iload_n 2, 1) := by decide +kernel
theorem dX8_plan_67 : decode cX8_plan 67 = .ok (.iload_n 1, 1) := by decide +kernel
theorem dX8_plan_68 : decode cX8_plan 68 = .ok (.iadd, 1) := by decide +kernel
theorem dX8_plan_69 : decode cX8_plan 69 = .ok (.aload_n 0, 1) := by decide +kernel
theorem dX8_plan_70 : decode cX8_plan 70 = .ok (.getfield 116, 3) := by decide +kernel
theorem dX8_plan_73 : decode cX8_plan 73 = .ok (.if_icmp .gt 34, 3) := by decide +kernel
theorem dX8_plan_76 : decode cX8_plan 76 = .ok (.iconst 1, 1) := by decide +kernel
theorem dX8_plan_77 : decode cX8_plan 77 = .ok (.istore_n 3, 1) := by decide +kernel
theorem dX8_plan_78 : decode cX8_plan 78 = .ok (.iload_n 3, 1) := by decide +kernel
theorem dX8_plan_79 : decode cX8_plan 79 = .ok (.aload_n 0, 1) := by decide +kernel
theorem dX8_plan_80 : decode cX8_plan 80 = .ok (.getfield 23, 3) := by decide +kernel
theorem dX8_plan_83 : decode cX8_plan 83 = .ok (.if_icmp .gt 18, 3) := by decide +kernel
theorem dX8_plan_86 : decode cX8_plan 86 = .ok (.aload_n 0, 1) := by decide +kernel
theorem dX8_plan_87 : decode cX8_plan 87 = .ok (.iload_n 2, 1) := by decide +kernel
theorem dX8_plan_88 : decode cX8_plan 88 = .ok (.iload_n 2, 1) := by decide +kernel
theorem dX8_plan_89 : decode cX8_plan 89 = .ok (.iload_n 1, 1) := by decide +kernel
theorem dX8_plan_90 : decode cX8_plan 90 = .ok (.iadd, 1) := by decide +kernel
theorem dX8_plan_91 : decode cX8_plan 91 = .ok (.iload_n 3, 1) := by decide +kernel
theorem dX8_plan_92 : decode cX8_plan 92 = .ok (.invokevirtual 210, 3) := by decide +kernel
theorem dX8_plan_95 : decode cX8_plan 95 = .ok (.iinc 3 1, 3) := by decide +kernel
theorem dX8_plan_98 : decode cX8_plan 98 = .ok (.goto (-20), 3) := by decide +kernel
theorem dX8_plan_101 : decode cX8_plan 101 = .ok (.iinc 2 1, 3) := by decide +kernel
theorem dX8_plan_104 : decode cX8_plan 104 = .ok (.goto (-38), 3) := by decide +kernel
theorem dX8_plan_107 : decode cX8_plan 107 = .ok (.iinc 1 1, 3) := by decide +kernel
theorem dX8_plan_110 : decode cX8_plan 110 = .ok (.goto (-54), 3) := by decide +kernel
theorem dX8_plan_113 : decode cX8_plan 113 = .ok (.aload_n 0, 1) := by decide +kernel
theorem dX8_plan_114 : decode cX8_plan 114 = .ok (.iconst 0, 1) := by decide +kernel
theorem dX8_plan_115 : decode cX8_plan 115 = .ok (.putfield 131, 3) := by decide +kernel
theorem dX8_plan_118 : decode cX8_plan 118 = .ok (.aload_n 0, 1) := by decide +kernel
theorem dX8_plan_119 : decode cX8_plan 119 = .ok (.aload_n 0, 1) := by decide +kernel
theorem dX8_plan_120 : decode cX8_plan 120 = .ok (.invokevirtual 154, 3) := by decide +kernel
theorem dX8_plan_123 : decode cX8_plan 123 = .ok (.iconst 0, 1) := by decide +kernel
theorem dX8_plan_124 : decode cX8_plan 124 = .ok (.aload_n 0, 1) := by decide +kernel
theorem dX8_plan_125 : decode cX8_plan 125 = .ok (.getfield 116, 3) := by decide +kernel
theorem dX8_plan_128 : decode cX8_plan 128 = .ok (.invokevirtual 214, 3) := by decide +kernel
theorem dX8_plan_131 : decode cX8_plan 131 = .ok (.aload_n 0, 1) := by decide +kernel
theorem dX8_plan_132 : decode cX8_plan 132 = .ok (.invokevirtual 171, 3) := by decide +kernel
theorem dX8_plan_135 : decode cX8_plan 135 = .ok (.aload_n 0, 1) := by decide +kernel
theorem dX8_plan_136 : decode cX8_plan 136 = .ok (.getfield 67, 3) := by decide +kernel
theorem dX8_plan_139 : decode cX8_plan 139 = .ok (.iconst 0, 1) := by decide +kernel
theorem dX8_plan_140 : decode cX8_plan 140 = .ok (.aload_n 0, 1) := by decide +kernel
theorem dX8_plan_141 : decode cX8_plan 141 = .ok (.getfield 116, 3) := by decide +kernel
theorem dX8_plan_144 : decode cX8_plan 144 = .ok (.iconst 1, 1) := by decide +kernel
theorem dX8_plan_145 : decode cX8_plan 145 = .ok (.invokestatic 204, 3) := by decide +kernel
theorem dX8_plan_148 : decode cX8_plan 148 = .ok (.laload, 1) := by decide +kernel
theorem dX8_plan_149 : decode cX8_plan 149 = .ok (.lreturn, 1) := by decide +kernel
set_option maxRecDepth 20000 in
theorem ggX8_builds_X8_span : GoodIn wsX8_builds wsX8_span := goodIn_r _ [5] (by decide +kernel) (by decide +kernel)
set_option maxRecDepth 20000 in
theorem gX8_builds_X8_span : GoodIn wsX8_builds (va_wsS RX8 204 yX8_span wsX8_span) := goodIn_app (goodIn_of _ (by decide +kernel)) ggX8_builds_X8_span
set_option maxRecDepth 20000 in
theorem ggX8_builds_X8_adds : GoodIn wsX8_builds wsX8_adds := goodIn_r _ [9, 10, 11, 20, 21, 22, 23, 24, 25, 26, 27, 28, 29, 30, 31, 32, 33, 34, 35, 36, 37, 38, 39, 40, 41, 42, 43, 44, 45, 46, 47, 48, 49, 50, 51, 52, 53, 54, 55, 56, 57, 58, 59, 60, 61] (by decide +kernel) (by decide +kernel)
set_option maxRecDepth 20000 in
theorem gX8_builds_X8_adds : GoodIn wsX8_builds (wsV RX8 165 RX8 yX8_adds wsX8_adds) := goodIn_app (goodIn_of _ (by decide +kernel)) ggX8_builds_X8_adds
set_option maxRecDepth 20000 in
theorem ggX8_builds_X8_newList : GoodIn wsX8_builds wsX8_newList := goodIn_r _ [15, 11, 16, 20, 21, 22, 23, 24, 25, 26, 27, 28, 29, 30, 31, 32, 33, 34, 35, 36, 37, 38, 39, 40, 41, 42, 43, 44, 45, 46, 47, 48, 49, 50, 51, 52, 53, 54, 55, 56, 57, 58, 59, 60, 61] (by decide +kernel) (by decide +kernel)
set_option maxRecDepth 20000 in
theorem gX8_builds_X8_newList : GoodIn wsX8_builds (wsV RX8 154 RX8 yX8_newList wsX8_newList) := goodIn_app (goodIn_of _ (by decide +kernel)) ggX8_builds_X8_newList
set_option maxRecDepth 20000 in
theorem ggX8_builds_X8_builds : GoodIn wsX8_builds wsX8_builds := goodIn_r _ [0, 1, 2, 3, 4, 5, 6, 7, 8, 9, 10, 11, 12, 13, 14, 15, 16, 17, 18, 19, 20, 21, 22, 23, 24, 25, 26, 27, 28, 29, 30, 31, 32, 33, 34, 35, 36, 37, 38, 39, 40, 41, 42, 43, 44, 45, 46, 47, 48, 49, 50, 51, 52, 53, 54, 55, 56, 57, 58, 59, 60, 61] (by decide +kernel) (by decide +kernel)
set_option maxRecDepth 20000 in
theorem gX8_builds_X8_builds : GoodIn wsX8_builds (wsV RX8 214 RX8 yX8_builds wsX8_builds) := goodIn_app (goodIn_of _ (by decide +kernel)) ggX8_builds_X8_builds
theorem dX8_builds_0 : decode cX8_builds 0 = .ok (.iload_n 2, 1) := by decide +kernel
theorem dX8_builds_1 : decode cX8_builds 1 = .ok (.istore 4, 2) := by decide +kernel
theorem dX8_builds_3 : decode cX8_builds 3 = .ok (.iconst 1, 1) := by decide +kernel
theorem dX8_builds_4 : decode cX8_builds 4 = .ok (.istore 5, 2) := by decide +kernel
theorem dX8_builds_6 : decode cX8_builds 6 = .ok (.iload 4, 2) := by decide +kernel
theorem dX8_builds_8 : decode cX8_builds 8 = .ok (.iload_n 3, 1) := by decide +kernel
theorem dX8_builds_9 : decode cX8_builds 9 = .ok (.if_icmp .ge 76, 3) := by decide +kernel
theorem dX8_builds_12 : decode cX8_builds 12 = .ok (.aload_n 0, 1) := by decide +kernel
theorem dX8_builds_13 : decode cX8_builds 13 = .ok (.getfield 74, 3) := by decide +kernel
theorem dX8_builds_16 : decode cX8_builds 16 = .ok (.iload 4, 2) := by decide +kernel
theorem dX8_builds_18 : decode cX8_builds 18 = .ok (.iload_n 3, 1) := by decide +kernel
theorem dX8_builds_19 : decode cX8_builds 19 = .ok (.iload 5, 2) := by decide +kernel
theorem dX8_builds_21 : decode cX8_builds 21 = .ok (.invokestatic 204, 3) := by decide +kernel
theorem dX8_builds_24 : decode cX8_builds 24 = .ok (.iaload, 1) := by decide +kernel
theorem dX8_builds_25 : decode cX8_builds 25 = .ok (.istore 6, 2) := by decide +kernel
theorem dX8_builds_27 : decode cX8_builds 27 = .ok (.iload 6, 2) := by decide +kernel
theorem dX8_builds_29 : decode cX8_builds 29 = .ok (.iconst 1, 1) := by decide +kernel
theorem dX8_builds_30 : decode cX8_builds 30 = .ok (.if_icmp .ne 13, 3) := by decide +kernel
theorem dX8_builds_33 : decode cX8_builds 33 = .ok (.aload_n 0, 1) := by decide +kernel
theorem dX8_builds_34 : decode cX8_builds 34 = .ok (.iload_n 1, 1) := by decide +kernel
theorem dX8_builds_35 : decode cX8_builds 35 = .ok (.iload 4, 2) := by decide +kernel
theorem dX8_builds_37 : decode cX8_builds 37 = .ok (.invokevirtual 165, 3) := by decide +kernel
theorem dX8_builds_40 : decode cX8_builds 40 = .ok (.goto 32, 3) := by decide +kernel
theorem dX8_builds_43 : decode cX8_builds 43 = .ok (.aload_n 0, 1) := by decide +kernel
theorem dX8_builds_44 : decode cX8_builds 44 = .ok (.invokevirtual 154, 3) := by decide +kernel
theorem dX8_builds_47 : decode cX8_builds 47 = .ok (.istore 7, 2) := by decide +kernel
theorem dX8_builds_49 : decode cX8_builds 49 = .ok (.aload_n 0, 1) := by decide +kernel
theorem dX8_builds_50 : decode cX8_builds 50 = .ok (.iload_n 1, 1) := by decide +kernel
theorem dX8_builds_51 : decode cX8_builds 51 = .ok (.bipush (-2), 2) := by decide +kernel
theorem dX8_builds_53 : decode cX8_builds 53 = .ok (.iload 7, 2) := by decide +kernel
theorem dX8_builds_55 : decode cX8_builds 55 = .ok (.isub, 1) := by decide +kernel
theorem dX8_builds_56 : decode cX8_builds 56 = .ok (.invokevirtual 165, 3) := by decide +kernel
theorem dX8_builds_59 : decode cX8_builds 59 = .ok (.aload_n 0, 1) := by decide +kernel
theorem dX8_builds_60 : decode cX8_builds 60 = .ok (.iload 7, 2) := by decide +kernel
theorem dX8_builds_62 : decode cX8_builds 62 = .ok (.iload 4, 2) := by decide +kernel
theorem dX8_builds_64 : decode cX8_builds 64 = .ok (.iload 4, 2) := by decide +kernel
theorem dX8_builds_66 : decode cX8_builds 66 = .ok (.iload 6, 2) := by decide +kernel
theorem dX8_builds_68 : decode cX8_builds 68 = .ok (.iadd, 1) := by decide +kernel
theorem dX8_builds_69 : decode cX8_builds 69 = .ok (.invokevirtual 214, 3) := by decide +kernel
theorem dX8_builds_72 : decode cX8_builds 72 = .ok (.iload 4, 2) := by decide +kernel
theorem dX8_builds_74 : decode cX8_builds 74 = .ok (.iload 6, 2) := by decide +kernel
theorem dX8_builds_76 : decode cX8_builds 76 = .ok (.iadd, 1) := by decide +kernel
theorem dX8_builds_77 : decode cX8_builds 77 = .ok (.istore 4, 2) := by decide +kernel
theorem dX8_builds_79 : decode cX8_builds 79 = .ok (.iinc 5 1, 3) := by decide +kernel
theorem dX8_builds_82 : decode cX8_builds 82 = .ok (.goto (-76), 3) := by decide +kernel
theorem dX8_builds_85 : decode cX8_builds 85 = .ok (.return_, 1) := by decide +kernel
set_option maxRecDepth 20000 in
theorem ggX8_free_X8_sets : GoodIn wsX8_free wsX8_sets := goodIn_r _ [12, 13, 6, 4, 14, 15, 7, 16, 17, 18, 19, 20, 21, 22, 23, 24, 25, 26, 27, 28, 29, 30, 31, 32, 33, 34, 35, 36, 37, 38, 39, 40, 41, 42, 43, 44, 45, 46, 47, 48, 49, 50, 51, 52, 53, 54, 55, 56, 57] (by decide +kernel) (by decide +kernel)
set_option maxRecDepth 20000 in
theorem gX8_free_X8_sets : GoodIn wsX8_free (wsV RX8 217 RX8 yX8_sets wsX8_sets) := goodIn_app (goodIn_of _ (by decide +kernel)) ggX8_free_X8_sets
theorem dX8_free_0 : decode cX8_free 0 = .ok (.aload_n 0, 1) := by decide +kernel
theorem dX8_free_1 : decode cX8_free 1 = .ok (.iconst 0, 1) := by decide +kernel
theorem dX8_free_2 : decode cX8_free 2 = .ok (.putfield 101, 3) := by decide +kernel
theorem dX8_free_5 : decode cX8_free 5 = .ok (.aload_n 0, 1) := by decide +kernel
theorem dX8_free_6 : decode cX8_free 6 = .ok (.getfield 116, 3) := by decide +kernel
theorem dX8_free_9 : decode cX8_free 9 = .ok (.ifCond .eq 12, 3) := by decide +kernel
theorem dX8_free_12 : decode cX8_free 12 = .ok (.aload_n 0, 1) := by decide +kernel
theorem dX8_free_13 : decode cX8_free 13 = .ok (.getfield 116, 3) := by decide +kernel
theorem dX8_free_16 : decode cX8_free 16 = .ok (.bipush 10, 2) := by decide +kernel
theorem dX8_free_18 : decode cX8_free 18 = .ok (.if_icmp .le 7, 3) := by decide +kernel
theorem dX8_free_21 : decode cX8_free 21 = .ok (.ldc2_w 189, 3) := by decide +kernel
theorem dX8_free_24 : decode cX8_free 24 = .ok (.lreturn, 1) := by decide +kernel
theorem dX8_free_25 : decode cX8_free 25 = .ok (.iconst 1, 1) := by decide +kernel
theorem dX8_free_26 : decode cX8_free 26 = .ok (.aload_n 0, 1) := by decide +kernel
theorem dX8_free_27 : decode cX8_free 27 = .ok (.getfield 116, 3) := by decide +kernel
theorem dX8_free_30 : decode cX8_free 30 = .ok (.ishl, 1) := by decide +kernel
theorem dX8_free_31 : decode cX8_free 31 = .ok (.iconst 1, 1) := by decide +kernel
theorem dX8_free_32 : decode cX8_free 32 = .ok (.isub, 1) := by decide +kernel
theorem dX8_free_33 : decode cX8_free 33 = .ok (.istore_n 1, 1) := by decide +kernel
theorem dX8_free_34 : decode cX8_free 34 = .ok (.iconst 1, 1) := by decide +kernel
theorem dX8_free_35 : decode cX8_free 35 = .ok (.istore_n 2, 1) := by decide +kernel
theorem dX8_free_36 : decode cX8_free 36 = .ok (.iload_n 2, 1) := by decide +kernel
theorem dX8_free_37 : decode cX8_free 37 = .ok (.iload_n 1, 1) := by decide +kernel
theorem dX8_free_38 : decode cX8_free 38 = .ok (.if_icmp .gt 83, 3) := by decide +kernel
theorem dX8_free_41 : decode cX8_free 41 = .ok (.aload_n 0, 1) := by decide +kernel
theorem dX8_free_42 : decode cX8_free 42 = .ok (.getfield 83, 3) := by decide +kernel
theorem dX8_free_45 : decode cX8_free 45 = .ok (.iload_n 2, 1) := by decide +kernel
theorem dX8_free_46 : decode cX8_free 46 = .ok (.lconst 0, 1) := by decide +kernel
theorem dX8_free_47 : decode cX8_free 47 = .ok (.lastore, 1) := by decide +kernel
theorem dX8_free_48 : decode cX8_free 48 = .ok (.iconst 0, 1) := by decide +kernel
theorem dX8_free_49 : decode cX8_free 49 = .ok (.istore_n 3, 1) := by decide +kernel
theorem dX8_free_50 : decode cX8_free 50 = .ok (.iload_n 3, 1) := by decide +kernel
theorem dX8_free_51 : decode cX8_free 51 = .ok (.aload_n 0, 1) := by decide +kernel
theorem dX8_free_52 : decode cX8_free 52 = .ok (.getfield 116, 3) := by decide +kernel
theorem dX8_free_55 : decode cX8_free 55 = .ok (.if_icmp .ge 38, 3) := by decide +kernel
theorem dX8_free_58 : decode cX8_free 58 = .ok (.aload_n 0, 1) := by decide +kernel
theorem dX8_free_59 : decode cX8_free 59 = .ok (.getfield 83, 3) := by decide +kernel
theorem dX8_free_62 : decode cX8_free 62 = .ok (.iload_n 2, 1) := by decide +kernel
theorem dX8_free_63 : decode cX8_free 63 = .ok (.dup2, 1) := by decide +kernel
theorem dX8_free_64 : decode cX8_free 64 = .ok (.laload, 1) := by decide +kernel
theorem dX8_free_65 : decode cX8_free 65 = .ok (.iload_n 2, 1) := by decide +kernel
theorem dX8_free_66 : decode cX8_free 66 = .ok (.iload_n 3, 1) := by decide +kernel
theorem dX8_free_67 : decode cX8_free 67 = .ok (.ishr, 1) := by decide +kernel
theorem dX8_free_68 : decode cX8_free 68 = .ok (.iconst 1, 1) := by decide +kernel
theorem dX8_free_69 : decode cX8_free 69 = .ok (.iand, 1) := by decide +kernel
theorem dX8_free_70 : decode cX8_free 70 = .ok (.iconst 1, 1) := by decide +kernel
theorem dX8_free_71 : decode cX8_free 71 = .ok (.if_icmp .ne 13, 3) := by decide +kernel
theorem dX8_free_74 : decode cX8_free 74 = .ok (.aload_n 0, 1) := by decide +kernel
theorem dX8_free_75 : decode cX8_free 75 = .ok (.getfield 9, 3) := by decide +kernel
theorem dX8_free_78 : decode cX8_free 78 = .ok (.iload_n 3, 1) := by decide +kernel
theorem dX8_free_79 : decode cX8_free 79 = .ok (.iaload, 1) := by decide +kernel
theorem dX8_free_80 : decode cX8_free 80 = .ok (.i2l, 1) := by decide +kernel
theorem dX8_free_81 : decode cX8_free 81 = .ok (.goto 4, 3) := by decide +kernel
theorem dX8_free_84 : decode cX8_free 84 = .ok (.lconst 0, 1) := by decide +kernel
theorem dX8_free_85 : decode cX8_free 85 = .ok (.ladd, 1) := by decide +kernel
theorem dX8_free_86 : decode cX8_free 86 = .ok (.lastore, 1) := by decide +kernel
theorem dX8_free_87 : decode cX8_free 87 = .ok (.iinc 3 1, 3) := by decide +kernel
theorem dX8_free_90 : decode cX8_free 90 = .ok (.goto (-40), 3) := by decide +kernel
theorem dX8_free_93 : decode cX8_free 93 = .ok (.iconst 1, 1) := by decide +kernel
theorem dX8_free_94 : decode cX8_free 94 = .ok (.istore_n 3, 1) := by decide +kernel
theorem dX8_free_95 : decode cX8_free 95 = .ok (.iload_n 3, 1) := by decide +kernel
theorem dX8_free_96 : decode cX8_free 96 = .ok (.aload_n 0, 1) := by decide +kernel
theorem dX8_free_97 : decode cX8_free 97 = .ok (.getfield 23, 3) := by decide +kernel
theorem dX8_free_100 : decode cX8_free 100 = .ok (.if_icmp .gt 15, 3) := by decide +kernel
theorem dX8_free_103 : decode cX8_free 103 = .ok (.aload_n 0, 1) := by decide +kernel
theorem dX8_free_104 : decode cX8_free 104 = .ok (.iload_n 2, 1) := by decide +kernel
theorem dX8_free_105 : decode cX8_free 105 = .ok (.iload_n 3, 1) := by decide +kernel
theorem dX8_free_106 : decode cX8_free 106 = .ok (.invokevirtual 217, 3) := by decide +kernel
theorem dX8_free_109 : decode cX8_free 109 = .ok (.iinc 3 1, 3) := by decide +kernel
theorem dX8_free_112 : decode cX8_free 112 = .ok (.goto (-17), 3) := by decide +kernel
theorem dX8_free_115 : decode cX8_free 115 = .ok (.iinc 2 1, 3) := by decide +kernel
theorem dX8_free_118 : decode cX8_free 118 = .ok (.goto (-82), 3) := by decide +kernel
theorem dX8_free_121 : decode cX8_free 121 = .ok (.aload_n 0, 1) := by decide +kernel
theorem dX8_free_122 : decode cX8_free 122 = .ok (.getfield 80, 3) := by decide +kernel
theorem dX8_free_125 : decode cX8_free 125 = .ok (.bipush 11, 2) := by decide +kernel
theorem dX8_free_127 : decode cX8_free 127 = .ok (.iload_n 1, 1) := by decide +kernel
theorem dX8_free_128 : decode cX8_free 128 = .ok (.imul, 1) := by decide +kernel
theorem dX8_free_129 : decode cX8_free 129 = .ok (.iconst 1, 1) := by decide +kernel
theorem dX8_free_130 : decode cX8_free 130 = .ok (.iadd, 1) := by decide +kernel
theorem dX8_free_131 : decode cX8_free 131 = .ok (.laload, 1) := by decide +kernel
theorem dX8_free_132 : decode cX8_free 132 = .ok (.lreturn, 1) := by decide +kernel
theorem dX8_sets_0 : decode cX8_sets 0 = .ok (.ldc2_w 208, 3) := by decide +kernel
theorem dX8_sets_3 : decode cX8_sets 3 = .ok (.lstore_n 3, 1) := by decide +kernel
theorem dX8_sets_4 : decode cX8_sets 4 = .ok (.iload_n 1, 1) := by decide +kernel
theorem dX8_sets_5 : decode cX8_sets 5 = .ok (.iload_n 1, 1) := by decide +kernel
theorem dX8_sets_6 : decode cX8_sets 6 = .ok (.iconst 1, 1) := by decide +kernel
theorem dX8_sets_7 : decode cX8_sets 7 = .ok (.isub, 1) := by decide +kernel
theorem dX8_sets_8 : decode cX8_sets 8 = .ok (.iand, 1) := by decide +kernel
theorem dX8_sets_9 : decode cX8_sets 9 = .ok (.ifCond .ne 7, 3) := by decide +kernel
theorem dX8_sets_12 : decode cX8_sets 12 = .ok (.iconst 1, 1) := by decide +kernel
theorem dX8_sets_13 : decode cX8_sets 13 = .ok (.goto 4, 3) := by decide +kernel
theorem dX8_sets_16 : decode cX8_sets 16 = .ok (.iconst 0, 1) := by decide +kernel
theorem dX8_sets_17 : decode cX8_sets 17 = .ok (.istore 5, 2) := by decide +kernel
theorem dX8_sets_19 : decode cX8_sets 19 = .ok (.iload_n 1, 1) := by decide +kernel
theorem dX8_sets_20 : decode cX8_sets 20 = .ok (.istore 6, 2) := by decide +kernel
theorem dX8_sets_22 : decode cX8_sets 22 = .ok (.iload 6, 2) := by decide +kernel
theorem dX8_sets_24 : decode cX8_sets 24 = .ok (.ifCond .le 148, 3) := by decide +kernel
theorem dX8_sets_27 : decode cX8_sets 27 = .ok (.iload 6, 2) := by decide +kernel
theorem dX8_sets_29 : decode cX8_sets 29 = .ok (.iload_n 1, 1) := by decide +kernel
theorem dX8_sets_30 : decode cX8_sets 30 = .ok (.if_icmp .ne 16, 3) := by decide +kernel
theorem dX8_sets_33 : decode cX8_sets 33 = .ok (.iload_n 2, 1) := by decide +kernel
theorem dX8_sets_34 : decode cX8_sets 34 = .ok (.iconst 1, 1) := by decide +kernel
theorem dX8_sets_35 : decode cX8_sets 35 = .ok (.if_icmp .ne 11, 3) := by decide +kernel
theorem dX8_sets_38 : decode cX8_sets 38 = .ok (.iload 5, 2) := by decide +kernel
theorem dX8_sets_40 : decode cX8_sets 40 = .ok (.ifCond .ne 6, 3) := by decide +kernel
theorem dX8_sets_43 : decode cX8_sets 43 = .ok (.goto 118, 3) := by decide +kernel
theorem dX8_sets_46 : decode cX8_sets 46 = .ok (.iload 6, 2) := by decide +kernel
theorem dX8_sets_48 : decode cX8_sets 48 = .ok (.iload_n 1, 1) := by decide +kernel
theorem dX8_sets_49 : decode cX8_sets 49 = .ok (.if_icmp .eq 14, 3) := by decide +kernel
theorem dX8_sets_52 : decode cX8_sets 52 = .ok (.iload_n 2, 1) := by decide +kernel
theorem dX8_sets_53 : decode cX8_sets 53 = .ok (.aload_n 0, 1) := by decide +kernel
theorem dX8_sets_54 : decode cX8_sets 54 = .ok (.getfield 23, 3) := by decide +kernel
theorem dX8_sets_57 : decode cX8_sets 57 = .ok (.if_icmp .ne 6, 3) := by decide +kernel
theorem dX8_sets_60 : decode cX8_sets 60 = .ok (.goto 101, 3) := by decide +kernel
theorem dX8_sets_63 : decode cX8_sets 63 = .ok (.aload_n 0, 1) := by decide +kernel
theorem dX8_sets_64 : decode cX8_sets 64 = .ok (.getfield 83, 3) := by decide +kernel
theorem dX8_sets_67 : decode cX8_sets 67 = .ok (.iload 6, 2) := by decide +kernel
theorem dX8_sets_69 : decode cX8_sets 69 = .ok (.laload, 1) := by decide +kernel
theorem dX8_sets_70 : decode cX8_sets 70 = .ok (.lstore 7, 2) := by decide +kernel
theorem dX8_sets_72 : decode cX8_sets 72 = .ok (.aload_n 0, 1) := by decide +kernel
theorem dX8_sets_73 : decode cX8_sets 73 = .ok (.getfield 16, 3) := by decide +kernel
theorem dX8_sets_76 : decode cX8_sets 76 = .ok (.iload_n 2, 1) := by decide +kernel
theorem dX8_sets_77 : decode cX8_sets 77 = .ok (.imul, 1) := by decide +kernel
theorem dX8_sets_78 : decode cX8_sets 78 = .ok (.i2l, 1) := by decide +kernel
theorem dX8_sets_79 : decode cX8_sets 79 = .ok (.lload 7, 2) := by decide +kernel
theorem dX8_sets_81 : decode cX8_sets 81 = .ok (.lmul, 1) := by decide +kernel
theorem dX8_sets_82 : decode cX8_sets 82 = .ok (.iload 6, 2) := by decide +kernel
theorem dX8_sets_84 : decode cX8_sets 84 = .ok (.iload 6, 2) := by decide +kernel
theorem dX8_sets_86 : decode cX8_sets 86 = .ok (.iconst 1, 1) := by decide +kernel
theorem dX8_sets_87 : decode cX8_sets 87 = .ok (.isub, 1) := by decide +kernel
theorem dX8_sets_88 : decode cX8_sets 88 = .ok (.iand, 1) := by decide +kernel
theorem dX8_sets_89 : decode cX8_sets 89 = .ok (.ifCond .ne 7, 3) := by decide +kernel
theorem dX8_sets_92 : decode cX8_sets 92 = .ok (.lconst 0, 1) := by decide +kernel
theorem dX8_sets_93 : decode cX8_sets 93 = .ok (.goto 24, 3) := by decide +kernel
theorem dX8_sets_96 : decode cX8_sets 96 = .ok (.aload_n 0, 1) := by decide +kernel
theorem dX8_sets_97 : decode cX8_sets 97 = .ok (.getfield 20, 3) := by decide +kernel
theorem dX8_sets_100 : decode cX8_sets 100 = .ok (.i2l, 1) := by decide +kernel
theorem dX8_sets_101 : decode cX8_sets 101 = .ok (.lload 7, 2) := by decide +kernel
theorem dX8_sets_103 : decode cX8_sets 103 = .ok (.lmul, 1) := by decide +kernel
theorem dX8_sets_104 : decode cX8_sets 104 = .ok (.aload_n 0, 1) := by decide +kernel
theorem dX8_sets_105 : decode cX8_sets 105 = .ok (.getfield 80, 3) := by decide +kernel
theorem dX8_sets_108 : decode cX8_sets 108 = .ok (.bipush 11, 2) := by decide +kernel
theorem dX8_sets_110 : decode cX8_sets 110 = .ok (.iload 6, 2) := by decide +kernel
theorem dX8_sets_112 : decode cX8_sets 112 = .ok (.imul, 1) := by decide +kernel
theorem dX8_sets_113 : decode cX8_sets 113 = .ok (.iconst 1, 1) := by decide +kernel
theorem dX8_sets_114 : decode cX8_sets 114 = .ok (.iadd, 1) := by decide +kernel
theorem dX8_sets_115 : decode cX8_sets 115 = .ok (.laload, 1) := by decide +kernel
theorem dX8_sets_116 : decode cX8_sets 116 = .ok (.ladd, 1) := by decide +kernel
theorem dX8_sets_117 : decode cX8_sets 117 = .ok (.ladd, 1) := by decide +kernel
theorem dX8_sets_118 : decode cX8_sets 118 = .ok (.iload 6, 2) := by decide +kernel
theorem dX8_sets_120 : decode cX8_sets 120 = .ok (.iload_n 1, 1) := by decide +kernel
theorem dX8_sets_121 : decode cX8_sets 121 = .ok (.if_icmp .ne 7, 3) := by decide +kernel
theorem dX8_sets_124 : decode cX8_sets 124 = .ok (.lconst 0, 1) := by decide +kernel
theorem dX8_sets_125 : decode cX8_sets 125 = .ok (.goto 19, 3) := by decide +kernel
theorem dX8_sets_128 : decode cX8_sets 128 = .ok (.aload_n 0, 1) := by decide +kernel
theorem dX8_sets_129 : decode cX8_sets 129 = .ok (.getfield 80, 3) := by decide +kernel
theorem dX8_sets_132 : decode cX8_sets 132 = .ok (.bipush 11, 2) := by decide +kernel
theorem dX8_sets_134 : decode cX8_sets 134 = .ok (.iload_n 1, 1) := by decide +kernel
theorem dX8_sets_135 : decode cX8_sets 135 = .ok (.iload 6, 2) := by decide +kernel
theorem dX8_sets_137 : decode cX8_sets 137 = .ok (.ixor, 1) := by decide +kernel
theorem dX8_sets_138 : decode cX8_sets 138 = .ok (.imul, 1) := by decide +kernel
theorem dX8_sets_139 : decode cX8_sets 139 = .ok (.iload_n 2, 1) := by decide +kernel
theorem dX8_sets_140 : decode cX8_sets 140 = .ok (.iadd, 1) := by decide +kernel
theorem dX8_sets_141 : decode cX8_sets 141 = .ok (.iconst 1, 1) := by decide +kernel
theorem dX8_sets_142 : decode cX8_sets 142 = .ok (.iadd, 1) := by decide +kernel
theorem dX8_sets_143 : decode cX8_sets 143 = .ok (.laload, 1) := by decide +kernel
theorem dX8_sets_144 : decode cX8_sets 144 = .ok (.ladd, 1) := by decide +kernel
theorem dX8_sets_145 : decode cX8_sets 145 = .ok (.lstore 9, 2) := by decide +kernel
theorem dX8_sets_147 : decode cX8_sets 147 = .ok (.lload 9, 2) := by decide +kernel
theorem dX8_sets_149 : decode cX8_sets 149 = .ok (.lload_n 3, 1) := by decide +kernel
theorem dX8_sets_150 : decode cX8_sets 150 = .ok (.lcmp, 1) := by decide +kernel
theorem dX8_sets_151 : decode cX8_sets 151 = .ok (.ifCond .ge 8, 3) := by decide +kernel
theorem dX8_sets_154 : decode cX8_sets 154 = .ok (.lload 9, 2) := by decide +kernel
theorem dX8_sets_156 : decode cX8_sets 156 = .ok (.goto 4, 3) := by decide +kernel
theorem dX8_sets_159 : decode cX8_sets 159 = .ok (.lload_n 3, 1) := by decide +kernel
theorem dX8_sets_160 : decode cX8_sets 160 = .ok (.lstore_n 3, 1) := by decide +kernel
theorem dX8_sets_161 : decode cX8_sets 161 = .ok (.iload 6, 2) := by decide +kernel
theorem dX8_sets_163 : decode cX8_sets 163 = .ok (.iconst 1, 1) := by decide +kernel
theorem dX8_sets_164 : decode cX8_sets 164 = .ok (.isub, 1) := by decide +kernel
theorem dX8_sets_165 : decode cX8_sets 165 = .ok (.iload_n 1, 1) := by decide +kernel
theorem dX8_sets_166 : decode cX8_sets 166 = .ok (.iand, 1) := by decide +kernel
theorem dX8_sets_167 : decode cX8_sets 167 = .ok (.istore 6, 2) := by decide +kernel
theorem dX8_sets_169 : decode cX8_sets 169 = .ok (.goto (-147), 3) := by decide +kernel
theorem dX8_sets_172 : decode cX8_sets 172 = .ok (.aload_n 0, 1) := by decide +kernel
theorem dX8_sets_173 : decode cX8_sets 173 = .ok (.getfield 80, 3) := by decide +kernel
theorem dX8_sets_176 : decode cX8_sets 176 = .ok (.bipush 11, 2) := by decide +kernel
theorem dX8_sets_178 : decode cX8_sets 178 = .ok (.iload_n 1, 1) := by decide +kernel
theorem dX8_sets_179 : decode cX8_sets 179 = .ok (.imul, 1) := by decide +kernel
theorem dX8_sets_180 : decode cX8_sets 180 = .ok (.iload_n 2, 1) := by decide +kernel
theorem dX8_sets_181 : decode cX8_sets 181 = .ok (.iadd, 1) := by decide +kernel
theorem dX8_sets_182 : decode cX8_sets 182 = .ok (.lload_n 3, 1) := by decide +kernel
theorem dX8_sets_183 : decode cX8_sets 183 = .ok (.lastore, 1) := by decide +kernel
theorem dX8_sets_184 : decode cX8_sets 184 = .ok (.return_, 1) := by decide +kernel
set_option maxRecDepth 20000 in
theorem ggX8_chooses_X8_stepsOf : GoodIn wsX8_chooses wsX8_stepsOf := goodIn_r _ [13, 14, 15, 16, 17, 18, 19, 20, 12, 21, 22, 23, 24, 41, 42, 43, 44, 45, 46, 47, 48, 49, 50, 51, 52, 53, 54, 55, 56, 57, 58, 59, 60, 61, 62, 63, 64, 65, 66, 67, 68, 69, 70, 71, 72, 73, 74, 75, 76, 77, 78, 79, 80, 81, 82] (by decide +kernel) (by decide +kernel)
set_option maxRecDepth 20000 in
theorem gX8_chooses_X8_stepsOf : GoodIn wsX8_chooses (wsV RX8 186 RX8 yX8_stepsOf wsX8_stepsOf) := goodIn_app (goodIn_of _ (by decide +kernel)) ggX8_chooses_X8_stepsOf
set_option maxRecDepth 20000 in
theorem ggX8_chooses_X8_costOf : GoodIn wsX8_chooses wsX8_costOf := goodIn_r _ [28, 2, 29, 9, 10, 11, 12, 13, 14, 15, 16, 17, 18, 19, 20, 21, 22, 23, 24, 41, 42, 43, 44, 45, 46, 47, 48, 49, 50, 51, 52, 53, 54, 55, 56, 57, 58, 59, 60, 61, 62, 63, 64, 65, 66, 67, 68, 69, 70, 71, 72, 73, 74, 75, 76, 77, 78, 79, 80, 81, 82] (by decide +kernel) (by decide +kernel)
set_option maxRecDepth 20000 in
theorem gX8_chooses_X8_costOf : GoodIn wsX8_chooses (wsV RX8 191 RX8 yX8_costOf wsX8_costOf) := goodIn_app (goodIn_of _ (by decide +kernel)) ggX8_chooses_X8_costOf
set_option maxRecDepth 20000 in
theorem ggX8_chooses_X8_tries : GoodIn wsX8_chooses wsX8_tries := goodIn_r _ [33, 7, 8, 34, 35, 4, 5, 6, 29, 3, 36, 37, 38, 39, 12, 40, 30, 31, 32, 41, 42, 43, 44, 45, 46, 47, 48, 49, 50, 51, 52, 53, 54, 55, 56, 57, 58, 59, 60, 61, 62, 63, 64, 65, 66, 67, 68, 69, 70, 71, 72, 73, 74, 75, 76, 77, 78, 79, 80, 81, 82] (by decide +kernel) (by decide +kernel)
set_option maxRecDepth 20000 in
theorem gX8_chooses_X8_tries : GoodIn wsX8_chooses (wsV RX8 230 RX8 yX8_tries wsX8_tries) := goodIn_app (goodIn_of _ (by decide +kernel)) ggX8_chooses_X8_tries
theorem dX8_chooses_0 : decode cX8_chooses 0 = .ok (.aload_n 0, 1) := by decide +kernel
theorem dX8_chooses_1 : decode cX8_chooses 1 = .ok (.getfield 119, 3) := by decide +kernel
theorem dX8_chooses_4 : decode cX8_chooses 4 = .ok (.ifCond .eq 12, 3) := by decide +kernel
theorem dX8_chooses_7 : decode cX8_chooses 7 = .ok (.aload_n 0, 1) := by decide +kernel
theorem dX8_chooses_8 : decode cX8_chooses 8 = .ok (.getfield 116, 3) := by decide +kernel
theorem dX8_chooses_11 : decode cX8_chooses 11 = .ok (.bipush 12, 2) := by decide +kernel
theorem dX8_chooses_13 : decode cX8_chooses 13 = .ok (.if_icmp .le 5, 3) := by decide +kernel
theorem dX8_chooses_16 : decode cX8_chooses 16 = .ok (.iconst 0, 1) := by decide +kernel
theorem dX8_chooses_17 : decode cX8_chooses 17 = .ok (.ireturn, 1) := by decide +kernel
theorem dX8_chooses_18 : decode cX8_chooses 18 = .ok (.iconst 0, 1) := by decide +kernel
theorem dX8_chooses_19 : decode cX8_chooses 19 = .ok (.istore_n 2, 1) := by decide +kernel
theorem dX8_chooses_20 : decode cX8_chooses 20 = .ok (.iload_n 2, 1) := by decide +kernel
theorem dX8_chooses_21 : decode cX8_chooses 21 = .ok (.aload_n 0, 1) := by decide +kernel
theorem dX8_chooses_22 : decode cX8_chooses 22 = .ok (.getfield 116, 3) := by decide +kernel
theorem dX8_chooses_25 : decode cX8_chooses 25 = .ok (.if_icmp .ge 20, 3) := by decide +kernel
theorem dX8_chooses_28 : decode cX8_chooses 28 = .ok (.aload_n 0, 1) := by decide +kernel
theorem dX8_chooses_29 : decode cX8_chooses 29 = .ok (.getfield 86, 3) := by decide +kernel
theorem dX8_chooses_32 : decode cX8_chooses 32 = .ok (.iload_n 2, 1) := by decide +kernel
theorem dX8_chooses_33 : decode cX8_chooses 33 = .ok (.aload_n 0, 1) := by decide +kernel
theorem dX8_chooses_34 : decode cX8_chooses 34 = .ok (.iload_n 2, 1) := by decide +kernel
theorem dX8_chooses_35 : decode cX8_chooses 35 = .ok (.invokevirtual 186, 3) := by decide +kernel
theorem dX8_chooses_38 : decode cX8_chooses 38 = .ok (.iastore, 1) := by decide +kernel
theorem dX8_chooses_39 : decode cX8_chooses 39 = .ok (.iinc 2 1, 3) := by decide +kernel
theorem dX8_chooses_42 : decode cX8_chooses 42 = .ok (.goto (-22), 3) := by decide +kernel
theorem dX8_chooses_45 : decode cX8_chooses 45 = .ok (.aload_n 0, 1) := by decide +kernel
theorem dX8_chooses_46 : decode cX8_chooses 46 = .ok (.iconst 0, 1) := by decide +kernel
theorem dX8_chooses_47 : decode cX8_chooses 47 = .ok (.putfield 220, 3) := by decide +kernel
theorem dX8_chooses_50 : decode cX8_chooses 50 = .ok (.iconst 0, 1) := by decide +kernel
theorem dX8_chooses_51 : decode cX8_chooses 51 = .ok (.istore_n 2, 1) := by decide +kernel
theorem dX8_chooses_52 : decode cX8_chooses 52 = .ok (.iload_n 2, 1) := by decide +kernel
theorem dX8_chooses_53 : decode cX8_chooses 53 = .ok (.aload_n 0, 1) := by decide +kernel
theorem dX8_chooses_54 : decode cX8_chooses 54 = .ok (.getfield 116, 3) := by decide +kernel
theorem dX8_chooses_57 : decode cX8_chooses 57 = .ok (.if_icmp .ge 57, 3) := by decide +kernel
theorem dX8_chooses_60 : decode cX8_chooses 60 = .ok (.iload_n 2, 1) := by decide +kernel
theorem dX8_chooses_61 : decode cX8_chooses 61 = .ok (.iconst 1, 1) := by decide +kernel
theorem dX8_chooses_62 : decode cX8_chooses 62 = .ok (.iadd, 1) := by decide +kernel
theorem dX8_chooses_63 : decode cX8_chooses 63 = .ok (.istore_n 3, 1) := by decide +kernel
theorem dX8_chooses_64 : decode cX8_chooses 64 = .ok (.iload_n 3, 1) := by decide +kernel
theorem dX8_chooses_65 : decode cX8_chooses 65 = .ok (.aload_n 0, 1) := by decide +kernel
theorem dX8_chooses_66 : decode cX8_chooses 66 = .ok (.getfield 116, 3) := by decide +kernel
theorem dX8_chooses_69 : decode cX8_chooses 69 = .ok (.if_icmp .ge 39, 3) := by decide +kernel
theorem dX8_chooses_72 : decode cX8_chooses 72 = .ok (.aload_n 0, 1) := by decide +kernel
theorem dX8_chooses_73 : decode cX8_chooses 73 = .ok (.getfield 89, 3) := by decide +kernel
theorem dX8_chooses_76 : decode cX8_chooses 76 = .ok (.aload_n 0, 1) := by decide +kernel
theorem dX8_chooses_77 : decode cX8_chooses 77 = .ok (.getfield 220, 3) := by decide +kernel
theorem dX8_chooses_80 : decode cX8_chooses 80 = .ok (.iload_n 2, 1) := by decide +kernel
theorem dX8_chooses_81 : decode cX8_chooses 81 = .ok (.iastore, 1) := by decide +kernel
theorem dX8_chooses_82 : decode cX8_chooses 82 = .ok (.aload_n 0, 1) := by decide +kernel
theorem dX8_chooses_83 : decode cX8_chooses 83 = .ok (.getfield 92, 3) := by decide +kernel
theorem dX8_chooses_86 : decode cX8_chooses 86 = .ok (.aload_n 0, 1) := by decide +kernel
theorem dX8_chooses_87 : decode cX8_chooses 87 = .ok (.getfield 220, 3) := by decide +kernel
theorem dX8_chooses_90 : decode cX8_chooses 90 = .ok (.iload_n 3, 1) := by decide +kernel
theorem dX8_chooses_91 : decode cX8_chooses 91 = .ok (.iastore, 1) := by decide +kernel
theorem dX8_chooses_92 : decode cX8_chooses 92 = .ok (.aload_n 0, 1) := by decide +kernel
theorem dX8_chooses_93 : decode cX8_chooses 93 = .ok (.dup, 1) := by decide +kernel
theorem dX8_chooses_94 : decode cX8_chooses 94 = .ok (.getfield 220, 3) := by decide +kernel
theorem dX8_chooses_97 : decode cX8_chooses 97 = .ok (.iconst 1, 1) := by decide +kernel
theorem dX8_chooses_98 : decode cX8_chooses 98 = .ok (.iadd, 1) := by decide +kernel
theorem dX8_chooses_99 : decode cX8_chooses 99 = .ok (.putfield 220, 3) := by decide +kernel
theorem dX8_chooses_102 : decode cX8_chooses 102 = .ok (.iinc 3 1, 3) := by decide +kernel
theorem dX8_chooses_105 : decode cX8_chooses 105 = .ok (.goto (-41), 3) := by decide +kernel
theorem dX8_chooses_108 : decode cX8_chooses 108 = .ok (.iinc 2 1, 3) := by decide +kernel
theorem dX8_chooses_111 : decode cX8_chooses 111 = .ok (.goto (-59), 3) := by decide +kernel
theorem dX8_chooses_114 : decode cX8_chooses 114 = .ok (.aload_n 0, 1) := by decide +kernel
theorem dX8_chooses_115 : decode cX8_chooses 115 = .ok (.aload_n 0, 1) := by decide +kernel
theorem dX8_chooses_116 : decode cX8_chooses 116 = .ok (.invokevirtual 191, 3) := by decide +kernel
theorem dX8_chooses_119 : decode cX8_chooses 119 = .ok (.putfield 223, 3) := by decide +kernel
theorem dX8_chooses_122 : decode cX8_chooses 122 = .ok (.aload_n 0, 1) := by decide +kernel
theorem dX8_chooses_123 : decode cX8_chooses 123 = .ok (.iconst 0, 1) := by decide +kernel
theorem dX8_chooses_124 : decode cX8_chooses 124 = .ok (.putfield 227, 3) := by decide +kernel
theorem dX8_chooses_127 : decode cX8_chooses 127 = .ok (.iconst 1, 1) := by decide +kernel
theorem dX8_chooses_128 : decode cX8_chooses 128 = .ok (.istore_n 2, 1) := by decide +kernel
theorem dX8_chooses_129 : decode cX8_chooses 129 = .ok (.iload_n 2, 1) := by decide +kernel
theorem dX8_chooses_130 : decode cX8_chooses 130 = .ok (.iload_n 1, 1) := by decide +kernel
theorem dX8_chooses_131 : decode cX8_chooses 131 = .ok (.if_icmp .gt 19, 3) := by decide +kernel
theorem dX8_chooses_134 : decode cX8_chooses 134 = .ok (.aload_n 0, 1) := by decide +kernel
theorem dX8_chooses_135 : decode cX8_chooses 135 = .ok (.iconst 0, 1) := by decide +kernel
theorem dX8_chooses_136 : decode cX8_chooses 136 = .ok (.iload_n 2, 1) := by decide +kernel
theorem dX8_chooses_137 : decode cX8_chooses 137 = .ok (.aload_n 0, 1) := by decide +kernel
theorem dX8_chooses_138 : decode cX8_chooses 138 = .ok (.invokevirtual 191, 3) := by decide +kernel
theorem dX8_chooses_141 : decode cX8_chooses 141 = .ok (.invokevirtual 230, 3) := by decide +kernel
theorem dX8_chooses_144 : decode cX8_chooses 144 = .ok (.iinc 2 1, 3) := by decide +kernel
theorem dX8_chooses_147 : decode cX8_chooses 147 = .ok (.goto (-18), 3) := by decide +kernel
theorem dX8_chooses_150 : decode cX8_chooses 150 = .ok (.iconst 1, 1) := by decide +kernel
theorem dX8_chooses_151 : decode cX8_chooses 151 = .ok (.ireturn, 1) := by decide +kernel
set_option maxRecDepth 20000 in
theorem ggX8_tries_X8_changes : GoodIn wsX8_tries wsX8_changes := goodIn_r _ [15, 9, 19, 20, 21, 22, 23, 24, 25, 26, 27, 28, 29, 30, 31, 32, 33, 34, 35, 36, 37, 38, 39, 40, 41, 42, 43, 44, 45, 46, 47, 48, 49, 50, 51, 52, 53, 54, 55, 56, 57, 58, 59, 60] (by decide +kernel) (by decide +kernel)
set_option maxRecDepth 20000 in
theorem gX8_tries_X8_changes : GoodIn wsX8_tries (wsV RX8 234 RX8 yX8_changes wsX8_changes) := goodIn_app (goodIn_of _ (by decide +kernel)) ggX8_tries_X8_changes
set_option maxRecDepth 20000 in
theorem ggX8_tries_X8_tries : GoodIn wsX8_tries wsX8_tries := goodIn_r _ [0, 1, 2, 3, 4, 5, 6, 7, 8, 9, 10, 11, 12, 13, 14, 15, 16, 17, 18, 19, 20, 21, 22, 23, 24, 25, 26, 27, 28, 29, 30, 31, 32, 33, 34, 35, 36, 37, 38, 39, 40, 41, 42, 43, 44, 45, 46, 47, 48, 49, 50, 51, 52, 53, 54, 55, 56, 57, 58, 59, 60] (by decide +kernel) (by decide +kernel)
set_option maxRecDepth 20000 in
theorem gX8_tries_X8_tries : GoodIn wsX8_tries (wsV RX8 230 RX8 yX8_tries wsX8_tries) := goodIn_app (goodIn_of _ (by decide +kernel)) ggX8_tries_X8_tries
theorem dX8_tries_0 : decode cX8_tries 0 = .ok (.iload_n 1, 1) := by decide +kernel
theorem dX8_tries_1 : decode cX8_tries 1 = .ok (.iload_n 2, 1) := by decide +kernel
theorem dX8_tries_2 : decode cX8_tries 2 = .ok (.if_icmp .ne 53, 3) := by decide +kernel
theorem dX8_tries_5 : decode cX8_tries 5 = .ok (.lload_n 3, 1) := by decide +kernel
theorem dX8_tries_6 : decode cX8_tries 6 = .ok (.aload_n 0, 1) := by decide +kernel
theorem dX8_tries_7 : decode cX8_tries 7 = .ok (.getfield 223, 3) := by decide +kernel
theorem dX8_tries_10 : decode cX8_tries 10 = .ok (.lcmp, 1) := by decide +kernel
theorem dX8_tries_11 : decode cX8_tries 11 = .ok (.ifCond .lt 4, 3) := by decide +kernel
theorem dX8_tries_14 : decode cX8_tries 14 = .ok (.return_, 1) := by decide +kernel
theorem dX8_tries_15 : decode cX8_tries 15 = .ok (.aload_n 0, 1) := by decide +kernel
theorem dX8_tries_16 : decode cX8_tries 16 = .ok (.lload_n 3, 1) := by decide +kernel
theorem dX8_tries_17 : decode cX8_tries 17 = .ok (.putfield 223, 3) := by decide +kernel
theorem dX8_tries_20 : decode cX8_tries 20 = .ok (.aload_n 0, 1) := by decide +kernel
theorem dX8_tries_21 : decode cX8_tries 21 = .ok (.iload_n 2, 1) := by decide +kernel
theorem dX8_tries_22 : decode cX8_tries 22 = .ok (.putfield 227, 3) := by decide +kernel
theorem dX8_tries_25 : decode cX8_tries 25 = .ok (.iconst 0, 1) := by decide +kernel
theorem dX8_tries_26 : decode cX8_tries 26 = .ok (.istore 5, 2) := by decide +kernel
theorem dX8_tries_28 : decode cX8_tries 28 = .ok (.iload 5, 2) := by decide +kernel
theorem dX8_tries_30 : decode cX8_tries 30 = .ok (.iload_n 2, 1) := by decide +kernel
theorem dX8_tries_31 : decode cX8_tries 31 = .ok (.if_icmp .ge 23, 3) := by decide +kernel
theorem dX8_tries_34 : decode cX8_tries 34 = .ok (.aload_n 0, 1) := by decide +kernel
theorem dX8_tries_35 : decode cX8_tries 35 = .ok (.getfield 98, 3) := by decide +kernel
theorem dX8_tries_38 : decode cX8_tries 38 = .ok (.iload 5, 2) := by decide +kernel
theorem dX8_tries_40 : decode cX8_tries 40 = .ok (.aload_n 0, 1) := by decide +kernel
theorem dX8_tries_41 : decode cX8_tries 41 = .ok (.getfield 95, 3) := by decide +kernel
theorem dX8_tries_44 : decode cX8_tries 44 = .ok (.iload 5, 2) := by decide +kernel
theorem dX8_tries_46 : decode cX8_tries 46 = .ok (.iaload, 1) := by decide +kernel
theorem dX8_tries_47 : decode cX8_tries 47 = .ok (.iastore, 1) := by decide +kernel
theorem dX8_tries_48 : decode cX8_tries 48 = .ok (.iinc 5 1, 3) := by decide +kernel
theorem dX8_tries_51 : decode cX8_tries 51 = .ok (.goto (-23), 3) := by decide +kernel
theorem dX8_tries_54 : decode cX8_tries 54 = .ok (.return_, 1) := by decide +kernel
theorem dX8_tries_55 : decode cX8_tries 55 = .ok (.iconst 0, 1) := by decide +kernel
theorem dX8_tries_56 : decode cX8_tries 56 = .ok (.istore 5, 2) := by decide +kernel
theorem dX8_tries_58 : decode cX8_tries 58 = .ok (.iload 5, 2) := by decide +kernel
theorem dX8_tries_60 : decode cX8_tries 60 = .ok (.aload_n 0, 1) := by decide +kernel
theorem dX8_tries_61 : decode cX8_tries 61 = .ok (.getfield 220, 3) := by decide +kernel
theorem dX8_tries_64 : decode cX8_tries 64 = .ok (.if_icmp .ge 121, 3) := by decide +kernel
theorem dX8_tries_67 : decode cX8_tries 67 = .ok (.aload_n 0, 1) := by decide +kernel
theorem dX8_tries_68 : decode cX8_tries 68 = .ok (.getfield 89, 3) := by decide +kernel
theorem dX8_tries_71 : decode cX8_tries 71 = .ok (.iload 5, 2) := by decide +kernel
theorem dX8_tries_73 : decode cX8_tries 73 = .ok (.iaload, 1) := by decide +kernel
theorem dX8_tries_74 : decode cX8_tries 74 = .ok (.istore 6, 2) := by decide +kernel
theorem dX8_tries_76 : decode cX8_tries 76 = .ok (.aload_n 0, 1) := by decide +kernel
theorem dX8_tries_77 : decode cX8_tries 77 = .ok (.getfield 92, 3) := by decide +kernel
theorem dX8_tries_80 : decode cX8_tries 80 = .ok (.iload 5, 2) := by decide +kernel
theorem dX8_tries_82 : decode cX8_tries 82 = .ok (.iaload, 1) := by decide +kernel
theorem dX8_tries_83 : decode cX8_tries 83 = .ok (.istore 7, 2) := by decide +kernel
theorem dX8_tries_85 : decode cX8_tries 85 = .ok (.aload_n 0, 1) := by decide +kernel
theorem dX8_tries_86 : decode cX8_tries 86 = .ok (.getfield 9, 3) := by decide +kernel
theorem dX8_tries_89 : decode cX8_tries 89 = .ok (.iload 6, 2) := by decide +kernel
theorem dX8_tries_91 : decode cX8_tries 91 = .ok (.iaload, 1) := by decide +kernel
theorem dX8_tries_92 : decode cX8_tries 92 = .ok (.aload_n 0, 1) := by decide +kernel
theorem dX8_tries_93 : decode cX8_tries 93 = .ok (.getfield 9, 3) := by decide +kernel
theorem dX8_tries_96 : decode cX8_tries 96 = .ok (.iload 7, 2) := by decide +kernel
theorem dX8_tries_98 : decode cX8_tries 98 = .ok (.iaload, 1) := by decide +kernel
theorem dX8_tries_99 : decode cX8_tries 99 = .ok (.isub, 1) := by decide +kernel
theorem dX8_tries_100 : decode cX8_tries 100 = .ok (.i2l, 1) := by decide +kernel
theorem dX8_tries_101 : decode cX8_tries 101 = .ok (.aload_n 0, 1) := by decide +kernel
theorem dX8_tries_102 : decode cX8_tries 102 = .ok (.getfield 86, 3) := by decide +kernel
theorem dX8_tries_105 : decode cX8_tries 105 = .ok (.iload 7, 2) := by decide +kernel
theorem dX8_tries_107 : decode cX8_tries 107 = .ok (.iaload, 1) := by decide +kernel
theorem dX8_tries_108 : decode cX8_tries 108 = .ok (.aload_n 0, 1) := by decide +kernel
theorem dX8_tries_109 : decode cX8_tries 109 = .ok (.getfield 86, 3) := by decide +kernel
theorem dX8_tries_112 : decode cX8_tries 112 = .ok (.iload 6, 2) := by decide +kernel
theorem dX8_tries_114 : decode cX8_tries 114 = .ok (.iaload, 1) := by decide +kernel
theorem dX8_tries_115 : decode cX8_tries 115 = .ok (.isub, 1) := by decide +kernel
theorem dX8_tries_116 : decode cX8_tries 116 = .ok (.i2l, 1) := by decide +kernel
theorem dX8_tries_117 : decode cX8_tries 117 = .ok (.lmul, 1) := by decide +kernel
theorem dX8_tries_118 : decode cX8_tries 118 = .ok (.aload_n 0, 1) := by decide +kernel
theorem dX8_tries_119 : decode cX8_tries 119 = .ok (.getfield 26, 3) := by decide +kernel
theorem dX8_tries_122 : decode cX8_tries 122 = .ok (.i2l, 1) := by decide +kernel
theorem dX8_tries_123 : decode cX8_tries 123 = .ok (.aload_n 0, 1) := by decide +kernel
theorem dX8_tries_124 : decode cX8_tries 124 = .ok (.getfield 9, 3) := by decide +kernel
theorem dX8_tries_127 : decode cX8_tries 127 = .ok (.iload 6, 2) := by decide +kernel
theorem dX8_tries_129 : decode cX8_tries 129 = .ok (.iaload, 1) := by decide +kernel
theorem dX8_tries_130 : decode cX8_tries 130 = .ok (.aload_n 0, 1) := by decide +kernel
theorem dX8_tries_131 : decode cX8_tries 131 = .ok (.getfield 9, 3) := by decide +kernel
theorem dX8_tries_134 : decode cX8_tries 134 = .ok (.iload 7, 2) := by decide +kernel
theorem dX8_tries_136 : decode cX8_tries 136 = .ok (.iaload, 1) := by decide +kernel
theorem dX8_tries_137 : decode cX8_tries 137 = .ok (.iadd, 1) := by decide +kernel
theorem dX8_tries_138 : decode cX8_tries 138 = .ok (.i2l, 1) := by decide +kernel
theorem dX8_tries_139 : decode cX8_tries 139 = .ok (.lmul, 1) := by decide +kernel
theorem dX8_tries_140 : decode cX8_tries 140 = .ok (.ladd, 1) := by decide +kernel
theorem dX8_tries_141 : decode cX8_tries 141 = .ok (.lstore 8, 2) := by decide +kernel
theorem dX8_tries_143 : decode cX8_tries 143 = .ok (.aload_n 0, 1) := by decide +kernel
theorem dX8_tries_144 : decode cX8_tries 144 = .ok (.getfield 95, 3) := by decide +kernel
theorem dX8_tries_147 : decode cX8_tries 147 = .ok (.iload_n 1, 1) := by decide +kernel
theorem dX8_tries_148 : decode cX8_tries 148 = .ok (.iload 5, 2) := by decide +kernel
theorem dX8_tries_150 : decode cX8_tries 150 = .ok (.iastore, 1) := by decide +kernel
theorem dX8_tries_151 : decode cX8_tries 151 = .ok (.aload_n 0, 1) := by decide +kernel
theorem dX8_tries_152 : decode cX8_tries 152 = .ok (.iload 6, 2) := by decide +kernel
theorem dX8_tries_154 : decode cX8_tries 154 = .ok (.iload 7, 2) := by decide +kernel
theorem dX8_tries_156 : decode cX8_tries 156 = .ok (.invokevirtual 234, 3) := by decide +kernel
theorem dX8_tries_159 : decode cX8_tries 159 = .ok (.aload_n 0, 1) := by decide +kernel
theorem dX8_tries_160 : decode cX8_tries 160 = .ok (.iload_n 1, 1) := by decide +kernel
theorem dX8_tries_161 : decode cX8_tries 161 = .ok (.iconst 1, 1) := by decide +kernel
theorem dX8_tries_162 : decode cX8_tries 162 = .ok (.iadd, 1) := by decide +kernel
theorem dX8_tries_163 : decode cX8_tries 163 = .ok (.iload_n 2, 1) := by decide +kernel
theorem dX8_tries_164 : decode cX8_tries 164 = .ok (.lload_n 3, 1) := by decide +kernel
theorem dX8_tries_165 : decode cX8_tries 165 = .ok (.lload 8, 2) := by decide +kernel
theorem dX8_tries_167 : decode cX8_tries 167 = .ok (.ladd, 1) := by decide +kernel
theorem dX8_tries_168 : decode cX8_tries 168 = .ok (.invokevirtual 230, 3) := by decide +kernel
theorem dX8_tries_171 : decode cX8_tries 171 = .ok (.aload_n 0, 1) := by decide +kernel
theorem dX8_tries_172 : decode cX8_tries 172 = .ok (.iload 6, 2) := by decide +kernel
theorem dX8_tries_174 : decode cX8_tries 174 = .ok (.iload 7, 2) := by decide +kernel
theorem dX8_tries_176 : decode cX8_tries 176 = .ok (.invokevirtual 234, 3) := by decide +kernel
theorem dX8_tries_179 : decode cX8_tries 179 = .ok (.iinc 5 1, 3) := by decide +kernel
theorem dX8_tries_182 : decode cX8_tries 182 = .ok (.goto (-124), 3) := by decide +kernel
theorem dX8_tries_185 : decode cX8_tries 185 = .ok (.return_, 1) := by decide +kernel
theorem dX8_changes_0 : decode cX8_changes 0 = .ok (.aload_n 0, 1) := by decide +kernel
theorem dX8_changes_1 : decode cX8_changes 1 = .ok (.getfield 86, 3) := by decide +kernel
theorem dX8_changes_4 : decode cX8_changes 4 = .ok (.iload_n 1, 1) := by decide +kernel
theorem dX8_changes_5 : decode cX8_changes 5 = .ok (.iaload, 1) := by decide +kernel
theorem dX8_changes_6 : decode cX8_changes 6 = .ok (.istore_n 3, 1) := by decide +kernel
theorem dX8_changes_7 : decode cX8_changes 7 = .ok (.aload_n 0, 1) := by decide +kernel
theorem dX8_changes_8 : decode cX8_changes 8 = .ok (.getfield 86, 3) := by decide +kernel
theorem dX8_changes_11 : decode cX8_changes 11 = .ok (.iload_n 1, 1) := by decide +kernel
theorem dX8_changes_12 : decode cX8_changes 12 = .ok (.aload_n 0, 1) := by decide +kernel
theorem dX8_changes_13 : decode cX8_changes 13 = .ok (.getfield 86, 3) := by decide +kernel
theorem dX8_changes_16 : decode cX8_changes 16 = .ok (.iload_n 2, 1) := by decide +kernel
theorem dX8_changes_17 : decode cX8_changes 17 = .ok (.iaload, 1) := by decide +kernel
theorem dX8_changes_18 : decode cX8_changes 18 = .ok (.iastore, 1) := by decide +kernel
theorem dX8_changes_19 : decode cX8_changes 19 = .ok (.aload_n 0, 1) := by decide +kernel
theorem dX8_changes_20 : decode cX8_changes 20 = .ok (.getfield 86, 3) := by decide +kernel
theorem dX8_changes_23 : decode cX8_changes 23 = .ok (.iload_n 2, 1) := by decide +kernel
theorem dX8_changes_24 : decode cX8_changes 24 = .ok (.iload_n 3, 1) := by decide +kernel
theorem dX8_changes_25 : decode cX8_changes 25 = .ok (.iastore, 1) := by decide +kernel
theorem dX8_changes_26 : decode cX8_changes 26 = .ok (.return_, 1) := by decide +kernel
set_option maxRecDepth 20000 in
theorem ggX8_best_X8_bad : GoodIn wsX8_best wsX8_bad := goodIn_r _ [8, 1, 51, 52, 53, 54, 55, 56, 57, 58, 59, 60, 61, 62, 63, 64, 65, 66, 67, 68, 69, 70, 71, 72, 73, 74, 75, 76, 77, 78, 79, 80, 81, 82, 83, 84, 85, 86, 87, 88, 89, 90, 91, 92] (by decide +kernel) (by decide +kernel)
set_option maxRecDepth 20000 in
theorem gX8_best_X8_bad : GoodIn wsX8_best (wsV RX8 112 RX8 yX8_bad wsX8_bad) := goodIn_app (goodIn_of _ (by decide +kernel)) ggX8_best_X8_bad
set_option maxRecDepth 20000 in
theorem ggX8_best_X8_chooses : GoodIn wsX8_best wsX8_chooses := goodIn_r _ [12, 13, 14, 15, 16, 17, 18, 2, 19, 20, 21, 22, 7, 23, 24, 25, 26, 27, 28, 29, 30, 31, 32, 33, 34, 35, 36, 37, 38, 39, 40, 41, 42, 43, 44, 45, 46, 47, 48, 49, 50, 51, 52, 53, 54, 55, 56, 57, 58, 59, 60, 61, 62, 63, 64, 65, 66, 67, 68, 69, 70, 71, 72, 73, 74, 75, 76, 77, 78, 79, 80, 81, 82, 83, 84, 85, 86, 87, 88, 89, 90, 91, 92] (by decide +kernel) (by decide +kernel)
set_option maxRecDepth 20000 in
theorem gX8_best_X8_chooses : GoodIn wsX8_best (wsV RX8 237 RX8 yX8_chooses wsX8_chooses) := goodIn_app (goodIn_of _ (by decide +kernel)) ggX8_best_X8_chooses
theorem dX8_best_0 : decode cX8_best 0 = .ok (.aload_n 0, 1) := by decide +kernel
theorem dX8_best_1 : decode cX8_best 1 = .ok (.iconst 0, 1) := by decide +kernel
theorem dX8_best_2 : decode cX8_best 2 = .ok (.putfield 101, 3) := by decide +kernel
theorem dX8_best_5 : decode cX8_best 5 = .ok (.aload_n 0, 1) := by decide +kernel
theorem dX8_best_6 : decode cX8_best 6 = .ok (.iload_n 1, 1) := by decide +kernel
theorem dX8_best_7 : decode cX8_best 7 = .ok (.ifCond .lt 8, 3) := by decide +kernel
theorem dX8_best_10 : decode cX8_best 10 = .ok (.iload_n 1, 1) := by decide +kernel
theorem dX8_best_11 : decode cX8_best 11 = .ok (.iconst 3, 1) := by decide +kernel
theorem dX8_best_12 : decode cX8_best 12 = .ok (.if_icmp .le 7, 3) := by decide +kernel
theorem dX8_best_15 : decode cX8_best 15 = .ok (.iconst 1, 1) := by decide +kernel
theorem dX8_best_16 : decode cX8_best 16 = .ok (.goto 4, 3) := by decide +kernel
theorem dX8_best_19 : decode cX8_best 19 = .ok (.iconst 0, 1) := by decide +kernel
theorem dX8_best_20 : decode cX8_best 20 = .ok (.iconst 1, 1) := by decide +kernel
theorem dX8_best_21 : decode cX8_best 21 = .ok (.invokevirtual 112, 3) := by decide +kernel
theorem dX8_best_24 : decode cX8_best 24 = .ok (.ifCond .eq 5, 3) := by decide +kernel
theorem dX8_best_27 : decode cX8_best 27 = .ok (.lconst 0, 1) := by decide +kernel
theorem dX8_best_28 : decode cX8_best 28 = .ok (.lreturn, 1) := by decide +kernel
theorem dX8_best_29 : decode cX8_best 29 = .ok (.aload_n 0, 1) := by decide +kernel
theorem dX8_best_30 : decode cX8_best 30 = .ok (.iload_n 1, 1) := by decide +kernel
theorem dX8_best_31 : decode cX8_best 31 = .ok (.invokevirtual 237, 3) := by decide +kernel
theorem dX8_best_34 : decode cX8_best 34 = .ok (.ifCond .eq 10, 3) := by decide +kernel
theorem dX8_best_37 : decode cX8_best 37 = .ok (.aload_n 0, 1) := by decide +kernel
theorem dX8_best_38 : decode cX8_best 38 = .ok (.getfield 223, 3) := by decide +kernel
theorem dX8_best_41 : decode cX8_best 41 = .ok (.goto 6, 3) := by decide +kernel
theorem dX8_best_44 : decode cX8_best 44 = .ok (.ldc2_w 189, 3) := by decide +kernel
theorem dX8_best_47 : decode cX8_best 47 = .ok (.lreturn, 1) := by decide +kernel
set_option maxRecDepth 20000 in
theorem ggX8_exchange_X8_bad : GoodIn wsX8_exchange wsX8_bad := goodIn_r _ [10, 1, 50, 51, 52, 53, 54, 55, 56, 57, 58, 59, 60, 61, 62, 63, 64, 65, 66, 67, 68, 69, 70, 71, 72, 73, 74, 75, 76, 77, 78, 79, 80, 81, 82, 83, 84, 85, 86, 87, 88, 89, 90, 91] (by decide +kernel) (by decide +kernel)
set_option maxRecDepth 20000 in
theorem gX8_exchange_X8_bad : GoodIn wsX8_exchange (wsV RX8 112 RX8 yX8_bad wsX8_bad) := goodIn_app (goodIn_of _ (by decide +kernel)) ggX8_exchange_X8_bad
set_option maxRecDepth 20000 in
theorem ggX8_exchange_X8_chooses : GoodIn wsX8_exchange wsX8_chooses := goodIn_r _ [14, 15, 16, 17, 18, 3, 5, 19, 2, 20, 21, 22, 9, 23, 24, 25, 26, 27, 28, 29, 30, 31, 32, 33, 34, 35, 36, 37, 38, 39, 40, 41, 42, 43, 4, 44, 45, 46, 47, 48, 49, 50, 51, 52, 53, 54, 55, 56, 57, 58, 59, 60, 61, 62, 63, 64, 65, 66, 67, 68, 69, 70, 71, 72, 73, 74, 75, 76, 77, 78, 79, 80, 81, 82, 83, 84, 85, 86, 87, 88, 89, 90, 91] (by decide +kernel) (by decide +kernel)
set_option maxRecDepth 20000 in
theorem gX8_exchange_X8_chooses : GoodIn wsX8_exchange (wsV RX8 237 RX8 yX8_chooses wsX8_chooses) := goodIn_app (goodIn_of _ (by decide +kernel)) ggX8_exchange_X8_chooses
theorem dX8_exchange_0 : decode cX8_exchange 0 = .ok (.aload_n 0, 1) := by decide +kernel
theorem dX8_exchange_1 : decode cX8_exchange 1 = .ok (.iconst 0, 1) := by decide +kernel
theorem dX8_exchange_2 : decode cX8_exchange 2 = .ok (.putfield 101, 3) := by decide +kernel
theorem dX8_exchange_5 : decode cX8_exchange 5 = .ok (.aload_n 0, 1) := by decide +kernel
theorem dX8_exchange_6 : decode cX8_exchange 6 = .ok (.iload_n 1, 1) := by decide +kernel
theorem dX8_exchange_7 : decode cX8_exchange 7 = .ok (.ifCond .lt 17, 3) := by decide +kernel
theorem dX8_exchange_10 : decode cX8_exchange 10 = .ok (.iload_n 1, 1) := by decide +kernel
theorem dX8_exchange_11 : decode cX8_exchange 11 = .ok (.iconst 3, 1) := by decide +kernel
theorem dX8_exchange_12 : decode cX8_exchange 12 = .ok (.if_icmp .gt 12, 3) := by decide +kernel
theorem dX8_exchange_15 : decode cX8_exchange 15 = .ok (.iload_n 3, 1) := by decide +kernel
theorem dX8_exchange_16 : decode cX8_exchange 16 = .ok (.ifCond .lt 8, 3) := by decide +kernel
theorem dX8_exchange_19 : decode cX8_exchange 19 = .ok (.iload_n 3, 1) := by decide +kernel
theorem dX8_exchange_20 : decode cX8_exchange 20 = .ok (.iconst 1, 1) := by decide +kernel
theorem dX8_exchange_21 : decode cX8_exchange 21 = .ok (.if_icmp .le 7, 3) := by decide +kernel
theorem dX8_exchange_24 : decode cX8_exchange 24 = .ok (.iconst 1, 1) := by decide +kernel
theorem dX8_exchange_25 : decode cX8_exchange 25 = .ok (.goto 4, 3) := by decide +kernel
theorem dX8_exchange_28 : decode cX8_exchange 28 = .ok (.iconst 0, 1) := by decide +kernel
theorem dX8_exchange_29 : decode cX8_exchange 29 = .ok (.iconst 1, 1) := by decide +kernel
theorem dX8_exchange_30 : decode cX8_exchange 30 = .ok (.invokevirtual 112, 3) := by decide +kernel
theorem dX8_exchange_33 : decode cX8_exchange 33 = .ok (.ifCond .eq 5, 3) := by decide +kernel
theorem dX8_exchange_36 : decode cX8_exchange 36 = .ok (.iconst 0, 1) := by decide +kernel
theorem dX8_exchange_37 : decode cX8_exchange 37 = .ok (.ireturn, 1) := by decide +kernel
theorem dX8_exchange_38 : decode cX8_exchange 38 = .ok (.aload_n 0, 1) := by decide +kernel
theorem dX8_exchange_39 : decode cX8_exchange 39 = .ok (.iload_n 1, 1) := by decide +kernel
theorem dX8_exchange_40 : decode cX8_exchange 40 = .ok (.invokevirtual 237, 3) := by decide +kernel
theorem dX8_exchange_43 : decode cX8_exchange 43 = .ok (.ifCond .eq 15, 3) := by decide +kernel
theorem dX8_exchange_46 : decode cX8_exchange 46 = .ok (.iload_n 2, 1) := by decide +kernel
theorem dX8_exchange_47 : decode cX8_exchange 47 = .ok (.ifCond .lt 11, 3) := by decide +kernel
theorem dX8_exchange_50 : decode cX8_exchange 50 = .ok (.iload_n 2, 1) := by decide +kernel
theorem dX8_exchange_51 : decode cX8_exchange 51 = .ok (.aload_n 0, 1) := by decide +kernel
theorem dX8_exchange_52 : decode cX8_exchange 52 = .ok (.getfield 227, 3) := by decide +kernel
theorem dX8_exchange_55 : decode cX8_exchange 55 = .ok (.if_icmp .lt 5, 3) := by decide +kernel
theorem dX8_exchange_58 : decode cX8_exchange 58 = .ok (.iconst (-1), 1) := by decide +kernel
theorem dX8_exchange_59 : decode cX8_exchange 59 = .ok (.ireturn, 1) := by decide +kernel
theorem dX8_exchange_60 : decode cX8_exchange 60 = .ok (.iload_n 3, 1) := by decide +kernel
theorem dX8_exchange_61 : decode cX8_exchange 61 = .ok (.ifCond .ne 17, 3) := by decide +kernel
theorem dX8_exchange_64 : decode cX8_exchange 64 = .ok (.aload_n 0, 1) := by decide +kernel
theorem dX8_exchange_65 : decode cX8_exchange 65 = .ok (.getfield 89, 3) := by decide +kernel
theorem dX8_exchange_68 : decode cX8_exchange 68 = .ok (.aload_n 0, 1) := by decide +kernel
theorem dX8_exchange_69 : decode cX8_exchange 69 = .ok (.getfield 98, 3) := by decide +kernel
theorem dX8_exchange_72 : decode cX8_exchange 72 = .ok (.iload_n 2, 1) := by decide +kernel
theorem dX8_exchange_73 : decode cX8_exchange 73 = .ok (.iaload, 1) := by decide +kernel
theorem dX8_exchange_74 : decode cX8_exchange 74 = .ok (.iaload, 1) := by decide +kernel
theorem dX8_exchange_75 : decode cX8_exchange 75 = .ok (.goto 14, 3) := by decide +kernel
theorem dX8_exchange_78 : decode cX8_exchange 78 = .ok (.aload_n 0, 1) := by decide +kernel
theorem dX8_exchange_79 : decode cX8_exchange 79 = .ok (.getfield 92, 3) := by decide +kernel
theorem dX8_exchange_82 : decode cX8_exchange 82 = .ok (.aload_n 0, 1) := by decide +kernel
theorem dX8_exchange_83 : decode cX8_exchange 83 = .ok (.getfield 98, 3) := by decide +kernel
theorem dX8_exchange_86 : decode cX8_exchange 86 = .ok (.iload_n 2, 1) := by decide +kernel
theorem dX8_exchange_87 : decode cX8_exchange 87 = .ok (.iaload, 1) := by decide +kernel
theorem dX8_exchange_88 : decode cX8_exchange 88 = .ok (.iaload, 1) := by decide +kernel
theorem dX8_exchange_89 : decode cX8_exchange 89 = .ok (.ireturn, 1) := by decide +kernel
set_option maxRecDepth 20000 in
theorem ggX8_swap_X8_isCommand : GoodIn wsX8_swap wsX8_isCommand := goodIn_r _ [9, 10, 11, 30, 31, 32, 33, 34, 35, 36, 37, 38, 39, 40, 41, 42, 43, 44, 45, 46, 47, 48, 49, 50, 51, 52, 53, 54, 55, 56, 57, 58, 59, 60, 61, 62, 63, 64, 65, 66, 67, 68, 69, 70, 71] (by decide +kernel) (by decide +kernel)
set_option maxRecDepth 20000 in
theorem gX8_swap_X8_isCommand : GoodIn wsX8_swap (wsV RX8 122 RX8 yX8_isCommand wsX8_isCommand) := goodIn_app (goodIn_of _ (by decide +kernel)) ggX8_swap_X8_isCommand
set_option maxRecDepth 20000 in
theorem ggX8_swap_X8_costOf : GoodIn wsX8_swap wsX8_costOf := goodIn_r _ [15, 10, 16, 17, 18, 19, 8, 20, 21, 22, 23, 24, 25, 26, 27, 28, 3, 4, 29, 30, 31, 32, 33, 34, 35, 36, 37, 38, 39, 40, 41, 42, 43, 44, 45, 46, 47, 48, 49, 50, 51, 52, 53, 54, 55, 56, 57, 58, 59, 60, 61, 62, 63, 64, 65, 66, 67, 68, 69, 70, 71] (by decide +kernel) (by decide +kernel)
set_option maxRecDepth 20000 in
theorem gX8_swap_X8_costOf : GoodIn wsX8_swap (wsV RX8 191 RX8 yX8_costOf wsX8_costOf) := goodIn_app (goodIn_of _ (by decide +kernel)) ggX8_swap_X8_costOf
theorem dX8_swap_0 : decode cX8_swap 0 = .ok (.aload_n 0, 1) := by decide +kernel
theorem dX8_swap_1 : decode cX8_swap 1 = .ok (.iload_n 1, 1) := by decide +kernel
theorem dX8_swap_2 : decode cX8_swap 2 = .ok (.invokevirtual 122, 3) := by decide +kernel
theorem dX8_swap_5 : decode cX8_swap 5 = .ok (.ifCond .eq 11, 3) := by decide +kernel
theorem dX8_swap_8 : decode cX8_swap 8 = .ok (.aload_n 0, 1) := by decide +kernel
theorem dX8_swap_9 : decode cX8_swap 9 = .ok (.iload_n 2, 1) := by decide +kernel
theorem dX8_swap_10 : decode cX8_swap 10 = .ok (.invokevirtual 122, 3) := by decide +kernel
theorem dX8_swap_13 : decode cX8_swap 13 = .ok (.ifCond .ne 5, 3) := by decide +kernel
theorem dX8_swap_16 : decode cX8_swap 16 = .ok (.lconst 0, 1) := by decide +kernel
theorem dX8_swap_17 : decode cX8_swap 17 = .ok (.lreturn, 1) := by decide +kernel
theorem dX8_swap_18 : decode cX8_swap 18 = .ok (.aload_n 0, 1) := by decide +kernel
theorem dX8_swap_19 : decode cX8_swap 19 = .ok (.getfield 119, 3) := by decide +kernel
theorem dX8_swap_22 : decode cX8_swap 22 = .ok (.ifCond .ne 7, 3) := by decide +kernel
theorem dX8_swap_25 : decode cX8_swap 25 = .ok (.ldc2_w 189, 3) := by decide +kernel
theorem dX8_swap_28 : decode cX8_swap 28 = .ok (.lreturn, 1) := by decide +kernel
theorem dX8_swap_29 : decode cX8_swap 29 = .ok (.iconst 0, 1) := by decide +kernel
theorem dX8_swap_30 : decode cX8_swap 30 = .ok (.istore_n 3, 1) := by decide +kernel
theorem dX8_swap_31 : decode cX8_swap 31 = .ok (.iload_n 3, 1) := by decide +kernel
theorem dX8_swap_32 : decode cX8_swap 32 = .ok (.aload_n 0, 1) := by decide +kernel
theorem dX8_swap_33 : decode cX8_swap 33 = .ok (.getfield 119, 3) := by decide +kernel
theorem dX8_swap_36 : decode cX8_swap 36 = .ok (.if_icmp .ge 77, 3) := by decide +kernel
theorem dX8_swap_39 : decode cX8_swap 39 = .ok (.iconst 0, 1) := by decide +kernel
theorem dX8_swap_40 : decode cX8_swap 40 = .ok (.istore 4, 2) := by decide +kernel
theorem dX8_swap_42 : decode cX8_swap 42 = .ok (.iload 4, 2) := by decide +kernel
theorem dX8_swap_44 : decode cX8_swap 44 = .ok (.aload_n 0, 1) := by decide +kernel
theorem dX8_swap_45 : decode cX8_swap 45 = .ok (.getfield 39, 3) := by decide +kernel
theorem dX8_swap_48 : decode cX8_swap 48 = .ok (.iload_n 3, 1) := by decide +kernel
theorem dX8_swap_49 : decode cX8_swap 49 = .ok (.iaload, 1) := by decide +kernel
theorem dX8_swap_50 : decode cX8_swap 50 = .ok (.if_icmp .ge 57, 3) := by decide +kernel
theorem dX8_swap_53 : decode cX8_swap 53 = .ok (.aload_n 0, 1) := by decide +kernel
theorem dX8_swap_54 : decode cX8_swap 54 = .ok (.getfield 36, 3) := by decide +kernel
theorem dX8_swap_57 : decode cX8_swap 57 = .ok (.bipush 9, 2) := by decide +kernel
theorem dX8_swap_59 : decode cX8_swap 59 = .ok (.iload_n 3, 1) := by decide +kernel
theorem dX8_swap_60 : decode cX8_swap 60 = .ok (.imul, 1) := by decide +kernel
theorem dX8_swap_61 : decode cX8_swap 61 = .ok (.iload 4, 2) := by decide +kernel
theorem dX8_swap_63 : decode cX8_swap 63 = .ok (.iadd, 1) := by decide +kernel
theorem dX8_swap_64 : decode cX8_swap 64 = .ok (.iaload, 1) := by decide +kernel
theorem dX8_swap_65 : decode cX8_swap 65 = .ok (.istore 5, 2) := by decide +kernel
theorem dX8_swap_67 : decode cX8_swap 67 = .ok (.aload_n 0, 1) := by decide +kernel
theorem dX8_swap_68 : decode cX8_swap 68 = .ok (.getfield 36, 3) := by decide +kernel
theorem dX8_swap_71 : decode cX8_swap 71 = .ok (.bipush 9, 2) := by decide +kernel
theorem dX8_swap_73 : decode cX8_swap 73 = .ok (.iload_n 3, 1) := by decide +kernel
theorem dX8_swap_74 : decode cX8_swap 74 = .ok (.imul, 1) := by decide +kernel
theorem dX8_swap_75 : decode cX8_swap 75 = .ok (.iload 4, 2) := by decide +kernel
theorem dX8_swap_77 : decode cX8_swap 77 = .ok (.iadd, 1) := by decide +kernel
theorem dX8_swap_78 : decode cX8_swap 78 = .ok (.iload 5, 2) := by decide +kernel
theorem dX8_swap_80 : decode cX8_swap 80 = .ok (.iload_n 1, 1) := by decide +kernel
theorem dX8_swap_81 : decode cX8_swap 81 = .ok (.if_icmp .ne 7, 3) := by decide +kernel
theorem dX8_swap_84 : decode cX8_swap 84 = .ok (.iload_n 2, 1) := by decide +kernel
theorem dX8_swap_85 : decode cX8_swap 85 = .ok (.goto 15, 3) := by decide +kernel
theorem dX8_swap_88 : decode cX8_swap 88 = .ok (.iload 5, 2) := by decide +kernel
theorem dX8_swap_90 : decode cX8_swap 90 = .ok (.iload_n 2, 1) := by decide +kernel
theorem dX8_swap_91 : decode cX8_swap 91 = .ok (.if_icmp .ne 7, 3) := by decide +kernel
theorem dX8_swap_94 : decode cX8_swap 94 = .ok (.iload_n 1, 1) := by decide +kernel
theorem dX8_swap_95 : decode cX8_swap 95 = .ok (.goto 5, 3) := by decide +kernel
theorem dX8_swap_98 : decode cX8_swap 98 = .ok (.iload 5, 2) := by decide +kernel
theorem dX8_swap_100 : decode cX8_swap 100 = .ok (.iastore, 1) := by decide +kernel
theorem dX8_swap_101 : decode cX8_swap 101 = .ok (.iinc 4 1, 3) := by decide +kernel
theorem dX8_swap_104 : decode cX8_swap 104 = .ok (.goto (-62), 3) := by decide +kernel
theorem dX8_swap_107 : decode cX8_swap 107 = .ok (.iinc 3 1, 3) := by decide +kernel
theorem dX8_swap_110 : decode cX8_swap 110 = .ok (.goto (-79), 3) := by decide +kernel
theorem dX8_swap_113 : decode cX8_swap 113 = .ok (.aload_n 0, 1) := by decide +kernel
theorem dX8_swap_114 : decode cX8_swap 114 = .ok (.invokevirtual 191, 3) := by decide +kernel
theorem dX8_swap_117 : decode cX8_swap 117 = .ok (.lreturn, 1) := by decide +kernel
theorem dX8_told_0 : decode cX8_told 0 = .ok (.aload_n 0, 1) := by decide +kernel
theorem dX8_told_1 : decode cX8_told 1 = .ok (.iconst 0, 1) := by decide +kernel
theorem dX8_told_2 : decode cX8_told 2 = .ok (.putfield 101, 3) := by decide +kernel
theorem dX8_told_5 : decode cX8_told 5 = .ok (.iload_n 1, 1) := by decide +kernel
theorem dX8_told_6 : decode cX8_told 6 = .ok (.tableswitch 63 0 3 #[30, 35, 53, 58], 30) := by decide +kernel
theorem dX8_told_36 : decode cX8_told 36 = .ok (.aload_n 0, 1) := by decide +kernel
theorem dX8_told_37 : decode cX8_told 37 = .ok (.getfield 116, 3) := by decide +kernel
theorem dX8_told_40 : decode cX8_told 40 = .ok (.ireturn, 1) := by decide +kernel
theorem dX8_told_41 : decode cX8_told 41 = .ok (.aload_n 0, 1) := by decide +kernel
theorem dX8_told_42 : decode cX8_told 42 = .ok (.getfield 119, 3) := by decide +kernel
theorem dX8_told_45 : decode cX8_told 45 = .ok (.ifCond .ne 7, 3) := by decide +kernel
theorem dX8_told_48 : decode cX8_told 48 = .ok (.iconst 0, 1) := by decide +kernel
theorem dX8_told_49 : decode cX8_told 49 = .ok (.goto 9, 3) := by decide +kernel
theorem dX8_told_52 : decode cX8_told 52 = .ok (.aload_n 0, 1) := by decide +kernel
theorem dX8_told_53 : decode cX8_told 53 = .ok (.getfield 119, 3) := by decide +kernel
theorem dX8_told_56 : decode cX8_told 56 = .ok (.iconst 1, 1) := by decide +kernel
theorem dX8_told_57 : decode cX8_told 57 = .ok (.isub, 1) := by decide +kernel
theorem dX8_told_58 : decode cX8_told 58 = .ok (.ireturn, 1) := by decide +kernel
theorem dX8_told_59 : decode cX8_told 59 = .ok (.aload_n 0, 1) := by decide +kernel
theorem dX8_told_60 : decode cX8_told 60 = .ok (.getfield 125, 3) := by decide +kernel
theorem dX8_told_63 : decode cX8_told 63 = .ok (.ireturn, 1) := by decide +kernel
theorem dX8_told_64 : decode cX8_told 64 = .ok (.aload_n 0, 1) := by decide +kernel
theorem dX8_told_65 : decode cX8_told 65 = .ok (.getfield 128, 3) := by decide +kernel
theorem dX8_told_68 : decode cX8_told 68 = .ok (.ireturn, 1) := by decide +kernel
theorem dX8_told_69 : decode cX8_told 69 = .ok (.iconst (-1), 1) := by decide +kernel
theorem dX8_told_70 : decode cX8_told 70 = .ok (.ireturn, 1) := by decide +kernel
theorem dJ6_numberOfTrailingZeros_0f7a4_0 : decode cJ6_numberOfTrailingZeros_0f7a4 0 = .ok (.iload_n 0, 1) := by decide +kernel
theorem dJ6_numberOfTrailingZeros_0f7a4_1 : decode cJ6_numberOfTrailingZeros_0f7a4 1 = .ok (.iconst (-1), 1) := by decide +kernel
theorem dJ6_numberOfTrailingZeros_0f7a4_2 : decode cJ6_numberOfTrailingZeros_0f7a4 2 = .ok (.ixor, 1) := by decide +kernel
theorem dJ6_numberOfTrailingZeros_0f7a4_3 : decode cJ6_numberOfTrailingZeros_0f7a4 3 = .ok (.iload_n 0, 1) := by decide +kernel
theorem dJ6_numberOfTrailingZeros_0f7a4_4 : decode cJ6_numberOfTrailingZeros_0f7a4 4 = .ok (.iconst 1, 1) := by decide +kernel
theorem dJ6_numberOfTrailingZeros_0f7a4_5 : decode cJ6_numberOfTrailingZeros_0f7a4 5 = .ok (.isub, 1) := by decide +kernel
theorem dJ6_numberOfTrailingZeros_0f7a4_6 : decode cJ6_numberOfTrailingZeros_0f7a4 6 = .ok (.iand, 1) := by decide +kernel
theorem dJ6_numberOfTrailingZeros_0f7a4_7 : decode cJ6_numberOfTrailingZeros_0f7a4 7 = .ok (.istore_n 0, 1) := by decide +kernel
theorem dJ6_numberOfTrailingZeros_0f7a4_8 : decode cJ6_numberOfTrailingZeros_0f7a4 8 = .ok (.iload_n 0, 1) := by decide +kernel
theorem dJ6_numberOfTrailingZeros_0f7a4_9 : decode cJ6_numberOfTrailingZeros_0f7a4 9 = .ok (.ifCond .gt 8, 3) := by decide +kernel
theorem dJ6_numberOfTrailingZeros_0f7a4_12 : decode cJ6_numberOfTrailingZeros_0f7a4 12 = .ok (.iload_n 0, 1) := by decide +kernel
theorem dJ6_numberOfTrailingZeros_0f7a4_13 : decode cJ6_numberOfTrailingZeros_0f7a4 13 = .ok (.bipush 32, 2) := by decide +kernel
theorem dJ6_numberOfTrailingZeros_0f7a4_15 : decode cJ6_numberOfTrailingZeros_0f7a4 15 = .ok (.iand, 1) := by decide +kernel
theorem dJ6_numberOfTrailingZeros_0f7a4_16 : decode cJ6_numberOfTrailingZeros_0f7a4 16 = .ok (.ireturn, 1) := by decide +kernel
theorem dJ6_numberOfTrailingZeros_0f7a4_17 : decode cJ6_numberOfTrailingZeros_0f7a4 17 = .ok (.iconst 1, 1) := by decide +kernel
theorem dJ6_numberOfTrailingZeros_0f7a4_18 : decode cJ6_numberOfTrailingZeros_0f7a4 18 = .ok (.istore_n 1, 1) := by decide +kernel
theorem dJ6_numberOfTrailingZeros_0f7a4_19 : decode cJ6_numberOfTrailingZeros_0f7a4 19 = .ok (.iload_n 0, 1) := by decide +kernel
theorem dJ6_numberOfTrailingZeros_0f7a4_20 : decode cJ6_numberOfTrailingZeros_0f7a4 20 = .ok (.ldc_w 264, 3) := by decide +kernel
theorem dJ6_numberOfTrailingZeros_0f7a4_23 : decode cJ6_numberOfTrailingZeros_0f7a4 23 = .ok (.if_icmp .le 11, 3) := by decide +kernel
theorem dJ6_numberOfTrailingZeros_0f7a4_26 : decode cJ6_numberOfTrailingZeros_0f7a4 26 = .ok (.iinc 1 16, 3) := by decide +kernel
theorem dJ6_numberOfTrailingZeros_0f7a4_29 : decode cJ6_numberOfTrailingZeros_0f7a4 29 = .ok (.iload_n 0, 1) := by decide +kernel
theorem dJ6_numberOfTrailingZeros_0f7a4_30 : decode cJ6_numberOfTrailingZeros_0f7a4 30 = .ok (.bipush 16, 2) := by decide +kernel
theorem dJ6_numberOfTrailingZeros_0f7a4_32 : decode cJ6_numberOfTrailingZeros_0f7a4 32 = .ok (.iushr, 1) := by decide +kernel
theorem dJ6_numberOfTrailingZeros_0f7a4_33 : decode cJ6_numberOfTrailingZeros_0f7a4 33 = .ok (.istore_n 0, 1) := by decide +kernel
theorem dJ6_numberOfTrailingZeros_0f7a4_34 : decode cJ6_numberOfTrailingZeros_0f7a4 34 = .ok (.iload_n 0, 1) := by decide +kernel
theorem dJ6_numberOfTrailingZeros_0f7a4_35 : decode cJ6_numberOfTrailingZeros_0f7a4 35 = .ok (.sipush 256, 3) := by decide +kernel
theorem dJ6_numberOfTrailingZeros_0f7a4_38 : decode cJ6_numberOfTrailingZeros_0f7a4 38 = .ok (.if_icmp .le 11, 3) := by decide +kernel
theorem dJ6_numberOfTrailingZeros_0f7a4_41 : decode cJ6_numberOfTrailingZeros_0f7a4 41 = .ok (.iinc 1 8, 3) := by decide +kernel
theorem dJ6_numberOfTrailingZeros_0f7a4_44 : decode cJ6_numberOfTrailingZeros_0f7a4 44 = .ok (.iload_n 0, 1) := by decide +kernel
theorem dJ6_numberOfTrailingZeros_0f7a4_45 : decode cJ6_numberOfTrailingZeros_0f7a4 45 = .ok (.bipush 8, 2) := by decide +kernel
theorem dJ6_numberOfTrailingZeros_0f7a4_47 : decode cJ6_numberOfTrailingZeros_0f7a4 47 = .ok (.iushr, 1) := by decide +kernel
theorem dJ6_numberOfTrailingZeros_0f7a4_48 : decode cJ6_numberOfTrailingZeros_0f7a4 48 = .ok (.istore_n 0, 1) := by decide +kernel
theorem dJ6_numberOfTrailingZeros_0f7a4_49 : decode cJ6_numberOfTrailingZeros_0f7a4 49 = .ok (.iload_n 0, 1) := by decide +kernel
theorem dJ6_numberOfTrailingZeros_0f7a4_50 : decode cJ6_numberOfTrailingZeros_0f7a4 50 = .ok (.bipush 16, 2) := by decide +kernel
theorem dJ6_numberOfTrailingZeros_0f7a4_52 : decode cJ6_numberOfTrailingZeros_0f7a4 52 = .ok (.if_icmp .le 10, 3) := by decide +kernel
theorem dJ6_numberOfTrailingZeros_0f7a4_55 : decode cJ6_numberOfTrailingZeros_0f7a4 55 = .ok (.iinc 1 4, 3) := by decide +kernel
theorem dJ6_numberOfTrailingZeros_0f7a4_58 : decode cJ6_numberOfTrailingZeros_0f7a4 58 = .ok (.iload_n 0, 1) := by decide +kernel
theorem dJ6_numberOfTrailingZeros_0f7a4_59 : decode cJ6_numberOfTrailingZeros_0f7a4 59 = .ok (.iconst 4, 1) := by decide +kernel
theorem dJ6_numberOfTrailingZeros_0f7a4_60 : decode cJ6_numberOfTrailingZeros_0f7a4 60 = .ok (.iushr, 1) := by decide +kernel
theorem dJ6_numberOfTrailingZeros_0f7a4_61 : decode cJ6_numberOfTrailingZeros_0f7a4 61 = .ok (.istore_n 0, 1) := by decide +kernel
theorem dJ6_numberOfTrailingZeros_0f7a4_62 : decode cJ6_numberOfTrailingZeros_0f7a4 62 = .ok (.iload_n 0, 1) := by decide +kernel
theorem dJ6_numberOfTrailingZeros_0f7a4_63 : decode cJ6_numberOfTrailingZeros_0f7a4 63 = .ok (.iconst 4, 1) := by decide +kernel
theorem dJ6_numberOfTrailingZeros_0f7a4_64 : decode cJ6_numberOfTrailingZeros_0f7a4 64 = .ok (.if_icmp .le 10, 3) := by decide +kernel
theorem dJ6_numberOfTrailingZeros_0f7a4_67 : decode cJ6_numberOfTrailingZeros_0f7a4 67 = .ok (.iinc 1 2, 3) := by decide +kernel
theorem dJ6_numberOfTrailingZeros_0f7a4_70 : decode cJ6_numberOfTrailingZeros_0f7a4 70 = .ok (.iload_n 0, 1) := by decide +kernel
theorem dJ6_numberOfTrailingZeros_0f7a4_71 : decode cJ6_numberOfTrailingZeros_0f7a4 71 = .ok (.iconst 2, 1) := by decide +kernel
theorem dJ6_numberOfTrailingZeros_0f7a4_72 : decode cJ6_numberOfTrailingZeros_0f7a4 72 = .ok (.iushr, 1) := by decide +kernel
theorem dJ6_numberOfTrailingZeros_0f7a4_73 : decode cJ6_numberOfTrailingZeros_0f7a4 73 = .ok (.istore_n 0, 1) := by decide +kernel
theorem dJ6_numberOfTrailingZeros_0f7a4_74 : decode cJ6_numberOfTrailingZeros_0f7a4 74 = .ok (.iload_n 1, 1) := by decide +kernel
theorem dJ6_numberOfTrailingZeros_0f7a4_75 : decode cJ6_numberOfTrailingZeros_0f7a4 75 = .ok (.iload_n 0, 1) := by decide +kernel
theorem dJ6_numberOfTrailingZeros_0f7a4_76 : decode cJ6_numberOfTrailingZeros_0f7a4 76 = .ok (.iconst 1, 1) := by decide +kernel
theorem dJ6_numberOfTrailingZeros_0f7a4_77 : decode cJ6_numberOfTrailingZeros_0f7a4 77 = .ok (.iushr, 1) := by decide +kernel
theorem dJ6_numberOfTrailingZeros_0f7a4_78 : decode cJ6_numberOfTrailingZeros_0f7a4 78 = .ok (.iadd, 1) := by decide +kernel
theorem dJ6_numberOfTrailingZeros_0f7a4_79 : decode cJ6_numberOfTrailingZeros_0f7a4 79 = .ok (.ireturn, 1) := by decide +kernel
theorem dJ6_bitCount_0f7a4_0 : decode cJ6_bitCount_0f7a4 0 = .ok (.iload_n 0, 1) := by decide +kernel
theorem dJ6_bitCount_0f7a4_1 : decode cJ6_bitCount_0f7a4 1 = .ok (.iload_n 0, 1) := by decide +kernel
theorem dJ6_bitCount_0f7a4_2 : decode cJ6_bitCount_0f7a4 2 = .ok (.iconst 1, 1) := by decide +kernel
theorem dJ6_bitCount_0f7a4_3 : decode cJ6_bitCount_0f7a4 3 = .ok (.iushr, 1) := by decide +kernel
theorem dJ6_bitCount_0f7a4_4 : decode cJ6_bitCount_0f7a4 4 = .ok (.ldc_w 265, 3) := by decide +kernel
theorem dJ6_bitCount_0f7a4_7 : decode cJ6_bitCount_0f7a4 7 = .ok (.iand, 1) := by decide +kernel
theorem dJ6_bitCount_0f7a4_8 : decode cJ6_bitCount_0f7a4 8 = .ok (.isub, 1) := by decide +kernel
theorem dJ6_bitCount_0f7a4_9 : decode cJ6_bitCount_0f7a4 9 = .ok (.istore_n 0, 1) := by decide +kernel
theorem dJ6_bitCount_0f7a4_10 : decode cJ6_bitCount_0f7a4 10 = .ok (.iload_n 0, 1) := by decide +kernel
theorem dJ6_bitCount_0f7a4_11 : decode cJ6_bitCount_0f7a4 11 = .ok (.ldc_w 266, 3) := by decide +kernel
theorem dJ6_bitCount_0f7a4_14 : decode cJ6_bitCount_0f7a4 14 = .ok (.iand, 1) := by decide +kernel
theorem dJ6_bitCount_0f7a4_15 : decode cJ6_bitCount_0f7a4 15 = .ok (.iload_n 0, 1) := by decide +kernel
theorem dJ6_bitCount_0f7a4_16 : decode cJ6_bitCount_0f7a4 16 = .ok (.iconst 2, 1) := by decide +kernel
theorem dJ6_bitCount_0f7a4_17 : decode cJ6_bitCount_0f7a4 17 = .ok (.iushr, 1) := by decide +kernel
theorem dJ6_bitCount_0f7a4_18 : decode cJ6_bitCount_0f7a4 18 = .ok (.ldc_w 266, 3) := by decide +kernel
theorem dJ6_bitCount_0f7a4_21 : decode cJ6_bitCount_0f7a4 21 = .ok (.iand, 1) := by decide +kernel
theorem dJ6_bitCount_0f7a4_22 : decode cJ6_bitCount_0f7a4 22 = .ok (.iadd, 1) := by decide +kernel
theorem dJ6_bitCount_0f7a4_23 : decode cJ6_bitCount_0f7a4 23 = .ok (.istore_n 0, 1) := by decide +kernel
theorem dJ6_bitCount_0f7a4_24 : decode cJ6_bitCount_0f7a4 24 = .ok (.iload_n 0, 1) := by decide +kernel
theorem dJ6_bitCount_0f7a4_25 : decode cJ6_bitCount_0f7a4 25 = .ok (.iload_n 0, 1) := by decide +kernel
theorem dJ6_bitCount_0f7a4_26 : decode cJ6_bitCount_0f7a4 26 = .ok (.iconst 4, 1) := by decide +kernel
theorem dJ6_bitCount_0f7a4_27 : decode cJ6_bitCount_0f7a4 27 = .ok (.iushr, 1) := by decide +kernel
theorem dJ6_bitCount_0f7a4_28 : decode cJ6_bitCount_0f7a4 28 = .ok (.iadd, 1) := by decide +kernel
theorem dJ6_bitCount_0f7a4_29 : decode cJ6_bitCount_0f7a4 29 = .ok (.ldc_w 267, 3) := by decide +kernel
theorem dJ6_bitCount_0f7a4_32 : decode cJ6_bitCount_0f7a4 32 = .ok (.iand, 1) := by decide +kernel
theorem dJ6_bitCount_0f7a4_33 : decode cJ6_bitCount_0f7a4 33 = .ok (.istore_n 0, 1) := by decide +kernel
theorem dJ6_bitCount_0f7a4_34 : decode cJ6_bitCount_0f7a4 34 = .ok (.iload_n 0, 1) := by decide +kernel
theorem dJ6_bitCount_0f7a4_35 : decode cJ6_bitCount_0f7a4 35 = .ok (.iload_n 0, 1) := by decide +kernel
theorem dJ6_bitCount_0f7a4_36 : decode cJ6_bitCount_0f7a4 36 = .ok (.bipush 8, 2) := by decide +kernel
theorem dJ6_bitCount_0f7a4_38 : decode cJ6_bitCount_0f7a4 38 = .ok (.iushr, 1) := by decide +kernel
theorem dJ6_bitCount_0f7a4_39 : decode cJ6_bitCount_0f7a4 39 = .ok (.iadd, 1) := by decide +kernel
theorem dJ6_bitCount_0f7a4_40 : decode cJ6_bitCount_0f7a4 40 = .ok (.istore_n 0, 1) := by decide +kernel
theorem dJ6_bitCount_0f7a4_41 : decode cJ6_bitCount_0f7a4 41 = .ok (.iload_n 0, 1) := by decide +kernel
theorem dJ6_bitCount_0f7a4_42 : decode cJ6_bitCount_0f7a4 42 = .ok (.iload_n 0, 1) := by decide +kernel
theorem dJ6_bitCount_0f7a4_43 : decode cJ6_bitCount_0f7a4 43 = .ok (.bipush 16, 2) := by decide +kernel
theorem dJ6_bitCount_0f7a4_45 : decode cJ6_bitCount_0f7a4 45 = .ok (.iushr, 1) := by decide +kernel
theorem dJ6_bitCount_0f7a4_46 : decode cJ6_bitCount_0f7a4 46 = .ok (.iadd, 1) := by decide +kernel
theorem dJ6_bitCount_0f7a4_47 : decode cJ6_bitCount_0f7a4 47 = .ok (.istore_n 0, 1) := by decide +kernel
theorem dJ6_bitCount_0f7a4_48 : decode cJ6_bitCount_0f7a4 48 = .ok (.iload_n 0, 1) := by decide +kernel
theorem dJ6_bitCount_0f7a4_49 : decode cJ6_bitCount_0f7a4 49 = .ok (.bipush 63, 2) := by decide +kernel
theorem dJ6_bitCount_0f7a4_51 : decode cJ6_bitCount_0f7a4 51 = .ok (.iand, 1) := by decide +kernel
theorem dJ6_bitCount_0f7a4_52 : decode cJ6_bitCount_0f7a4 52 = .ok (.ireturn, 1) := by decide +kernel
theorem dJ9_min_7cf53_0 : decode cJ9_min_7cf53 0 = .ok (.iload_n 0, 1) := by decide +kernel
theorem dJ9_min_7cf53_1 : decode cJ9_min_7cf53 1 = .ok (.iload_n 1, 1) := by decide +kernel
theorem dJ9_min_7cf53_2 : decode cJ9_min_7cf53 2 = .ok (.if_icmp .gt 7, 3) := by decide +kernel
theorem dJ9_min_7cf53_5 : decode cJ9_min_7cf53 5 = .ok (.iload_n 0, 1) := by decide +kernel
theorem dJ9_min_7cf53_6 : decode cJ9_min_7cf53 6 = .ok (.goto 4, 3) := by decide +kernel
theorem dJ9_min_7cf53_9 : decode cJ9_min_7cf53 9 = .ok (.iload_n 1, 1) := by decide +kernel
theorem dJ9_min_7cf53_10 : decode cJ9_min_7cf53 10 = .ok (.ireturn, 1) := by decide +kernel
theorem dJ9_min_f86c9_0 : decode cJ9_min_f86c9 0 = .ok (.lload_n 0, 1) := by decide +kernel
theorem dJ9_min_f86c9_1 : decode cJ9_min_f86c9 1 = .ok (.lload_n 2, 1) := by decide +kernel
theorem dJ9_min_f86c9_2 : decode cJ9_min_f86c9 2 = .ok (.lcmp, 1) := by decide +kernel
theorem dJ9_min_f86c9_3 : decode cJ9_min_f86c9 3 = .ok (.ifCond .gt 7, 3) := by decide +kernel
theorem dJ9_min_f86c9_6 : decode cJ9_min_f86c9 6 = .ok (.lload_n 0, 1) := by decide +kernel
theorem dJ9_min_f86c9_7 : decode cJ9_min_f86c9 7 = .ok (.goto 4, 3) := by decide +kernel
theorem dJ9_min_f86c9_10 : decode cJ9_min_f86c9 10 = .ok (.lload_n 2, 1) := by decide +kernel
theorem dJ9_min_f86c9_11 : decode cJ9_min_f86c9 11 = .ok (.lreturn, 1) := by decide +kernel
theorem dJ7_fill_d0a16_0 : decode cJ7_fill_d0a16 0 = .ok (.iconst 0, 1) := by decide +kernel
theorem dJ7_fill_d0a16_1 : decode cJ7_fill_d0a16 1 = .ok (.istore_n 3, 1) := by decide +kernel
theorem dJ7_fill_d0a16_2 : decode cJ7_fill_d0a16 2 = .ok (.aload_n 0, 1) := by decide +kernel
theorem dJ7_fill_d0a16_3 : decode cJ7_fill_d0a16 3 = .ok (.arraylength, 1) := by decide +kernel
theorem dJ7_fill_d0a16_4 : decode cJ7_fill_d0a16 4 = .ok (.istore 4, 2) := by decide +kernel
theorem dJ7_fill_d0a16_6 : decode cJ7_fill_d0a16 6 = .ok (.iload_n 3, 1) := by decide +kernel
theorem dJ7_fill_d0a16_7 : decode cJ7_fill_d0a16 7 = .ok (.iload 4, 2) := by decide +kernel
theorem dJ7_fill_d0a16_9 : decode cJ7_fill_d0a16 9 = .ok (.if_icmp .ge 13, 3) := by decide +kernel
theorem dJ7_fill_d0a16_12 : decode cJ7_fill_d0a16 12 = .ok (.aload_n 0, 1) := by decide +kernel
theorem dJ7_fill_d0a16_13 : decode cJ7_fill_d0a16 13 = .ok (.iload_n 3, 1) := by decide +kernel
theorem dJ7_fill_d0a16_14 : decode cJ7_fill_d0a16 14 = .ok (.lload_n 1, 1) := by decide +kernel
theorem dJ7_fill_d0a16_15 : decode cJ7_fill_d0a16 15 = .ok (.lastore, 1) := by decide +kernel
theorem dJ7_fill_d0a16_16 : decode cJ7_fill_d0a16 16 = .ok (.iinc 3 1, 3) := by decide +kernel
theorem dJ7_fill_d0a16_19 : decode cJ7_fill_d0a16 19 = .ok (.goto (-13), 3) := by decide +kernel
theorem dJ7_fill_d0a16_22 : decode cJ7_fill_d0a16 22 = .ok (.return_, 1) := by decide +kernel
theorem dJ7_fill_53178_0 : decode cJ7_fill_53178 0 = .ok (.iconst 0, 1) := by decide +kernel
theorem dJ7_fill_53178_1 : decode cJ7_fill_53178 1 = .ok (.istore_n 2, 1) := by decide +kernel
theorem dJ7_fill_53178_2 : decode cJ7_fill_53178 2 = .ok (.aload_n 0, 1) := by decide +kernel
theorem dJ7_fill_53178_3 : decode cJ7_fill_53178 3 = .ok (.arraylength, 1) := by decide +kernel
theorem dJ7_fill_53178_4 : decode cJ7_fill_53178 4 = .ok (.istore_n 3, 1) := by decide +kernel
theorem dJ7_fill_53178_5 : decode cJ7_fill_53178 5 = .ok (.iload_n 2, 1) := by decide +kernel
theorem dJ7_fill_53178_6 : decode cJ7_fill_53178 6 = .ok (.iload_n 3, 1) := by decide +kernel
theorem dJ7_fill_53178_7 : decode cJ7_fill_53178 7 = .ok (.if_icmp .ge 13, 3) := by decide +kernel
theorem dJ7_fill_53178_10 : decode cJ7_fill_53178 10 = .ok (.aload_n 0, 1) := by decide +kernel
theorem dJ7_fill_53178_11 : decode cJ7_fill_53178 11 = .ok (.iload_n 2, 1) := by decide +kernel
theorem dJ7_fill_53178_12 : decode cJ7_fill_53178 12 = .ok (.iload_n 1, 1) := by decide +kernel
theorem dJ7_fill_53178_13 : decode cJ7_fill_53178 13 = .ok (.iastore, 1) := by decide +kernel
theorem dJ7_fill_53178_14 : decode cJ7_fill_53178 14 = .ok (.iinc 2 1, 3) := by decide +kernel
theorem dJ7_fill_53178_17 : decode cJ7_fill_53178 17 = .ok (.goto (-12), 3) := by decide +kernel
theorem dJ7_fill_53178_20 : decode cJ7_fill_53178 20 = .ok (.return_, 1) := by decide +kernel
