set_option maxRecDepth 20000 in
theorem ggX12_init_X12_begins : GoodIn wsX12_init wsX12_begins := goodIn_r _ [45, 12, 13, 14, 15, 46, 47, 48, 49, 50, 51, 52, 53, 54, 55, 56, 57, 58, 59, 60, 61, 62, 63, 64, 65, 66, 67, 68, 69, 70, 71, 72, 73, 74, 75, 76, 77, 78, 79, 80, 81, 82, 83, 84, 85, 86, 87, 88, 89, 90, 91, 92, 93, 94, 95, 96, 97, 98, 99, 100, 101, 102, 103, 104, 105, 106, 107, 108, 109, 110, 111] rfl (by decide +kernel)
set_option maxRecDepth 20000 in
theorem gX12_init_X12_begins : GoodIn wsX12_init (wsV RX12 117 RX12 yX12_begins wsX12_begins) := goodIn_app (goodIn_of _ (by decide +kernel)) ggX12_init_X12_begins
theorem dX12_init_0 : decode cX12_init 0 = .ok (.aload_n 0, 1) := by decide +kernel
theorem dX12_init_1 : decode cX12_init 1 = .ok (.invokespecial 1, 3) := by decide +kernel
theorem dX12_init_4 : decode cX12_init 4 = .ok (.aload_n 0, 1) := by decide +kernel
theorem dX12_init_5 : decode cX12_init 5 = .ok (.bipush 60, 2) := by decide +kernel
theorem dX12_init_7 : decode cX12_init 7 = .ok (.putfield 7, 3) := by decide +kernel
theorem dX12_init_10 : decode cX12_init 10 = .ok (.aload_n 0, 1) := by decide +kernel
theorem dX12_init_11 : decode cX12_init 11 = .ok (.iconst 2, 1) := by decide +kernel
theorem dX12_init_12 : decode cX12_init 12 = .ok (.putfield 13, 3) := by decide +kernel
theorem dX12_init_15 : decode cX12_init 15 = .ok (.aload_n 0, 1) := by decide +kernel
theorem dX12_init_16 : decode cX12_init 16 = .ok (.bipush 32, 2) := by decide +kernel
theorem dX12_init_18 : decode cX12_init 18 = .ok (.newarray .int, 2) := by decide +kernel
theorem dX12_init_20 : decode cX12_init 20 = .ok (.putfield 16, 3) := by decide +kernel
theorem dX12_init_23 : decode cX12_init 23 = .ok (.aload_n 0, 1) := by decide +kernel
theorem dX12_init_24 : decode cX12_init 24 = .ok (.bipush 32, 2) := by decide +kernel
theorem dX12_init_26 : decode cX12_init 26 = .ok (.newarray .int, 2) := by decide +kernel
theorem dX12_init_28 : decode cX12_init 28 = .ok (.putfield 20, 3) := by decide +kernel
theorem dX12_init_31 : decode cX12_init 31 = .ok (.aload_n 0, 1) := by decide +kernel
theorem dX12_init_32 : decode cX12_init 32 = .ok (.sipush 192, 3) := by decide +kernel
theorem dX12_init_35 : decode cX12_init 35 = .ok (.newarray .int, 2) := by decide +kernel
theorem dX12_init_37 : decode cX12_init 37 = .ok (.putfield 23, 3) := by decide +kernel
theorem dX12_init_40 : decode cX12_init 40 = .ok (.aload_n 0, 1) := by decide +kernel
theorem dX12_init_41 : decode cX12_init 41 = .ok (.sipush 192, 3) := by decide +kernel
theorem dX12_init_44 : decode cX12_init 44 = .ok (.newarray .int, 2) := by decide +kernel
theorem dX12_init_46 : decode cX12_init 46 = .ok (.putfield 26, 3) := by decide +kernel
theorem dX12_init_49 : decode cX12_init 49 = .ok (.aload_n 0, 1) := by decide +kernel
theorem dX12_init_50 : decode cX12_init 50 = .ok (.sipush 200, 3) := by decide +kernel
theorem dX12_init_53 : decode cX12_init 53 = .ok (.newarray .int, 2) := by decide +kernel
theorem dX12_init_55 : decode cX12_init 55 = .ok (.putfield 29, 3) := by decide +kernel
theorem dX12_init_58 : decode cX12_init 58 = .ok (.aload_n 0, 1) := by decide +kernel
theorem dX12_init_59 : decode cX12_init 59 = .ok (.iconst 2, 1) := by decide +kernel
theorem dX12_init_60 : decode cX12_init 60 = .ok (.newarray .int, 2) := by decide +kernel
theorem dX12_init_62 : decode cX12_init 62 = .ok (.putfield 32, 3) := by decide +kernel
theorem dX12_init_65 : decode cX12_init 65 = .ok (.aload_n 0, 1) := by decide +kernel
theorem dX12_init_66 : decode cX12_init 66 = .ok (.iconst 2, 1) := by decide +kernel
theorem dX12_init_67 : decode cX12_init 67 = .ok (.newarray .int, 2) := by decide +kernel
theorem dX12_init_69 : decode cX12_init 69 = .ok (.putfield 35, 3) := by decide +kernel
theorem dX12_init_72 : decode cX12_init 72 = .ok (.aload_n 0, 1) := by decide +kernel
theorem dX12_init_73 : decode cX12_init 73 = .ok (.iconst 2, 1) := by decide +kernel
theorem dX12_init_74 : decode cX12_init 74 = .ok (.newarray .int, 2) := by decide +kernel
theorem dX12_init_76 : decode cX12_init 76 = .ok (.putfield 38, 3) := by decide +kernel
theorem dX12_init_79 : decode cX12_init 79 = .ok (.aload_n 0, 1) := by decide +kernel
theorem dX12_init_80 : decode cX12_init 80 = .ok (.iconst 2, 1) := by decide +kernel
theorem dX12_init_81 : decode cX12_init 81 = .ok (.newarray .int, 2) := by decide +kernel
theorem dX12_init_83 : decode cX12_init 83 = .ok (.putfield 41, 3) := by decide +kernel
theorem dX12_init_86 : decode cX12_init 86 = .ok (.aload_n 0, 1) := by decide +kernel
theorem dX12_init_87 : decode cX12_init 87 = .ok (.sipush 128, 3) := by decide +kernel
theorem dX12_init_90 : decode cX12_init 90 = .ok (.newarray .int, 2) := by decide +kernel
theorem dX12_init_92 : decode cX12_init 92 = .ok (.putfield 44, 3) := by decide +kernel
theorem dX12_init_95 : decode cX12_init 95 = .ok (.aload_n 0, 1) := by decide +kernel
theorem dX12_init_96 : decode cX12_init 96 = .ok (.bipush 40, 2) := by decide +kernel
theorem dX12_init_98 : decode cX12_init 98 = .ok (.newarray .int, 2) := by decide +kernel
theorem dX12_init_100 : decode cX12_init 100 = .ok (.putfield 47, 3) := by decide +kernel
theorem dX12_init_103 : decode cX12_init 103 = .ok (.aload_n 0, 1) := by decide +kernel
theorem dX12_init_104 : decode cX12_init 104 = .ok (.bipush 40, 2) := by decide +kernel
theorem dX12_init_106 : decode cX12_init 106 = .ok (.newarray .int, 2) := by decide +kernel
theorem dX12_init_108 : decode cX12_init 108 = .ok (.putfield 50, 3) := by decide +kernel
theorem dX12_init_111 : decode cX12_init 111 = .ok (.aload_n 0, 1) := by decide +kernel
theorem dX12_init_112 : decode cX12_init 112 = .ok (.bipush 40, 2) := by decide +kernel
theorem dX12_init_114 : decode cX12_init 114 = .ok (.newarray .int, 2) := by decide +kernel
theorem dX12_init_116 : decode cX12_init 116 = .ok (.putfield 53, 3) := by decide +kernel
theorem dX12_init_119 : decode cX12_init 119 = .ok (.aload_n 0, 1) := by decide +kernel
theorem dX12_init_120 : decode cX12_init 120 = .ok (.bipush 40, 2) := by decide +kernel
theorem dX12_init_122 : decode cX12_init 122 = .ok (.newarray .int, 2) := by decide +kernel
theorem dX12_init_124 : decode cX12_init 124 = .ok (.putfield 56, 3) := by decide +kernel
theorem dX12_init_127 : decode cX12_init 127 = .ok (.aload_n 0, 1) := by decide +kernel
theorem dX12_init_128 : decode cX12_init 128 = .ok (.bipush 40, 2) := by decide +kernel
theorem dX12_init_130 : decode cX12_init 130 = .ok (.newarray .int, 2) := by decide +kernel
theorem dX12_init_132 : decode cX12_init 132 = .ok (.putfield 59, 3) := by decide +kernel
theorem dX12_init_135 : decode cX12_init 135 = .ok (.aload_n 0, 1) := by decide +kernel
theorem dX12_init_136 : decode cX12_init 136 = .ok (.bipush 40, 2) := by decide +kernel
theorem dX12_init_138 : decode cX12_init 138 = .ok (.newarray .boolean, 2) := by decide +kernel
theorem dX12_init_140 : decode cX12_init 140 = .ok (.putfield 62, 3) := by decide +kernel
theorem dX12_init_143 : decode cX12_init 143 = .ok (.aload_n 0, 1) := by decide +kernel
theorem dX12_init_144 : decode cX12_init 144 = .ok (.bipush 40, 2) := by decide +kernel
theorem dX12_init_146 : decode cX12_init 146 = .ok (.newarray .int, 2) := by decide +kernel
theorem dX12_init_148 : decode cX12_init 148 = .ok (.putfield 66, 3) := by decide +kernel
theorem dX12_init_151 : decode cX12_init 151 = .ok (.aload_n 0, 1) := by decide +kernel
theorem dX12_init_152 : decode cX12_init 152 = .ok (.sipush 240, 3) := by decide +kernel
theorem dX12_init_155 : decode cX12_init 155 = .ok (.newarray .int, 2) := by decide +kernel
theorem dX12_init_157 : decode cX12_init 157 = .ok (.putfield 69, 3) := by decide +kernel
theorem dX12_init_160 : decode cX12_init 160 = .ok (.aload_n 0, 1) := by decide +kernel
theorem dX12_init_161 : decode cX12_init 161 = .ok (.sipush 240, 3) := by decide +kernel
theorem dX12_init_164 : decode cX12_init 164 = .ok (.newarray .int, 2) := by decide +kernel
theorem dX12_init_166 : decode cX12_init 166 = .ok (.putfield 72, 3) := by decide +kernel
theorem dX12_init_169 : decode cX12_init 169 = .ok (.aload_n 0, 1) := by decide +kernel
theorem dX12_init_170 : decode cX12_init 170 = .ok (.sipush 4480, 3) := by decide +kernel
theorem dX12_init_173 : decode cX12_init 173 = .ok (.newarray .int, 2) := by decide +kernel
theorem dX12_init_175 : decode cX12_init 175 = .ok (.putfield 75, 3) := by decide +kernel
theorem dX12_init_178 : decode cX12_init 178 = .ok (.aload_n 0, 1) := by decide +kernel
theorem dX12_init_179 : decode cX12_init 179 = .ok (.bipush 6, 2) := by decide +kernel
theorem dX12_init_181 : decode cX12_init 181 = .ok (.newarray .int, 2) := by decide +kernel
theorem dX12_init_183 : decode cX12_init 183 = .ok (.putfield 78, 3) := by decide +kernel
theorem dX12_init_186 : decode cX12_init 186 = .ok (.aload_n 0, 1) := by decide +kernel
theorem dX12_init_187 : decode cX12_init 187 = .ok (.bipush 6, 2) := by decide +kernel
theorem dX12_init_189 : decode cX12_init 189 = .ok (.newarray .int, 2) := by decide +kernel
theorem dX12_init_191 : decode cX12_init 191 = .ok (.putfield 81, 3) := by decide +kernel
theorem dX12_init_194 : decode cX12_init 194 = .ok (.aload_n 0, 1) := by decide +kernel
theorem dX12_init_195 : decode cX12_init 195 = .ok (.bipush 112, 2) := by decide +kernel
theorem dX12_init_197 : decode cX12_init 197 = .ok (.newarray .int, 2) := by decide +kernel
theorem dX12_init_199 : decode cX12_init 199 = .ok (.putfield 84, 3) := by decide +kernel
theorem dX12_init_202 : decode cX12_init 202 = .ok (.aload_n 0, 1) := by decide +kernel
theorem dX12_init_203 : decode cX12_init 203 = .ok (.sipush 224, 3) := by decide +kernel
theorem dX12_init_206 : decode cX12_init 206 = .ok (.newarray .int, 2) := by decide +kernel
theorem dX12_init_208 : decode cX12_init 208 = .ok (.putfield 87, 3) := by decide +kernel
theorem dX12_init_211 : decode cX12_init 211 = .ok (.aload_n 0, 1) := by decide +kernel
theorem dX12_init_212 : decode cX12_init 212 = .ok (.sipush 224, 3) := by decide +kernel
theorem dX12_init_215 : decode cX12_init 215 = .ok (.newarray .int, 2) := by decide +kernel
theorem dX12_init_217 : decode cX12_init 217 = .ok (.putfield 90, 3) := by decide +kernel
theorem dX12_init_220 : decode cX12_init 220 = .ok (.aload_n 0, 1) := by decide +kernel
theorem dX12_init_221 : decode cX12_init 221 = .ok (.sipush 224, 3) := by decide +kernel
theorem dX12_init_224 : decode cX12_init 224 = .ok (.newarray .int, 2) := by decide +kernel
theorem dX12_init_226 : decode cX12_init 226 = .ok (.putfield 93, 3) := by decide +kernel
theorem dX12_init_229 : decode cX12_init 229 = .ok (.aload_n 0, 1) := by decide +kernel
theorem dX12_init_230 : decode cX12_init 230 = .ok (.sipush 224, 3) := by decide +kernel
theorem dX12_init_233 : decode cX12_init 233 = .ok (.newarray .int, 2) := by decide +kernel
theorem dX12_init_235 : decode cX12_init 235 = .ok (.putfield 96, 3) := by decide +kernel
theorem dX12_init_238 : decode cX12_init 238 = .ok (.aload_n 0, 1) := by decide +kernel
theorem dX12_init_239 : decode cX12_init 239 = .ok (.bipush 32, 2) := by decide +kernel
theorem dX12_init_241 : decode cX12_init 241 = .ok (.newarray .int, 2) := by decide +kernel
theorem dX12_init_243 : decode cX12_init 243 = .ok (.putfield 99, 3) := by decide +kernel
theorem dX12_init_246 : decode cX12_init 246 = .ok (.aload_n 0, 1) := by decide +kernel
theorem dX12_init_247 : decode cX12_init 247 = .ok (.bipush 64, 2) := by decide +kernel
theorem dX12_init_249 : decode cX12_init 249 = .ok (.newarray .int, 2) := by decide +kernel
theorem dX12_init_251 : decode cX12_init 251 = .ok (.putfield 102, 3) := by decide +kernel
theorem dX12_init_254 : decode cX12_init 254 = .ok (.aload_n 0, 1) := by decide +kernel
theorem dX12_init_255 : decode cX12_init 255 = .ok (.sipush 192, 3) := by decide +kernel
theorem dX12_init_258 : decode cX12_init 258 = .ok (.newarray .int, 2) := by decide +kernel
theorem dX12_init_260 : decode cX12_init 260 = .ok (.putfield 105, 3) := by decide +kernel
theorem dX12_init_263 : decode cX12_init 263 = .ok (.aload_n 0, 1) := by decide +kernel
theorem dX12_init_264 : decode cX12_init 264 = .ok (.sipush 192, 3) := by decide +kernel
theorem dX12_init_267 : decode cX12_init 267 = .ok (.newarray .int, 2) := by decide +kernel
theorem dX12_init_269 : decode cX12_init 269 = .ok (.putfield 108, 3) := by decide +kernel
theorem dX12_init_272 : decode cX12_init 272 = .ok (.aload_n 0, 1) := by decide +kernel
theorem dX12_init_273 : decode cX12_init 273 = .ok (.sipush 192, 3) := by decide +kernel
theorem dX12_init_276 : decode cX12_init 276 = .ok (.newarray .int, 2) := by decide +kernel
theorem dX12_init_278 : decode cX12_init 278 = .ok (.putfield 111, 3) := by decide +kernel
theorem dX12_init_281 : decode cX12_init 281 = .ok (.aload_n 0, 1) := by decide +kernel
theorem dX12_init_282 : decode cX12_init 282 = .ok (.sipush 192, 3) := by decide +kernel
theorem dX12_init_285 : decode cX12_init 285 = .ok (.newarray .int, 2) := by decide +kernel
theorem dX12_init_287 : decode cX12_init 287 = .ok (.putfield 114, 3) := by decide +kernel
theorem dX12_init_290 : decode cX12_init 290 = .ok (.aload_n 0, 1) := by decide +kernel
theorem dX12_init_291 : decode cX12_init 291 = .ok (.invokevirtual 117, 3) := by decide +kernel
theorem dX12_init_294 : decode cX12_init 294 = .ok (.return_, 1) := by decide +kernel
theorem dX12_in_0 : decode cX12_in 0 = .ok (.lload_n 0, 1) := by decide +kernel
theorem dX12_in_1 : decode cX12_in 1 = .ok (.lload_n 2, 1) := by decide +kernel
theorem dX12_in_2 : decode cX12_in 2 = .ok (.lcmp, 1) := by decide +kernel
theorem dX12_in_3 : decode cX12_in 3 = .ok (.ifCond .lt 14, 3) := by decide +kernel
theorem dX12_in_6 : decode cX12_in 6 = .ok (.lload_n 0, 1) := by decide +kernel
theorem dX12_in_7 : decode cX12_in 7 = .ok (.lload 4, 2) := by decide +kernel
theorem dX12_in_9 : decode cX12_in 9 = .ok (.lcmp, 1) := by decide +kernel
theorem dX12_in_10 : decode cX12_in 10 = .ok (.ifCond .gt 7, 3) := by decide +kernel
theorem dX12_in_13 : decode cX12_in 13 = .ok (.iconst 1, 1) := by decide +kernel
theorem dX12_in_14 : decode cX12_in 14 = .ok (.goto 4, 3) := by decide +kernel
theorem dX12_in_17 : decode cX12_in 17 = .ok (.iconst 0, 1) := by decide +kernel
theorem dX12_in_18 : decode cX12_in 18 = .ok (.ireturn, 1) := by decide +kernel
theorem dX12_lesser_0 : decode cX12_lesser 0 = .ok (.iload_n 0, 1) := by decide +kernel
theorem dX12_lesser_1 : decode cX12_lesser 1 = .ok (.iload_n 1, 1) := by decide +kernel
theorem dX12_lesser_2 : decode cX12_lesser 2 = .ok (.if_icmp .ge 7, 3) := by decide +kernel
theorem dX12_lesser_5 : decode cX12_lesser 5 = .ok (.iload_n 0, 1) := by decide +kernel
theorem dX12_lesser_6 : decode cX12_lesser 6 = .ok (.goto 4, 3) := by decide +kernel
theorem dX12_lesser_9 : decode cX12_lesser 9 = .ok (.iload_n 1, 1) := by decide +kernel
theorem dX12_lesser_10 : decode cX12_lesser 10 = .ok (.ireturn, 1) := by decide +kernel
theorem dX12_greater_0 : decode cX12_greater 0 = .ok (.iload_n 0, 1) := by decide +kernel
theorem dX12_greater_1 : decode cX12_greater 1 = .ok (.iload_n 1, 1) := by decide +kernel
theorem dX12_greater_2 : decode cX12_greater 2 = .ok (.if_icmp .le 7, 3) := by decide +kernel
theorem dX12_greater_5 : decode cX12_greater 5 = .ok (.iload_n 0, 1) := by decide +kernel
theorem dX12_greater_6 : decode cX12_greater 6 = .ok (.goto 4, 3) := by decide +kernel
theorem dX12_greater_9 : decode cX12_greater 9 = .ok (.iload_n 1, 1) := by decide +kernel
theorem dX12_greater_10 : decode cX12_greater 10 = .ok (.ireturn, 1) := by decide +kernel
set_option maxRecDepth 20000 in
theorem ggX12_isFigure_X12_in : GoodIn wsX12_isFigure wsX12_in := goodIn_r _ [6] rfl (by decide +kernel)
set_option maxRecDepth 20000 in
theorem gX12_isFigure_X12_in : GoodIn wsX12_isFigure (va_wsS RX12 124 yX12_in wsX12_in) := goodIn_app (goodIn_of _ (by decide +kernel)) ggX12_isFigure_X12_in
theorem dX12_isFigure_0 : decode cX12_isFigure 0 = .ok (.iload_n 0, 1) := by decide +kernel
theorem dX12_isFigure_1 : decode cX12_isFigure 1 = .ok (.i2l, 1) := by decide +kernel
theorem dX12_isFigure_2 : decode cX12_isFigure 2 = .ok (.ldc2_w 120, 3) := by decide +kernel
theorem dX12_isFigure_5 : decode cX12_isFigure 5 = .ok (.ldc2_w 122, 3) := by decide +kernel
theorem dX12_isFigure_8 : decode cX12_isFigure 8 = .ok (.invokestatic 124, 3) := by decide +kernel
theorem dX12_isFigure_11 : decode cX12_isFigure 11 = .ok (.ireturn, 1) := by decide +kernel
set_option maxRecDepth 20000 in
theorem ggX12_isSmall_X12_in : GoodIn wsX12_isSmall wsX12_in := goodIn_r _ [6] rfl (by decide +kernel)
set_option maxRecDepth 20000 in
theorem gX12_isSmall_X12_in : GoodIn wsX12_isSmall (va_wsS RX12 124 yX12_in wsX12_in) := goodIn_app (goodIn_of _ (by decide +kernel)) ggX12_isSmall_X12_in
theorem dX12_isSmall_0 : decode cX12_isSmall 0 = .ok (.iload_n 0, 1) := by decide +kernel
theorem dX12_isSmall_1 : decode cX12_isSmall 1 = .ok (.i2l, 1) := by decide +kernel
theorem dX12_isSmall_2 : decode cX12_isSmall 2 = .ok (.ldc2_w 128, 3) := by decide +kernel
theorem dX12_isSmall_5 : decode cX12_isSmall 5 = .ok (.ldc2_w 130, 3) := by decide +kernel
theorem dX12_isSmall_8 : decode cX12_isSmall 8 = .ok (.invokestatic 124, 3) := by decide +kernel
theorem dX12_isSmall_11 : decode cX12_isSmall 11 = .ok (.ireturn, 1) := by decide +kernel
set_option maxRecDepth 20000 in
theorem ggX12_take_X12_isFigure : GoodIn wsX12_take wsX12_isFigure := goodIn_r _ [9, 10, 11, 12, 13, 8, 14] rfl (by decide +kernel)
set_option maxRecDepth 20000 in
theorem gX12_take_X12_isFigure : GoodIn wsX12_take (va_wsS RX12 144 yX12_isFigure wsX12_isFigure) := goodIn_app (goodIn_of _ (by decide +kernel)) ggX12_take_X12_isFigure
set_option maxRecDepth 20000 in
theorem ggX12_take_X12_isSmall : GoodIn wsX12_take wsX12_isSmall := goodIn_r _ [17, 18, 19, 12, 13, 8, 14] rfl (by decide +kernel)
set_option maxRecDepth 20000 in
theorem gX12_take_X12_isSmall : GoodIn wsX12_take (va_wsS RX12 148 yX12_isSmall wsX12_isSmall) := goodIn_app (goodIn_of _ (by decide +kernel)) ggX12_take_X12_isSmall
theorem dX12_take_0 : decode cX12_take 0 = .ok (.aload_n 0, 1) := by decide +kernel
theorem dX12_take_1 : decode cX12_take 1 = .ok (.getfield 132, 3) := by decide +kernel
theorem dX12_take_4 : decode cX12_take 4 = .ok (.aload_n 0, 1) := by decide +kernel
theorem dX12_take_5 : decode cX12_take 5 = .ok (.getfield 135, 3) := by decide +kernel
theorem dX12_take_8 : decode cX12_take 8 = .ok (.if_icmp .ge 30, 3) := by decide +kernel
theorem dX12_take_11 : decode cX12_take 11 = .ok (.aload_n 0, 1) := by decide +kernel
theorem dX12_take_12 : decode cX12_take 12 = .ok (.getfield 29, 3) := by decide +kernel
theorem dX12_take_15 : decode cX12_take 15 = .ok (.aload_n 0, 1) := by decide +kernel
theorem dX12_take_16 : decode cX12_take 16 = .ok (.getfield 132, 3) := by decide +kernel
theorem dX12_take_19 : decode cX12_take 19 = .ok (.iaload, 1) := by decide +kernel
theorem dX12_take_20 : decode cX12_take 20 = .ok (.bipush 32, 2) := by decide +kernel
theorem dX12_take_22 : decode cX12_take 22 = .ok (.if_icmp .ne 16, 3) := by decide +kernel
theorem dX12_take_25 : decode cX12_take 25 = .ok (.aload_n 0, 1) := by decide +kernel
theorem dX12_take_26 : decode cX12_take 26 = .ok (.dup, 1) := by decide +kernel
theorem dX12_take_27 : decode cX12_take 27 = .ok (.getfield 132, 3) := by decide +kernel
theorem dX12_take_30 : decode cX12_take 30 = .ok (.iconst 1, 1) := by decide +kernel
theorem dX12_take_31 : decode cX12_take 31 = .ok (.iadd, 1) := by decide +kernel
theorem dX12_take_32 : decode cX12_take 32 = .ok (.putfield 132, 3) := by decide +kernel
theorem dX12_take_35 : decode cX12_take 35 = .ok (.goto (-35), 3) := by decide +kernel
theorem dX12_take_38 : decode cX12_take 38 = .ok (.aload_n 0, 1) := by decide +kernel
theorem dX12_take_39 : decode cX12_take 39 = .ok (.aload_n 0, 1) := by decide +kernel
theorem dX12_take_40 : decode cX12_take 40 = .ok (.getfield 132, 3) := by decide +kernel
theorem dX12_take_43 : decode cX12_take 43 = .ok (.putfield 138, 3) := by decide +kernel
theorem dX12_take_46 : decode cX12_take 46 = .ok (.aload_n 0, 1) := by decide +kernel
theorem dX12_take_47 : decode cX12_take 47 = .ok (.getfield 132, 3) := by decide +kernel
theorem dX12_take_50 : decode cX12_take 50 = .ok (.aload_n 0, 1) := by decide +kernel
theorem dX12_take_51 : decode cX12_take 51 = .ok (.getfield 135, 3) := by decide +kernel
theorem dX12_take_54 : decode cX12_take 54 = .ok (.if_icmp .ne 9, 3) := by decide +kernel
theorem dX12_take_57 : decode cX12_take 57 = .ok (.aload_n 0, 1) := by decide +kernel
theorem dX12_take_58 : decode cX12_take 58 = .ok (.iconst (-1), 1) := by decide +kernel
theorem dX12_take_59 : decode cX12_take 59 = .ok (.putfield 141, 3) := by decide +kernel
theorem dX12_take_62 : decode cX12_take 62 = .ok (.return_, 1) := by decide +kernel
theorem dX12_take_63 : decode cX12_take 63 = .ok (.aload_n 0, 1) := by decide +kernel
theorem dX12_take_64 : decode cX12_take 64 = .ok (.getfield 29, 3) := by decide +kernel
theorem dX12_take_67 : decode cX12_take 67 = .ok (.aload_n 0, 1) := by decide +kernel
theorem dX12_take_68 : decode cX12_take 68 = .ok (.getfield 132, 3) := by decide +kernel
theorem dX12_take_71 : decode cX12_take 71 = .ok (.iaload, 1) := by decide +kernel
theorem dX12_take_72 : decode cX12_take 72 = .ok (.istore_n 1, 1) := by decide +kernel
theorem dX12_take_73 : decode cX12_take 73 = .ok (.aload_n 0, 1) := by decide +kernel
theorem dX12_take_74 : decode cX12_take 74 = .ok (.iload_n 1, 1) := by decide +kernel
theorem dX12_take_75 : decode cX12_take 75 = .ok (.bipush 61, 2) := by decide +kernel
theorem dX12_take_77 : decode cX12_take 77 = .ok (.if_icmp .eq 9, 3) := by decide +kernel
theorem dX12_take_80 : decode cX12_take 80 = .ok (.iload_n 1, 1) := by decide +kernel
theorem dX12_take_81 : decode cX12_take 81 = .ok (.bipush 59, 2) := by decide +kernel
theorem dX12_take_83 : decode cX12_take 83 = .ok (.if_icmp .ne 7, 3) := by decide +kernel
theorem dX12_take_86 : decode cX12_take 86 = .ok (.iload_n 1, 1) := by decide +kernel
theorem dX12_take_87 : decode cX12_take 87 = .ok (.goto 4, 3) := by decide +kernel
theorem dX12_take_90 : decode cX12_take 90 = .ok (.iconst 0, 1) := by decide +kernel
theorem dX12_take_91 : decode cX12_take 91 = .ok (.putfield 141, 3) := by decide +kernel
theorem dX12_take_94 : decode cX12_take 94 = .ok (.aload_n 0, 1) := by decide +kernel
theorem dX12_take_95 : decode cX12_take 95 = .ok (.dup, 1) := by decide +kernel
theorem dX12_take_96 : decode cX12_take 96 = .ok (.getfield 132, 3) := by decide +kernel
theorem dX12_take_99 : decode cX12_take 99 = .ok (.iconst 1, 1) := by decide +kernel
theorem dX12_take_100 : decode cX12_take 100 = .ok (.iadd, 1) := by decide +kernel
theorem dX12_take_101 : decode cX12_take 101 = .ok (.putfield 132, 3) := by decide +kernel
theorem dX12_take_104 : decode cX12_take 104 = .ok (.iload_n 1, 1) := by decide +kernel
theorem dX12_take_105 : decode cX12_take 105 = .ok (.invokestatic 144, 3) := by decide +kernel
theorem dX12_take_108 : decode cX12_take 108 = .ok (.ifCond .ne 10, 3) := by decide +kernel
theorem dX12_take_111 : decode cX12_take 111 = .ok (.iload_n 1, 1) := by decide +kernel
theorem dX12_take_112 : decode cX12_take 112 = .ok (.invokestatic 148, 3) := by decide +kernel
theorem dX12_take_115 : decode cX12_take 115 = .ok (.ifCond .eq 63, 3) := by decide +kernel
theorem dX12_take_118 : decode cX12_take 118 = .ok (.aload_n 0, 1) := by decide +kernel
theorem dX12_take_119 : decode cX12_take 119 = .ok (.bipush (-2), 2) := by decide +kernel
theorem dX12_take_121 : decode cX12_take 121 = .ok (.putfield 141, 3) := by decide +kernel
theorem dX12_take_124 : decode cX12_take 124 = .ok (.aload_n 0, 1) := by decide +kernel
theorem dX12_take_125 : decode cX12_take 125 = .ok (.getfield 132, 3) := by decide +kernel
theorem dX12_take_128 : decode cX12_take 128 = .ok (.aload_n 0, 1) := by decide +kernel
theorem dX12_take_129 : decode cX12_take 129 = .ok (.getfield 135, 3) := by decide +kernel
theorem dX12_take_132 : decode cX12_take 132 = .ok (.if_icmp .ge 46, 3) := by decide +kernel
theorem dX12_take_135 : decode cX12_take 135 = .ok (.aload_n 0, 1) := by decide +kernel
theorem dX12_take_136 : decode cX12_take 136 = .ok (.getfield 29, 3) := by decide +kernel
theorem dX12_take_139 : decode cX12_take 139 = .ok (.aload_n 0, 1) := by decide +kernel
theorem dX12_take_140 : decode cX12_take 140 = .ok (.getfield 132, 3) := by decide +kernel
theorem dX12_take_143 : decode cX12_take 143 = .ok (.iaload, 1) := by decide +kernel
theorem dX12_take_144 : decode cX12_take 144 = .ok (.invokestatic 144, 3) := by decide +kernel
theorem dX12_take_147 : decode cX12_take 147 = .ok (.ifCond .ne 18, 3) := by decide +kernel
theorem dX12_take_150 : decode cX12_take 150 = .ok (.aload_n 0, 1) := by decide +kernel
theorem dX12_take_151 : decode cX12_take 151 = .ok (.getfield 29, 3) := by decide +kernel
theorem dX12_take_154 : decode cX12_take 154 = .ok (.aload_n 0, 1) := by decide +kernel
theorem dX12_take_155 : decode cX12_take 155 = .ok (.getfield 132, 3) := by decide +kernel
theorem dX12_take_158 : decode cX12_take 158 = .ok (.iaload, 1) := by decide +kernel
theorem dX12_take_159 : decode cX12_take 159 = .ok (.invokestatic 148, 3) := by decide +kernel
theorem dX12_take_162 : decode cX12_take 162 = .ok (.ifCond .eq 16, 3) := by decide +kernel
theorem dX12_take_165 : decode cX12_take 165 = .ok (.aload_n 0, 1) := by decide +kernel
theorem dX12_take_166 : decode cX12_take 166 = .ok (.dup, 1) := by decide +kernel
theorem dX12_take_167 : decode cX12_take 167 = .ok (.getfield 132, 3) := by decide +kernel
theorem dX12_take_170 : decode cX12_take 170 = .ok (.iconst 1, 1) := by decide +kernel
theorem dX12_take_171 : decode cX12_take 171 = .ok (.iadd, 1) := by decide +kernel
theorem dX12_take_172 : decode cX12_take 172 = .ok (.putfield 132, 3) := by decide +kernel
theorem dX12_take_175 : decode cX12_take 175 = .ok (.goto (-51), 3) := by decide +kernel
theorem dX12_take_178 : decode cX12_take 178 = .ok (.return_, 1) := by decide +kernel
theorem dX12_word_0 : decode cX12_word 0 = .ok (.lconst 0, 1) := by decide +kernel
theorem dX12_word_1 : decode cX12_word 1 = .ok (.lstore_n 1, 1) := by decide +kernel
theorem dX12_word_2 : decode cX12_word 2 = .ok (.aload_n 0, 1) := by decide +kernel
theorem dX12_word_3 : decode cX12_word 3 = .ok (.getfield 138, 3) := by decide +kernel
theorem dX12_word_6 : decode cX12_word 6 = .ok (.istore_n 3, 1) := by decide +kernel
theorem dX12_word_7 : decode cX12_word 7 = .ok (.iload_n 3, 1) := by decide +kernel
theorem dX12_word_8 : decode cX12_word 8 = .ok (.aload_n 0, 1) := by decide +kernel
theorem dX12_word_9 : decode cX12_word 9 = .ok (.getfield 132, 3) := by decide +kernel
theorem dX12_word_12 : decode cX12_word 12 = .ok (.if_icmp .ge 23, 3) := by decide +kernel
theorem dX12_word_15 : decode cX12_word 15 = .ok (.ldc2_w 151, 3) := by decide +kernel
theorem dX12_word_18 : decode cX12_word 18 = .ok (.lload_n 1, 1) := by decide +kernel
theorem dX12_word_19 : decode cX12_word 19 = .ok (.lmul, 1) := by decide +kernel
theorem dX12_word_20 : decode cX12_word 20 = .ok (.aload_n 0, 1) := by decide +kernel
theorem dX12_word_21 : decode cX12_word 21 = .ok (.getfield 29, 3) := by decide +kernel
theorem dX12_word_24 : decode cX12_word 24 = .ok (.iload_n 3, 1) := by decide +kernel
theorem dX12_word_25 : decode cX12_word 25 = .ok (.iaload, 1) := by decide +kernel
theorem dX12_word_26 : decode cX12_word 26 = .ok (.i2l, 1) := by decide +kernel
theorem dX12_word_27 : decode cX12_word 27 = .ok (.ladd, 1) := by decide +kernel
theorem dX12_word_28 : decode cX12_word 28 = .ok (.lstore_n 1, 1) := by decide +kernel
theorem dX12_word_29 : decode cX12_word 29 = .ok (.iinc 3 1, 3) := by decide +kernel
theorem dX12_word_32 : decode cX12_word 32 = .ok (.goto (-25), 3) := by decide +kernel
theorem dX12_word_35 : decode cX12_word 35 = .ok (.aload_n 0, 1) := by decide +kernel
theorem dX12_word_36 : decode cX12_word 36 = .ok (.getfield 141, 3) := by decide +kernel
theorem dX12_word_39 : decode cX12_word 39 = .ok (.bipush (-2), 2) := by decide +kernel
theorem dX12_word_41 : decode cX12_word 41 = .ok (.if_icmp .ne 21, 3) := by decide +kernel
theorem dX12_word_44 : decode cX12_word 44 = .ok (.aload_n 0, 1) := by decide +kernel
theorem dX12_word_45 : decode cX12_word 45 = .ok (.getfield 132, 3) := by decide +kernel
theorem dX12_word_48 : decode cX12_word 48 = .ok (.aload_n 0, 1) := by decide +kernel
theorem dX12_word_49 : decode cX12_word 49 = .ok (.getfield 138, 3) := by decide +kernel
theorem dX12_word_52 : decode cX12_word 52 = .ok (.isub, 1) := by decide +kernel
theorem dX12_word_53 : decode cX12_word 53 = .ok (.bipush 8, 2) := by decide +kernel
theorem dX12_word_55 : decode cX12_word 55 = .ok (.if_icmp .ge 7, 3) := by decide +kernel
theorem dX12_word_58 : decode cX12_word 58 = .ok (.lload_n 1, 1) := by decide +kernel
theorem dX12_word_59 : decode cX12_word 59 = .ok (.goto 4, 3) := by decide +kernel
theorem dX12_word_62 : decode cX12_word 62 = .ok (.lconst 0, 1) := by decide +kernel
theorem dX12_word_63 : decode cX12_word 63 = .ok (.lreturn, 1) := by decide +kernel
set_option maxRecDepth 20000 in
theorem ggX12_told_X12_isFigure : GoodIn wsX12_told wsX12_isFigure := goodIn_r _ [8, 9, 10, 11, 12, 7, 13] rfl (by decide +kernel)
set_option maxRecDepth 20000 in
theorem gX12_told_X12_isFigure : GoodIn wsX12_told (va_wsS RX12 144 yX12_isFigure wsX12_isFigure) := goodIn_app (goodIn_of _ (by decide +kernel)) ggX12_told_X12_isFigure
theorem dX12_told_0 : decode cX12_told 0 = .ok (.aload_n 0, 1) := by decide +kernel
theorem dX12_told_1 : decode cX12_told 1 = .ok (.getfield 141, 3) := by decide +kernel
theorem dX12_told_4 : decode cX12_told 4 = .ok (.bipush (-2), 2) := by decide +kernel
theorem dX12_told_6 : decode cX12_told 6 = .ok (.if_icmp .ne 47, 3) := by decide +kernel
theorem dX12_told_9 : decode cX12_told 9 = .ok (.aload_n 0, 1) := by decide +kernel
theorem dX12_told_10 : decode cX12_told 10 = .ok (.getfield 132, 3) := by decide +kernel
theorem dX12_told_13 : decode cX12_told 13 = .ok (.aload_n 0, 1) := by decide +kernel
theorem dX12_told_14 : decode cX12_told 14 = .ok (.getfield 138, 3) := by decide +kernel
theorem dX12_told_17 : decode cX12_told 17 = .ok (.isub, 1) := by decide +kernel
theorem dX12_told_18 : decode cX12_told 18 = .ok (.iconst 4, 1) := by decide +kernel
theorem dX12_told_19 : decode cX12_told 19 = .ok (.if_icmp .ge 34, 3) := by decide +kernel
theorem dX12_told_22 : decode cX12_told 22 = .ok (.aload_n 0, 1) := by decide +kernel
theorem dX12_told_23 : decode cX12_told 23 = .ok (.getfield 29, 3) := by decide +kernel
theorem dX12_told_26 : decode cX12_told 26 = .ok (.aload_n 0, 1) := by decide +kernel
theorem dX12_told_27 : decode cX12_told 27 = .ok (.getfield 138, 3) := by decide +kernel
theorem dX12_told_30 : decode cX12_told 30 = .ok (.iaload, 1) := by decide +kernel
theorem dX12_told_31 : decode cX12_told 31 = .ok (.bipush 48, 2) := by decide +kernel
theorem dX12_told_33 : decode cX12_told 33 = .ok (.if_icmp .ne 16, 3) := by decide +kernel
theorem dX12_told_36 : decode cX12_told 36 = .ok (.aload_n 0, 1) := by decide +kernel
theorem dX12_told_37 : decode cX12_told 37 = .ok (.getfield 132, 3) := by decide +kernel
theorem dX12_told_40 : decode cX12_told 40 = .ok (.aload_n 0, 1) := by decide +kernel
theorem dX12_told_41 : decode cX12_told 41 = .ok (.getfield 138, 3) := by decide +kernel
theorem dX12_told_44 : decode cX12_told 44 = .ok (.isub, 1) := by decide +kernel
theorem dX12_told_45 : decode cX12_told 45 = .ok (.iconst 1, 1) := by decide +kernel
theorem dX12_told_46 : decode cX12_told 46 = .ok (.if_icmp .ne 7, 3) := by decide +kernel
theorem dX12_told_49 : decode cX12_told 49 = .ok (.iconst 0, 1) := by decide +kernel
theorem dX12_told_50 : decode cX12_told 50 = .ok (.goto 5, 3) := by decide +kernel
theorem dX12_told_53 : decode cX12_told 53 = .ok (.bipush (-9), 2) := by decide +kernel
theorem dX12_told_55 : decode cX12_told 55 = .ok (.istore_n 1, 1) := by decide +kernel
theorem dX12_told_56 : decode cX12_told 56 = .ok (.aload_n 0, 1) := by decide +kernel
theorem dX12_told_57 : decode cX12_told 57 = .ok (.getfield 138, 3) := by decide +kernel
theorem dX12_told_60 : decode cX12_told 60 = .ok (.istore_n 2, 1) := by decide +kernel
theorem dX12_told_61 : decode cX12_told 61 = .ok (.iload_n 2, 1) := by decide +kernel
theorem dX12_told_62 : decode cX12_told 62 = .ok (.aload_n 0, 1) := by decide +kernel
theorem dX12_told_63 : decode cX12_told 63 = .ok (.getfield 132, 3) := by decide +kernel
theorem dX12_told_66 : decode cX12_told 66 = .ok (.if_icmp .ge 45, 3) := by decide +kernel
theorem dX12_told_69 : decode cX12_told 69 = .ok (.iload_n 1, 1) := by decide +kernel
theorem dX12_told_70 : decode cX12_told 70 = .ok (.ifCond .lt 41, 3) := by decide +kernel
theorem dX12_told_73 : decode cX12_told 73 = .ok (.aload_n 0, 1) := by decide +kernel
theorem dX12_told_74 : decode cX12_told 74 = .ok (.getfield 29, 3) := by decide +kernel
theorem dX12_told_77 : decode cX12_told 77 = .ok (.iload_n 2, 1) := by decide +kernel
theorem dX12_told_78 : decode cX12_told 78 = .ok (.iaload, 1) := by decide +kernel
theorem dX12_told_79 : decode cX12_told 79 = .ok (.invokestatic 144, 3) := by decide +kernel
theorem dX12_told_82 : decode cX12_told 82 = .ok (.ifCond .eq 20, 3) := by decide +kernel
theorem dX12_told_85 : decode cX12_told 85 = .ok (.bipush 10, 2) := by decide +kernel
theorem dX12_told_87 : decode cX12_told 87 = .ok (.iload_n 1, 1) := by decide +kernel
theorem dX12_told_88 : decode cX12_told 88 = .ok (.imul, 1) := by decide +kernel
theorem dX12_told_89 : decode cX12_told 89 = .ok (.aload_n 0, 1) := by decide +kernel
theorem dX12_told_90 : decode cX12_told 90 = .ok (.getfield 29, 3) := by decide +kernel
theorem dX12_told_93 : decode cX12_told 93 = .ok (.iload_n 2, 1) := by decide +kernel
theorem dX12_told_94 : decode cX12_told 94 = .ok (.iaload, 1) := by decide +kernel
theorem dX12_told_95 : decode cX12_told 95 = .ok (.iadd, 1) := by decide +kernel
theorem dX12_told_96 : decode cX12_told 96 = .ok (.bipush 48, 2) := by decide +kernel
theorem dX12_told_98 : decode cX12_told 98 = .ok (.isub, 1) := by decide +kernel
theorem dX12_told_99 : decode cX12_told 99 = .ok (.goto 5, 3) := by decide +kernel
theorem dX12_told_102 : decode cX12_told 102 = .ok (.bipush (-9), 2) := by decide +kernel
theorem dX12_told_104 : decode cX12_told 104 = .ok (.istore_n 1, 1) := by decide +kernel
theorem dX12_told_105 : decode cX12_told 105 = .ok (.iinc 2 1, 3) := by decide +kernel
theorem dX12_told_108 : decode cX12_told 108 = .ok (.goto (-47), 3) := by decide +kernel
theorem dX12_told_111 : decode cX12_told 111 = .ok (.iload_n 1, 1) := by decide +kernel
theorem dX12_told_112 : decode cX12_told 112 = .ok (.ireturn, 1) := by decide +kernel
set_option maxRecDepth 20000 in
theorem ggX12_readsSign_X12_take : GoodIn wsX12_readsSign wsX12_take := goodIn_r _ [6, 7, 8, 9, 10, 1, 11, 12, 5, 13, 14, 15, 16, 17, 18, 19, 20, 21, 22, 23, 24, 25, 26, 27, 28, 29, 30, 31, 32, 33, 34, 35, 36, 37, 38, 39, 40, 41, 42, 43, 44, 45, 46, 47, 48, 49, 50, 51, 52, 53, 54, 55, 56, 57, 58, 59, 60, 61, 62, 63, 64, 65, 66, 67, 68, 69, 70, 71, 72, 73, 74, 75, 76, 77, 78, 79, 80] rfl (by decide +kernel)
set_option maxRecDepth 20000 in
theorem gX12_readsSign_X12_take : GoodIn wsX12_readsSign (wsV RX12 153 RX12 yX12_take wsX12_take) := goodIn_app (goodIn_of _ (by decide +kernel)) ggX12_readsSign_X12_take
theorem dX12_readsSign_0 : decode cX12_readsSign 0 = .ok (.aload_n 0, 1) := by decide +kernel
theorem dX12_readsSign_1 : decode cX12_readsSign 1 = .ok (.getfield 141, 3) := by decide +kernel
theorem dX12_readsSign_4 : decode cX12_readsSign 4 = .ok (.iload_n 1, 1) := by decide +kernel
theorem dX12_readsSign_5 : decode cX12_readsSign 5 = .ok (.if_icmp .ne 7, 3) := by decide +kernel
theorem dX12_readsSign_8 : decode cX12_readsSign 8 = .ok (.iconst 1, 1) := by decide +kernel
theorem dX12_readsSign_9 : decode cX12_readsSign 9 = .ok (.goto 4, 3) := by decide +kernel
theorem dX12_readsSign_12 : decode cX12_readsSign 12 = .ok (.iconst 0, 1) := by decide +kernel
theorem dX12_readsSign_13 : decode cX12_readsSign 13 = .ok (.istore_n 2, 1) := by decide +kernel
theorem dX12_readsSign_14 : decode cX12_readsSign 14 = .ok (.iload_n 2, 1) := by decide +kernel
theorem dX12_readsSign_15 : decode cX12_readsSign 15 = .ok (.ifCond .eq 7, 3) := by decide +kernel
theorem dX12_readsSign_18 : decode cX12_readsSign 18 = .ok (.aload_n 0, 1) := by decide +kernel
theorem dX12_readsSign_19 : decode cX12_readsSign 19 = .ok (.invokevirtual 153, 3) := by decide +kernel
theorem dX12_readsSign_22 : decode cX12_readsSign 22 = .ok (.iload_n 2, 1) := by decide +kernel
theorem dX12_readsSign_23 : decode cX12_readsSign 23 = .ok (.ireturn, 1) := by decide +kernel
set_option maxRecDepth 20000 in
theorem ggX12_readsMost_X12_take : GoodIn wsX12_readsMost wsX12_take := goodIn_r _ [7, 8, 9, 10, 11, 12, 13, 14, 6, 15, 16, 17, 18, 19, 20, 21, 22, 23, 24, 25, 30, 31, 32, 33, 34, 35, 36, 37, 38, 39, 40, 41, 42, 43, 44, 45, 46, 47, 48, 49, 50, 51, 52, 53, 54, 55, 56, 57, 58, 59, 60, 61, 62, 63, 64, 65, 66, 67, 68, 69, 70, 71, 72, 73, 74, 75, 76, 77, 78, 79, 80, 81, 82, 83, 84, 85, 86] rfl (by decide +kernel)
set_option maxRecDepth 20000 in
theorem gX12_readsMost_X12_take : GoodIn wsX12_readsMost (wsV RX12 153 RX12 yX12_take wsX12_take) := goodIn_app (goodIn_of _ (by decide +kernel)) ggX12_readsMost_X12_take
set_option maxRecDepth 20000 in
theorem ggX12_readsMost_X12_told : GoodIn wsX12_readsMost wsX12_told := goodIn_r _ [29, 12, 8, 11, 10, 13, 14, 6, 15, 16, 17, 18, 19, 20, 30, 31, 32, 33, 34, 35, 36, 37, 38, 39, 40, 41, 42, 43, 44, 45, 46, 47, 48, 49, 50, 51, 52, 53, 54, 55, 56, 57, 58, 59, 60, 61, 62, 63, 64, 65, 66, 67, 68, 69, 70, 71, 72, 73, 74, 75, 76, 77, 78, 79, 80, 81, 82, 83, 84, 85, 86] rfl (by decide +kernel)
set_option maxRecDepth 20000 in
theorem gX12_readsMost_X12_told : GoodIn wsX12_readsMost (wsV RX12 159 RX12 yX12_told wsX12_told) := goodIn_app (goodIn_of _ (by decide +kernel)) ggX12_readsMost_X12_told
set_option maxRecDepth 20000 in
theorem ggX12_readsMost_X12_in : GoodIn wsX12_readsMost wsX12_in := goodIn_r _ [20] rfl (by decide +kernel)
set_option maxRecDepth 20000 in
theorem gX12_readsMost_X12_in : GoodIn wsX12_readsMost (va_wsS RX12 124 yX12_in wsX12_in) := goodIn_app (goodIn_of _ (by decide +kernel)) ggX12_readsMost_X12_in
theorem dX12_readsMost_0 : decode cX12_readsMost 0 = .ok (.aload_n 0, 1) := by decide +kernel
theorem dX12_readsMost_1 : decode cX12_readsMost 1 = .ok (.getfield 156, 3) := by decide +kernel
theorem dX12_readsMost_4 : decode cX12_readsMost 4 = .ok (.bipush (-9), 2) := by decide +kernel
theorem dX12_readsMost_6 : decode cX12_readsMost 6 = .ok (.if_icmp .ne 7, 3) := by decide +kernel
theorem dX12_readsMost_9 : decode cX12_readsMost 9 = .ok (.iconst 1, 1) := by decide +kernel
theorem dX12_readsMost_10 : decode cX12_readsMost 10 = .ok (.goto 4, 3) := by decide +kernel
theorem dX12_readsMost_13 : decode cX12_readsMost 13 = .ok (.iconst 0, 1) := by decide +kernel
theorem dX12_readsMost_14 : decode cX12_readsMost 14 = .ok (.istore_n 1, 1) := by decide +kernel
theorem dX12_readsMost_15 : decode cX12_readsMost 15 = .ok (.iload_n 1, 1) := by decide +kernel
theorem dX12_readsMost_16 : decode cX12_readsMost 16 = .ok (.ifCond .eq 28, 3) := by decide +kernel
theorem dX12_readsMost_19 : decode cX12_readsMost 19 = .ok (.aload_n 0, 1) := by decide +kernel
theorem dX12_readsMost_20 : decode cX12_readsMost 20 = .ok (.invokevirtual 153, 3) := by decide +kernel
theorem dX12_readsMost_23 : decode cX12_readsMost 23 = .ok (.aload_n 0, 1) := by decide +kernel
theorem dX12_readsMost_24 : decode cX12_readsMost 24 = .ok (.invokevirtual 159, 3) := by decide +kernel
theorem dX12_readsMost_27 : decode cX12_readsMost 27 = .ok (.i2l, 1) := by decide +kernel
theorem dX12_readsMost_28 : decode cX12_readsMost 28 = .ok (.lconst 0, 1) := by decide +kernel
theorem dX12_readsMost_29 : decode cX12_readsMost 29 = .ok (.ldc2_w 163, 3) := by decide +kernel
theorem dX12_readsMost_32 : decode cX12_readsMost 32 = .ok (.invokestatic 124, 3) := by decide +kernel
theorem dX12_readsMost_35 : decode cX12_readsMost 35 = .ok (.istore_n 1, 1) := by decide +kernel
theorem dX12_readsMost_36 : decode cX12_readsMost 36 = .ok (.aload_n 0, 1) := by decide +kernel
theorem dX12_readsMost_37 : decode cX12_readsMost 37 = .ok (.aload_n 0, 1) := by decide +kernel
theorem dX12_readsMost_38 : decode cX12_readsMost 38 = .ok (.invokevirtual 159, 3) := by decide +kernel
theorem dX12_readsMost_41 : decode cX12_readsMost 41 = .ok (.putfield 156, 3) := by decide +kernel
theorem dX12_readsMost_44 : decode cX12_readsMost 44 = .ok (.iload_n 1, 1) := by decide +kernel
theorem dX12_readsMost_45 : decode cX12_readsMost 45 = .ok (.ireturn, 1) := by decide +kernel
set_option maxRecDepth 20000 in
theorem ggX12_readsBound_X12_take : GoodIn wsX12_readsBound wsX12_take := goodIn_r _ [7, 8, 9, 10, 11, 12, 13, 14, 6, 15, 16, 17, 18, 19, 20, 21, 22, 23, 24, 25, 30, 31, 32, 33, 34, 35, 36, 37, 38, 39, 40, 41, 42, 43, 44, 45, 46, 47, 48, 49, 50, 51, 52, 53, 54, 55, 56, 57, 58, 59, 60, 61, 62, 63, 64, 65, 66, 67, 68, 69, 70, 71, 72, 73, 74, 75, 76, 77, 78, 79, 80, 81, 82, 83, 84, 85, 86] rfl (by decide +kernel)
set_option maxRecDepth 20000 in
theorem gX12_readsBound_X12_take : GoodIn wsX12_readsBound (wsV RX12 153 RX12 yX12_take wsX12_take) := goodIn_app (goodIn_of _ (by decide +kernel)) ggX12_readsBound_X12_take
set_option maxRecDepth 20000 in
theorem ggX12_readsBound_X12_told : GoodIn wsX12_readsBound wsX12_told := goodIn_r _ [29, 12, 8, 11, 10, 13, 14, 6, 15, 16, 17, 18, 19, 20, 30, 31, 32, 33, 34, 35, 36, 37, 38, 39, 40, 41, 42, 43, 44, 45, 46, 47, 48, 49, 50, 51, 52, 53, 54, 55, 56, 57, 58, 59, 60, 61, 62, 63, 64, 65, 66, 67, 68, 69, 70, 71, 72, 73, 74, 75, 76, 77, 78, 79, 80, 81, 82, 83, 84, 85, 86] rfl (by decide +kernel)
set_option maxRecDepth 20000 in
theorem gX12_readsBound_X12_told : GoodIn wsX12_readsBound (wsV RX12 159 RX12 yX12_told wsX12_told) := goodIn_app (goodIn_of _ (by decide +kernel)) ggX12_readsBound_X12_told
set_option maxRecDepth 20000 in
theorem ggX12_readsBound_X12_in : GoodIn wsX12_readsBound wsX12_in := goodIn_r _ [20] rfl (by decide +kernel)
set_option maxRecDepth 20000 in
theorem gX12_readsBound_X12_in : GoodIn wsX12_readsBound (va_wsS RX12 124 yX12_in wsX12_in) := goodIn_app (goodIn_of _ (by decide +kernel)) ggX12_readsBound_X12_in
theorem dX12_readsBound_0 : decode cX12_readsBound 0 = .ok (.aload_n 0, 1) := by decide +kernel
theorem dX12_readsBound_1 : decode cX12_readsBound 1 = .ok (.getfield 165, 3) := by decide +kernel
theorem dX12_readsBound_4 : decode cX12_readsBound 4 = .ok (.bipush (-9), 2) := by decide +kernel
theorem dX12_readsBound_6 : decode cX12_readsBound 6 = .ok (.if_icmp .ne 7, 3) := by decide +kernel
theorem dX12_readsBound_9 : decode cX12_readsBound 9 = .ok (.iconst 1, 1) := by decide +kernel
theorem dX12_readsBound_10 : decode cX12_readsBound 10 = .ok (.goto 4, 3) := by decide +kernel
theorem dX12_readsBound_13 : decode cX12_readsBound 13 = .ok (.iconst 0, 1) := by decide +kernel
theorem dX12_readsBound_14 : decode cX12_readsBound 14 = .ok (.istore_n 1, 1) := by decide +kernel
theorem dX12_readsBound_15 : decode cX12_readsBound 15 = .ok (.iload_n 1, 1) := by decide +kernel
theorem dX12_readsBound_16 : decode cX12_readsBound 16 = .ok (.ifCond .eq 28, 3) := by decide +kernel
theorem dX12_readsBound_19 : decode cX12_readsBound 19 = .ok (.aload_n 0, 1) := by decide +kernel
theorem dX12_readsBound_20 : decode cX12_readsBound 20 = .ok (.invokevirtual 153, 3) := by decide +kernel
theorem dX12_readsBound_23 : decode cX12_readsBound 23 = .ok (.aload_n 0, 1) := by decide +kernel
theorem dX12_readsBound_24 : decode cX12_readsBound 24 = .ok (.invokevirtual 159, 3) := by decide +kernel
theorem dX12_readsBound_27 : decode cX12_readsBound 27 = .ok (.i2l, 1) := by decide +kernel
theorem dX12_readsBound_28 : decode cX12_readsBound 28 = .ok (.lconst 0, 1) := by decide +kernel
theorem dX12_readsBound_29 : decode cX12_readsBound 29 = .ok (.ldc2_w 168, 3) := by decide +kernel
theorem dX12_readsBound_32 : decode cX12_readsBound 32 = .ok (.invokestatic 124, 3) := by decide +kernel
theorem dX12_readsBound_35 : decode cX12_readsBound 35 = .ok (.istore_n 1, 1) := by decide +kernel
theorem dX12_readsBound_36 : decode cX12_readsBound 36 = .ok (.aload_n 0, 1) := by decide +kernel
theorem dX12_readsBound_37 : decode cX12_readsBound 37 = .ok (.aload_n 0, 1) := by decide +kernel
theorem dX12_readsBound_38 : decode cX12_readsBound 38 = .ok (.invokevirtual 159, 3) := by decide +kernel
theorem dX12_readsBound_41 : decode cX12_readsBound 41 = .ok (.putfield 165, 3) := by decide +kernel
theorem dX12_readsBound_44 : decode cX12_readsBound 44 = .ok (.iload_n 1, 1) := by decide +kernel
theorem dX12_readsBound_45 : decode cX12_readsBound 45 = .ok (.ireturn, 1) := by decide +kernel
set_option maxRecDepth 20000 in
theorem ggX12_isName_X12_isSmall : GoodIn wsX12_isName wsX12_isSmall := goodIn_r _ [8, 9, 10, 11, 12, 7, 13] rfl (by decide +kernel)
set_option maxRecDepth 20000 in
theorem gX12_isName_X12_isSmall : GoodIn wsX12_isName (va_wsS RX12 148 yX12_isSmall wsX12_isSmall) := goodIn_app (goodIn_of _ (by decide +kernel)) ggX12_isName_X12_isSmall
theorem dX12_isName_0 : decode cX12_isName 0 = .ok (.aload_n 0, 1) := by decide +kernel
theorem dX12_isName_1 : decode cX12_isName 1 = .ok (.getfield 141, 3) := by decide +kernel
theorem dX12_isName_4 : decode cX12_isName 4 = .ok (.bipush (-2), 2) := by decide +kernel
theorem dX12_isName_6 : decode cX12_isName 6 = .ok (.if_icmp .ne 21, 3) := by decide +kernel
theorem dX12_isName_9 : decode cX12_isName 9 = .ok (.aload_n 0, 1) := by decide +kernel
theorem dX12_isName_10 : decode cX12_isName 10 = .ok (.getfield 132, 3) := by decide +kernel
theorem dX12_isName_13 : decode cX12_isName 13 = .ok (.aload_n 0, 1) := by decide +kernel
theorem dX12_isName_14 : decode cX12_isName 14 = .ok (.getfield 138, 3) := by decide +kernel
theorem dX12_isName_17 : decode cX12_isName 17 = .ok (.isub, 1) := by decide +kernel
theorem dX12_isName_18 : decode cX12_isName 18 = .ok (.bipush 6, 2) := by decide +kernel
theorem dX12_isName_20 : decode cX12_isName 20 = .ok (.if_icmp .gt 7, 3) := by decide +kernel
theorem dX12_isName_23 : decode cX12_isName 23 = .ok (.iconst 1, 1) := by decide +kernel
theorem dX12_isName_24 : decode cX12_isName 24 = .ok (.goto 4, 3) := by decide +kernel
theorem dX12_isName_27 : decode cX12_isName 27 = .ok (.iconst 0, 1) := by decide +kernel
theorem dX12_isName_28 : decode cX12_isName 28 = .ok (.istore_n 1, 1) := by decide +kernel
theorem dX12_isName_29 : decode cX12_isName 29 = .ok (.aload_n 0, 1) := by decide +kernel
theorem dX12_isName_30 : decode cX12_isName 30 = .ok (.getfield 138, 3) := by decide +kernel
theorem dX12_isName_33 : decode cX12_isName 33 = .ok (.istore_n 2, 1) := by decide +kernel
theorem dX12_isName_34 : decode cX12_isName 34 = .ok (.iload_n 2, 1) := by decide +kernel
theorem dX12_isName_35 : decode cX12_isName 35 = .ok (.aload_n 0, 1) := by decide +kernel
theorem dX12_isName_36 : decode cX12_isName 36 = .ok (.getfield 132, 3) := by decide +kernel
theorem dX12_isName_39 : decode cX12_isName 39 = .ok (.if_icmp .ge 23, 3) := by decide +kernel
theorem dX12_isName_42 : decode cX12_isName 42 = .ok (.iload_n 1, 1) := by decide +kernel
theorem dX12_isName_43 : decode cX12_isName 43 = .ok (.ifCond .eq 19, 3) := by decide +kernel
theorem dX12_isName_46 : decode cX12_isName 46 = .ok (.aload_n 0, 1) := by decide +kernel
theorem dX12_isName_47 : decode cX12_isName 47 = .ok (.getfield 29, 3) := by decide +kernel
theorem dX12_isName_50 : decode cX12_isName 50 = .ok (.iload_n 2, 1) := by decide +kernel
theorem dX12_isName_51 : decode cX12_isName 51 = .ok (.iaload, 1) := by decide +kernel
theorem dX12_isName_52 : decode cX12_isName 52 = .ok (.invokestatic 148, 3) := by decide +kernel
theorem dX12_isName_55 : decode cX12_isName 55 = .ok (.istore_n 1, 1) := by decide +kernel
theorem dX12_isName_56 : decode cX12_isName 56 = .ok (.iinc 2 1, 3) := by decide +kernel
theorem dX12_isName_59 : decode cX12_isName 59 = .ok (.goto (-25), 3) := by decide +kernel
theorem dX12_isName_62 : decode cX12_isName 62 = .ok (.iload_n 1, 1) := by decide +kernel
theorem dX12_isName_63 : decode cX12_isName 63 = .ok (.ireturn, 1) := by decide +kernel
set_option maxRecDepth 20000 in
theorem ggX12_readsPair_X12_take : GoodIn wsX12_readsPair wsX12_take := goodIn_r _ [13, 2, 14, 5, 3, 7, 15, 16, 12, 17, 18, 19, 20, 21, 22, 23, 24, 25, 26, 27, 36, 37, 38, 39, 40, 41, 42, 43, 44, 45, 46, 47, 48, 49, 50, 51, 52, 53, 54, 55, 56, 57, 58, 59, 60, 61, 62, 63, 64, 65, 66, 67, 68, 69, 70, 71, 72, 73, 74, 75, 76, 77, 78, 79, 80, 81, 82, 83, 84, 85, 86, 87, 88, 89, 90, 91, 92] rfl (by decide +kernel)
set_option maxRecDepth 20000 in
theorem gX12_readsPair_X12_take : GoodIn wsX12_readsPair (wsV RX12 153 RX12 yX12_take wsX12_take) := goodIn_app (goodIn_of _ (by decide +kernel)) ggX12_readsPair_X12_take
set_option maxRecDepth 20000 in
theorem ggX12_readsPair_X12_isName : GoodIn wsX12_readsPair wsX12_isName := goodIn_r _ [31, 7, 2, 3, 5, 23, 24, 12, 25, 26, 27, 20, 21, 22, 36, 37, 38, 39, 40, 41, 42, 43, 44, 45, 46, 47, 48, 49, 50, 51, 52, 53, 54, 55, 56, 57, 58, 59, 60, 61, 62, 63, 64, 65, 66, 67, 68, 69, 70, 71, 72, 73, 74, 75, 76, 77, 78, 79, 80, 81, 82, 83, 84, 85, 86, 87, 88, 89, 90, 91, 92] rfl (by decide +kernel)
set_option maxRecDepth 20000 in
theorem gX12_readsPair_X12_isName : GoodIn wsX12_readsPair (wsV RX12 170 RX12 yX12_isName wsX12_isName) := goodIn_app (goodIn_of _ (by decide +kernel)) ggX12_readsPair_X12_isName
set_option maxRecDepth 20000 in
theorem ggX12_readsPair_X12_readsSign : GoodIn wsX12_readsPair wsX12_readsSign := goodIn_r _ [35, 7, 9, 10, 11, 12, 13, 2, 14, 5, 3, 15, 16, 17, 18, 19, 20, 21, 22, 23, 24, 25, 26, 27, 36, 37, 38, 39, 40, 41, 42, 43, 44, 45, 46, 47, 48, 49, 50, 51, 52, 53, 54, 55, 56, 57, 58, 59, 60, 61, 62, 63, 64, 65, 66, 67, 68, 69, 70, 71, 72, 73, 74, 75, 76, 77, 78, 79, 80, 81, 82, 83, 84, 85, 86, 87, 88, 89, 90, 91, 92] rfl (by decide +kernel)
set_option maxRecDepth 20000 in
theorem gX12_readsPair_X12_readsSign : GoodIn wsX12_readsPair (wsV RX12 174 RX12 yX12_readsSign wsX12_readsSign) := goodIn_app (goodIn_of _ (by decide +kernel)) ggX12_readsPair_X12_readsSign
theorem dX12_readsPair_0 : decode cX12_readsPair 0 = .ok (.aload_n 0, 1) := by decide +kernel
theorem dX12_readsPair_1 : decode cX12_readsPair 1 = .ok (.invokevirtual 153, 3) := by decide +kernel
theorem dX12_readsPair_4 : decode cX12_readsPair 4 = .ok (.aload_n 0, 1) := by decide +kernel
theorem dX12_readsPair_5 : decode cX12_readsPair 5 = .ok (.invokevirtual 170, 3) := by decide +kernel
theorem dX12_readsPair_8 : decode cX12_readsPair 8 = .ok (.ifCond .ne 5, 3) := by decide +kernel
theorem dX12_readsPair_11 : decode cX12_readsPair 11 = .ok (.iconst 0, 1) := by decide +kernel
theorem dX12_readsPair_12 : decode cX12_readsPair 12 = .ok (.ireturn, 1) := by decide +kernel
theorem dX12_readsPair_13 : decode cX12_readsPair 13 = .ok (.aload_n 0, 1) := by decide +kernel
theorem dX12_readsPair_14 : decode cX12_readsPair 14 = .ok (.getfield 16, 3) := by decide +kernel
theorem dX12_readsPair_17 : decode cX12_readsPair 17 = .ok (.iload_n 1, 1) := by decide +kernel
theorem dX12_readsPair_18 : decode cX12_readsPair 18 = .ok (.aload_n 0, 1) := by decide +kernel
theorem dX12_readsPair_19 : decode cX12_readsPair 19 = .ok (.getfield 132, 3) := by decide +kernel
theorem dX12_readsPair_22 : decode cX12_readsPair 22 = .ok (.aload_n 0, 1) := by decide +kernel
theorem dX12_readsPair_23 : decode cX12_readsPair 23 = .ok (.getfield 138, 3) := by decide +kernel
theorem dX12_readsPair_26 : decode cX12_readsPair 26 = .ok (.isub, 1) := by decide +kernel
theorem dX12_readsPair_27 : decode cX12_readsPair 27 = .ok (.iastore, 1) := by decide +kernel
theorem dX12_readsPair_28 : decode cX12_readsPair 28 = .ok (.iconst 0, 1) := by decide +kernel
theorem dX12_readsPair_29 : decode cX12_readsPair 29 = .ok (.istore_n 2, 1) := by decide +kernel
theorem dX12_readsPair_30 : decode cX12_readsPair 30 = .ok (.iload_n 2, 1) := by decide +kernel
theorem dX12_readsPair_31 : decode cX12_readsPair 31 = .ok (.aload_n 0, 1) := by decide +kernel
theorem dX12_readsPair_32 : decode cX12_readsPair 32 = .ok (.getfield 16, 3) := by decide +kernel
theorem dX12_readsPair_35 : decode cX12_readsPair 35 = .ok (.iload_n 1, 1) := by decide +kernel
theorem dX12_readsPair_36 : decode cX12_readsPair 36 = .ok (.iaload, 1) := by decide +kernel
theorem dX12_readsPair_37 : decode cX12_readsPair 37 = .ok (.if_icmp .ge 31, 3) := by decide +kernel
theorem dX12_readsPair_40 : decode cX12_readsPair 40 = .ok (.aload_n 0, 1) := by decide +kernel
theorem dX12_readsPair_41 : decode cX12_readsPair 41 = .ok (.getfield 23, 3) := by decide +kernel
theorem dX12_readsPair_44 : decode cX12_readsPair 44 = .ok (.bipush 6, 2) := by decide +kernel
theorem dX12_readsPair_46 : decode cX12_readsPair 46 = .ok (.iload_n 1, 1) := by decide +kernel
theorem dX12_readsPair_47 : decode cX12_readsPair 47 = .ok (.imul, 1) := by decide +kernel
theorem dX12_readsPair_48 : decode cX12_readsPair 48 = .ok (.iload_n 2, 1) := by decide +kernel
theorem dX12_readsPair_49 : decode cX12_readsPair 49 = .ok (.iadd, 1) := by decide +kernel
theorem dX12_readsPair_50 : decode cX12_readsPair 50 = .ok (.aload_n 0, 1) := by decide +kernel
theorem dX12_readsPair_51 : decode cX12_readsPair 51 = .ok (.getfield 29, 3) := by decide +kernel
theorem dX12_readsPair_54 : decode cX12_readsPair 54 = .ok (.aload_n 0, 1) := by decide +kernel
theorem dX12_readsPair_55 : decode cX12_readsPair 55 = .ok (.getfield 138, 3) := by decide +kernel
theorem dX12_readsPair_58 : decode cX12_readsPair 58 = .ok (.iload_n 2, 1) := by decide +kernel
theorem dX12_readsPair_59 : decode cX12_readsPair 59 = .ok (.iadd, 1) := by decide +kernel
theorem dX12_readsPair_60 : decode cX12_readsPair 60 = .ok (.iaload, 1) := by decide +kernel
theorem dX12_readsPair_61 : decode cX12_readsPair 61 = .ok (.iastore, 1) := by decide +kernel
theorem dX12_readsPair_62 : decode cX12_readsPair 62 = .ok (.iinc 2 1, 3) := by decide +kernel
theorem dX12_readsPair_65 : decode cX12_readsPair 65 = .ok (.goto (-35), 3) := by decide +kernel
theorem dX12_readsPair_68 : decode cX12_readsPair 68 = .ok (.aload_n 0, 1) := by decide +kernel
theorem dX12_readsPair_69 : decode cX12_readsPair 69 = .ok (.invokevirtual 153, 3) := by decide +kernel
theorem dX12_readsPair_72 : decode cX12_readsPair 72 = .ok (.aload_n 0, 1) := by decide +kernel
theorem dX12_readsPair_73 : decode cX12_readsPair 73 = .ok (.bipush 61, 2) := by decide +kernel
theorem dX12_readsPair_75 : decode cX12_readsPair 75 = .ok (.invokevirtual 174, 3) := by decide +kernel
theorem dX12_readsPair_78 : decode cX12_readsPair 78 = .ok (.ifCond .ne 5, 3) := by decide +kernel
theorem dX12_readsPair_81 : decode cX12_readsPair 81 = .ok (.iconst 0, 1) := by decide +kernel
theorem dX12_readsPair_82 : decode cX12_readsPair 82 = .ok (.ireturn, 1) := by decide +kernel
theorem dX12_readsPair_83 : decode cX12_readsPair 83 = .ok (.aload_n 0, 1) := by decide +kernel
theorem dX12_readsPair_84 : decode cX12_readsPair 84 = .ok (.getfield 20, 3) := by decide +kernel
theorem dX12_readsPair_87 : decode cX12_readsPair 87 = .ok (.iload_n 1, 1) := by decide +kernel
theorem dX12_readsPair_88 : decode cX12_readsPair 88 = .ok (.iconst 0, 1) := by decide +kernel
theorem dX12_readsPair_89 : decode cX12_readsPair 89 = .ok (.iastore, 1) := by decide +kernel
theorem dX12_readsPair_90 : decode cX12_readsPair 90 = .ok (.aload_n 0, 1) := by decide +kernel
theorem dX12_readsPair_91 : decode cX12_readsPair 91 = .ok (.getfield 141, 3) := by decide +kernel
theorem dX12_readsPair_94 : decode cX12_readsPair 94 = .ok (.bipush (-2), 2) := by decide +kernel
theorem dX12_readsPair_96 : decode cX12_readsPair 96 = .ok (.if_icmp .ne 78, 3) := by decide +kernel
theorem dX12_readsPair_99 : decode cX12_readsPair 99 = .ok (.aload_n 0, 1) := by decide +kernel
theorem dX12_readsPair_100 : decode cX12_readsPair 100 = .ok (.getfield 132, 3) := by decide +kernel
theorem dX12_readsPair_103 : decode cX12_readsPair 103 = .ok (.aload_n 0, 1) := by decide +kernel
theorem dX12_readsPair_104 : decode cX12_readsPair 104 = .ok (.getfield 138, 3) := by decide +kernel
theorem dX12_readsPair_107 : decode cX12_readsPair 107 = .ok (.isub, 1) := by decide +kernel
theorem dX12_readsPair_108 : decode cX12_readsPair 108 = .ok (.bipush 6, 2) := by decide +kernel
theorem dX12_readsPair_110 : decode cX12_readsPair 110 = .ok (.if_icmp .le 5, 3) := by decide +kernel
theorem dX12_readsPair_113 : decode cX12_readsPair 113 = .ok (.iconst 0, 1) := by decide +kernel
theorem dX12_readsPair_114 : decode cX12_readsPair 114 = .ok (.ireturn, 1) := by decide +kernel
theorem dX12_readsPair_115 : decode cX12_readsPair 115 = .ok (.aload_n 0, 1) := by decide +kernel
theorem dX12_readsPair_116 : decode cX12_readsPair 116 = .ok (.getfield 20, 3) := by decide +kernel
theorem dX12_readsPair_119 : decode cX12_readsPair 119 = .ok (.iload_n 1, 1) := by decide +kernel
theorem dX12_readsPair_120 : decode cX12_readsPair 120 = .ok (.aload_n 0, 1) := by decide +kernel
theorem dX12_readsPair_121 : decode cX12_readsPair 121 = .ok (.getfield 132, 3) := by decide +kernel
theorem dX12_readsPair_124 : decode cX12_readsPair 124 = .ok (.aload_n 0, 1) := by decide +kernel
theorem dX12_readsPair_125 : decode cX12_readsPair 125 = .ok (.getfield 138, 3) := by decide +kernel
theorem dX12_readsPair_128 : decode cX12_readsPair 128 = .ok (.isub, 1) := by decide +kernel
theorem dX12_readsPair_129 : decode cX12_readsPair 129 = .ok (.iastore, 1) := by decide +kernel
theorem dX12_readsPair_130 : decode cX12_readsPair 130 = .ok (.iconst 0, 1) := by decide +kernel
theorem dX12_readsPair_131 : decode cX12_readsPair 131 = .ok (.istore_n 2, 1) := by decide +kernel
theorem dX12_readsPair_132 : decode cX12_readsPair 132 = .ok (.iload_n 2, 1) := by decide +kernel
theorem dX12_readsPair_133 : decode cX12_readsPair 133 = .ok (.aload_n 0, 1) := by decide +kernel
theorem dX12_readsPair_134 : decode cX12_readsPair 134 = .ok (.getfield 20, 3) := by decide +kernel
theorem dX12_readsPair_137 : decode cX12_readsPair 137 = .ok (.iload_n 1, 1) := by decide +kernel
theorem dX12_readsPair_138 : decode cX12_readsPair 138 = .ok (.iaload, 1) := by decide +kernel
theorem dX12_readsPair_139 : decode cX12_readsPair 139 = .ok (.if_icmp .ge 31, 3) := by decide +kernel
theorem dX12_readsPair_142 : decode cX12_readsPair 142 = .ok (.aload_n 0, 1) := by decide +kernel
theorem dX12_readsPair_143 : decode cX12_readsPair 143 = .ok (.getfield 26, 3) := by decide +kernel
theorem dX12_readsPair_146 : decode cX12_readsPair 146 = .ok (.bipush 6, 2) := by decide +kernel
theorem dX12_readsPair_148 : decode cX12_readsPair 148 = .ok (.iload_n 1, 1) := by decide +kernel
theorem dX12_readsPair_149 : decode cX12_readsPair 149 = .ok (.imul, 1) := by decide +kernel
theorem dX12_readsPair_150 : decode cX12_readsPair 150 = .ok (.iload_n 2, 1) := by decide +kernel
theorem dX12_readsPair_151 : decode cX12_readsPair 151 = .ok (.iadd, 1) := by decide +kernel
theorem dX12_readsPair_152 : decode cX12_readsPair 152 = .ok (.aload_n 0, 1) := by decide +kernel
theorem dX12_readsPair_153 : decode cX12_readsPair 153 = .ok (.getfield 29, 3) := by decide +kernel
theorem dX12_readsPair_156 : decode cX12_readsPair 156 = .ok (.aload_n 0, 1) := by decide +kernel
theorem dX12_readsPair_157 : decode cX12_readsPair 157 = .ok (.getfield 138, 3) := by decide +kernel
theorem dX12_readsPair_160 : decode cX12_readsPair 160 = .ok (.iload_n 2, 1) := by decide +kernel
theorem dX12_readsPair_161 : decode cX12_readsPair 161 = .ok (.iadd, 1) := by decide +kernel
theorem dX12_readsPair_162 : decode cX12_readsPair 162 = .ok (.iaload, 1) := by decide +kernel
theorem dX12_readsPair_163 : decode cX12_readsPair 163 = .ok (.iastore, 1) := by decide +kernel
theorem dX12_readsPair_164 : decode cX12_readsPair 164 = .ok (.iinc 2 1, 3) := by decide +kernel
theorem dX12_readsPair_167 : decode cX12_readsPair 167 = .ok (.goto (-35), 3) := by decide +kernel
theorem dX12_readsPair_170 : decode cX12_readsPair 170 = .ok (.aload_n 0, 1) := by decide +kernel
theorem dX12_readsPair_171 : decode cX12_readsPair 171 = .ok (.invokevirtual 153, 3) := by decide +kernel
theorem dX12_readsPair_174 : decode cX12_readsPair 174 = .ok (.iconst 1, 1) := by decide +kernel
theorem dX12_readsPair_175 : decode cX12_readsPair 175 = .ok (.ireturn, 1) := by decide +kernel
set_option maxRecDepth 20000 in
theorem ggX12_readsStill_X12_readsPair : GoodIn wsX12_readsStill wsX12_readsPair := goodIn_r _ [6, 7, 8, 9, 10, 11, 12, 13, 14, 15, 16, 17, 5, 18, 19, 20, 21, 22, 23, 24, 25, 26, 27, 28, 29, 30, 31, 32, 33, 34, 35, 36, 37, 38, 39, 40, 41, 42, 43, 44, 45, 46, 47, 48, 49, 50, 51, 52, 53, 54, 55, 56, 57, 58, 59, 60, 61, 62, 63, 64, 65, 66, 67, 68, 69, 70, 71, 72, 73, 74, 75, 76, 77, 78, 79, 80, 81, 82, 83, 84, 85, 86, 87, 88, 89, 90, 91, 92, 93, 94, 95, 96, 97] rfl (by decide +kernel)
set_option maxRecDepth 20000 in
theorem gX12_readsStill_X12_readsPair : GoodIn wsX12_readsStill (wsV RX12 180 RX12 yX12_readsPair wsX12_readsPair) := goodIn_app (goodIn_of _ (by decide +kernel)) ggX12_readsStill_X12_readsPair
theorem dX12_readsStill_0 : decode cX12_readsStill 0 = .ok (.aload_n 0, 1) := by decide +kernel
theorem dX12_readsStill_1 : decode cX12_readsStill 1 = .ok (.getfield 177, 3) := by decide +kernel
theorem dX12_readsStill_4 : decode cX12_readsStill 4 = .ok (.bipush 8, 2) := by decide +kernel
theorem dX12_readsStill_6 : decode cX12_readsStill 6 = .ok (.if_icmp .ge 21, 3) := by decide +kernel
theorem dX12_readsStill_9 : decode cX12_readsStill 9 = .ok (.aload_n 0, 1) := by decide +kernel
theorem dX12_readsStill_10 : decode cX12_readsStill 10 = .ok (.bipush 24, 2) := by decide +kernel
theorem dX12_readsStill_12 : decode cX12_readsStill 12 = .ok (.aload_n 0, 1) := by decide +kernel
theorem dX12_readsStill_13 : decode cX12_readsStill 13 = .ok (.getfield 177, 3) := by decide +kernel
theorem dX12_readsStill_16 : decode cX12_readsStill 16 = .ok (.iadd, 1) := by decide +kernel
theorem dX12_readsStill_17 : decode cX12_readsStill 17 = .ok (.invokevirtual 180, 3) := by decide +kernel
theorem dX12_readsStill_20 : decode cX12_readsStill 20 = .ok (.ifCond .eq 7, 3) := by decide +kernel
theorem dX12_readsStill_23 : decode cX12_readsStill 23 = .ok (.iconst 1, 1) := by decide +kernel
theorem dX12_readsStill_24 : decode cX12_readsStill 24 = .ok (.goto 4, 3) := by decide +kernel
theorem dX12_readsStill_27 : decode cX12_readsStill 27 = .ok (.iconst 0, 1) := by decide +kernel
theorem dX12_readsStill_28 : decode cX12_readsStill 28 = .ok (.istore_n 1, 1) := by decide +kernel
theorem dX12_readsStill_29 : decode cX12_readsStill 29 = .ok (.aload_n 0, 1) := by decide +kernel
theorem dX12_readsStill_30 : decode cX12_readsStill 30 = .ok (.dup, 1) := by decide +kernel
theorem dX12_readsStill_31 : decode cX12_readsStill 31 = .ok (.getfield 177, 3) := by decide +kernel
theorem dX12_readsStill_34 : decode cX12_readsStill 34 = .ok (.iload_n 1, 1) := by decide +kernel
theorem dX12_readsStill_35 : decode cX12_readsStill 35 = .ok (.ifCond .eq 7, 3) := by decide +kernel
theorem dX12_readsStill_38 : decode cX12_readsStill 38 = .ok (.iconst 1, 1) := by decide +kernel
theorem dX12_readsStill_39 : decode cX12_readsStill 39 = .ok (.goto 4, 3) := by decide +kernel
theorem dX12_readsStill_42 : decode cX12_readsStill 42 = .ok (.iconst 0, 1) := by decide +kernel
theorem dX12_readsStill_43 : decode cX12_readsStill 43 = .ok (.iadd, 1) := by decide +kernel
theorem dX12_readsStill_44 : decode cX12_readsStill 44 = .ok (.putfield 177, 3) := by decide +kernel
theorem dX12_readsStill_47 : decode cX12_readsStill 47 = .ok (.iload_n 1, 1) := by decide +kernel
theorem dX12_readsStill_48 : decode cX12_readsStill 48 = .ok (.ireturn, 1) := by decide +kernel
set_option maxRecDepth 20000 in
theorem ggX12_readsField_X12_readsPair : GoodIn wsX12_readsField wsX12_readsPair := goodIn_r _ [7, 8, 9, 10, 11, 12, 13, 2, 14, 15, 16, 17, 6, 18, 19, 20, 21, 22, 23, 24, 25, 26, 27, 28, 29, 30, 31, 32, 33, 34, 35, 36, 37, 38, 39, 40, 49, 50, 51, 52, 53, 54, 55, 56, 57, 58, 59, 60, 61, 62, 63, 64, 65, 66, 67, 68, 69, 70, 71, 72, 73, 74, 75, 76, 77, 78, 79, 80, 81, 82, 83, 84, 85, 86, 87, 88, 89, 90, 91, 92, 93, 94, 95, 96, 97, 98, 99, 100, 101, 102, 103, 104, 105] rfl (by decide +kernel)
set_option maxRecDepth 20000 in
theorem gX12_readsField_X12_readsPair : GoodIn wsX12_readsField (wsV RX12 180 RX12 yX12_readsPair wsX12_readsPair) := goodIn_app (goodIn_of _ (by decide +kernel)) ggX12_readsField_X12_readsPair
set_option maxRecDepth 20000 in
theorem ggX12_readsField_X12_areAlike : GoodIn wsX12_readsField wsX12_areAlike := goodIn_r _ [44, 13, 14, 45, 46, 47, 6, 48, 8, 11, 49, 50, 51, 52, 53, 54, 55, 56, 57, 58, 59, 60, 61, 62, 63, 64, 65, 66, 67, 68, 69, 70, 71, 72, 73, 74, 75, 76, 77, 78, 79, 80, 81, 82, 83, 84, 85, 86, 87, 88, 89, 90, 91, 92, 93, 94, 95, 96, 97, 98, 99, 100, 101, 102, 103, 104, 105] rfl (by decide +kernel)
set_option maxRecDepth 20000 in
theorem gX12_readsField_X12_areAlike : GoodIn wsX12_readsField (wsV RX12 186 RX12 yX12_areAlike wsX12_areAlike) := goodIn_app (goodIn_of _ (by decide +kernel)) ggX12_readsField_X12_areAlike
theorem dX12_readsField_0 : decode cX12_readsField 0 = .ok (.aload_n 0, 1) := by decide +kernel
theorem dX12_readsField_1 : decode cX12_readsField 1 = .ok (.getfield 183, 3) := by decide +kernel
theorem dX12_readsField_4 : decode cX12_readsField 4 = .ok (.bipush 7, 2) := by decide +kernel
theorem dX12_readsField_6 : decode cX12_readsField 6 = .ok (.if_icmp .eq 26, 3) := by decide +kernel
theorem dX12_readsField_9 : decode cX12_readsField 9 = .ok (.aload_n 0, 1) := by decide +kernel
theorem dX12_readsField_10 : decode cX12_readsField 10 = .ok (.bipush 16, 2) := by decide +kernel
theorem dX12_readsField_12 : decode cX12_readsField 12 = .ok (.aload_n 0, 1) := by decide +kernel
theorem dX12_readsField_13 : decode cX12_readsField 13 = .ok (.getfield 183, 3) := by decide +kernel
theorem dX12_readsField_16 : decode cX12_readsField 16 = .ok (.iadd, 1) := by decide +kernel
theorem dX12_readsField_17 : decode cX12_readsField 17 = .ok (.invokevirtual 180, 3) := by decide +kernel
theorem dX12_readsField_20 : decode cX12_readsField 20 = .ok (.ifCond .eq 12, 3) := by decide +kernel
theorem dX12_readsField_23 : decode cX12_readsField 23 = .ok (.aload_n 0, 1) := by decide +kernel
theorem dX12_readsField_24 : decode cX12_readsField 24 = .ok (.getfield 141, 3) := by decide +kernel
theorem dX12_readsField_27 : decode cX12_readsField 27 = .ok (.bipush 59, 2) := by decide +kernel
theorem dX12_readsField_29 : decode cX12_readsField 29 = .ok (.if_icmp .eq 5, 3) := by decide +kernel
theorem dX12_readsField_32 : decode cX12_readsField 32 = .ok (.iconst 0, 1) := by decide +kernel
theorem dX12_readsField_33 : decode cX12_readsField 33 = .ok (.ireturn, 1) := by decide +kernel
theorem dX12_readsField_34 : decode cX12_readsField 34 = .ok (.iconst 0, 1) := by decide +kernel
theorem dX12_readsField_35 : decode cX12_readsField 35 = .ok (.istore_n 1, 1) := by decide +kernel
theorem dX12_readsField_36 : decode cX12_readsField 36 = .ok (.iload_n 1, 1) := by decide +kernel
theorem dX12_readsField_37 : decode cX12_readsField 37 = .ok (.aload_n 0, 1) := by decide +kernel
theorem dX12_readsField_38 : decode cX12_readsField 38 = .ok (.getfield 183, 3) := by decide +kernel
theorem dX12_readsField_41 : decode cX12_readsField 41 = .ok (.if_icmp .ge 29, 3) := by decide +kernel
theorem dX12_readsField_44 : decode cX12_readsField 44 = .ok (.aload_n 0, 1) := by decide +kernel
theorem dX12_readsField_45 : decode cX12_readsField 45 = .ok (.bipush 16, 2) := by decide +kernel
theorem dX12_readsField_47 : decode cX12_readsField 47 = .ok (.iload_n 1, 1) := by decide +kernel
theorem dX12_readsField_48 : decode cX12_readsField 48 = .ok (.iadd, 1) := by decide +kernel
theorem dX12_readsField_49 : decode cX12_readsField 49 = .ok (.bipush 16, 2) := by decide +kernel
theorem dX12_readsField_51 : decode cX12_readsField 51 = .ok (.aload_n 0, 1) := by decide +kernel
theorem dX12_readsField_52 : decode cX12_readsField 52 = .ok (.getfield 183, 3) := by decide +kernel
theorem dX12_readsField_55 : decode cX12_readsField 55 = .ok (.iadd, 1) := by decide +kernel
theorem dX12_readsField_56 : decode cX12_readsField 56 = .ok (.invokevirtual 186, 3) := by decide +kernel
theorem dX12_readsField_59 : decode cX12_readsField 59 = .ok (.ifCond .eq 5, 3) := by decide +kernel
theorem dX12_readsField_62 : decode cX12_readsField 62 = .ok (.iconst 0, 1) := by decide +kernel
theorem dX12_readsField_63 : decode cX12_readsField 63 = .ok (.ireturn, 1) := by decide +kernel
theorem dX12_readsField_64 : decode cX12_readsField 64 = .ok (.iinc 1 1, 3) := by decide +kernel
theorem dX12_readsField_67 : decode cX12_readsField 67 = .ok (.goto (-31), 3) := by decide +kernel
theorem dX12_readsField_70 : decode cX12_readsField 70 = .ok (.aload_n 0, 1) := by decide +kernel
theorem dX12_readsField_71 : decode cX12_readsField 71 = .ok (.dup, 1) := by decide +kernel
theorem dX12_readsField_72 : decode cX12_readsField 72 = .ok (.getfield 183, 3) := by decide +kernel
theorem dX12_readsField_75 : decode cX12_readsField 75 = .ok (.iconst 1, 1) := by decide +kernel
theorem dX12_readsField_76 : decode cX12_readsField 76 = .ok (.iadd, 1) := by decide +kernel
theorem dX12_readsField_77 : decode cX12_readsField 77 = .ok (.putfield 183, 3) := by decide +kernel
theorem dX12_readsField_80 : decode cX12_readsField 80 = .ok (.iconst 1, 1) := by decide +kernel
theorem dX12_readsField_81 : decode cX12_readsField 81 = .ok (.ireturn, 1) := by decide +kernel
set_option maxRecDepth 20000 in
theorem ggX12_readsItem_X12_word : GoodIn wsX12_readsItem wsX12_word := goodIn_r _ [9, 10, 11, 12, 13, 14, 83, 84, 85, 86, 87, 88, 89, 90, 91, 92, 93, 94, 95, 96, 97, 98, 99, 100, 101, 102, 103, 104, 105, 106, 107, 108, 109, 110, 111, 112, 113, 114, 115, 116, 117, 118, 119, 120, 121, 122, 123, 124, 125, 126, 127, 128, 129, 130, 131, 132, 133, 134, 135, 136, 137, 138, 139] rfl (by decide +kernel)
set_option maxRecDepth 20000 in
theorem gX12_readsItem_X12_word : GoodIn wsX12_readsItem (wsV RX12 190 RX12 yX12_word wsX12_word) := goodIn_app (goodIn_of _ (by decide +kernel)) ggX12_readsItem_X12_word
set_option maxRecDepth 20000 in
theorem ggX12_readsItem_X12_readsMost : GoodIn wsX12_readsItem wsX12_readsMost := goodIn_r _ [18, 19, 20, 21, 22, 23, 8, 24, 11, 25, 13, 10, 14, 26, 27, 28, 29, 30, 31, 32, 33, 34, 35, 36, 37, 38, 39, 40, 41, 42, 83, 84, 85, 86, 87, 88, 89, 90, 91, 92, 93, 94, 95, 96, 97, 98, 99, 100, 101, 102, 103, 104, 105, 106, 107, 108, 109, 110, 111, 112, 113, 114, 115, 116, 117, 118, 119, 120, 121, 122, 123, 124, 125, 126, 127, 128, 129, 130, 131, 132, 133, 134, 135, 136, 137, 138, 139] rfl (by decide +kernel)
set_option maxRecDepth 20000 in
theorem gX12_readsItem_X12_readsMost : GoodIn wsX12_readsItem (wsV RX12 198 RX12 yX12_readsMost wsX12_readsMost) := goodIn_app (goodIn_of _ (by decide +kernel)) ggX12_readsItem_X12_readsMost
set_option maxRecDepth 20000 in
theorem ggX12_readsItem_X12_readsBound : GoodIn wsX12_readsItem wsX12_readsBound := goodIn_r _ [46, 47, 48, 21, 22, 23, 8, 24, 11, 25, 13, 10, 14, 26, 27, 28, 29, 30, 31, 32, 33, 34, 35, 36, 37, 38, 39, 40, 41, 42, 83, 84, 85, 86, 87, 88, 89, 90, 91, 92, 93, 94, 95, 96, 97, 98, 99, 100, 101, 102, 103, 104, 105, 106, 107, 108, 109, 110, 111, 112, 113, 114, 115, 116, 117, 118, 119, 120, 121, 122, 123, 124, 125, 126, 127, 128, 129, 130, 131, 132, 133, 134, 135, 136, 137, 138, 139] rfl (by decide +kernel)
set_option maxRecDepth 20000 in
theorem gX12_readsItem_X12_readsBound : GoodIn wsX12_readsItem (wsV RX12 201 RX12 yX12_readsBound wsX12_readsBound) := goodIn_app (goodIn_of _ (by decide +kernel)) ggX12_readsItem_X12_readsBound
set_option maxRecDepth 20000 in
theorem ggX12_readsItem_X12_take : GoodIn wsX12_readsItem wsX12_take := goodIn_r _ [24, 11, 25, 13, 10, 14, 26, 27, 8, 28, 29, 30, 31, 32, 33, 34, 35, 36, 37, 38, 83, 84, 85, 86, 87, 88, 89, 90, 91, 92, 93, 94, 95, 96, 97, 98, 99, 100, 101, 102, 103, 104, 105, 106, 107, 108, 109, 110, 111, 112, 113, 114, 115, 116, 117, 118, 119, 120, 121, 122, 123, 124, 125, 126, 127, 128, 129, 130, 131, 132, 133, 134, 135, 136, 137, 138, 139] rfl (by decide +kernel)
set_option maxRecDepth 20000 in
theorem gX12_readsItem_X12_take : GoodIn wsX12_readsItem (wsV RX12 153 RX12 yX12_take wsX12_take) := goodIn_app (goodIn_of _ (by decide +kernel)) ggX12_readsItem_X12_take
set_option maxRecDepth 20000 in
theorem ggX12_readsItem_X12_readsStill : GoodIn wsX12_readsItem wsX12_readsStill := goodIn_r _ [52, 53, 54, 55, 56, 8, 57, 58, 11, 10, 59, 13, 60, 14, 61, 21, 22, 23, 24, 25, 26, 27, 28, 29, 30, 31, 32, 33, 34, 35, 36, 37, 38, 62, 63, 64, 65, 66, 67, 68, 69, 83, 84, 85, 86, 87, 88, 89, 90, 91, 92, 93, 94, 95, 96, 97, 98, 99, 100, 101, 102, 103, 104, 105, 106, 107, 108, 109, 110, 111, 112, 113, 114, 115, 116, 117, 118, 119, 120, 121, 122, 123, 124, 125, 126, 127, 128, 129, 130, 131, 132, 133, 134, 135, 136, 137, 138, 139] rfl (by decide +kernel)
set_option maxRecDepth 20000 in
theorem gX12_readsItem_X12_readsStill : GoodIn wsX12_readsItem (wsV RX12 206 RX12 yX12_readsStill wsX12_readsStill) := goodIn_app (goodIn_of _ (by decide +kernel)) ggX12_readsItem_X12_readsStill
set_option maxRecDepth 20000 in
theorem ggX12_readsItem_X12_readsField : GoodIn wsX12_readsItem wsX12_readsField := goodIn_r _ [73, 74, 14, 54, 55, 56, 8, 57, 58, 11, 10, 59, 13, 60, 61, 21, 22, 23, 24, 25, 26, 27, 28, 29, 30, 31, 32, 33, 34, 35, 36, 37, 38, 62, 63, 64, 65, 66, 67, 68, 69, 75, 76, 77, 78, 79, 80, 81, 82, 83, 84, 85, 86, 87, 88, 89, 90, 91, 92, 93, 94, 95, 96, 97, 98, 99, 100, 101, 102, 103, 104, 105, 106, 107, 108, 109, 110, 111, 112, 113, 114, 115, 116, 117, 118, 119, 120, 121, 122, 123, 124, 125, 126, 127, 128, 129, 130, 131, 132, 133, 134, 135, 136, 137, 138, 139] rfl (by decide +kernel)
set_option maxRecDepth 20000 in
theorem gX12_readsItem_X12_readsField : GoodIn wsX12_readsItem (wsV RX12 211 RX12 yX12_readsField wsX12_readsField) := goodIn_app (goodIn_of _ (by decide +kernel)) ggX12_readsItem_X12_readsField
theorem dX12_readsItem_0 : decode cX12_readsItem 0 = .ok (.aload_n 0, 1) := by decide +kernel
theorem dX12_readsItem_1 : decode cX12_readsItem 1 = .ok (.invokevirtual 190, 3) := by decide +kernel
theorem dX12_readsItem_4 : decode cX12_readsItem 4 = .ok (.lstore_n 1, 1) := by decide +kernel
theorem dX12_readsItem_5 : decode cX12_readsItem 5 = .ok (.lload_n 1, 1) := by decide +kernel
theorem dX12_readsItem_6 : decode cX12_readsItem 6 = .ok (.ldc2_w 194, 3) := by decide +kernel
theorem dX12_readsItem_9 : decode cX12_readsItem 9 = .ok (.lcmp, 1) := by decide +kernel
theorem dX12_readsItem_10 : decode cX12_readsItem 10 = .ok (.ifCond .eq 11, 3) := by decide +kernel
theorem dX12_readsItem_13 : decode cX12_readsItem 13 = .ok (.lload_n 1, 1) := by decide +kernel
theorem dX12_readsItem_14 : decode cX12_readsItem 14 = .ok (.ldc2_w 196, 3) := by decide +kernel
theorem dX12_readsItem_17 : decode cX12_readsItem 17 = .ok (.lcmp, 1) := by decide +kernel
theorem dX12_readsItem_18 : decode cX12_readsItem 18 = .ok (.ifCond .ne 33, 3) := by decide +kernel
theorem dX12_readsItem_21 : decode cX12_readsItem 21 = .ok (.lload_n 1, 1) := by decide +kernel
theorem dX12_readsItem_22 : decode cX12_readsItem 22 = .ok (.ldc2_w 194, 3) := by decide +kernel
theorem dX12_readsItem_25 : decode cX12_readsItem 25 = .ok (.lcmp, 1) := by decide +kernel
theorem dX12_readsItem_26 : decode cX12_readsItem 26 = .ok (.ifCond .ne 10, 3) := by decide +kernel
theorem dX12_readsItem_29 : decode cX12_readsItem 29 = .ok (.aload_n 0, 1) := by decide +kernel
theorem dX12_readsItem_30 : decode cX12_readsItem 30 = .ok (.invokevirtual 198, 3) := by decide +kernel
theorem dX12_readsItem_33 : decode cX12_readsItem 33 = .ok (.goto 7, 3) := by decide +kernel
theorem dX12_readsItem_36 : decode cX12_readsItem 36 = .ok (.aload_n 0, 1) := by decide +kernel
theorem dX12_readsItem_37 : decode cX12_readsItem 37 = .ok (.invokevirtual 201, 3) := by decide +kernel
theorem dX12_readsItem_40 : decode cX12_readsItem 40 = .ok (.istore_n 3, 1) := by decide +kernel
theorem dX12_readsItem_41 : decode cX12_readsItem 41 = .ok (.iload_n 3, 1) := by decide +kernel
theorem dX12_readsItem_42 : decode cX12_readsItem 42 = .ok (.ifCond .eq 7, 3) := by decide +kernel
theorem dX12_readsItem_45 : decode cX12_readsItem 45 = .ok (.aload_n 0, 1) := by decide +kernel
theorem dX12_readsItem_46 : decode cX12_readsItem 46 = .ok (.invokevirtual 153, 3) := by decide +kernel
theorem dX12_readsItem_49 : decode cX12_readsItem 49 = .ok (.iload_n 3, 1) := by decide +kernel
theorem dX12_readsItem_50 : decode cX12_readsItem 50 = .ok (.ireturn, 1) := by decide +kernel
theorem dX12_readsItem_51 : decode cX12_readsItem 51 = .ok (.lload_n 1, 1) := by decide +kernel
theorem dX12_readsItem_52 : decode cX12_readsItem 52 = .ok (.ldc2_w 204, 3) := by decide +kernel
theorem dX12_readsItem_55 : decode cX12_readsItem 55 = .ok (.lcmp, 1) := by decide +kernel
theorem dX12_readsItem_56 : decode cX12_readsItem 56 = .ok (.ifCond .ne 10, 3) := by decide +kernel
theorem dX12_readsItem_59 : decode cX12_readsItem 59 = .ok (.aload_n 0, 1) := by decide +kernel
theorem dX12_readsItem_60 : decode cX12_readsItem 60 = .ok (.invokevirtual 206, 3) := by decide +kernel
theorem dX12_readsItem_63 : decode cX12_readsItem 63 = .ok (.goto 23, 3) := by decide +kernel
theorem dX12_readsItem_66 : decode cX12_readsItem 66 = .ok (.lload_n 1, 1) := by decide +kernel
theorem dX12_readsItem_67 : decode cX12_readsItem 67 = .ok (.ldc2_w 209, 3) := by decide +kernel
theorem dX12_readsItem_70 : decode cX12_readsItem 70 = .ok (.lcmp, 1) := by decide +kernel
theorem dX12_readsItem_71 : decode cX12_readsItem 71 = .ok (.ifCond .ne 14, 3) := by decide +kernel
theorem dX12_readsItem_74 : decode cX12_readsItem 74 = .ok (.aload_n 0, 1) := by decide +kernel
theorem dX12_readsItem_75 : decode cX12_readsItem 75 = .ok (.invokevirtual 211, 3) := by decide +kernel
theorem dX12_readsItem_78 : decode cX12_readsItem 78 = .ok (.ifCond .eq 7, 3) := by decide +kernel
theorem dX12_readsItem_81 : decode cX12_readsItem 81 = .ok (.iconst 1, 1) := by decide +kernel
theorem dX12_readsItem_82 : decode cX12_readsItem 82 = .ok (.goto 4, 3) := by decide +kernel
theorem dX12_readsItem_85 : decode cX12_readsItem 85 = .ok (.iconst 0, 1) := by decide +kernel
theorem dX12_readsItem_86 : decode cX12_readsItem 86 = .ok (.ireturn, 1) := by decide +kernel
set_option maxRecDepth 20000 in
theorem ggX12_reads_X12_take : GoodIn wsX12_reads wsX12_take := goodIn_r _ [12, 1, 13, 14, 15, 7, 16, 17, 11, 18, 19, 20, 21, 22, 23, 24, 25, 26, 27, 28, 88, 89, 90, 91, 92, 93, 94, 95, 96, 97, 98, 99, 100, 101, 102, 103, 104, 105, 106, 107, 108, 109, 110, 111, 112, 113, 114, 115, 116, 117, 118, 119, 120, 121, 122, 123, 124, 125, 126, 127, 128, 129, 130, 131, 132, 133, 134, 135, 136, 137, 138, 139, 140, 141, 142, 143, 144] rfl (by decide +kernel)
set_option maxRecDepth 20000 in
theorem gX12_reads_X12_take : GoodIn wsX12_reads (wsV RX12 153 RX12 yX12_take wsX12_take) := goodIn_app (goodIn_of _ (by decide +kernel)) ggX12_reads_X12_take
set_option maxRecDepth 20000 in
theorem ggX12_reads_X12_readsItem : GoodIn wsX12_reads wsX12_readsItem := goodIn_r _ [32, 33, 34, 35, 36, 37, 38, 39, 11, 40, 15, 1, 41, 14, 7, 42, 43, 44, 45, 5, 46, 8, 9, 10, 12, 13, 16, 17, 18, 19, 20, 21, 22, 23, 24, 25, 26, 27, 28, 47, 48, 49, 50, 51, 52, 53, 54, 6, 55, 56, 57, 58, 59, 4, 60, 61, 62, 63, 64, 65, 66, 67, 68, 69, 70, 71, 72, 73, 74, 75, 76, 77, 78, 79, 3, 80, 81, 82, 83, 84, 85, 86, 87, 88, 89, 90, 91, 92, 93, 94, 95, 96, 97, 98, 99, 100, 101, 102, 103, 104, 105, 106, 107, 108, 109, 110, 111, 112, 113, 114, 115, 116, 117, 118, 119, 120, 121, 122, 123, 124, 125, 126, 127, 128, 129, 130, 131, 132, 133, 134, 135, 136, 137, 138, 139, 140, 141, 142, 143, 144] rfl (by decide +kernel)
set_option maxRecDepth 20000 in
theorem gX12_reads_X12_readsItem : GoodIn wsX12_reads (wsV RX12 217 RX12 yX12_readsItem wsX12_readsItem) := goodIn_app (goodIn_of _ (by decide +kernel)) ggX12_reads_X12_readsItem
set_option maxRecDepth 20000 in
theorem ggX12_reads_X12_readsSign : GoodIn wsX12_reads wsX12_readsSign := goodIn_r _ [75, 7, 8, 9, 10, 11, 12, 1, 13, 14, 15, 16, 17, 18, 19, 20, 21, 22, 23, 24, 25, 26, 27, 28, 88, 89, 90, 91, 92, 93, 94, 95, 96, 97, 98, 99, 100, 101, 102, 103, 104, 105, 106, 107, 108, 109, 110, 111, 112, 113, 114, 115, 116, 117, 118, 119, 120, 121, 122, 123, 124, 125, 126, 127, 128, 129, 130, 131, 132, 133, 134, 135, 136, 137, 138, 139, 140, 141, 142, 143, 144] rfl (by decide +kernel)
set_option maxRecDepth 20000 in
theorem gX12_reads_X12_readsSign : GoodIn wsX12_reads (wsV RX12 174 RX12 yX12_readsSign wsX12_readsSign) := goodIn_app (goodIn_of _ (by decide +kernel)) ggX12_reads_X12_readsSign
theorem dX12_reads_0 : decode cX12_reads 0 = .ok (.aload_n 0, 1) := by decide +kernel
theorem dX12_reads_1 : decode cX12_reads 1 = .ok (.iconst 0, 1) := by decide +kernel
theorem dX12_reads_2 : decode cX12_reads 2 = .ok (.putfield 132, 3) := by decide +kernel
theorem dX12_reads_5 : decode cX12_reads 5 = .ok (.aload_n 0, 1) := by decide +kernel
theorem dX12_reads_6 : decode cX12_reads 6 = .ok (.iconst 0, 1) := by decide +kernel
theorem dX12_reads_7 : decode cX12_reads 7 = .ok (.putfield 214, 3) := by decide +kernel
theorem dX12_reads_10 : decode cX12_reads 10 = .ok (.aload_n 0, 1) := by decide +kernel
theorem dX12_reads_11 : decode cX12_reads 11 = .ok (.iconst 0, 1) := by decide +kernel
theorem dX12_reads_12 : decode cX12_reads 12 = .ok (.putfield 183, 3) := by decide +kernel
theorem dX12_reads_15 : decode cX12_reads 15 = .ok (.aload_n 0, 1) := by decide +kernel
theorem dX12_reads_16 : decode cX12_reads 16 = .ok (.iconst 0, 1) := by decide +kernel
theorem dX12_reads_17 : decode cX12_reads 17 = .ok (.putfield 177, 3) := by decide +kernel
theorem dX12_reads_20 : decode cX12_reads 20 = .ok (.aload_n 0, 1) := by decide +kernel
theorem dX12_reads_21 : decode cX12_reads 21 = .ok (.bipush (-9), 2) := by decide +kernel
theorem dX12_reads_23 : decode cX12_reads 23 = .ok (.putfield 156, 3) := by decide +kernel
theorem dX12_reads_26 : decode cX12_reads 26 = .ok (.aload_n 0, 1) := by decide +kernel
theorem dX12_reads_27 : decode cX12_reads 27 = .ok (.bipush (-9), 2) := by decide +kernel
theorem dX12_reads_29 : decode cX12_reads 29 = .ok (.putfield 165, 3) := by decide +kernel
theorem dX12_reads_32 : decode cX12_reads 32 = .ok (.aload_n 0, 1) := by decide +kernel
theorem dX12_reads_33 : decode cX12_reads 33 = .ok (.invokevirtual 153, 3) := by decide +kernel
theorem dX12_reads_36 : decode cX12_reads 36 = .ok (.aload_n 0, 1) := by decide +kernel
theorem dX12_reads_37 : decode cX12_reads 37 = .ok (.getfield 141, 3) := by decide +kernel
theorem dX12_reads_40 : decode cX12_reads 40 = .ok (.iconst (-1), 1) := by decide +kernel
theorem dX12_reads_41 : decode cX12_reads 41 = .ok (.if_icmp .eq 34, 3) := by decide +kernel
theorem dX12_reads_44 : decode cX12_reads 44 = .ok (.aload_n 0, 1) := by decide +kernel
theorem dX12_reads_45 : decode cX12_reads 45 = .ok (.invokevirtual 217, 3) := by decide +kernel
theorem dX12_reads_48 : decode cX12_reads 48 = .ok (.ifCond .eq 12, 3) := by decide +kernel
theorem dX12_reads_51 : decode cX12_reads 51 = .ok (.aload_n 0, 1) := by decide +kernel
theorem dX12_reads_52 : decode cX12_reads 52 = .ok (.bipush 59, 2) := by decide +kernel
theorem dX12_reads_54 : decode cX12_reads 54 = .ok (.invokevirtual 174, 3) := by decide +kernel
theorem dX12_reads_57 : decode cX12_reads 57 = .ok (.ifCond .ne 5, 3) := by decide +kernel
theorem dX12_reads_60 : decode cX12_reads 60 = .ok (.iconst 0, 1) := by decide +kernel
theorem dX12_reads_61 : decode cX12_reads 61 = .ok (.ireturn, 1) := by decide +kernel
theorem dX12_reads_62 : decode cX12_reads 62 = .ok (.aload_n 0, 1) := by decide +kernel
theorem dX12_reads_63 : decode cX12_reads 63 = .ok (.dup, 1) := by decide +kernel
theorem dX12_reads_64 : decode cX12_reads 64 = .ok (.getfield 214, 3) := by decide +kernel
theorem dX12_reads_67 : decode cX12_reads 67 = .ok (.iconst 1, 1) := by decide +kernel
theorem dX12_reads_68 : decode cX12_reads 68 = .ok (.iadd, 1) := by decide +kernel
theorem dX12_reads_69 : decode cX12_reads 69 = .ok (.putfield 214, 3) := by decide +kernel
theorem dX12_reads_72 : decode cX12_reads 72 = .ok (.goto (-36), 3) := by decide +kernel
theorem dX12_reads_75 : decode cX12_reads 75 = .ok (.iconst 1, 1) := by decide +kernel
theorem dX12_reads_76 : decode cX12_reads 76 = .ok (.ireturn, 1) := by decide +kernel
theorem dX12_areOfOneName_0 : decode cX12_areOfOneName 0 = .ok (.aload_n 0, 1) := by decide +kernel
theorem dX12_areOfOneName_1 : decode cX12_areOfOneName 1 = .ok (.getfield 16, 3) := by decide +kernel
theorem dX12_areOfOneName_4 : decode cX12_areOfOneName 4 = .ok (.iload_n 1, 1) := by decide +kernel
theorem dX12_areOfOneName_5 : decode cX12_areOfOneName 5 = .ok (.iaload, 1) := by decide +kernel
theorem dX12_areOfOneName_6 : decode cX12_areOfOneName 6 = .ok (.aload_n 0, 1) := by decide +kernel
theorem dX12_areOfOneName_7 : decode cX12_areOfOneName 7 = .ok (.getfield 16, 3) := by decide +kernel
theorem dX12_areOfOneName_10 : decode cX12_areOfOneName 10 = .ok (.iload_n 2, 1) := by decide +kernel
theorem dX12_areOfOneName_11 : decode cX12_areOfOneName 11 = .ok (.iaload, 1) := by decide +kernel
theorem dX12_areOfOneName_12 : decode cX12_areOfOneName 12 = .ok (.if_icmp .ne 7, 3) := by decide +kernel
theorem dX12_areOfOneName_15 : decode cX12_areOfOneName 15 = .ok (.iconst 1, 1) := by decide +kernel
theorem dX12_areOfOneName_16 : decode cX12_areOfOneName 16 = .ok (.goto 4, 3) := by decide +kernel
theorem dX12_areOfOneName_19 : decode cX12_areOfOneName 19 = .ok (.iconst 0, 1) := by decide +kernel
theorem dX12_areOfOneName_20 : decode cX12_areOfOneName 20 = .ok (.istore_n 3, 1) := by decide +kernel
theorem dX12_areOfOneName_21 : decode cX12_areOfOneName 21 = .ok (.iconst 0, 1) := by decide +kernel
theorem dX12_areOfOneName_22 : decode cX12_areOfOneName 22 = .ok (.istore 4, 2) := by decide +kernel
theorem dX12_areOfOneName_24 : decode cX12_areOfOneName 24 = .ok (.iload 4, 2) := by decide +kernel
theorem dX12_areOfOneName_26 : decode cX12_areOfOneName 26 = .ok (.aload_n 0, 1) := by decide +kernel
theorem dX12_areOfOneName_27 : decode cX12_areOfOneName 27 = .ok (.getfield 16, 3) := by decide +kernel
theorem dX12_areOfOneName_30 : decode cX12_areOfOneName 30 = .ok (.iload_n 1, 1) := by decide +kernel
theorem dX12_areOfOneName_31 : decode cX12_areOfOneName 31 = .ok (.iaload, 1) := by decide +kernel
theorem dX12_areOfOneName_32 : decode cX12_areOfOneName 32 = .ok (.if_icmp .ge 46, 3) := by decide +kernel
theorem dX12_areOfOneName_35 : decode cX12_areOfOneName 35 = .ok (.iload_n 3, 1) := by decide +kernel
theorem dX12_areOfOneName_36 : decode cX12_areOfOneName 36 = .ok (.ifCond .eq 42, 3) := by decide +kernel
theorem dX12_areOfOneName_39 : decode cX12_areOfOneName 39 = .ok (.aload_n 0, 1) := by decide +kernel
theorem dX12_areOfOneName_40 : decode cX12_areOfOneName 40 = .ok (.getfield 23, 3) := by decide +kernel
theorem dX12_areOfOneName_43 : decode cX12_areOfOneName 43 = .ok (.bipush 6, 2) := by decide +kernel
theorem dX12_areOfOneName_45 : decode cX12_areOfOneName 45 = .ok (.iload_n 1, 1) := by decide +kernel
theorem dX12_areOfOneName_46 : decode cX12_areOfOneName 46 = .ok (.imul, 1) := by decide +kernel
theorem dX12_areOfOneName_47 : decode cX12_areOfOneName 47 = .ok (.iload 4, 2) := by decide +kernel
theorem dX12_areOfOneName_49 : decode cX12_areOfOneName 49 = .ok (.iadd, 1) := by decide +kernel
theorem dX12_areOfOneName_50 : decode cX12_areOfOneName 50 = .ok (.iaload, 1) := by decide +kernel
theorem dX12_areOfOneName_51 : decode cX12_areOfOneName 51 = .ok (.aload_n 0, 1) := by decide +kernel
theorem dX12_areOfOneName_52 : decode cX12_areOfOneName 52 = .ok (.getfield 23, 3) := by decide +kernel
theorem dX12_areOfOneName_55 : decode cX12_areOfOneName 55 = .ok (.bipush 6, 2) := by decide +kernel
theorem dX12_areOfOneName_57 : decode cX12_areOfOneName 57 = .ok (.iload_n 2, 1) := by decide +kernel
theorem dX12_areOfOneName_58 : decode cX12_areOfOneName 58 = .ok (.imul, 1) := by decide +kernel
theorem dX12_areOfOneName_59 : decode cX12_areOfOneName 59 = .ok (.iload 4, 2) := by decide +kernel
theorem dX12_areOfOneName_61 : decode cX12_areOfOneName 61 = .ok (.iadd, 1) := by decide +kernel
theorem dX12_areOfOneName_62 : decode cX12_areOfOneName 62 = .ok (.iaload, 1) := by decide +kernel
theorem dX12_areOfOneName_63 : decode cX12_areOfOneName 63 = .ok (.if_icmp .ne 7, 3) := by decide +kernel
theorem dX12_areOfOneName_66 : decode cX12_areOfOneName 66 = .ok (.iconst 1, 1) := by decide +kernel
theorem dX12_areOfOneName_67 : decode cX12_areOfOneName 67 = .ok (.goto 4, 3) := by decide +kernel
theorem dX12_areOfOneName_70 : decode cX12_areOfOneName 70 = .ok (.iconst 0, 1) := by decide +kernel
theorem dX12_areOfOneName_71 : decode cX12_areOfOneName 71 = .ok (.istore_n 3, 1) := by decide +kernel
theorem dX12_areOfOneName_72 : decode cX12_areOfOneName 72 = .ok (.iinc 4 1, 3) := by decide +kernel
theorem dX12_areOfOneName_75 : decode cX12_areOfOneName 75 = .ok (.goto (-51), 3) := by decide +kernel
theorem dX12_areOfOneName_78 : decode cX12_areOfOneName 78 = .ok (.iload_n 3, 1) := by decide +kernel
theorem dX12_areOfOneName_79 : decode cX12_areOfOneName 79 = .ok (.ireturn, 1) := by decide +kernel
set_option maxRecDepth 20000 in
theorem ggX12_areAlike_X12_areOfOneName : GoodIn wsX12_areAlike wsX12_areOfOneName := goodIn_r _ [7, 8, 9, 10, 11, 12, 13, 14, 15, 16, 17, 18, 19, 20, 21, 22, 23, 24, 25, 26, 27, 28, 29, 30, 31, 32, 33, 34, 35, 36, 37, 38, 39, 40, 41, 42, 43, 44, 45, 46, 47, 48, 49, 50, 51, 52, 53, 54, 55, 56, 57, 58, 59, 60, 61, 62, 63, 64, 65, 66] rfl (by decide +kernel)
set_option maxRecDepth 20000 in
theorem gX12_areAlike_X12_areOfOneName : GoodIn wsX12_areAlike (wsV RX12 220 RX12 yX12_areOfOneName wsX12_areOfOneName) := goodIn_app (goodIn_of _ (by decide +kernel)) ggX12_areAlike_X12_areOfOneName
theorem dX12_areAlike_0 : decode cX12_areAlike 0 = .ok (.aload_n 0, 1) := by decide +kernel
theorem dX12_areAlike_1 : decode cX12_areAlike 1 = .ok (.iload_n 1, 1) := by decide +kernel
theorem dX12_areAlike_2 : decode cX12_areAlike 2 = .ok (.iload_n 2, 1) := by decide +kernel
theorem dX12_areAlike_3 : decode cX12_areAlike 3 = .ok (.invokevirtual 220, 3) := by decide +kernel
theorem dX12_areAlike_6 : decode cX12_areAlike 6 = .ok (.ifCond .eq 22, 3) := by decide +kernel
theorem dX12_areAlike_9 : decode cX12_areAlike 9 = .ok (.aload_n 0, 1) := by decide +kernel
theorem dX12_areAlike_10 : decode cX12_areAlike 10 = .ok (.getfield 20, 3) := by decide +kernel
theorem dX12_areAlike_13 : decode cX12_areAlike 13 = .ok (.iload_n 1, 1) := by decide +kernel
theorem dX12_areAlike_14 : decode cX12_areAlike 14 = .ok (.iaload, 1) := by decide +kernel
theorem dX12_areAlike_15 : decode cX12_areAlike 15 = .ok (.aload_n 0, 1) := by decide +kernel
theorem dX12_areAlike_16 : decode cX12_areAlike 16 = .ok (.getfield 20, 3) := by decide +kernel
theorem dX12_areAlike_19 : decode cX12_areAlike 19 = .ok (.iload_n 2, 1) := by decide +kernel
theorem dX12_areAlike_20 : decode cX12_areAlike 20 = .ok (.iaload, 1) := by decide +kernel
theorem dX12_areAlike_21 : decode cX12_areAlike 21 = .ok (.if_icmp .ne 7, 3) := by decide +kernel
theorem dX12_areAlike_24 : decode cX12_areAlike 24 = .ok (.iconst 1, 1) := by decide +kernel
theorem dX12_areAlike_25 : decode cX12_areAlike 25 = .ok (.goto 4, 3) := by decide +kernel
theorem dX12_areAlike_28 : decode cX12_areAlike 28 = .ok (.iconst 0, 1) := by decide +kernel
theorem dX12_areAlike_29 : decode cX12_areAlike 29 = .ok (.istore_n 3, 1) := by decide +kernel
theorem dX12_areAlike_30 : decode cX12_areAlike 30 = .ok (.iconst 0, 1) := by decide +kernel
theorem dX12_areAlike_31 : decode cX12_areAlike 31 = .ok (.istore 4, 2) := by decide +kernel
theorem dX12_areAlike_33 : decode cX12_areAlike 33 = .ok (.iload 4, 2) := by decide +kernel
theorem dX12_areAlike_35 : decode cX12_areAlike 35 = .ok (.aload_n 0, 1) := by decide +kernel
theorem dX12_areAlike_36 : decode cX12_areAlike 36 = .ok (.getfield 20, 3) := by decide +kernel
theorem dX12_areAlike_39 : decode cX12_areAlike 39 = .ok (.iload_n 1, 1) := by decide +kernel
theorem dX12_areAlike_40 : decode cX12_areAlike 40 = .ok (.iaload, 1) := by decide +kernel
theorem dX12_areAlike_41 : decode cX12_areAlike 41 = .ok (.if_icmp .ge 46, 3) := by decide +kernel
theorem dX12_areAlike_44 : decode cX12_areAlike 44 = .ok (.iload_n 3, 1) := by decide +kernel
theorem dX12_areAlike_45 : decode cX12_areAlike 45 = .ok (.ifCond .eq 42, 3) := by decide +kernel
theorem dX12_areAlike_48 : decode cX12_areAlike 48 = .ok (.aload_n 0, 1) := by decide +kernel
theorem dX12_areAlike_49 : decode cX12_areAlike 49 = .ok (.getfield 26, 3) := by decide +kernel
theorem dX12_areAlike_52 : decode cX12_areAlike 52 = .ok (.bipush 6, 2) := by decide +kernel
theorem dX12_areAlike_54 : decode cX12_areAlike 54 = .ok (.iload_n 1, 1) := by decide +kernel
theorem dX12_areAlike_55 : decode cX12_areAlike 55 = .ok (.imul, 1) := by decide +kernel
theorem dX12_areAlike_56 : decode cX12_areAlike 56 = .ok (.iload 4, 2) := by decide +kernel
theorem dX12_areAlike_58 : decode cX12_areAlike 58 = .ok (.iadd, 1) := by decide +kernel
theorem dX12_areAlike_59 : decode cX12_areAlike 59 = .ok (.iaload, 1) := by decide +kernel
theorem dX12_areAlike_60 : decode cX12_areAlike 60 = .ok (.aload_n 0, 1) := by decide +kernel
theorem dX12_areAlike_61 : decode cX12_areAlike 61 = .ok (.getfield 26, 3) := by decide +kernel
theorem dX12_areAlike_64 : decode cX12_areAlike 64 = .ok (.bipush 6, 2) := by decide +kernel
theorem dX12_areAlike_66 : decode cX12_areAlike 66 = .ok (.iload_n 2, 1) := by decide +kernel
theorem dX12_areAlike_67 : decode cX12_areAlike 67 = .ok (.imul, 1) := by decide +kernel
theorem dX12_areAlike_68 : decode cX12_areAlike 68 = .ok (.iload 4, 2) := by decide +kernel
theorem dX12_areAlike_70 : decode cX12_areAlike 70 = .ok (.iadd, 1) := by decide +kernel
theorem dX12_areAlike_71 : decode cX12_areAlike 71 = .ok (.iaload, 1) := by decide +kernel
theorem dX12_areAlike_72 : decode cX12_areAlike 72 = .ok (.if_icmp .ne 7, 3) := by decide +kernel
theorem dX12_areAlike_75 : decode cX12_areAlike 75 = .ok (.iconst 1, 1) := by decide +kernel
theorem dX12_areAlike_76 : decode cX12_areAlike 76 = .ok (.goto 4, 3) := by decide +kernel
theorem dX12_areAlike_79 : decode cX12_areAlike 79 = .ok (.iconst 0, 1) := by decide +kernel
theorem dX12_areAlike_80 : decode cX12_areAlike 80 = .ok (.istore_n 3, 1) := by decide +kernel
theorem dX12_areAlike_81 : decode cX12_areAlike 81 = .ok (.iinc 4 1, 3) := by decide +kernel
theorem dX12_areAlike_84 : decode cX12_areAlike 84 = .ok (.goto (-51), 3) := by decide +kernel
theorem dX12_areAlike_87 : decode cX12_areAlike 87 = .ok (.iload_n 3, 1) := by decide +kernel
theorem dX12_areAlike_88 : decode cX12_areAlike 88 = .ok (.ireturn, 1) := by decide +kernel
theorem dX12_sizeOf_0 : decode cX12_sizeOf 0 = .ok (.aload_n 0, 1) := by decide +kernel
theorem dX12_sizeOf_1 : decode cX12_sizeOf 1 = .ok (.getfield 16, 3) := by decide +kernel
theorem dX12_sizeOf_4 : decode cX12_sizeOf 4 = .ok (.iload_n 1, 1) := by decide +kernel
theorem dX12_sizeOf_5 : decode cX12_sizeOf 5 = .ok (.iaload, 1) := by decide +kernel
theorem dX12_sizeOf_6 : decode cX12_sizeOf 6 = .ok (.aload_n 0, 1) := by decide +kernel
theorem dX12_sizeOf_7 : decode cX12_sizeOf 7 = .ok (.getfield 20, 3) := by decide +kernel
theorem dX12_sizeOf_10 : decode cX12_sizeOf 10 = .ok (.iload_n 1, 1) := by decide +kernel
theorem dX12_sizeOf_11 : decode cX12_sizeOf 11 = .ok (.iaload, 1) := by decide +kernel
theorem dX12_sizeOf_12 : decode cX12_sizeOf 12 = .ok (.iadd, 1) := by decide +kernel
theorem dX12_sizeOf_13 : decode cX12_sizeOf 13 = .ok (.iconst 4, 1) := by decide +kernel
theorem dX12_sizeOf_14 : decode cX12_sizeOf 14 = .ok (.iadd, 1) := by decide +kernel
theorem dX12_sizeOf_15 : decode cX12_sizeOf 15 = .ok (.ireturn, 1) := by decide +kernel
set_option maxRecDepth 20000 in
theorem ggX12_stillOf_X12_areAlike : GoodIn wsX12_stillOf wsX12_areAlike := goodIn_r _ [6, 7, 8, 9, 10, 11, 5, 12, 13, 14, 15, 16, 17, 18, 19, 20, 21, 22, 23, 24, 25, 26, 27, 28, 29, 30, 31, 32, 33, 34, 35, 36, 37, 38, 39, 40, 41, 42, 43, 44, 45, 46, 47, 48, 49, 50, 51, 52, 53, 54, 55, 56, 57, 58, 59, 60, 61, 62, 63, 64, 65, 66, 67, 68, 69, 70, 71] rfl (by decide +kernel)
set_option maxRecDepth 20000 in
theorem gX12_stillOf_X12_areAlike : GoodIn wsX12_stillOf (wsV RX12 186 RX12 yX12_areAlike wsX12_areAlike) := goodIn_app (goodIn_of _ (by decide +kernel)) ggX12_stillOf_X12_areAlike
set_option maxRecDepth 20000 in
theorem ggX12_stillOf_X12_areOfOneName : GoodIn wsX12_stillOf wsX12_areOfOneName := goodIn_r _ [12, 13, 14, 15, 16, 17, 18, 19, 20, 21, 22, 23, 24, 25, 26, 27, 28, 29, 30, 31, 32, 33, 34, 35, 36, 37, 38, 39, 40, 41, 42, 43, 44, 45, 46, 47, 48, 49, 50, 51, 52, 53, 54, 55, 56, 57, 58, 59, 60, 61, 62, 63, 64, 65, 66, 67, 68, 69, 70, 71] rfl (by decide +kernel)
set_option maxRecDepth 20000 in
theorem gX12_stillOf_X12_areOfOneName : GoodIn wsX12_stillOf (wsV RX12 220 RX12 yX12_areOfOneName wsX12_areOfOneName) := goodIn_app (goodIn_of _ (by decide +kernel)) ggX12_stillOf_X12_areOfOneName
theorem dX12_stillOf_0 : decode cX12_stillOf 0 = .ok (.iconst 0, 1) := by decide +kernel
theorem dX12_stillOf_1 : decode cX12_stillOf 1 = .ok (.istore_n 3, 1) := by decide +kernel
theorem dX12_stillOf_2 : decode cX12_stillOf 2 = .ok (.iload_n 3, 1) := by decide +kernel
theorem dX12_stillOf_3 : decode cX12_stillOf 3 = .ok (.aload_n 0, 1) := by decide +kernel
theorem dX12_stillOf_4 : decode cX12_stillOf 4 = .ok (.getfield 223, 3) := by decide +kernel
theorem dX12_stillOf_7 : decode cX12_stillOf 7 = .ok (.if_icmp .ge 42, 3) := by decide +kernel
theorem dX12_stillOf_10 : decode cX12_stillOf 10 = .ok (.iload_n 2, 1) := by decide +kernel
theorem dX12_stillOf_11 : decode cX12_stillOf 11 = .ok (.ifCond .eq 18, 3) := by decide +kernel
theorem dX12_stillOf_14 : decode cX12_stillOf 14 = .ok (.aload_n 0, 1) := by decide +kernel
theorem dX12_stillOf_15 : decode cX12_stillOf 15 = .ok (.bipush 8, 2) := by decide +kernel
theorem dX12_stillOf_17 : decode cX12_stillOf 17 = .ok (.iload_n 3, 1) := by decide +kernel
theorem dX12_stillOf_18 : decode cX12_stillOf 18 = .ok (.iadd, 1) := by decide +kernel
theorem dX12_stillOf_19 : decode cX12_stillOf 19 = .ok (.iload_n 1, 1) := by decide +kernel
theorem dX12_stillOf_20 : decode cX12_stillOf 20 = .ok (.invokevirtual 186, 3) := by decide +kernel
theorem dX12_stillOf_23 : decode cX12_stillOf 23 = .ok (.ifCond .eq 20, 3) := by decide +kernel
theorem dX12_stillOf_26 : decode cX12_stillOf 26 = .ok (.goto 15, 3) := by decide +kernel
theorem dX12_stillOf_29 : decode cX12_stillOf 29 = .ok (.aload_n 0, 1) := by decide +kernel
theorem dX12_stillOf_30 : decode cX12_stillOf 30 = .ok (.bipush 8, 2) := by decide +kernel
theorem dX12_stillOf_32 : decode cX12_stillOf 32 = .ok (.iload_n 3, 1) := by decide +kernel
theorem dX12_stillOf_33 : decode cX12_stillOf 33 = .ok (.iadd, 1) := by decide +kernel
theorem dX12_stillOf_34 : decode cX12_stillOf 34 = .ok (.iload_n 1, 1) := by decide +kernel
theorem dX12_stillOf_35 : decode cX12_stillOf 35 = .ok (.invokevirtual 220, 3) := by decide +kernel
theorem dX12_stillOf_38 : decode cX12_stillOf 38 = .ok (.ifCond .eq 5, 3) := by decide +kernel
theorem dX12_stillOf_41 : decode cX12_stillOf 41 = .ok (.iload_n 3, 1) := by decide +kernel
theorem dX12_stillOf_42 : decode cX12_stillOf 42 = .ok (.ireturn, 1) := by decide +kernel
theorem dX12_stillOf_43 : decode cX12_stillOf 43 = .ok (.iinc 3 1, 3) := by decide +kernel
theorem dX12_stillOf_46 : decode cX12_stillOf 46 = .ok (.goto (-44), 3) := by decide +kernel
theorem dX12_stillOf_49 : decode cX12_stillOf 49 = .ok (.bipush (-9), 2) := by decide +kernel
theorem dX12_stillOf_51 : decode cX12_stillOf 51 = .ok (.ireturn, 1) := by decide +kernel
set_option maxRecDepth 20000 in
theorem ggX12_type_X12_in : GoodIn wsX12_type wsX12_in := goodIn_r _ [7] rfl (by decide +kernel)
set_option maxRecDepth 20000 in
theorem gX12_type_X12_in : GoodIn wsX12_type (va_wsS RX12 124 yX12_in wsX12_in) := goodIn_app (goodIn_of _ (by decide +kernel)) ggX12_type_X12_in
theorem dX12_type_0 : decode cX12_type 0 = .ok (.iload_n 1, 1) := by decide +kernel
theorem dX12_type_1 : decode cX12_type 1 = .ok (.i2l, 1) := by decide +kernel
theorem dX12_type_2 : decode cX12_type 2 = .ok (.lconst 0, 1) := by decide +kernel
theorem dX12_type_3 : decode cX12_type 3 = .ok (.ldc2_w 226, 3) := by decide +kernel
theorem dX12_type_6 : decode cX12_type 6 = .ok (.invokestatic 124, 3) := by decide +kernel
theorem dX12_type_9 : decode cX12_type 9 = .ok (.ifCond .ne 5, 3) := by decide +kernel
theorem dX12_type_12 : decode cX12_type 12 = .ok (.iconst (-1), 1) := by decide +kernel
theorem dX12_type_13 : decode cX12_type 13 = .ok (.ireturn, 1) := by decide +kernel
theorem dX12_type_14 : decode cX12_type 14 = .ok (.aload_n 0, 1) := by decide +kernel
theorem dX12_type_15 : decode cX12_type 15 = .ok (.getfield 135, 3) := by decide +kernel
theorem dX12_type_18 : decode cX12_type 18 = .ok (.sipush 200, 3) := by decide +kernel
theorem dX12_type_21 : decode cX12_type 21 = .ok (.if_icmp .ne 6, 3) := by decide +kernel
theorem dX12_type_24 : decode cX12_type 24 = .ok (.bipush (-3), 2) := by decide +kernel
theorem dX12_type_26 : decode cX12_type 26 = .ok (.ireturn, 1) := by decide +kernel
theorem dX12_type_27 : decode cX12_type 27 = .ok (.aload_n 0, 1) := by decide +kernel
theorem dX12_type_28 : decode cX12_type 28 = .ok (.getfield 29, 3) := by decide +kernel
theorem dX12_type_31 : decode cX12_type 31 = .ok (.aload_n 0, 1) := by decide +kernel
theorem dX12_type_32 : decode cX12_type 32 = .ok (.getfield 135, 3) := by decide +kernel
theorem dX12_type_35 : decode cX12_type 35 = .ok (.iload_n 1, 1) := by decide +kernel
theorem dX12_type_36 : decode cX12_type 36 = .ok (.iastore, 1) := by decide +kernel
theorem dX12_type_37 : decode cX12_type 37 = .ok (.aload_n 0, 1) := by decide +kernel
theorem dX12_type_38 : decode cX12_type 38 = .ok (.dup, 1) := by decide +kernel
theorem dX12_type_39 : decode cX12_type 39 = .ok (.getfield 135, 3) := by decide +kernel
theorem dX12_type_42 : decode cX12_type 42 = .ok (.iconst 1, 1) := by decide +kernel
theorem dX12_type_43 : decode cX12_type 43 = .ok (.iadd, 1) := by decide +kernel
theorem dX12_type_44 : decode cX12_type 44 = .ok (.putfield 135, 3) := by decide +kernel
theorem dX12_type_47 : decode cX12_type 47 = .ok (.aload_n 0, 1) := by decide +kernel
theorem dX12_type_48 : decode cX12_type 48 = .ok (.getfield 135, 3) := by decide +kernel
theorem dX12_type_51 : decode cX12_type 51 = .ok (.ireturn, 1) := by decide +kernel
theorem dX12_clear_0 : decode cX12_clear 0 = .ok (.aload_n 0, 1) := by decide +kernel
theorem dX12_clear_1 : decode cX12_clear 1 = .ok (.getfield 135, 3) := by decide +kernel
theorem dX12_clear_4 : decode cX12_clear 4 = .ok (.istore_n 1, 1) := by decide +kernel
theorem dX12_clear_5 : decode cX12_clear 5 = .ok (.aload_n 0, 1) := by decide +kernel
theorem dX12_clear_6 : decode cX12_clear 6 = .ok (.iconst 0, 1) := by decide +kernel
theorem dX12_clear_7 : decode cX12_clear 7 = .ok (.putfield 135, 3) := by decide +kernel
theorem dX12_clear_10 : decode cX12_clear 10 = .ok (.iload_n 1, 1) := by decide +kernel
theorem dX12_clear_11 : decode cX12_clear 11 = .ok (.ireturn, 1) := by decide +kernel
set_option maxRecDepth 20000 in
theorem ggX12_tells_X12_reads : GoodIn wsX12_tells wsX12_reads := goodIn_r _ [20, 21, 15, 2, 4, 6, 8, 22, 23, 24, 25, 19, 26, 14, 27, 1, 28, 29, 30, 31, 32, 33, 34, 35, 36, 37, 38, 39, 40, 41, 42, 43, 44, 45, 46, 47, 48, 49, 50, 51, 52, 53, 54, 55, 56, 57, 58, 59, 60, 61, 62, 63, 64, 65, 66, 67, 68, 69, 70, 71, 72, 73, 74, 75, 10, 12, 11, 13, 76, 77, 78, 79, 80, 81, 82, 83, 84, 85, 86, 87, 88, 89, 90, 91, 92, 93, 94, 95, 113, 114, 115, 116, 117, 118, 119, 120, 121, 122, 123, 124, 125, 126, 127, 128, 129, 130, 131, 132, 133, 134, 135, 136, 137, 138, 139, 140, 141, 142, 143, 144, 145, 146, 147, 148, 149, 150, 151, 152, 153, 154, 155, 156, 157, 158, 159, 160, 161, 162, 163, 164, 165, 166, 167, 168, 169] rfl (by decide +kernel)
set_option maxRecDepth 20000 in
theorem gX12_tells_X12_reads : GoodIn wsX12_tells (wsV RX12 228 RX12 yX12_reads wsX12_reads) := goodIn_app (goodIn_of _ (by decide +kernel)) ggX12_tells_X12_reads
set_option maxRecDepth 20000 in
theorem ggX12_tells_X12_begins : GoodIn wsX12_tells wsX12_begins := goodIn_r _ [99, 100, 101, 102, 103, 104, 105, 106, 107, 108, 109, 110, 111, 112, 113, 114, 115, 116, 117, 118, 119, 120, 121, 122, 123, 124, 125, 126, 127, 128, 129, 130, 131, 132, 133, 134, 135, 136, 137, 138, 139, 140, 141, 142, 143, 144, 145, 146, 147, 148, 149, 150, 151, 152, 153, 154, 155, 156, 157, 158, 159, 160, 161, 162, 163, 164, 165, 166, 167, 168, 169] rfl (by decide +kernel)
set_option maxRecDepth 20000 in
theorem gX12_tells_X12_begins : GoodIn wsX12_tells (wsV RX12 117 RX12 yX12_begins wsX12_begins) := goodIn_app (goodIn_of _ (by decide +kernel)) ggX12_tells_X12_begins
theorem dX12_tells_0 : decode cX12_tells 0 = .ok (.aload_n 0, 1) := by decide +kernel
theorem dX12_tells_1 : decode cX12_tells 1 = .ok (.invokevirtual 228, 3) := by decide +kernel
theorem dX12_tells_4 : decode cX12_tells 4 = .ok (.ifCond .ne 11, 3) := by decide +kernel
theorem dX12_tells_7 : decode cX12_tells 7 = .ok (.bipush (-10), 2) := by decide +kernel
theorem dX12_tells_9 : decode cX12_tells 9 = .ok (.aload_n 0, 1) := by decide +kernel
theorem dX12_tells_10 : decode cX12_tells 10 = .ok (.getfield 138, 3) := by decide +kernel
theorem dX12_tells_13 : decode cX12_tells 13 = .ok (.isub, 1) := by decide +kernel
theorem dX12_tells_14 : decode cX12_tells 14 = .ok (.ireturn, 1) := by decide +kernel
theorem dX12_tells_15 : decode cX12_tells 15 = .ok (.aload_n 0, 1) := by decide +kernel
theorem dX12_tells_16 : decode cX12_tells 16 = .ok (.aload_n 0, 1) := by decide +kernel
theorem dX12_tells_17 : decode cX12_tells 17 = .ok (.getfield 183, 3) := by decide +kernel
theorem dX12_tells_20 : decode cX12_tells 20 = .ok (.putfield 231, 3) := by decide +kernel
theorem dX12_tells_23 : decode cX12_tells 23 = .ok (.aload_n 0, 1) := by decide +kernel
theorem dX12_tells_24 : decode cX12_tells 24 = .ok (.aload_n 0, 1) := by decide +kernel
theorem dX12_tells_25 : decode cX12_tells 25 = .ok (.getfield 177, 3) := by decide +kernel
theorem dX12_tells_28 : decode cX12_tells 28 = .ok (.putfield 223, 3) := by decide +kernel
theorem dX12_tells_31 : decode cX12_tells 31 = .ok (.aload_n 0, 1) := by decide +kernel
theorem dX12_tells_32 : decode cX12_tells 32 = .ok (.aload_n 0, 1) := by decide +kernel
theorem dX12_tells_33 : decode cX12_tells 33 = .ok (.getfield 156, 3) := by decide +kernel
theorem dX12_tells_36 : decode cX12_tells 36 = .ok (.bipush (-9), 2) := by decide +kernel
theorem dX12_tells_38 : decode cX12_tells 38 = .ok (.if_icmp .ne 8, 3) := by decide +kernel
theorem dX12_tells_41 : decode cX12_tells 41 = .ok (.bipush 60, 2) := by decide +kernel
theorem dX12_tells_43 : decode cX12_tells 43 = .ok (.goto 7, 3) := by decide +kernel
theorem dX12_tells_46 : decode cX12_tells 46 = .ok (.aload_n 0, 1) := by decide +kernel
theorem dX12_tells_47 : decode cX12_tells 47 = .ok (.getfield 156, 3) := by decide +kernel
theorem dX12_tells_50 : decode cX12_tells 50 = .ok (.putfield 7, 3) := by decide +kernel
theorem dX12_tells_53 : decode cX12_tells 53 = .ok (.aload_n 0, 1) := by decide +kernel
theorem dX12_tells_54 : decode cX12_tells 54 = .ok (.aload_n 0, 1) := by decide +kernel
theorem dX12_tells_55 : decode cX12_tells 55 = .ok (.getfield 165, 3) := by decide +kernel
theorem dX12_tells_58 : decode cX12_tells 58 = .ok (.bipush (-9), 2) := by decide +kernel
theorem dX12_tells_60 : decode cX12_tells 60 = .ok (.if_icmp .ne 7, 3) := by decide +kernel
theorem dX12_tells_63 : decode cX12_tells 63 = .ok (.iconst 2, 1) := by decide +kernel
theorem dX12_tells_64 : decode cX12_tells 64 = .ok (.goto 7, 3) := by decide +kernel
theorem dX12_tells_67 : decode cX12_tells 67 = .ok (.aload_n 0, 1) := by decide +kernel
theorem dX12_tells_68 : decode cX12_tells 68 = .ok (.getfield 165, 3) := by decide +kernel
theorem dX12_tells_71 : decode cX12_tells 71 = .ok (.putfield 13, 3) := by decide +kernel
theorem dX12_tells_74 : decode cX12_tells 74 = .ok (.iconst 0, 1) := by decide +kernel
theorem dX12_tells_75 : decode cX12_tells 75 = .ok (.istore_n 1, 1) := by decide +kernel
theorem dX12_tells_76 : decode cX12_tells 76 = .ok (.iload_n 1, 1) := by decide +kernel
theorem dX12_tells_77 : decode cX12_tells 77 = .ok (.bipush 16, 2) := by decide +kernel
theorem dX12_tells_79 : decode cX12_tells 79 = .ok (.if_icmp .ge 39, 3) := by decide +kernel
theorem dX12_tells_82 : decode cX12_tells 82 = .ok (.aload_n 0, 1) := by decide +kernel
theorem dX12_tells_83 : decode cX12_tells 83 = .ok (.getfield 16, 3) := by decide +kernel
theorem dX12_tells_86 : decode cX12_tells 86 = .ok (.iload_n 1, 1) := by decide +kernel
theorem dX12_tells_87 : decode cX12_tells 87 = .ok (.aload_n 0, 1) := by decide +kernel
theorem dX12_tells_88 : decode cX12_tells 88 = .ok (.getfield 16, 3) := by decide +kernel
theorem dX12_tells_91 : decode cX12_tells 91 = .ok (.bipush 16, 2) := by decide +kernel
theorem dX12_tells_93 : decode cX12_tells 93 = .ok (.iload_n 1, 1) := by decide +kernel
theorem dX12_tells_94 : decode cX12_tells 94 = .ok (.iadd, 1) := by decide +kernel
theorem dX12_tells_95 : decode cX12_tells 95 = .ok (.iaload, 1) := by decide +kernel
theorem dX12_tells_96 : decode cX12_tells 96 = .ok (.iastore, 1) := by decide +kernel
theorem dX12_tells_97 : decode cX12_tells 97 = .ok (.aload_n 0, 1) := by decide +kernel
theorem dX12_tells_98 : decode cX12_tells 98 = .ok (.getfield 20, 3) := by decide +kernel
theorem dX12_tells_101 : decode cX12_tells 101 = .ok (.iload_n 1, 1) := by decide +kernel
theorem dX12_tells_102 : decode cX12_tells 102 = .ok (.aload_n 0, 1) := by decide +kernel
theorem dX12_tells_103 : decode cX12_tells 103 = .ok (.getfield 20, 3) := by decide +kernel
theorem dX12_tells_106 : decode cX12_tells 106 = .ok (.bipush 16, 2) := by decide +kernel
theorem dX12_tells_108 : decode cX12_tells 108 = .ok (.iload_n 1, 1) := by decide +kernel
theorem dX12_tells_109 : decode cX12_tells 109 = .ok (.iadd, 1) := by decide +kernel
theorem dX12_tells_110 : decode cX12_tells 110 = .ok (.iaload, 1) := by decide +kernel
theorem dX12_tells_111 : decode cX12_tells 111 = .ok (.iastore, 1) := by decide +kernel
theorem dX12_tells_112 : decode cX12_tells 112 = .ok (.iinc 1 1, 3) := by decide +kernel
theorem dX12_tells_115 : decode cX12_tells 115 = .ok (.goto (-39), 3) := by decide +kernel
theorem dX12_tells_118 : decode cX12_tells 118 = .ok (.iconst 0, 1) := by decide +kernel
theorem dX12_tells_119 : decode cX12_tells 119 = .ok (.istore_n 1, 1) := by decide +kernel
theorem dX12_tells_120 : decode cX12_tells 120 = .ok (.iload_n 1, 1) := by decide +kernel
theorem dX12_tells_121 : decode cX12_tells 121 = .ok (.bipush 96, 2) := by decide +kernel
theorem dX12_tells_123 : decode cX12_tells 123 = .ok (.if_icmp .ge 39, 3) := by decide +kernel
theorem dX12_tells_126 : decode cX12_tells 126 = .ok (.aload_n 0, 1) := by decide +kernel
theorem dX12_tells_127 : decode cX12_tells 127 = .ok (.getfield 23, 3) := by decide +kernel
theorem dX12_tells_130 : decode cX12_tells 130 = .ok (.iload_n 1, 1) := by decide +kernel
theorem dX12_tells_131 : decode cX12_tells 131 = .ok (.aload_n 0, 1) := by decide +kernel
theorem dX12_tells_132 : decode cX12_tells 132 = .ok (.getfield 23, 3) := by decide +kernel
theorem dX12_tells_135 : decode cX12_tells 135 = .ok (.bipush 96, 2) := by decide +kernel
theorem dX12_tells_137 : decode cX12_tells 137 = .ok (.iload_n 1, 1) := by decide +kernel
theorem dX12_tells_138 : decode cX12_tells 138 = .ok (.iadd, 1) := by decide +kernel
theorem dX12_tells_139 : decode cX12_tells 139 = .ok (.iaload, 1) := by decide +kernel
theorem dX12_tells_140 : decode cX12_tells 140 = .ok (.iastore, 1) := by decide +kernel
theorem dX12_tells_141 : decode cX12_tells 141 = .ok (.aload_n 0, 1) := by decide +kernel
theorem dX12_tells_142 : decode cX12_tells 142 = .ok (.getfield 26, 3) := by decide +kernel
theorem dX12_tells_145 : decode cX12_tells 145 = .ok (.iload_n 1, 1) := by decide +kernel
theorem dX12_tells_146 : decode cX12_tells 146 = .ok (.aload_n 0, 1) := by decide +kernel
theorem dX12_tells_147 : decode cX12_tells 147 = .ok (.getfield 26, 3) := by decide +kernel
theorem dX12_tells_150 : decode cX12_tells 150 = .ok (.bipush 96, 2) := by decide +kernel
theorem dX12_tells_152 : decode cX12_tells 152 = .ok (.iload_n 1, 1) := by decide +kernel
theorem dX12_tells_153 : decode cX12_tells 153 = .ok (.iadd, 1) := by decide +kernel
theorem dX12_tells_154 : decode cX12_tells 154 = .ok (.iaload, 1) := by decide +kernel
theorem dX12_tells_155 : decode cX12_tells 155 = .ok (.iastore, 1) := by decide +kernel
theorem dX12_tells_156 : decode cX12_tells 156 = .ok (.iinc 1 1, 3) := by decide +kernel
theorem dX12_tells_159 : decode cX12_tells 159 = .ok (.goto (-39), 3) := by decide +kernel
theorem dX12_tells_162 : decode cX12_tells 162 = .ok (.aload_n 0, 1) := by decide +kernel
theorem dX12_tells_163 : decode cX12_tells 163 = .ok (.iconst 0, 1) := by decide +kernel
theorem dX12_tells_164 : decode cX12_tells 164 = .ok (.putfield 135, 3) := by decide +kernel
theorem dX12_tells_167 : decode cX12_tells 167 = .ok (.aload_n 0, 1) := by decide +kernel
theorem dX12_tells_168 : decode cX12_tells 168 = .ok (.invokevirtual 117, 3) := by decide +kernel
theorem dX12_tells_171 : decode cX12_tells 171 = .ok (.aload_n 0, 1) := by decide +kernel
theorem dX12_tells_172 : decode cX12_tells 172 = .ok (.getfield 214, 3) := by decide +kernel
theorem dX12_tells_175 : decode cX12_tells 175 = .ok (.ireturn, 1) := by decide +kernel
set_option maxRecDepth 20000 in
theorem ggX12_isField_X12_in : GoodIn wsX12_isField wsX12_in := goodIn_r _ [5] rfl (by decide +kernel)
set_option maxRecDepth 20000 in
theorem gX12_isField_X12_in : GoodIn wsX12_isField (va_wsS RX12 124 yX12_in wsX12_in) := goodIn_app (goodIn_of _ (by decide +kernel)) ggX12_isField_X12_in
theorem dX12_isField_0 : decode cX12_isField 0 = .ok (.iload_n 1, 1) := by decide +kernel
theorem dX12_isField_1 : decode cX12_isField 1 = .ok (.i2l, 1) := by decide +kernel
theorem dX12_isField_2 : decode cX12_isField 2 = .ok (.lconst 0, 1) := by decide +kernel
theorem dX12_isField_3 : decode cX12_isField 3 = .ok (.aload_n 0, 1) := by decide +kernel
theorem dX12_isField_4 : decode cX12_isField 4 = .ok (.getfield 231, 3) := by decide +kernel
theorem dX12_isField_7 : decode cX12_isField 7 = .ok (.iconst 1, 1) := by decide +kernel
theorem dX12_isField_8 : decode cX12_isField 8 = .ok (.isub, 1) := by decide +kernel
theorem dX12_isField_9 : decode cX12_isField 9 = .ok (.i2l, 1) := by decide +kernel
theorem dX12_isField_10 : decode cX12_isField 10 = .ok (.invokestatic 124, 3) := by decide +kernel
theorem dX12_isField_13 : decode cX12_isField 13 = .ok (.ireturn, 1) := by decide +kernel
set_option maxRecDepth 20000 in
theorem ggX12_spells_X12_in : GoodIn wsX12_spells wsX12_in := goodIn_r _ [10] rfl (by decide +kernel)
set_option maxRecDepth 20000 in
theorem gX12_spells_X12_in : GoodIn wsX12_spells (va_wsS RX12 124 yX12_in wsX12_in) := goodIn_app (goodIn_of _ (by decide +kernel)) ggX12_spells_X12_in
theorem dX12_spells_0 : decode cX12_spells 0 = .ok (.iload_n 1, 1) := by decide +kernel
theorem dX12_spells_1 : decode cX12_spells 1 = .ok (.i2l, 1) := by decide +kernel
theorem dX12_spells_2 : decode cX12_spells 2 = .ok (.lconst 0, 1) := by decide +kernel
theorem dX12_spells_3 : decode cX12_spells 3 = .ok (.lconst 1, 1) := by decide +kernel
theorem dX12_spells_4 : decode cX12_spells 4 = .ok (.invokestatic 124, 3) := by decide +kernel
theorem dX12_spells_7 : decode cX12_spells 7 = .ok (.ifCond .eq 46, 3) := by decide +kernel
theorem dX12_spells_10 : decode cX12_spells 10 = .ok (.iload_n 2, 1) := by decide +kernel
theorem dX12_spells_11 : decode cX12_spells 11 = .ok (.i2l, 1) := by decide +kernel
theorem dX12_spells_12 : decode cX12_spells 12 = .ok (.lconst 0, 1) := by decide +kernel
theorem dX12_spells_13 : decode cX12_spells 13 = .ok (.iload_n 1, 1) := by decide +kernel
theorem dX12_spells_14 : decode cX12_spells 14 = .ok (.ifCond .ne 10, 3) := by decide +kernel
theorem dX12_spells_17 : decode cX12_spells 17 = .ok (.aload_n 0, 1) := by decide +kernel
theorem dX12_spells_18 : decode cX12_spells 18 = .ok (.getfield 231, 3) := by decide +kernel
theorem dX12_spells_21 : decode cX12_spells 21 = .ok (.goto 7, 3) := by decide +kernel
theorem dX12_spells_24 : decode cX12_spells 24 = .ok (.aload_n 0, 1) := by decide +kernel
theorem dX12_spells_25 : decode cX12_spells 25 = .ok (.getfield 223, 3) := by decide +kernel
theorem dX12_spells_28 : decode cX12_spells 28 = .ok (.iconst 1, 1) := by decide +kernel
theorem dX12_spells_29 : decode cX12_spells 29 = .ok (.isub, 1) := by decide +kernel
theorem dX12_spells_30 : decode cX12_spells 30 = .ok (.i2l, 1) := by decide +kernel
theorem dX12_spells_31 : decode cX12_spells 31 = .ok (.invokestatic 124, 3) := by decide +kernel
theorem dX12_spells_34 : decode cX12_spells 34 = .ok (.ifCond .eq 19, 3) := by decide +kernel
theorem dX12_spells_37 : decode cX12_spells 37 = .ok (.iload_n 3, 1) := by decide +kernel
theorem dX12_spells_38 : decode cX12_spells 38 = .ok (.i2l, 1) := by decide +kernel
theorem dX12_spells_39 : decode cX12_spells 39 = .ok (.lconst 0, 1) := by decide +kernel
theorem dX12_spells_40 : decode cX12_spells 40 = .ok (.lconst 1, 1) := by decide +kernel
theorem dX12_spells_41 : decode cX12_spells 41 = .ok (.invokestatic 124, 3) := by decide +kernel
theorem dX12_spells_44 : decode cX12_spells 44 = .ok (.ifCond .eq 9, 3) := by decide +kernel
theorem dX12_spells_47 : decode cX12_spells 47 = .ok (.iload 4, 2) := by decide +kernel
theorem dX12_spells_49 : decode cX12_spells 49 = .ok (.iconst (-1), 1) := by decide +kernel
theorem dX12_spells_50 : decode cX12_spells 50 = .ok (.if_icmp .ge 5, 3) := by decide +kernel
theorem dX12_spells_53 : decode cX12_spells 53 = .ok (.iconst (-1), 1) := by decide +kernel
theorem dX12_spells_54 : decode cX12_spells 54 = .ok (.ireturn, 1) := by decide +kernel
theorem dX12_spells_55 : decode cX12_spells 55 = .ok (.bipush 8, 2) := by decide +kernel
theorem dX12_spells_57 : decode cX12_spells 57 = .ok (.iload_n 1, 1) := by decide +kernel
theorem dX12_spells_58 : decode cX12_spells 58 = .ok (.imul, 1) := by decide +kernel
theorem dX12_spells_59 : decode cX12_spells 59 = .ok (.iload_n 2, 1) := by decide +kernel
theorem dX12_spells_60 : decode cX12_spells 60 = .ok (.iadd, 1) := by decide +kernel
theorem dX12_spells_61 : decode cX12_spells 61 = .ok (.istore 5, 2) := by decide +kernel
theorem dX12_spells_63 : decode cX12_spells 63 = .ok (.iload_n 3, 1) := by decide +kernel
theorem dX12_spells_64 : decode cX12_spells 64 = .ok (.ifCond .ne 13, 3) := by decide +kernel
theorem dX12_spells_67 : decode cX12_spells 67 = .ok (.aload_n 0, 1) := by decide +kernel
theorem dX12_spells_68 : decode cX12_spells 68 = .ok (.getfield 16, 3) := by decide +kernel
theorem dX12_spells_71 : decode cX12_spells 71 = .ok (.iload 5, 2) := by decide +kernel
theorem dX12_spells_73 : decode cX12_spells 73 = .ok (.iaload, 1) := by decide +kernel
theorem dX12_spells_74 : decode cX12_spells 74 = .ok (.goto 10, 3) := by decide +kernel
theorem dX12_spells_77 : decode cX12_spells 77 = .ok (.aload_n 0, 1) := by decide +kernel
theorem dX12_spells_78 : decode cX12_spells 78 = .ok (.getfield 20, 3) := by decide +kernel
theorem dX12_spells_81 : decode cX12_spells 81 = .ok (.iload 5, 2) := by decide +kernel
theorem dX12_spells_83 : decode cX12_spells 83 = .ok (.iaload, 1) := by decide +kernel
theorem dX12_spells_84 : decode cX12_spells 84 = .ok (.istore 6, 2) := by decide +kernel
theorem dX12_spells_86 : decode cX12_spells 86 = .ok (.iload 4, 2) := by decide +kernel
theorem dX12_spells_88 : decode cX12_spells 88 = .ok (.ifCond .ge 6, 3) := by decide +kernel
theorem dX12_spells_91 : decode cX12_spells 91 = .ok (.iload 6, 2) := by decide +kernel
theorem dX12_spells_93 : decode cX12_spells 93 = .ok (.ireturn, 1) := by decide +kernel
theorem dX12_spells_94 : decode cX12_spells 94 = .ok (.iload 4, 2) := by decide +kernel
theorem dX12_spells_96 : decode cX12_spells 96 = .ok (.iload 6, 2) := by decide +kernel
theorem dX12_spells_98 : decode cX12_spells 98 = .ok (.if_icmp .lt 8, 3) := by decide +kernel
theorem dX12_spells_101 : decode cX12_spells 101 = .ok (.bipush (-9), 2) := by decide +kernel
theorem dX12_spells_103 : decode cX12_spells 103 = .ok (.goto 36, 3) := by decide +kernel
theorem dX12_spells_106 : decode cX12_spells 106 = .ok (.iload_n 3, 1) := by decide +kernel
theorem dX12_spells_107 : decode cX12_spells 107 = .ok (.ifCond .ne 19, 3) := by decide +kernel
theorem dX12_spells_110 : decode cX12_spells 110 = .ok (.aload_n 0, 1) := by decide +kernel
theorem dX12_spells_111 : decode cX12_spells 111 = .ok (.getfield 23, 3) := by decide +kernel
theorem dX12_spells_114 : decode cX12_spells 114 = .ok (.bipush 6, 2) := by decide +kernel
theorem dX12_spells_116 : decode cX12_spells 116 = .ok (.iload 5, 2) := by decide +kernel
theorem dX12_spells_118 : decode cX12_spells 118 = .ok (.imul, 1) := by decide +kernel
theorem dX12_spells_119 : decode cX12_spells 119 = .ok (.iload 4, 2) := by decide +kernel
theorem dX12_spells_121 : decode cX12_spells 121 = .ok (.iadd, 1) := by decide +kernel
theorem dX12_spells_122 : decode cX12_spells 122 = .ok (.iaload, 1) := by decide +kernel
theorem dX12_spells_123 : decode cX12_spells 123 = .ok (.goto 16, 3) := by decide +kernel
theorem dX12_spells_126 : decode cX12_spells 126 = .ok (.aload_n 0, 1) := by decide +kernel
theorem dX12_spells_127 : decode cX12_spells 127 = .ok (.getfield 26, 3) := by decide +kernel
theorem dX12_spells_130 : decode cX12_spells 130 = .ok (.bipush 6, 2) := by decide +kernel
theorem dX12_spells_132 : decode cX12_spells 132 = .ok (.iload 5, 2) := by decide +kernel
theorem dX12_spells_134 : decode cX12_spells 134 = .ok (.imul, 1) := by decide +kernel
theorem dX12_spells_135 : decode cX12_spells 135 = .ok (.iload 4, 2) := by decide +kernel
theorem dX12_spells_137 : decode cX12_spells 137 = .ok (.iadd, 1) := by decide +kernel
theorem dX12_spells_138 : decode cX12_spells 138 = .ok (.iaload, 1) := by decide +kernel
theorem dX12_spells_139 : decode cX12_spells 139 = .ok (.ireturn, 1) := by decide +kernel
theorem dX12_fieldAt_0 : decode cX12_fieldAt 0 = .ok (.aload_n 0, 1) := by decide +kernel
theorem dX12_fieldAt_1 : decode cX12_fieldAt 1 = .ok (.getfield 44, 3) := by decide +kernel
theorem dX12_fieldAt_4 : decode cX12_fieldAt 4 = .ok (.bipush 64, 2) := by decide +kernel
theorem dX12_fieldAt_6 : decode cX12_fieldAt 6 = .ok (.iload_n 1, 1) := by decide +kernel
theorem dX12_fieldAt_7 : decode cX12_fieldAt 7 = .ok (.imul, 1) := by decide +kernel
theorem dX12_fieldAt_8 : decode cX12_fieldAt 8 = .ok (.iload_n 2, 1) := by decide +kernel
theorem dX12_fieldAt_9 : decode cX12_fieldAt 9 = .ok (.bipush 64, 2) := by decide +kernel
theorem dX12_fieldAt_11 : decode cX12_fieldAt 11 = .ok (.irem, 1) := by decide +kernel
theorem dX12_fieldAt_12 : decode cX12_fieldAt 12 = .ok (.iadd, 1) := by decide +kernel
theorem dX12_fieldAt_13 : decode cX12_fieldAt 13 = .ok (.iaload, 1) := by decide +kernel
theorem dX12_fieldAt_14 : decode cX12_fieldAt 14 = .ok (.ireturn, 1) := by decide +kernel
set_option maxRecDepth 20000 in
theorem ggX12_isThere_X12_in : GoodIn wsX12_isThere wsX12_in := goodIn_r _ [6] rfl (by decide +kernel)
set_option maxRecDepth 20000 in
theorem gX12_isThere_X12_in : GoodIn wsX12_isThere (va_wsS RX12 124 yX12_in wsX12_in) := goodIn_app (goodIn_of _ (by decide +kernel)) ggX12_isThere_X12_in
theorem dX12_isThere_0 : decode cX12_isThere 0 = .ok (.iload_n 2, 1) := by decide +kernel
theorem dX12_isThere_1 : decode cX12_isThere 1 = .ok (.i2l, 1) := by decide +kernel
theorem dX12_isThere_2 : decode cX12_isThere 2 = .ok (.aload_n 0, 1) := by decide +kernel
theorem dX12_isThere_3 : decode cX12_isThere 3 = .ok (.getfield 35, 3) := by decide +kernel
theorem dX12_isThere_6 : decode cX12_isThere 6 = .ok (.iload_n 1, 1) := by decide +kernel
theorem dX12_isThere_7 : decode cX12_isThere 7 = .ok (.iaload, 1) := by decide +kernel
theorem dX12_isThere_8 : decode cX12_isThere 8 = .ok (.i2l, 1) := by decide +kernel
theorem dX12_isThere_9 : decode cX12_isThere 9 = .ok (.aload_n 0, 1) := by decide +kernel
theorem dX12_isThere_10 : decode cX12_isThere 10 = .ok (.getfield 32, 3) := by decide +kernel
theorem dX12_isThere_13 : decode cX12_isThere 13 = .ok (.iload_n 1, 1) := by decide +kernel
theorem dX12_isThere_14 : decode cX12_isThere 14 = .ok (.iaload, 1) := by decide +kernel
theorem dX12_isThere_15 : decode cX12_isThere 15 = .ok (.iconst 1, 1) := by decide +kernel
theorem dX12_isThere_16 : decode cX12_isThere 16 = .ok (.isub, 1) := by decide +kernel
theorem dX12_isThere_17 : decode cX12_isThere 17 = .ok (.i2l, 1) := by decide +kernel
theorem dX12_isThere_18 : decode cX12_isThere 18 = .ok (.invokestatic 124, 3) := by decide +kernel
theorem dX12_isThere_21 : decode cX12_isThere 21 = .ok (.ireturn, 1) := by decide +kernel
set_option maxRecDepth 20000 in
theorem ggX12_goes_X12_fieldAt : GoodIn wsX12_goes wsX12_fieldAt := goodIn_r _ [7, 8, 15, 16, 17, 18, 19, 20, 21, 22, 23, 24, 25, 26, 27, 28, 29, 30, 31, 32, 33, 34, 35, 36, 37, 38, 39, 40, 41, 42, 43, 44, 45, 46, 47, 48, 49, 50, 51, 52, 53, 54, 55, 56, 57, 58, 59, 60, 61, 62, 63, 64, 65, 66, 67, 68, 69, 70, 71] rfl (by decide +kernel)
set_option maxRecDepth 20000 in
theorem gX12_goes_X12_fieldAt : GoodIn wsX12_goes (wsV RX12 234 RX12 yX12_fieldAt wsX12_fieldAt) := goodIn_app (goodIn_of _ (by decide +kernel)) ggX12_goes_X12_fieldAt
set_option maxRecDepth 20000 in
theorem ggX12_goes_X12_sizeOf : GoodIn wsX12_goes wsX12_sizeOf := goodIn_r _ [12, 13, 14, 15, 16, 17, 18, 19, 20, 21, 22, 23, 24, 25, 26, 27, 28, 29, 30, 31, 32, 33, 34, 35, 36, 37, 38, 39, 40, 41, 42, 43, 44, 45, 46, 47, 48, 49, 50, 51, 52, 53, 54, 55, 56, 57, 58, 59, 60, 61, 62, 63, 64, 65, 66, 67, 68, 69, 70, 71] rfl (by decide +kernel)
set_option maxRecDepth 20000 in
theorem gX12_goes_X12_sizeOf : GoodIn wsX12_goes (wsV RX12 238 RX12 yX12_sizeOf wsX12_sizeOf) := goodIn_app (goodIn_of _ (by decide +kernel)) ggX12_goes_X12_sizeOf
theorem dX12_goes_0 : decode cX12_goes 0 = .ok (.aload_n 0, 1) := by decide +kernel
theorem dX12_goes_1 : decode cX12_goes 1 = .ok (.getfield 41, 3) := by decide +kernel
theorem dX12_goes_4 : decode cX12_goes 4 = .ok (.iload_n 1, 1) := by decide +kernel
theorem dX12_goes_5 : decode cX12_goes 5 = .ok (.dup2, 1) := by decide +kernel
theorem dX12_goes_6 : decode cX12_goes 6 = .ok (.iaload, 1) := by decide +kernel
theorem dX12_goes_7 : decode cX12_goes 7 = .ok (.aload_n 0, 1) := by decide +kernel
theorem dX12_goes_8 : decode cX12_goes 8 = .ok (.aload_n 0, 1) := by decide +kernel
theorem dX12_goes_9 : decode cX12_goes 9 = .ok (.iload_n 1, 1) := by decide +kernel
theorem dX12_goes_10 : decode cX12_goes 10 = .ok (.aload_n 0, 1) := by decide +kernel
theorem dX12_goes_11 : decode cX12_goes 11 = .ok (.getfield 35, 3) := by decide +kernel
theorem dX12_goes_14 : decode cX12_goes 14 = .ok (.iload_n 1, 1) := by decide +kernel
theorem dX12_goes_15 : decode cX12_goes 15 = .ok (.iaload, 1) := by decide +kernel
theorem dX12_goes_16 : decode cX12_goes 16 = .ok (.invokevirtual 234, 3) := by decide +kernel
theorem dX12_goes_19 : decode cX12_goes 19 = .ok (.invokevirtual 238, 3) := by decide +kernel
theorem dX12_goes_22 : decode cX12_goes 22 = .ok (.isub, 1) := by decide +kernel
theorem dX12_goes_23 : decode cX12_goes 23 = .ok (.iastore, 1) := by decide +kernel
theorem dX12_goes_24 : decode cX12_goes 24 = .ok (.aload_n 0, 1) := by decide +kernel
theorem dX12_goes_25 : decode cX12_goes 25 = .ok (.getfield 35, 3) := by decide +kernel
theorem dX12_goes_28 : decode cX12_goes 28 = .ok (.iload_n 1, 1) := by decide +kernel
theorem dX12_goes_29 : decode cX12_goes 29 = .ok (.dup2, 1) := by decide +kernel
theorem dX12_goes_30 : decode cX12_goes 30 = .ok (.iaload, 1) := by decide +kernel
theorem dX12_goes_31 : decode cX12_goes 31 = .ok (.iconst 1, 1) := by decide +kernel
theorem dX12_goes_32 : decode cX12_goes 32 = .ok (.iadd, 1) := by decide +kernel
theorem dX12_goes_33 : decode cX12_goes 33 = .ok (.iastore, 1) := by decide +kernel
theorem dX12_goes_34 : decode cX12_goes 34 = .ok (.return_, 1) := by decide +kernel
set_option maxRecDepth 20000 in
theorem ggX12_makesRoom_X12_goes : GoodIn wsX12_makesRoom wsX12_goes := goodIn_r _ [7, 1, 8, 9, 10, 11, 6, 12, 13, 14, 15, 16, 17, 18, 19, 20, 21, 22, 23, 24, 25, 26, 27, 28, 29, 30, 31, 32, 33, 34, 35, 36, 37, 38, 39, 40, 41, 42, 43, 44, 45, 46, 47, 48, 49, 50, 51, 52, 53, 54, 55, 56, 57, 58, 59, 60, 61, 62, 63, 64, 65, 66, 67, 68, 69, 70, 71, 72, 73, 74, 75, 76] rfl (by decide +kernel)
set_option maxRecDepth 20000 in
theorem gX12_makesRoom_X12_goes : GoodIn wsX12_makesRoom (wsV RX12 242 RX12 yX12_goes wsX12_goes) := goodIn_app (goodIn_of _ (by decide +kernel)) ggX12_makesRoom_X12_goes
theorem dX12_makesRoom_0 : decode cX12_makesRoom 0 = .ok (.iconst 0, 1) := by decide +kernel
theorem dX12_makesRoom_1 : decode cX12_makesRoom 1 = .ok (.istore_n 3, 1) := by decide +kernel
theorem dX12_makesRoom_2 : decode cX12_makesRoom 2 = .ok (.aload_n 0, 1) := by decide +kernel
theorem dX12_makesRoom_3 : decode cX12_makesRoom 3 = .ok (.getfield 41, 3) := by decide +kernel
theorem dX12_makesRoom_6 : decode cX12_makesRoom 6 = .ok (.iload_n 1, 1) := by decide +kernel
theorem dX12_makesRoom_7 : decode cX12_makesRoom 7 = .ok (.iaload, 1) := by decide +kernel
theorem dX12_makesRoom_8 : decode cX12_makesRoom 8 = .ok (.iload_n 2, 1) := by decide +kernel
theorem dX12_makesRoom_9 : decode cX12_makesRoom 9 = .ok (.iadd, 1) := by decide +kernel
theorem dX12_makesRoom_10 : decode cX12_makesRoom 10 = .ok (.aload_n 0, 1) := by decide +kernel
theorem dX12_makesRoom_11 : decode cX12_makesRoom 11 = .ok (.getfield 38, 3) := by decide +kernel
theorem dX12_makesRoom_14 : decode cX12_makesRoom 14 = .ok (.iload_n 1, 1) := by decide +kernel
theorem dX12_makesRoom_15 : decode cX12_makesRoom 15 = .ok (.iaload, 1) := by decide +kernel
theorem dX12_makesRoom_16 : decode cX12_makesRoom 16 = .ok (.if_icmp .le 14, 3) := by decide +kernel
theorem dX12_makesRoom_19 : decode cX12_makesRoom 19 = .ok (.aload_n 0, 1) := by decide +kernel
theorem dX12_makesRoom_20 : decode cX12_makesRoom 20 = .ok (.iload_n 1, 1) := by decide +kernel
theorem dX12_makesRoom_21 : decode cX12_makesRoom 21 = .ok (.invokevirtual 242, 3) := by decide +kernel
theorem dX12_makesRoom_24 : decode cX12_makesRoom 24 = .ok (.iinc 3 1, 3) := by decide +kernel
theorem dX12_makesRoom_27 : decode cX12_makesRoom 27 = .ok (.goto (-25), 3) := by decide +kernel
theorem dX12_makesRoom_30 : decode cX12_makesRoom 30 = .ok (.iload_n 3, 1) := by decide +kernel
theorem dX12_makesRoom_31 : decode cX12_makesRoom 31 = .ok (.ireturn, 1) := by decide +kernel
set_option maxRecDepth 20000 in
theorem ggX12_comes_X12_sizeOf : GoodIn wsX12_comes wsX12_sizeOf := goodIn_r _ [8, 9, 10, 25, 26, 27, 28, 29, 30, 31, 32, 33, 34, 35, 36, 37, 38, 39, 40, 41, 42, 43, 44, 45, 46, 47, 48, 49, 50, 51, 52, 53, 54, 55, 56, 57, 58, 59, 60, 61, 62, 63, 64, 65, 66, 67, 68, 69, 70, 71, 72, 73, 74, 75, 76, 77, 78, 79, 80, 81] rfl (by decide +kernel)
set_option maxRecDepth 20000 in
theorem gX12_comes_X12_sizeOf : GoodIn wsX12_comes (wsV RX12 238 RX12 yX12_sizeOf wsX12_sizeOf) := goodIn_app (goodIn_of _ (by decide +kernel)) ggX12_comes_X12_sizeOf
set_option maxRecDepth 20000 in
theorem ggX12_comes_X12_makesRoom : GoodIn wsX12_comes wsX12_makesRoom := goodIn_r _ [14, 3, 15, 16, 17, 18, 7, 19, 20, 21, 22, 23, 24, 1, 4, 5, 6, 8, 9, 10, 25, 26, 27, 28, 29, 30, 31, 32, 33, 34, 35, 36, 37, 38, 39, 40, 41, 42, 43, 44, 45, 46, 47, 48, 49, 50, 51, 52, 53, 54, 55, 56, 57, 58, 59, 60, 61, 62, 63, 64, 65, 66, 67, 68, 69, 70, 71, 72, 73, 74, 75, 76, 77, 78, 79, 80, 81] rfl (by decide +kernel)
set_option maxRecDepth 20000 in
theorem gX12_comes_X12_makesRoom : GoodIn wsX12_comes (wsV RX12 246 RX12 yX12_makesRoom wsX12_makesRoom) := goodIn_app (goodIn_of _ (by decide +kernel)) ggX12_comes_X12_makesRoom
theorem dX12_comes_0 : decode cX12_comes 0 = .ok (.aload_n 0, 1) := by decide +kernel
theorem dX12_comes_1 : decode cX12_comes 1 = .ok (.iload_n 1, 1) := by decide +kernel
theorem dX12_comes_2 : decode cX12_comes 2 = .ok (.aload_n 0, 1) := by decide +kernel
theorem dX12_comes_3 : decode cX12_comes 3 = .ok (.iload_n 2, 1) := by decide +kernel
theorem dX12_comes_4 : decode cX12_comes 4 = .ok (.invokevirtual 238, 3) := by decide +kernel
theorem dX12_comes_7 : decode cX12_comes 7 = .ok (.invokevirtual 246, 3) := by decide +kernel
theorem dX12_comes_10 : decode cX12_comes 10 = .ok (.pop, 1) := by decide +kernel
theorem dX12_comes_11 : decode cX12_comes 11 = .ok (.aload_n 0, 1) := by decide +kernel
theorem dX12_comes_12 : decode cX12_comes 12 = .ok (.getfield 44, 3) := by decide +kernel
theorem dX12_comes_15 : decode cX12_comes 15 = .ok (.bipush 64, 2) := by decide +kernel
theorem dX12_comes_17 : decode cX12_comes 17 = .ok (.iload_n 1, 1) := by decide +kernel
theorem dX12_comes_18 : decode cX12_comes 18 = .ok (.imul, 1) := by decide +kernel
theorem dX12_comes_19 : decode cX12_comes 19 = .ok (.aload_n 0, 1) := by decide +kernel
theorem dX12_comes_20 : decode cX12_comes 20 = .ok (.getfield 32, 3) := by decide +kernel
theorem dX12_comes_23 : decode cX12_comes 23 = .ok (.iload_n 1, 1) := by decide +kernel
theorem dX12_comes_24 : decode cX12_comes 24 = .ok (.iaload, 1) := by decide +kernel
theorem dX12_comes_25 : decode cX12_comes 25 = .ok (.bipush 64, 2) := by decide +kernel
theorem dX12_comes_27 : decode cX12_comes 27 = .ok (.irem, 1) := by decide +kernel
theorem dX12_comes_28 : decode cX12_comes 28 = .ok (.iadd, 1) := by decide +kernel
theorem dX12_comes_29 : decode cX12_comes 29 = .ok (.iload_n 2, 1) := by decide +kernel
theorem dX12_comes_30 : decode cX12_comes 30 = .ok (.iastore, 1) := by decide +kernel
theorem dX12_comes_31 : decode cX12_comes 31 = .ok (.aload_n 0, 1) := by decide +kernel
theorem dX12_comes_32 : decode cX12_comes 32 = .ok (.getfield 32, 3) := by decide +kernel
theorem dX12_comes_35 : decode cX12_comes 35 = .ok (.iload_n 1, 1) := by decide +kernel
theorem dX12_comes_36 : decode cX12_comes 36 = .ok (.dup2, 1) := by decide +kernel
theorem dX12_comes_37 : decode cX12_comes 37 = .ok (.iaload, 1) := by decide +kernel
theorem dX12_comes_38 : decode cX12_comes 38 = .ok (.iconst 1, 1) := by decide +kernel
theorem dX12_comes_39 : decode cX12_comes 39 = .ok (.iadd, 1) := by decide +kernel
theorem dX12_comes_40 : decode cX12_comes 40 = .ok (.iastore, 1) := by decide +kernel
theorem dX12_comes_41 : decode cX12_comes 41 = .ok (.aload_n 0, 1) := by decide +kernel
theorem dX12_comes_42 : decode cX12_comes 42 = .ok (.getfield 41, 3) := by decide +kernel
theorem dX12_comes_45 : decode cX12_comes 45 = .ok (.iload_n 1, 1) := by decide +kernel
theorem dX12_comes_46 : decode cX12_comes 46 = .ok (.dup2, 1) := by decide +kernel
theorem dX12_comes_47 : decode cX12_comes 47 = .ok (.iaload, 1) := by decide +kernel
theorem dX12_comes_48 : decode cX12_comes 48 = .ok (.aload_n 0, 1) := by decide +kernel
theorem dX12_comes_49 : decode cX12_comes 49 = .ok (.iload_n 2, 1) := by decide +kernel
theorem dX12_comes_50 : decode cX12_comes 50 = .ok (.invokevirtual 238, 3) := by decide +kernel
theorem dX12_comes_53 : decode cX12_comes 53 = .ok (.iadd, 1) := by decide +kernel
theorem dX12_comes_54 : decode cX12_comes 54 = .ok (.iastore, 1) := by decide +kernel
theorem dX12_comes_55 : decode cX12_comes 55 = .ok (.return_, 1) := by decide +kernel
theorem dX12_isHeldBy_0 : decode cX12_isHeldBy 0 = .ok (.iconst 0, 1) := by decide +kernel
theorem dX12_isHeldBy_1 : decode cX12_isHeldBy 1 = .ok (.istore_n 3, 1) := by decide +kernel
theorem dX12_isHeldBy_2 : decode cX12_isHeldBy 2 = .ok (.iconst 0, 1) := by decide +kernel
theorem dX12_isHeldBy_3 : decode cX12_isHeldBy 3 = .ok (.istore 4, 2) := by decide +kernel
theorem dX12_isHeldBy_5 : decode cX12_isHeldBy 5 = .ok (.iload 4, 2) := by decide +kernel
theorem dX12_isHeldBy_7 : decode cX12_isHeldBy 7 = .ok (.aload_n 0, 1) := by decide +kernel
theorem dX12_isHeldBy_8 : decode cX12_isHeldBy 8 = .ok (.getfield 66, 3) := by decide +kernel
theorem dX12_isHeldBy_11 : decode cX12_isHeldBy 11 = .ok (.iload_n 1, 1) := by decide +kernel
theorem dX12_isHeldBy_12 : decode cX12_isHeldBy 12 = .ok (.iaload, 1) := by decide +kernel
theorem dX12_isHeldBy_13 : decode cX12_isHeldBy 13 = .ok (.if_icmp .ge 44, 3) := by decide +kernel
theorem dX12_isHeldBy_16 : decode cX12_isHeldBy 16 = .ok (.iload_n 3, 1) := by decide +kernel
theorem dX12_isHeldBy_17 : decode cX12_isHeldBy 17 = .ok (.ifCond .ne 28, 3) := by decide +kernel
theorem dX12_isHeldBy_20 : decode cX12_isHeldBy 20 = .ok (.aload_n 0, 1) := by decide +kernel
theorem dX12_isHeldBy_21 : decode cX12_isHeldBy 21 = .ok (.getfield 62, 3) := by decide +kernel
theorem dX12_isHeldBy_24 : decode cX12_isHeldBy 24 = .ok (.iload_n 1, 1) := by decide +kernel
theorem dX12_isHeldBy_25 : decode cX12_isHeldBy 25 = .ok (.baload, 1) := by decide +kernel
theorem dX12_isHeldBy_26 : decode cX12_isHeldBy 26 = .ok (.ifCond .ne 23, 3) := by decide +kernel
theorem dX12_isHeldBy_29 : decode cX12_isHeldBy 29 = .ok (.aload_n 0, 1) := by decide +kernel
theorem dX12_isHeldBy_30 : decode cX12_isHeldBy 30 = .ok (.getfield 72, 3) := by decide +kernel
theorem dX12_isHeldBy_33 : decode cX12_isHeldBy 33 = .ok (.bipush 6, 2) := by decide +kernel
theorem dX12_isHeldBy_35 : decode cX12_isHeldBy 35 = .ok (.iload_n 1, 1) := by decide +kernel
theorem dX12_isHeldBy_36 : decode cX12_isHeldBy 36 = .ok (.imul, 1) := by decide +kernel
theorem dX12_isHeldBy_37 : decode cX12_isHeldBy 37 = .ok (.iload 4, 2) := by decide +kernel
theorem dX12_isHeldBy_39 : decode cX12_isHeldBy 39 = .ok (.iadd, 1) := by decide +kernel
theorem dX12_isHeldBy_40 : decode cX12_isHeldBy 40 = .ok (.iaload, 1) := by decide +kernel
theorem dX12_isHeldBy_41 : decode cX12_isHeldBy 41 = .ok (.iload_n 2, 1) := by decide +kernel
theorem dX12_isHeldBy_42 : decode cX12_isHeldBy 42 = .ok (.if_icmp .ne 7, 3) := by decide +kernel
theorem dX12_isHeldBy_45 : decode cX12_isHeldBy 45 = .ok (.iconst 1, 1) := by decide +kernel
theorem dX12_isHeldBy_46 : decode cX12_isHeldBy 46 = .ok (.goto 4, 3) := by decide +kernel
theorem dX12_isHeldBy_49 : decode cX12_isHeldBy 49 = .ok (.iconst 0, 1) := by decide +kernel
theorem dX12_isHeldBy_50 : decode cX12_isHeldBy 50 = .ok (.istore_n 3, 1) := by decide +kernel
theorem dX12_isHeldBy_51 : decode cX12_isHeldBy 51 = .ok (.iinc 4 1, 3) := by decide +kernel
theorem dX12_isHeldBy_54 : decode cX12_isHeldBy 54 = .ok (.goto (-49), 3) := by decide +kernel
theorem dX12_isHeldBy_57 : decode cX12_isHeldBy 57 = .ok (.iload_n 3, 1) := by decide +kernel
theorem dX12_isHeldBy_58 : decode cX12_isHeldBy 58 = .ok (.ireturn, 1) := by decide +kernel
set_option maxRecDepth 20000 in
theorem ggX12_isHeld_X12_isHeldBy : GoodIn wsX12_isHeld wsX12_isHeldBy := goodIn_r _ [8, 9, 10, 11, 12, 13, 14, 15, 16, 17, 18, 19, 20, 21, 22, 23, 24, 25, 26, 27, 28, 29, 30, 31, 32, 33, 34, 35, 36, 37, 38, 39, 40, 41, 42, 43, 44, 45, 46, 47, 48, 49, 50, 51, 52, 53, 54, 55, 56, 57, 58, 59, 60, 61, 62, 63, 64, 65, 66, 67, 68] rfl (by decide +kernel)
set_option maxRecDepth 20000 in
theorem gX12_isHeld_X12_isHeldBy : GoodIn wsX12_isHeld (wsV RX12 255 RX12 yX12_isHeldBy wsX12_isHeldBy) := goodIn_app (goodIn_of _ (by decide +kernel)) ggX12_isHeld_X12_isHeldBy
theorem dX12_isHeld_0 : decode cX12_isHeld 0 = .ok (.iconst 0, 1) := by decide +kernel
theorem dX12_isHeld_1 : decode cX12_isHeld 1 = .ok (.istore_n 2, 1) := by decide +kernel
theorem dX12_isHeld_2 : decode cX12_isHeld 2 = .ok (.iconst 0, 1) := by decide +kernel
theorem dX12_isHeld_3 : decode cX12_isHeld 3 = .ok (.istore_n 3, 1) := by decide +kernel
theorem dX12_isHeld_4 : decode cX12_isHeld 4 = .ok (.iload_n 3, 1) := by decide +kernel
theorem dX12_isHeld_5 : decode cX12_isHeld 5 = .ok (.aload_n 0, 1) := by decide +kernel
theorem dX12_isHeld_6 : decode cX12_isHeld 6 = .ok (.getfield 249, 3) := by decide +kernel
theorem dX12_isHeld_9 : decode cX12_isHeld 9 = .ok (.if_icmp .ge 29, 3) := by decide +kernel
theorem dX12_isHeld_12 : decode cX12_isHeld 12 = .ok (.iload_n 2, 1) := by decide +kernel
theorem dX12_isHeld_13 : decode cX12_isHeld 13 = .ok (.ifCond .ne 13, 3) := by decide +kernel
theorem dX12_isHeld_16 : decode cX12_isHeld 16 = .ok (.aload_n 0, 1) := by decide +kernel
theorem dX12_isHeld_17 : decode cX12_isHeld 17 = .ok (.getfield 81, 3) := by decide +kernel
theorem dX12_isHeld_20 : decode cX12_isHeld 20 = .ok (.iload_n 3, 1) := by decide +kernel
theorem dX12_isHeld_21 : decode cX12_isHeld 21 = .ok (.iaload, 1) := by decide +kernel
theorem dX12_isHeld_22 : decode cX12_isHeld 22 = .ok (.iload_n 1, 1) := by decide +kernel
theorem dX12_isHeld_23 : decode cX12_isHeld 23 = .ok (.if_icmp .ne 7, 3) := by decide +kernel
theorem dX12_isHeld_26 : decode cX12_isHeld 26 = .ok (.iconst 1, 1) := by decide +kernel
theorem dX12_isHeld_27 : decode cX12_isHeld 27 = .ok (.goto 4, 3) := by decide +kernel
theorem dX12_isHeld_30 : decode cX12_isHeld 30 = .ok (.iconst 0, 1) := by decide +kernel
theorem dX12_isHeld_31 : decode cX12_isHeld 31 = .ok (.istore_n 2, 1) := by decide +kernel
theorem dX12_isHeld_32 : decode cX12_isHeld 32 = .ok (.iinc 3 1, 3) := by decide +kernel
theorem dX12_isHeld_35 : decode cX12_isHeld 35 = .ok (.goto (-31), 3) := by decide +kernel
theorem dX12_isHeld_38 : decode cX12_isHeld 38 = .ok (.iconst 0, 1) := by decide +kernel
theorem dX12_isHeld_39 : decode cX12_isHeld 39 = .ok (.istore_n 3, 1) := by decide +kernel
theorem dX12_isHeld_40 : decode cX12_isHeld 40 = .ok (.iload_n 3, 1) := by decide +kernel
theorem dX12_isHeld_41 : decode cX12_isHeld 41 = .ok (.aload_n 0, 1) := by decide +kernel
theorem dX12_isHeld_42 : decode cX12_isHeld 42 = .ok (.getfield 252, 3) := by decide +kernel
theorem dX12_isHeld_45 : decode cX12_isHeld 45 = .ok (.if_icmp .ge 28, 3) := by decide +kernel
theorem dX12_isHeld_48 : decode cX12_isHeld 48 = .ok (.iload_n 2, 1) := by decide +kernel
theorem dX12_isHeld_49 : decode cX12_isHeld 49 = .ok (.ifCond .ne 12, 3) := by decide +kernel
theorem dX12_isHeld_52 : decode cX12_isHeld 52 = .ok (.aload_n 0, 1) := by decide +kernel
theorem dX12_isHeld_53 : decode cX12_isHeld 53 = .ok (.iload_n 3, 1) := by decide +kernel
theorem dX12_isHeld_54 : decode cX12_isHeld 54 = .ok (.iload_n 1, 1) := by decide +kernel
theorem dX12_isHeld_55 : decode cX12_isHeld 55 = .ok (.invokevirtual 255, 3) := by decide +kernel
theorem dX12_isHeld_58 : decode cX12_isHeld 58 = .ok (.ifCond .eq 7, 3) := by decide +kernel
theorem dX12_isHeld_61 : decode cX12_isHeld 61 = .ok (.iconst 1, 1) := by decide +kernel
theorem dX12_isHeld_62 : decode cX12_isHeld 62 = .ok (.goto 4, 3) := by decide +kernel
theorem dX12_isHeld_65 : decode cX12_isHeld 65 = .ok (.iconst 0, 1) := by decide +kernel
theorem dX12_isHeld_66 : decode cX12_isHeld 66 = .ok (.istore_n 2, 1) := by decide +kernel
theorem dX12_isHeld_67 : decode cX12_isHeld 67 = .ok (.iinc 3 1, 3) := by decide +kernel
theorem dX12_isHeld_70 : decode cX12_isHeld 70 = .ok (.goto (-30), 3) := by decide +kernel
theorem dX12_isHeld_73 : decode cX12_isHeld 73 = .ok (.iload_n 2, 1) := by decide +kernel
theorem dX12_isHeld_74 : decode cX12_isHeld 74 = .ok (.ireturn, 1) := by decide +kernel
set_option maxRecDepth 20000 in
theorem ggX12_isFree_X12_isHeld : GoodIn wsX12_isFree wsX12_isHeld := goodIn_r _ [6, 7, 8, 9, 10, 11, 12, 5, 13, 14, 15, 16, 17, 18, 19, 20, 21, 22, 23, 24, 25, 26, 27, 28, 29, 30, 31, 32, 33, 34, 35, 36, 37, 38, 39, 40, 41, 42, 43, 44, 45, 46, 47, 48, 49, 50, 51, 52, 53, 54, 55, 56, 57, 58, 59, 60, 61, 62, 63, 64, 65, 66, 67, 68, 69, 70, 71, 72, 73] rfl (by decide +kernel)
set_option maxRecDepth 20000 in
theorem gX12_isFree_X12_isHeld : GoodIn wsX12_isFree (wsV RX12 261 RX12 yX12_isHeld wsX12_isHeld) := goodIn_app (goodIn_of _ (by decide +kernel)) ggX12_isFree_X12_isHeld
theorem dX12_isFree_0 : decode cX12_isFree 0 = .ok (.iload_n 1, 1) := by decide +kernel
theorem dX12_isFree_1 : decode cX12_isFree 1 = .ok (.aload_n 0, 1) := by decide +kernel
theorem dX12_isFree_2 : decode cX12_isFree 2 = .ok (.getfield 258, 3) := by decide +kernel
theorem dX12_isFree_5 : decode cX12_isFree 5 = .ok (.if_icmp .ge 15, 3) := by decide +kernel
theorem dX12_isFree_8 : decode cX12_isFree 8 = .ok (.aload_n 0, 1) := by decide +kernel
theorem dX12_isFree_9 : decode cX12_isFree 9 = .ok (.iload_n 1, 1) := by decide +kernel
theorem dX12_isFree_10 : decode cX12_isFree 10 = .ok (.invokevirtual 261, 3) := by decide +kernel
theorem dX12_isFree_13 : decode cX12_isFree 13 = .ok (.ifCond .ne 7, 3) := by decide +kernel
theorem dX12_isFree_16 : decode cX12_isFree 16 = .ok (.iconst 1, 1) := by decide +kernel
theorem dX12_isFree_17 : decode cX12_isFree 17 = .ok (.goto 4, 3) := by decide +kernel
theorem dX12_isFree_20 : decode cX12_isFree 20 = .ok (.iconst 0, 1) := by decide +kernel
theorem dX12_isFree_21 : decode cX12_isFree 21 = .ok (.ireturn, 1) := by decide +kernel
set_option maxRecDepth 20000 in
theorem ggX12_canHave_X12_isFree : GoodIn wsX12_canHave wsX12_isFree := goodIn_r _ [8, 9, 10, 11, 12, 7, 13, 14, 15, 16, 17, 18, 19, 20, 21, 22, 23, 35, 36, 37, 38, 39, 40, 41, 42, 43, 44, 45, 46, 47, 48, 49, 50, 51, 52, 53, 54, 55, 56, 57, 58, 59, 60, 61, 62, 63, 64, 65, 66, 67, 68, 69, 70, 71, 72, 73, 74, 75, 76, 77, 78, 79, 80, 81, 82, 83, 84, 85, 86, 87, 88, 89, 90, 91] rfl (by decide +kernel)
set_option maxRecDepth 20000 in
theorem gX12_canHave_X12_isFree : GoodIn wsX12_canHave (wsV RX12 264 RX12 yX12_isFree wsX12_isFree) := goodIn_app (goodIn_of _ (by decide +kernel)) ggX12_canHave_X12_isFree
set_option maxRecDepth 20000 in
theorem ggX12_canHave_X12_fieldAt : GoodIn wsX12_canHave wsX12_fieldAt := goodIn_r _ [27, 28, 35, 36, 37, 38, 39, 40, 41, 42, 43, 44, 45, 46, 47, 48, 49, 50, 51, 52, 53, 54, 55, 56, 57, 58, 59, 60, 61, 62, 63, 64, 65, 66, 67, 68, 69, 70, 71, 72, 73, 74, 75, 76, 77, 78, 79, 80, 81, 82, 83, 84, 85, 86, 87, 88, 89, 90, 91] rfl (by decide +kernel)
set_option maxRecDepth 20000 in
theorem gX12_canHave_X12_fieldAt : GoodIn wsX12_canHave (wsV RX12 234 RX12 yX12_fieldAt wsX12_fieldAt) := goodIn_app (goodIn_of _ (by decide +kernel)) ggX12_canHave_X12_fieldAt
set_option maxRecDepth 20000 in
theorem ggX12_canHave_X12_sizeOf : GoodIn wsX12_canHave wsX12_sizeOf := goodIn_r _ [32, 33, 34, 35, 36, 37, 38, 39, 40, 41, 42, 43, 44, 45, 46, 47, 48, 49, 50, 51, 52, 53, 54, 55, 56, 57, 58, 59, 60, 61, 62, 63, 64, 65, 66, 67, 68, 69, 70, 71, 72, 73, 74, 75, 76, 77, 78, 79, 80, 81, 82, 83, 84, 85, 86, 87, 88, 89, 90, 91] rfl (by decide +kernel)
set_option maxRecDepth 20000 in
theorem gX12_canHave_X12_sizeOf : GoodIn wsX12_canHave (wsV RX12 238 RX12 yX12_sizeOf wsX12_sizeOf) := goodIn_app (goodIn_of _ (by decide +kernel)) ggX12_canHave_X12_sizeOf
theorem dX12_canHave_0 : decode cX12_canHave 0 = .ok (.aload_n 0, 1) := by decide +kernel
theorem dX12_canHave_1 : decode cX12_canHave 1 = .ok (.getfield 41, 3) := by decide +kernel
theorem dX12_canHave_4 : decode cX12_canHave 4 = .ok (.iconst 0, 1) := by decide +kernel
theorem dX12_canHave_5 : decode cX12_canHave 5 = .ok (.iaload, 1) := by decide +kernel
theorem dX12_canHave_6 : decode cX12_canHave 6 = .ok (.iload_n 1, 1) := by decide +kernel
theorem dX12_canHave_7 : decode cX12_canHave 7 = .ok (.iadd, 1) := by decide +kernel
theorem dX12_canHave_8 : decode cX12_canHave 8 = .ok (.istore_n 3, 1) := by decide +kernel
theorem dX12_canHave_9 : decode cX12_canHave 9 = .ok (.aload_n 0, 1) := by decide +kernel
theorem dX12_canHave_10 : decode cX12_canHave 10 = .ok (.getfield 35, 3) := by decide +kernel
theorem dX12_canHave_13 : decode cX12_canHave 13 = .ok (.iconst 0, 1) := by decide +kernel
theorem dX12_canHave_14 : decode cX12_canHave 14 = .ok (.iaload, 1) := by decide +kernel
theorem dX12_canHave_15 : decode cX12_canHave 15 = .ok (.istore 4, 2) := by decide +kernel
theorem dX12_canHave_17 : decode cX12_canHave 17 = .ok (.iload_n 3, 1) := by decide +kernel
theorem dX12_canHave_18 : decode cX12_canHave 18 = .ok (.iload_n 2, 1) := by decide +kernel
theorem dX12_canHave_19 : decode cX12_canHave 19 = .ok (.if_icmp .le 43, 3) := by decide +kernel
theorem dX12_canHave_22 : decode cX12_canHave 22 = .ok (.iload 4, 2) := by decide +kernel
theorem dX12_canHave_24 : decode cX12_canHave 24 = .ok (.aload_n 0, 1) := by decide +kernel
theorem dX12_canHave_25 : decode cX12_canHave 25 = .ok (.getfield 32, 3) := by decide +kernel
theorem dX12_canHave_28 : decode cX12_canHave 28 = .ok (.iconst 0, 1) := by decide +kernel
theorem dX12_canHave_29 : decode cX12_canHave 29 = .ok (.iaload, 1) := by decide +kernel
theorem dX12_canHave_30 : decode cX12_canHave 30 = .ok (.if_icmp .ge 32, 3) := by decide +kernel
theorem dX12_canHave_33 : decode cX12_canHave 33 = .ok (.aload_n 0, 1) := by decide +kernel
theorem dX12_canHave_34 : decode cX12_canHave 34 = .ok (.iload 4, 2) := by decide +kernel
theorem dX12_canHave_36 : decode cX12_canHave 36 = .ok (.invokevirtual 264, 3) := by decide +kernel
theorem dX12_canHave_39 : decode cX12_canHave 39 = .ok (.ifCond .eq 23, 3) := by decide +kernel
theorem dX12_canHave_42 : decode cX12_canHave 42 = .ok (.iload_n 3, 1) := by decide +kernel
theorem dX12_canHave_43 : decode cX12_canHave 43 = .ok (.aload_n 0, 1) := by decide +kernel
theorem dX12_canHave_44 : decode cX12_canHave 44 = .ok (.aload_n 0, 1) := by decide +kernel
theorem dX12_canHave_45 : decode cX12_canHave 45 = .ok (.iconst 0, 1) := by decide +kernel
theorem dX12_canHave_46 : decode cX12_canHave 46 = .ok (.iload 4, 2) := by decide +kernel
theorem dX12_canHave_48 : decode cX12_canHave 48 = .ok (.invokevirtual 234, 3) := by decide +kernel
theorem dX12_canHave_51 : decode cX12_canHave 51 = .ok (.invokevirtual 238, 3) := by decide +kernel
theorem dX12_canHave_54 : decode cX12_canHave 54 = .ok (.isub, 1) := by decide +kernel
theorem dX12_canHave_55 : decode cX12_canHave 55 = .ok (.istore_n 3, 1) := by decide +kernel
theorem dX12_canHave_56 : decode cX12_canHave 56 = .ok (.iinc 4 1, 3) := by decide +kernel
theorem dX12_canHave_59 : decode cX12_canHave 59 = .ok (.goto (-42), 3) := by decide +kernel
theorem dX12_canHave_62 : decode cX12_canHave 62 = .ok (.iload_n 3, 1) := by decide +kernel
theorem dX12_canHave_63 : decode cX12_canHave 63 = .ok (.iload_n 2, 1) := by decide +kernel
theorem dX12_canHave_64 : decode cX12_canHave 64 = .ok (.if_icmp .gt 7, 3) := by decide +kernel
theorem dX12_canHave_67 : decode cX12_canHave 67 = .ok (.iconst 1, 1) := by decide +kernel
theorem dX12_canHave_68 : decode cX12_canHave 68 = .ok (.goto 4, 3) := by decide +kernel
theorem dX12_canHave_71 : decode cX12_canHave 71 = .ok (.iconst 0, 1) := by decide +kernel
theorem dX12_canHave_72 : decode cX12_canHave 72 = .ok (.ireturn, 1) := by decide +kernel
theorem dX12_lays_0 : decode cX12_lays 0 = .ok (.aload_n 0, 1) := by decide +kernel
theorem dX12_lays_1 : decode cX12_lays 1 = .ok (.getfield 99, 3) := by decide +kernel
theorem dX12_lays_4 : decode cX12_lays 4 = .ok (.aload_n 0, 1) := by decide +kernel
theorem dX12_lays_5 : decode cX12_lays 5 = .ok (.getfield 267, 3) := by decide +kernel
theorem dX12_lays_8 : decode cX12_lays 8 = .ok (.iload_n 1, 1) := by decide +kernel
theorem dX12_lays_9 : decode cX12_lays 9 = .ok (.iastore, 1) := by decide +kernel
theorem dX12_lays_10 : decode cX12_lays 10 = .ok (.aload_n 0, 1) := by decide +kernel
theorem dX12_lays_11 : decode cX12_lays 11 = .ok (.dup, 1) := by decide +kernel
theorem dX12_lays_12 : decode cX12_lays 12 = .ok (.getfield 267, 3) := by decide +kernel
theorem dX12_lays_15 : decode cX12_lays 15 = .ok (.iconst 1, 1) := by decide +kernel
theorem dX12_lays_16 : decode cX12_lays 16 = .ok (.iadd, 1) := by decide +kernel
theorem dX12_lays_17 : decode cX12_lays 17 = .ok (.putfield 267, 3) := by decide +kernel
theorem dX12_lays_20 : decode cX12_lays 20 = .ok (.return_, 1) := by decide +kernel
set_option maxRecDepth 20000 in
theorem ggX12_laysNumber_X12_lays : GoodIn wsX12_laysNumber wsX12_lays := goodIn_r _ [5, 6, 7, 8, 9, 10, 11, 12, 13, 14, 15, 16, 17, 18, 19, 20, 21, 22, 23, 24, 25, 26, 27, 28, 29, 30, 31, 32, 33, 34, 35, 36, 37, 38, 39, 40, 41, 42, 43, 44, 45, 46, 47, 48, 49, 50, 51, 52, 53, 54, 55, 56, 57, 58, 59, 60, 61, 62, 63, 64] rfl (by decide +kernel)
set_option maxRecDepth 20000 in
theorem gX12_laysNumber_X12_lays : GoodIn wsX12_laysNumber (wsV RX12 270 RX12 yX12_lays wsX12_lays) := goodIn_app (goodIn_of _ (by decide +kernel)) ggX12_laysNumber_X12_lays
theorem dX12_laysNumber_0 : decode cX12_laysNumber 0 = .ok (.iconst 1, 1) := by decide +kernel
theorem dX12_laysNumber_1 : decode cX12_laysNumber 1 = .ok (.iload_n 2, 1) := by decide +kernel
theorem dX12_laysNumber_2 : decode cX12_laysNumber 2 = .ok (.ishl, 1) := by decide +kernel
theorem dX12_laysNumber_3 : decode cX12_laysNumber 3 = .ok (.iconst 1, 1) := by decide +kernel
theorem dX12_laysNumber_4 : decode cX12_laysNumber 4 = .ok (.isub, 1) := by decide +kernel
theorem dX12_laysNumber_5 : decode cX12_laysNumber 5 = .ok (.istore 4, 2) := by decide +kernel
theorem dX12_laysNumber_7 : decode cX12_laysNumber 7 = .ok (.iload_n 3, 1) := by decide +kernel
theorem dX12_laysNumber_8 : decode cX12_laysNumber 8 = .ok (.iload 4, 2) := by decide +kernel
theorem dX12_laysNumber_10 : decode cX12_laysNumber 10 = .ok (.if_icmp .ge 11, 3) := by decide +kernel
theorem dX12_laysNumber_13 : decode cX12_laysNumber 13 = .ok (.aload_n 0, 1) := by decide +kernel
theorem dX12_laysNumber_14 : decode cX12_laysNumber 14 = .ok (.iload_n 1, 1) := by decide +kernel
theorem dX12_laysNumber_15 : decode cX12_laysNumber 15 = .ok (.iload_n 3, 1) := by decide +kernel
theorem dX12_laysNumber_16 : decode cX12_laysNumber 16 = .ok (.iadd, 1) := by decide +kernel
theorem dX12_laysNumber_17 : decode cX12_laysNumber 17 = .ok (.invokevirtual 270, 3) := by decide +kernel
theorem dX12_laysNumber_20 : decode cX12_laysNumber 20 = .ok (.return_, 1) := by decide +kernel
theorem dX12_laysNumber_21 : decode cX12_laysNumber 21 = .ok (.aload_n 0, 1) := by decide +kernel
theorem dX12_laysNumber_22 : decode cX12_laysNumber 22 = .ok (.iload_n 1, 1) := by decide +kernel
theorem dX12_laysNumber_23 : decode cX12_laysNumber 23 = .ok (.iload 4, 2) := by decide +kernel
theorem dX12_laysNumber_25 : decode cX12_laysNumber 25 = .ok (.iadd, 1) := by decide +kernel
theorem dX12_laysNumber_26 : decode cX12_laysNumber 26 = .ok (.invokevirtual 270, 3) := by decide +kernel
theorem dX12_laysNumber_29 : decode cX12_laysNumber 29 = .ok (.iload_n 3, 1) := by decide +kernel
theorem dX12_laysNumber_30 : decode cX12_laysNumber 30 = .ok (.iload 4, 2) := by decide +kernel
theorem dX12_laysNumber_32 : decode cX12_laysNumber 32 = .ok (.isub, 1) := by decide +kernel
theorem dX12_laysNumber_33 : decode cX12_laysNumber 33 = .ok (.istore 5, 2) := by decide +kernel
theorem dX12_laysNumber_35 : decode cX12_laysNumber 35 = .ok (.iload 5, 2) := by decide +kernel
theorem dX12_laysNumber_37 : decode cX12_laysNumber 37 = .ok (.bipush 127, 2) := by decide +kernel
theorem dX12_laysNumber_39 : decode cX12_laysNumber 39 = .ok (.if_icmp .le 28, 3) := by decide +kernel
theorem dX12_laysNumber_42 : decode cX12_laysNumber 42 = .ok (.aload_n 0, 1) := by decide +kernel
theorem dX12_laysNumber_43 : decode cX12_laysNumber 43 = .ok (.sipush 128, 3) := by decide +kernel
theorem dX12_laysNumber_46 : decode cX12_laysNumber 46 = .ok (.iload 5, 2) := by decide +kernel
theorem dX12_laysNumber_48 : decode cX12_laysNumber 48 = .ok (.sipush 128, 3) := by decide +kernel
theorem dX12_laysNumber_51 : decode cX12_laysNumber 51 = .ok (.irem, 1) := by decide +kernel
theorem dX12_laysNumber_52 : decode cX12_laysNumber 52 = .ok (.iadd, 1) := by decide +kernel
theorem dX12_laysNumber_53 : decode cX12_laysNumber 53 = .ok (.invokevirtual 270, 3) := by decide +kernel
theorem dX12_laysNumber_56 : decode cX12_laysNumber 56 = .ok (.iload 5, 2) := by decide +kernel
theorem dX12_laysNumber_58 : decode cX12_laysNumber 58 = .ok (.sipush 128, 3) := by decide +kernel
theorem dX12_laysNumber_61 : decode cX12_laysNumber 61 = .ok (.idiv, 1) := by decide +kernel
theorem dX12_laysNumber_62 : decode cX12_laysNumber 62 = .ok (.istore 5, 2) := by decide +kernel
theorem dX12_laysNumber_64 : decode cX12_laysNumber 64 = .ok (.goto (-29), 3) := by decide +kernel
theorem dX12_laysNumber_67 : decode cX12_laysNumber 67 = .ok (.aload_n 0, 1) := by decide +kernel
theorem dX12_laysNumber_68 : decode cX12_laysNumber 68 = .ok (.iload 5, 2) := by decide +kernel
theorem dX12_laysNumber_70 : decode cX12_laysNumber 70 = .ok (.invokevirtual 270, 3) := by decide +kernel
theorem dX12_laysNumber_73 : decode cX12_laysNumber 73 = .ok (.return_, 1) := by decide +kernel
set_option maxRecDepth 20000 in
theorem ggX12_laysName_X12_lays : GoodIn wsX12_laysName wsX12_lays := goodIn_r _ [7, 8, 9, 10, 11, 12, 13, 14, 15, 16, 17, 18, 19, 20, 21, 22, 23, 24, 25, 26, 27, 28, 29, 30, 31, 32, 33, 34, 35, 36, 37, 38, 39, 40, 41, 42, 43, 44, 45, 46, 47, 48, 49, 50, 51, 52, 53, 54, 55, 56, 57, 58, 59, 60, 61, 62, 63, 64, 65, 66] rfl (by decide +kernel)
set_option maxRecDepth 20000 in
theorem gX12_laysName_X12_lays : GoodIn wsX12_laysName (wsV RX12 270 RX12 yX12_lays wsX12_lays) := goodIn_app (goodIn_of _ (by decide +kernel)) ggX12_laysName_X12_lays
theorem dX12_laysName_0 : decode cX12_laysName 0 = .ok (.iconst 0, 1) := by decide +kernel
theorem dX12_laysName_1 : decode cX12_laysName 1 = .ok (.istore_n 2, 1) := by decide +kernel
theorem dX12_laysName_2 : decode cX12_laysName 2 = .ok (.iload_n 2, 1) := by decide +kernel
theorem dX12_laysName_3 : decode cX12_laysName 3 = .ok (.aload_n 0, 1) := by decide +kernel
theorem dX12_laysName_4 : decode cX12_laysName 4 = .ok (.getfield 16, 3) := by decide +kernel
theorem dX12_laysName_7 : decode cX12_laysName 7 = .ok (.iload_n 1, 1) := by decide +kernel
theorem dX12_laysName_8 : decode cX12_laysName 8 = .ok (.iaload, 1) := by decide +kernel
theorem dX12_laysName_9 : decode cX12_laysName 9 = .ok (.if_icmp .ge 24, 3) := by decide +kernel
theorem dX12_laysName_12 : decode cX12_laysName 12 = .ok (.aload_n 0, 1) := by decide +kernel
theorem dX12_laysName_13 : decode cX12_laysName 13 = .ok (.aload_n 0, 1) := by decide +kernel
theorem dX12_laysName_14 : decode cX12_laysName 14 = .ok (.getfield 23, 3) := by decide +kernel
theorem dX12_laysName_17 : decode cX12_laysName 17 = .ok (.bipush 6, 2) := by decide +kernel
theorem dX12_laysName_19 : decode cX12_laysName 19 = .ok (.iload_n 1, 1) := by decide +kernel
theorem dX12_laysName_20 : decode cX12_laysName 20 = .ok (.imul, 1) := by decide +kernel
theorem dX12_laysName_21 : decode cX12_laysName 21 = .ok (.iload_n 2, 1) := by decide +kernel
theorem dX12_laysName_22 : decode cX12_laysName 22 = .ok (.iadd, 1) := by decide +kernel
theorem dX12_laysName_23 : decode cX12_laysName 23 = .ok (.iaload, 1) := by decide +kernel
theorem dX12_laysName_24 : decode cX12_laysName 24 = .ok (.invokevirtual 270, 3) := by decide +kernel
theorem dX12_laysName_27 : decode cX12_laysName 27 = .ok (.iinc 2 1, 3) := by decide +kernel
theorem dX12_laysName_30 : decode cX12_laysName 30 = .ok (.goto (-28), 3) := by decide +kernel
theorem dX12_laysName_33 : decode cX12_laysName 33 = .ok (.return_, 1) := by decide +kernel
set_option maxRecDepth 20000 in
theorem ggX12_laysValue_X12_laysNumber : GoodIn wsX12_laysValue wsX12_laysNumber := goodIn_r _ [7, 8, 9, 10, 6, 11, 12, 13, 14, 15, 16, 17, 18, 19, 20, 21, 22, 23, 24, 25, 26, 27, 28, 29, 30, 31, 32, 33, 34, 35, 36, 37, 38, 39, 40, 41, 42, 43, 44, 45, 46, 47, 48, 49, 50, 51, 52, 53, 54, 55, 56, 57, 58, 59, 60, 61, 62, 63, 64, 65, 66, 67, 68, 69, 70] rfl (by decide +kernel)
set_option maxRecDepth 20000 in
theorem gX12_laysValue_X12_laysNumber : GoodIn wsX12_laysValue (wsV RX12 273 RX12 yX12_laysNumber wsX12_laysNumber) := goodIn_app (goodIn_of _ (by decide +kernel)) ggX12_laysValue_X12_laysNumber
set_option maxRecDepth 20000 in
theorem ggX12_laysValue_X12_lays : GoodIn wsX12_laysValue wsX12_lays := goodIn_r _ [11, 12, 13, 14, 15, 16, 17, 18, 19, 20, 21, 22, 23, 24, 25, 26, 27, 28, 29, 30, 31, 32, 33, 34, 35, 36, 37, 38, 39, 40, 41, 42, 43, 44, 45, 46, 47, 48, 49, 50, 51, 52, 53, 54, 55, 56, 57, 58, 59, 60, 61, 62, 63, 64, 65, 66, 67, 68, 69, 70] rfl (by decide +kernel)
set_option maxRecDepth 20000 in
theorem gX12_laysValue_X12_lays : GoodIn wsX12_laysValue (wsV RX12 270 RX12 yX12_lays wsX12_lays) := goodIn_app (goodIn_of _ (by decide +kernel)) ggX12_laysValue_X12_lays
theorem dX12_laysValue_0 : decode cX12_laysValue 0 = .ok (.aload_n 0, 1) := by decide +kernel
theorem dX12_laysValue_1 : decode cX12_laysValue 1 = .ok (.iconst 0, 1) := by decide +kernel
theorem dX12_laysValue_2 : decode cX12_laysValue 2 = .ok (.bipush 7, 2) := by decide +kernel
theorem dX12_laysValue_4 : decode cX12_laysValue 4 = .ok (.aload_n 0, 1) := by decide +kernel
theorem dX12_laysValue_5 : decode cX12_laysValue 5 = .ok (.getfield 20, 3) := by decide +kernel
theorem dX12_laysValue_8 : decode cX12_laysValue 8 = .ok (.iload_n 1, 1) := by decide +kernel
theorem dX12_laysValue_9 : decode cX12_laysValue 9 = .ok (.iaload, 1) := by decide +kernel
theorem dX12_laysValue_10 : decode cX12_laysValue 10 = .ok (.invokevirtual 273, 3) := by decide +kernel
theorem dX12_laysValue_13 : decode cX12_laysValue 13 = .ok (.iconst 0, 1) := by decide +kernel
theorem dX12_laysValue_14 : decode cX12_laysValue 14 = .ok (.istore_n 2, 1) := by decide +kernel
theorem dX12_laysValue_15 : decode cX12_laysValue 15 = .ok (.iload_n 2, 1) := by decide +kernel
theorem dX12_laysValue_16 : decode cX12_laysValue 16 = .ok (.aload_n 0, 1) := by decide +kernel
theorem dX12_laysValue_17 : decode cX12_laysValue 17 = .ok (.getfield 20, 3) := by decide +kernel
theorem dX12_laysValue_20 : decode cX12_laysValue 20 = .ok (.iload_n 1, 1) := by decide +kernel
theorem dX12_laysValue_21 : decode cX12_laysValue 21 = .ok (.iaload, 1) := by decide +kernel
theorem dX12_laysValue_22 : decode cX12_laysValue 22 = .ok (.if_icmp .ge 24, 3) := by decide +kernel
theorem dX12_laysValue_25 : decode cX12_laysValue 25 = .ok (.aload_n 0, 1) := by decide +kernel
theorem dX12_laysValue_26 : decode cX12_laysValue 26 = .ok (.aload_n 0, 1) := by decide +kernel
theorem dX12_laysValue_27 : decode cX12_laysValue 27 = .ok (.getfield 26, 3) := by decide +kernel
theorem dX12_laysValue_30 : decode cX12_laysValue 30 = .ok (.bipush 6, 2) := by decide +kernel
theorem dX12_laysValue_32 : decode cX12_laysValue 32 = .ok (.iload_n 1, 1) := by decide +kernel
theorem dX12_laysValue_33 : decode cX12_laysValue 33 = .ok (.imul, 1) := by decide +kernel
theorem dX12_laysValue_34 : decode cX12_laysValue 34 = .ok (.iload_n 2, 1) := by decide +kernel
theorem dX12_laysValue_35 : decode cX12_laysValue 35 = .ok (.iadd, 1) := by decide +kernel
theorem dX12_laysValue_36 : decode cX12_laysValue 36 = .ok (.iaload, 1) := by decide +kernel
theorem dX12_laysValue_37 : decode cX12_laysValue 37 = .ok (.invokevirtual 270, 3) := by decide +kernel
theorem dX12_laysValue_40 : decode cX12_laysValue 40 = .ok (.iinc 2 1, 3) := by decide +kernel
theorem dX12_laysValue_43 : decode cX12_laysValue 43 = .ok (.goto (-28), 3) := by decide +kernel
theorem dX12_laysValue_46 : decode cX12_laysValue 46 = .ok (.return_, 1) := by decide +kernel
theorem dX12_sendsOrder_0 : decode cX12_sendsOrder 0 = .ok (.iconst 0, 1) := by decide +kernel
theorem dX12_sendsOrder_1 : decode cX12_sendsOrder 1 = .ok (.istore_n 3, 1) := by decide +kernel
theorem dX12_sendsOrder_2 : decode cX12_sendsOrder 2 = .ok (.iload_n 3, 1) := by decide +kernel
theorem dX12_sendsOrder_3 : decode cX12_sendsOrder 3 = .ok (.aload_n 0, 1) := by decide +kernel
theorem dX12_sendsOrder_4 : decode cX12_sendsOrder 4 = .ok (.getfield 267, 3) := by decide +kernel
theorem dX12_sendsOrder_7 : decode cX12_sendsOrder 7 = .ok (.if_icmp .ge 26, 3) := by decide +kernel
theorem dX12_sendsOrder_10 : decode cX12_sendsOrder 10 = .ok (.aload_n 0, 1) := by decide +kernel
theorem dX12_sendsOrder_11 : decode cX12_sendsOrder 11 = .ok (.getfield 87, 3) := by decide +kernel
theorem dX12_sendsOrder_14 : decode cX12_sendsOrder 14 = .ok (.aload_n 0, 1) := by decide +kernel
theorem dX12_sendsOrder_15 : decode cX12_sendsOrder 15 = .ok (.getfield 277, 3) := by decide +kernel
theorem dX12_sendsOrder_18 : decode cX12_sendsOrder 18 = .ok (.iload_n 3, 1) := by decide +kernel
theorem dX12_sendsOrder_19 : decode cX12_sendsOrder 19 = .ok (.iadd, 1) := by decide +kernel
theorem dX12_sendsOrder_20 : decode cX12_sendsOrder 20 = .ok (.aload_n 0, 1) := by decide +kernel
theorem dX12_sendsOrder_21 : decode cX12_sendsOrder 21 = .ok (.getfield 99, 3) := by decide +kernel
theorem dX12_sendsOrder_24 : decode cX12_sendsOrder 24 = .ok (.iload_n 3, 1) := by decide +kernel
theorem dX12_sendsOrder_25 : decode cX12_sendsOrder 25 = .ok (.iaload, 1) := by decide +kernel
theorem dX12_sendsOrder_26 : decode cX12_sendsOrder 26 = .ok (.iastore, 1) := by decide +kernel
theorem dX12_sendsOrder_27 : decode cX12_sendsOrder 27 = .ok (.iinc 3 1, 3) := by decide +kernel
theorem dX12_sendsOrder_30 : decode cX12_sendsOrder 30 = .ok (.goto (-28), 3) := by decide +kernel
theorem dX12_sendsOrder_33 : decode cX12_sendsOrder 33 = .ok (.aload_n 0, 1) := by decide +kernel
theorem dX12_sendsOrder_34 : decode cX12_sendsOrder 34 = .ok (.dup, 1) := by decide +kernel
theorem dX12_sendsOrder_35 : decode cX12_sendsOrder 35 = .ok (.getfield 277, 3) := by decide +kernel
theorem dX12_sendsOrder_38 : decode cX12_sendsOrder 38 = .ok (.aload_n 0, 1) := by decide +kernel
theorem dX12_sendsOrder_39 : decode cX12_sendsOrder 39 = .ok (.getfield 267, 3) := by decide +kernel
theorem dX12_sendsOrder_42 : decode cX12_sendsOrder 42 = .ok (.iadd, 1) := by decide +kernel
theorem dX12_sendsOrder_43 : decode cX12_sendsOrder 43 = .ok (.putfield 277, 3) := by decide +kernel
theorem dX12_sendsOrder_46 : decode cX12_sendsOrder 46 = .ok (.aload_n 0, 1) := by decide +kernel
theorem dX12_sendsOrder_47 : decode cX12_sendsOrder 47 = .ok (.getfield 90, 3) := by decide +kernel
theorem dX12_sendsOrder_50 : decode cX12_sendsOrder 50 = .ok (.aload_n 0, 1) := by decide +kernel
theorem dX12_sendsOrder_51 : decode cX12_sendsOrder 51 = .ok (.getfield 280, 3) := by decide +kernel
theorem dX12_sendsOrder_54 : decode cX12_sendsOrder 54 = .ok (.iload_n 1, 1) := by decide +kernel
theorem dX12_sendsOrder_55 : decode cX12_sendsOrder 55 = .ok (.iastore, 1) := by decide +kernel
theorem dX12_sendsOrder_56 : decode cX12_sendsOrder 56 = .ok (.aload_n 0, 1) := by decide +kernel
theorem dX12_sendsOrder_57 : decode cX12_sendsOrder 57 = .ok (.getfield 96, 3) := by decide +kernel
theorem dX12_sendsOrder_60 : decode cX12_sendsOrder 60 = .ok (.aload_n 0, 1) := by decide +kernel
theorem dX12_sendsOrder_61 : decode cX12_sendsOrder 61 = .ok (.getfield 280, 3) := by decide +kernel
theorem dX12_sendsOrder_64 : decode cX12_sendsOrder 64 = .ok (.iload_n 2, 1) := by decide +kernel
theorem dX12_sendsOrder_65 : decode cX12_sendsOrder 65 = .ok (.iastore, 1) := by decide +kernel
theorem dX12_sendsOrder_66 : decode cX12_sendsOrder 66 = .ok (.aload_n 0, 1) := by decide +kernel
theorem dX12_sendsOrder_67 : decode cX12_sendsOrder 67 = .ok (.getfield 93, 3) := by decide +kernel
theorem dX12_sendsOrder_70 : decode cX12_sendsOrder 70 = .ok (.aload_n 0, 1) := by decide +kernel
theorem dX12_sendsOrder_71 : decode cX12_sendsOrder 71 = .ok (.getfield 280, 3) := by decide +kernel
theorem dX12_sendsOrder_74 : decode cX12_sendsOrder 74 = .ok (.aload_n 0, 1) := by decide +kernel
theorem dX12_sendsOrder_75 : decode cX12_sendsOrder 75 = .ok (.getfield 267, 3) := by decide +kernel
theorem dX12_sendsOrder_78 : decode cX12_sendsOrder 78 = .ok (.iastore, 1) := by decide +kernel
theorem dX12_sendsOrder_79 : decode cX12_sendsOrder 79 = .ok (.aload_n 0, 1) := by decide +kernel
theorem dX12_sendsOrder_80 : decode cX12_sendsOrder 80 = .ok (.dup, 1) := by decide +kernel
theorem dX12_sendsOrder_81 : decode cX12_sendsOrder 81 = .ok (.getfield 280, 3) := by decide +kernel
theorem dX12_sendsOrder_84 : decode cX12_sendsOrder 84 = .ok (.iconst 1, 1) := by decide +kernel
theorem dX12_sendsOrder_85 : decode cX12_sendsOrder 85 = .ok (.iadd, 1) := by decide +kernel
theorem dX12_sendsOrder_86 : decode cX12_sendsOrder 86 = .ok (.putfield 280, 3) := by decide +kernel
theorem dX12_sendsOrder_89 : decode cX12_sendsOrder 89 = .ok (.return_, 1) := by decide +kernel
theorem dX12_isOverfull_0 : decode cX12_isOverfull 0 = .ok (.aload_n 0, 1) := by decide +kernel
theorem dX12_isOverfull_1 : decode cX12_isOverfull 1 = .ok (.getfield 277, 3) := by decide +kernel
theorem dX12_isOverfull_4 : decode cX12_isOverfull 4 = .ok (.aload_n 0, 1) := by decide +kernel
theorem dX12_isOverfull_5 : decode cX12_isOverfull 5 = .ok (.getfield 267, 3) := by decide +kernel
theorem dX12_isOverfull_8 : decode cX12_isOverfull 8 = .ok (.iadd, 1) := by decide +kernel
theorem dX12_isOverfull_9 : decode cX12_isOverfull 9 = .ok (.sipush 200, 3) := by decide +kernel
theorem dX12_isOverfull_12 : decode cX12_isOverfull 12 = .ok (.if_icmp .le 7, 3) := by decide +kernel
theorem dX12_isOverfull_15 : decode cX12_isOverfull 15 = .ok (.iconst 1, 1) := by decide +kernel
theorem dX12_isOverfull_16 : decode cX12_isOverfull 16 = .ok (.goto 4, 3) := by decide +kernel
theorem dX12_isOverfull_19 : decode cX12_isOverfull 19 = .ok (.iconst 0, 1) := by decide +kernel
theorem dX12_isOverfull_20 : decode cX12_isOverfull 20 = .ok (.ireturn, 1) := by decide +kernel
set_option maxRecDepth 20000 in
theorem ggX12_latest_X12_lesser : GoodIn wsX12_latest wsX12_lesser := goodIn_r _ [6] rfl (by decide +kernel)
set_option maxRecDepth 20000 in
theorem gX12_latest_X12_lesser : GoodIn wsX12_latest (va_wsS RX12 283 yX12_lesser wsX12_lesser) := goodIn_app (goodIn_of _ (by decide +kernel)) ggX12_latest_X12_lesser
set_option maxRecDepth 20000 in
theorem ggX12_latest_X12_fieldAt : GoodIn wsX12_latest wsX12_fieldAt := goodIn_r _ [10, 11, 18, 19, 20, 21, 22, 23, 24, 25, 26, 27, 28, 29, 30, 31, 32, 33, 34, 35, 36, 37, 38, 39, 40, 41, 42, 43, 44, 45, 46, 47, 48, 49, 50, 51, 52, 53, 54, 55, 56, 57, 58, 59, 60, 61, 62, 63, 64, 65, 66, 67, 68, 69, 70, 71, 72, 73, 74] rfl (by decide +kernel)
set_option maxRecDepth 20000 in
theorem gX12_latest_X12_fieldAt : GoodIn wsX12_latest (wsV RX12 234 RX12 yX12_fieldAt wsX12_fieldAt) := goodIn_app (goodIn_of _ (by decide +kernel)) ggX12_latest_X12_fieldAt
set_option maxRecDepth 20000 in
theorem ggX12_latest_X12_areOfOneName : GoodIn wsX12_latest wsX12_areOfOneName := goodIn_r _ [15, 16, 17, 18, 19, 20, 21, 22, 23, 24, 25, 26, 27, 28, 29, 30, 31, 32, 33, 34, 35, 36, 37, 38, 39, 40, 41, 42, 43, 44, 45, 46, 47, 48, 49, 50, 51, 52, 53, 54, 55, 56, 57, 58, 59, 60, 61, 62, 63, 64, 65, 66, 67, 68, 69, 70, 71, 72, 73, 74] rfl (by decide +kernel)
set_option maxRecDepth 20000 in
theorem gX12_latest_X12_areOfOneName : GoodIn wsX12_latest (wsV RX12 220 RX12 yX12_areOfOneName wsX12_areOfOneName) := goodIn_app (goodIn_of _ (by decide +kernel)) ggX12_latest_X12_areOfOneName
theorem dX12_latest_0 : decode cX12_latest 0 = .ok (.iload_n 2, 1) := by decide +kernel
theorem dX12_latest_1 : decode cX12_latest 1 = .ok (.aload_n 0, 1) := by decide +kernel
theorem dX12_latest_2 : decode cX12_latest 2 = .ok (.getfield 32, 3) := by decide +kernel
theorem dX12_latest_5 : decode cX12_latest 5 = .ok (.iconst 0, 1) := by decide +kernel
theorem dX12_latest_6 : decode cX12_latest 6 = .ok (.iaload, 1) := by decide +kernel
theorem dX12_latest_7 : decode cX12_latest 7 = .ok (.invokestatic 283, 3) := by decide +kernel
theorem dX12_latest_10 : decode cX12_latest 10 = .ok (.iconst 1, 1) := by decide +kernel
theorem dX12_latest_11 : decode cX12_latest 11 = .ok (.isub, 1) := by decide +kernel
theorem dX12_latest_12 : decode cX12_latest 12 = .ok (.istore 4, 2) := by decide +kernel
theorem dX12_latest_14 : decode cX12_latest 14 = .ok (.iload 4, 2) := by decide +kernel
theorem dX12_latest_16 : decode cX12_latest 16 = .ok (.aload_n 0, 1) := by decide +kernel
theorem dX12_latest_17 : decode cX12_latest 17 = .ok (.getfield 35, 3) := by decide +kernel
theorem dX12_latest_20 : decode cX12_latest 20 = .ok (.iconst 0, 1) := by decide +kernel
theorem dX12_latest_21 : decode cX12_latest 21 = .ok (.iaload, 1) := by decide +kernel
theorem dX12_latest_22 : decode cX12_latest 22 = .ok (.if_icmp .lt 44, 3) := by decide +kernel
theorem dX12_latest_25 : decode cX12_latest 25 = .ok (.aload_n 0, 1) := by decide +kernel
theorem dX12_latest_26 : decode cX12_latest 26 = .ok (.iconst 0, 1) := by decide +kernel
theorem dX12_latest_27 : decode cX12_latest 27 = .ok (.iload 4, 2) := by decide +kernel
theorem dX12_latest_29 : decode cX12_latest 29 = .ok (.invokevirtual 234, 3) := by decide +kernel
theorem dX12_latest_32 : decode cX12_latest 32 = .ok (.istore 5, 2) := by decide +kernel
theorem dX12_latest_34 : decode cX12_latest 34 = .ok (.iload_n 3, 1) := by decide +kernel
theorem dX12_latest_35 : decode cX12_latest 35 = .ok (.ifCond .eq 12, 3) := by decide +kernel
theorem dX12_latest_38 : decode cX12_latest 38 = .ok (.iload 5, 2) := by decide +kernel
theorem dX12_latest_40 : decode cX12_latest 40 = .ok (.iload_n 1, 1) := by decide +kernel
theorem dX12_latest_41 : decode cX12_latest 41 = .ok (.if_icmp .ne 19, 3) := by decide +kernel
theorem dX12_latest_44 : decode cX12_latest 44 = .ok (.goto 13, 3) := by decide +kernel
theorem dX12_latest_47 : decode cX12_latest 47 = .ok (.aload_n 0, 1) := by decide +kernel
theorem dX12_latest_48 : decode cX12_latest 48 = .ok (.iload 5, 2) := by decide +kernel
theorem dX12_latest_50 : decode cX12_latest 50 = .ok (.iload_n 1, 1) := by decide +kernel
theorem dX12_latest_51 : decode cX12_latest 51 = .ok (.invokevirtual 220, 3) := by decide +kernel
theorem dX12_latest_54 : decode cX12_latest 54 = .ok (.ifCond .eq 6, 3) := by decide +kernel
theorem dX12_latest_57 : decode cX12_latest 57 = .ok (.iload 4, 2) := by decide +kernel
theorem dX12_latest_59 : decode cX12_latest 59 = .ok (.ireturn, 1) := by decide +kernel
theorem dX12_latest_60 : decode cX12_latest 60 = .ok (.iinc 4 (-1), 3) := by decide +kernel
theorem dX12_latest_63 : decode cX12_latest 63 = .ok (.goto (-49), 3) := by decide +kernel
theorem dX12_latest_66 : decode cX12_latest 66 = .ok (.bipush (-9), 2) := by decide +kernel
theorem dX12_latest_68 : decode cX12_latest 68 = .ok (.ireturn, 1) := by decide +kernel
set_option maxRecDepth 20000 in
theorem ggX12_inserted_X12_sizeOf : GoodIn wsX12_inserted wsX12_sizeOf := goodIn_r _ [7, 8, 9, 68, 69, 70, 71, 72, 73, 74, 75, 76, 77, 78, 79, 80, 81, 82, 83, 84, 85, 86, 87, 88, 89, 90, 91, 92, 93, 94, 95, 96, 97, 98, 99, 100, 101, 102, 103, 104, 105, 106, 107, 108, 109, 110, 111, 112, 113, 114, 115, 116, 117, 118, 119, 120, 121, 122, 123, 124] rfl (by decide +kernel)
set_option maxRecDepth 20000 in
theorem gX12_inserted_X12_sizeOf : GoodIn wsX12_inserted (wsV RX12 238 RX12 yX12_sizeOf wsX12_sizeOf) := goodIn_app (goodIn_of _ (by decide +kernel)) ggX12_inserted_X12_sizeOf
set_option maxRecDepth 20000 in
theorem ggX12_inserted_X12_canHave : GoodIn wsX12_inserted wsX12_canHave := goodIn_r _ [13, 14, 15, 2, 16, 17, 18, 6, 19, 20, 21, 22, 23, 24, 25, 26, 27, 28, 29, 30, 31, 32, 33, 34, 35, 36, 37, 38, 39, 3, 4, 5, 7, 8, 9, 68, 69, 70, 71, 72, 73, 74, 75, 76, 77, 78, 79, 80, 81, 82, 83, 84, 85, 86, 87, 88, 89, 90, 91, 92, 93, 94, 95, 96, 97, 98, 99, 100, 101, 102, 103, 104, 105, 106, 107, 108, 109, 110, 111, 112, 113, 114, 115, 116, 117, 118, 119, 120, 121, 122, 123, 124] rfl (by decide +kernel)
set_option maxRecDepth 20000 in
theorem gX12_inserted_X12_canHave : GoodIn wsX12_inserted (wsV RX12 286 RX12 yX12_canHave wsX12_canHave) := goodIn_app (goodIn_of _ (by decide +kernel)) ggX12_inserted_X12_canHave
set_option maxRecDepth 20000 in
theorem ggX12_inserted_X12_isOverfull : GoodIn wsX12_inserted wsX12_isOverfull := goodIn_r _ [43, 44, 45, 68, 69, 70, 71, 72, 73, 74, 75, 76, 77, 78, 79, 80, 81, 82, 83, 84, 85, 86, 87, 88, 89, 90, 91, 92, 93, 94, 95, 96, 97, 98, 99, 100, 101, 102, 103, 104, 105, 106, 107, 108, 109, 110, 111, 112, 113, 114, 115, 116, 117, 118, 119, 120, 121, 122, 123, 124] rfl (by decide +kernel)
set_option maxRecDepth 20000 in
theorem gX12_inserted_X12_isOverfull : GoodIn wsX12_inserted (wsV RX12 289 RX12 yX12_isOverfull wsX12_isOverfull) := goodIn_app (goodIn_of _ (by decide +kernel)) ggX12_inserted_X12_isOverfull
set_option maxRecDepth 20000 in
theorem ggX12_inserted_X12_comes : GoodIn wsX12_inserted wsX12_comes := goodIn_r _ [49, 39, 2, 14, 3, 4, 5, 6, 7, 8, 9, 50, 51, 52, 53, 1, 54, 55, 56, 57, 15, 35, 36, 37, 38, 68, 69, 70, 71, 72, 73, 74, 75, 76, 77, 78, 79, 80, 81, 82, 83, 84, 85, 86, 87, 88, 89, 90, 91, 92, 93, 94, 95, 96, 97, 98, 99, 100, 101, 102, 103, 104, 105, 106, 107, 108, 109, 110, 111, 112, 113, 114, 115, 116, 117, 118, 119, 120, 121, 122, 123, 124] rfl (by decide +kernel)
set_option maxRecDepth 20000 in
theorem gX12_inserted_X12_comes : GoodIn wsX12_inserted (wsV RX12 292 RX12 yX12_comes wsX12_comes) := goodIn_app (goodIn_of _ (by decide +kernel)) ggX12_inserted_X12_comes
set_option maxRecDepth 20000 in
theorem ggX12_inserted_X12_sendsOrder : GoodIn wsX12_inserted wsX12_sendsOrder := goodIn_r _ [61, 45, 62, 44, 63, 64, 65, 66, 67, 68, 69, 70, 71, 72, 73, 74, 75, 76, 77, 78, 79, 80, 81, 82, 83, 84, 85, 86, 87, 88, 89, 90, 91, 92, 93, 94, 95, 96, 97, 98, 99, 100, 101, 102, 103, 104, 105, 106, 107, 108, 109, 110, 111, 112, 113, 114, 115, 116, 117, 118, 119, 120, 121, 122, 123, 124] rfl (by decide +kernel)
set_option maxRecDepth 20000 in
theorem gX12_inserted_X12_sendsOrder : GoodIn wsX12_inserted (wsV RX12 296 RX12 yX12_sendsOrder wsX12_sendsOrder) := goodIn_app (goodIn_of _ (by decide +kernel)) ggX12_inserted_X12_sendsOrder
theorem dX12_inserted_0 : decode cX12_inserted 0 = .ok (.aload_n 0, 1) := by decide +kernel
theorem dX12_inserted_1 : decode cX12_inserted 1 = .ok (.aload_n 0, 1) := by decide +kernel
theorem dX12_inserted_2 : decode cX12_inserted 2 = .ok (.iload_n 1, 1) := by decide +kernel
theorem dX12_inserted_3 : decode cX12_inserted 3 = .ok (.invokevirtual 238, 3) := by decide +kernel
theorem dX12_inserted_6 : decode cX12_inserted 6 = .ok (.aload_n 0, 1) := by decide +kernel
theorem dX12_inserted_7 : decode cX12_inserted 7 = .ok (.getfield 38, 3) := by decide +kernel
theorem dX12_inserted_10 : decode cX12_inserted 10 = .ok (.iconst 0, 1) := by decide +kernel
theorem dX12_inserted_11 : decode cX12_inserted 11 = .ok (.iaload, 1) := by decide +kernel
theorem dX12_inserted_12 : decode cX12_inserted 12 = .ok (.invokevirtual 286, 3) := by decide +kernel
theorem dX12_inserted_15 : decode cX12_inserted 15 = .ok (.ifCond .ne 6, 3) := by decide +kernel
theorem dX12_inserted_18 : decode cX12_inserted 18 = .ok (.bipush (-2), 2) := by decide +kernel
theorem dX12_inserted_20 : decode cX12_inserted 20 = .ok (.ireturn, 1) := by decide +kernel
theorem dX12_inserted_21 : decode cX12_inserted 21 = .ok (.aload_n 0, 1) := by decide +kernel
theorem dX12_inserted_22 : decode cX12_inserted 22 = .ok (.invokevirtual 289, 3) := by decide +kernel
theorem dX12_inserted_25 : decode cX12_inserted 25 = .ok (.ifCond .eq 6, 3) := by decide +kernel
theorem dX12_inserted_28 : decode cX12_inserted 28 = .ok (.bipush (-3), 2) := by decide +kernel
theorem dX12_inserted_30 : decode cX12_inserted 30 = .ok (.ireturn, 1) := by decide +kernel
theorem dX12_inserted_31 : decode cX12_inserted 31 = .ok (.aload_n 0, 1) := by decide +kernel
theorem dX12_inserted_32 : decode cX12_inserted 32 = .ok (.iconst 0, 1) := by decide +kernel
theorem dX12_inserted_33 : decode cX12_inserted 33 = .ok (.iload_n 1, 1) := by decide +kernel
theorem dX12_inserted_34 : decode cX12_inserted 34 = .ok (.invokevirtual 292, 3) := by decide +kernel
theorem dX12_inserted_37 : decode cX12_inserted 37 = .ok (.aload_n 0, 1) := by decide +kernel
theorem dX12_inserted_38 : decode cX12_inserted 38 = .ok (.iconst 1, 1) := by decide +kernel
theorem dX12_inserted_39 : decode cX12_inserted 39 = .ok (.iload_n 1, 1) := by decide +kernel
theorem dX12_inserted_40 : decode cX12_inserted 40 = .ok (.invokevirtual 296, 3) := by decide +kernel
theorem dX12_inserted_43 : decode cX12_inserted 43 = .ok (.aload_n 0, 1) := by decide +kernel
theorem dX12_inserted_44 : decode cX12_inserted 44 = .ok (.getfield 32, 3) := by decide +kernel
theorem dX12_inserted_47 : decode cX12_inserted 47 = .ok (.iconst 0, 1) := by decide +kernel
theorem dX12_inserted_48 : decode cX12_inserted 48 = .ok (.iaload, 1) := by decide +kernel
theorem dX12_inserted_49 : decode cX12_inserted 49 = .ok (.iconst 1, 1) := by decide +kernel
theorem dX12_inserted_50 : decode cX12_inserted 50 = .ok (.isub, 1) := by decide +kernel
theorem dX12_inserted_51 : decode cX12_inserted 51 = .ok (.ireturn, 1) := by decide +kernel
set_option maxRecDepth 20000 in
theorem ggX12_insertsField_X12_stillOf : GoodIn wsX12_insertsField wsX12_stillOf := goodIn_r _ [8, 9, 10, 11, 12, 7, 13, 14, 15, 16, 17, 18, 19, 3, 20, 110, 111, 112, 113, 114, 115, 116, 117, 118, 119, 120, 121, 122, 123, 124, 125, 126, 127, 128, 129, 130, 131, 132, 133, 134, 135, 136, 137, 138, 139, 140, 141, 142, 143, 144, 145, 146, 147, 148, 149, 150, 151, 152, 153, 154, 155, 156, 157, 158, 159, 160, 161, 162, 163, 164, 165, 166] rfl (by decide +kernel)
set_option maxRecDepth 20000 in
theorem gX12_insertsField_X12_stillOf : GoodIn wsX12_insertsField (wsV RX12 299 RX12 yX12_stillOf wsX12_stillOf) := goodIn_app (goodIn_of _ (by decide +kernel)) ggX12_insertsField_X12_stillOf
set_option maxRecDepth 20000 in
theorem ggX12_insertsField_X12_latest : GoodIn wsX12_insertsField wsX12_latest := goodIn_r _ [24, 2, 25, 26, 27, 7, 28, 29, 30, 31, 32, 33, 16, 17, 18, 19, 3, 20, 110, 111, 112, 113, 114, 115, 116, 117, 118, 119, 120, 121, 122, 123, 124, 125, 126, 127, 128, 129, 130, 131, 132, 133, 134, 135, 136, 137, 138, 139, 140, 141, 142, 143, 144, 145, 146, 147, 148, 149, 150, 151, 152, 153, 154, 155, 156, 157, 158, 159, 160, 161, 162, 163, 164, 165, 166] rfl (by decide +kernel)
set_option maxRecDepth 20000 in
theorem gX12_insertsField_X12_latest : GoodIn wsX12_insertsField (wsV RX12 303 RX12 yX12_latest wsX12_latest) := goodIn_app (goodIn_of _ (by decide +kernel)) ggX12_insertsField_X12_latest
set_option maxRecDepth 20000 in
theorem ggX12_insertsField_X12_laysNumber : GoodIn wsX12_insertsField wsX12_laysNumber := goodIn_r _ [37, 38, 39, 40, 7, 41, 42, 1, 110, 111, 112, 113, 114, 115, 116, 117, 118, 119, 120, 121, 122, 123, 124, 125, 126, 127, 128, 129, 130, 131, 132, 133, 134, 135, 136, 137, 138, 139, 140, 141, 142, 143, 144, 145, 146, 147, 148, 149, 150, 151, 152, 153, 154, 155, 156, 157, 158, 159, 160, 161, 162, 163, 164, 165, 166] rfl (by decide +kernel)
set_option maxRecDepth 20000 in
theorem gX12_insertsField_X12_laysNumber : GoodIn wsX12_insertsField (wsV RX12 273 RX12 yX12_laysNumber wsX12_laysNumber) := goodIn_app (goodIn_of _ (by decide +kernel)) ggX12_insertsField_X12_laysNumber
set_option maxRecDepth 20000 in
theorem ggX12_insertsField_X12_laysName : GoodIn wsX12_insertsField wsX12_laysName := goodIn_r _ [46, 3, 20, 38, 39, 40, 7, 41, 42, 1, 110, 111, 112, 113, 114, 115, 116, 117, 118, 119, 120, 121, 122, 123, 124, 125, 126, 127, 128, 129, 130, 131, 132, 133, 134, 135, 136, 137, 138, 139, 140, 141, 142, 143, 144, 145, 146, 147, 148, 149, 150, 151, 152, 153, 154, 155, 156, 157, 158, 159, 160, 161, 162, 163, 164, 165, 166] rfl (by decide +kernel)
set_option maxRecDepth 20000 in
theorem gX12_insertsField_X12_laysName : GoodIn wsX12_insertsField (wsV RX12 307 RX12 yX12_laysName wsX12_laysName) := goodIn_app (goodIn_of _ (by decide +kernel)) ggX12_insertsField_X12_laysName
set_option maxRecDepth 20000 in
theorem ggX12_insertsField_X12_laysValue : GoodIn wsX12_insertsField wsX12_laysValue := goodIn_r _ [50, 14, 15, 34, 35, 36, 7, 37, 38, 39, 40, 41, 42, 1, 110, 111, 112, 113, 114, 115, 116, 117, 118, 119, 120, 121, 122, 123, 124, 125, 126, 127, 128, 129, 130, 131, 132, 133, 134, 135, 136, 137, 138, 139, 140, 141, 142, 143, 144, 145, 146, 147, 148, 149, 150, 151, 152, 153, 154, 155, 156, 157, 158, 159, 160, 161, 162, 163, 164, 165, 166] rfl (by decide +kernel)
set_option maxRecDepth 20000 in
theorem gX12_insertsField_X12_laysValue : GoodIn wsX12_insertsField (wsV RX12 310 RX12 yX12_laysValue wsX12_laysValue) := goodIn_app (goodIn_of _ (by decide +kernel)) ggX12_insertsField_X12_laysValue
set_option maxRecDepth 20000 in
theorem ggX12_insertsField_X12_inserted : GoodIn wsX12_insertsField wsX12_inserted := goodIn_r _ [54, 55, 2, 56, 57, 58, 7, 59, 3, 14, 60, 61, 62, 63, 64, 25, 65, 66, 67, 68, 69, 70, 71, 72, 73, 74, 75, 76, 77, 78, 79, 80, 81, 82, 83, 29, 30, 31, 32, 33, 84, 85, 86, 87, 88, 1, 89, 90, 91, 92, 93, 94, 95, 96, 97, 98, 99, 100, 101, 102, 103, 104, 105, 42, 106, 107, 108, 109, 110, 111, 112, 113, 114, 115, 116, 117, 118, 119, 120, 121, 122, 123, 124, 125, 126, 127, 128, 129, 130, 131, 132, 133, 134, 135, 136, 137, 138, 139, 140, 141, 142, 143, 144, 145, 146, 147, 148, 149, 150, 151, 152, 153, 154, 155, 156, 157, 158, 159, 160, 161, 162, 163, 164, 165, 166] rfl (by decide +kernel)
set_option maxRecDepth 20000 in
theorem gX12_insertsField_X12_inserted : GoodIn wsX12_insertsField (wsV RX12 313 RX12 yX12_inserted wsX12_inserted) := goodIn_app (goodIn_of _ (by decide +kernel)) ggX12_insertsField_X12_inserted
theorem dX12_insertsField_0 : decode cX12_insertsField 0 = .ok (.aload_n 0, 1) := by decide +kernel
theorem dX12_insertsField_1 : decode cX12_insertsField 1 = .ok (.iconst 0, 1) := by decide +kernel
theorem dX12_insertsField_2 : decode cX12_insertsField 2 = .ok (.putfield 267, 3) := by decide +kernel
theorem dX12_insertsField_5 : decode cX12_insertsField 5 = .ok (.aload_n 0, 1) := by decide +kernel
theorem dX12_insertsField_6 : decode cX12_insertsField 6 = .ok (.iload_n 1, 1) := by decide +kernel
theorem dX12_insertsField_7 : decode cX12_insertsField 7 = .ok (.iconst 0, 1) := by decide +kernel
theorem dX12_insertsField_8 : decode cX12_insertsField 8 = .ok (.invokevirtual 299, 3) := by decide +kernel
theorem dX12_insertsField_11 : decode cX12_insertsField 11 = .ok (.istore_n 2, 1) := by decide +kernel
theorem dX12_insertsField_12 : decode cX12_insertsField 12 = .ok (.aload_n 0, 1) := by decide +kernel
theorem dX12_insertsField_13 : decode cX12_insertsField 13 = .ok (.iload_n 1, 1) := by decide +kernel
theorem dX12_insertsField_14 : decode cX12_insertsField 14 = .ok (.aload_n 0, 1) := by decide +kernel
theorem dX12_insertsField_15 : decode cX12_insertsField 15 = .ok (.getfield 32, 3) := by decide +kernel
theorem dX12_insertsField_18 : decode cX12_insertsField 18 = .ok (.iconst 0, 1) := by decide +kernel
theorem dX12_insertsField_19 : decode cX12_insertsField 19 = .ok (.iaload, 1) := by decide +kernel
theorem dX12_insertsField_20 : decode cX12_insertsField 20 = .ok (.iconst 0, 1) := by decide +kernel
theorem dX12_insertsField_21 : decode cX12_insertsField 21 = .ok (.invokevirtual 303, 3) := by decide +kernel
theorem dX12_insertsField_24 : decode cX12_insertsField 24 = .ok (.istore_n 3, 1) := by decide +kernel
theorem dX12_insertsField_25 : decode cX12_insertsField 25 = .ok (.iload_n 2, 1) := by decide +kernel
theorem dX12_insertsField_26 : decode cX12_insertsField 26 = .ok (.bipush (-9), 2) := by decide +kernel
theorem dX12_insertsField_28 : decode cX12_insertsField 28 = .ok (.if_icmp .eq 16, 3) := by decide +kernel
theorem dX12_insertsField_31 : decode cX12_insertsField 31 = .ok (.aload_n 0, 1) := by decide +kernel
theorem dX12_insertsField_32 : decode cX12_insertsField 32 = .ok (.sipush 192, 3) := by decide +kernel
theorem dX12_insertsField_35 : decode cX12_insertsField 35 = .ok (.bipush 6, 2) := by decide +kernel
theorem dX12_insertsField_37 : decode cX12_insertsField 37 = .ok (.iload_n 2, 1) := by decide +kernel
theorem dX12_insertsField_38 : decode cX12_insertsField 38 = .ok (.invokevirtual 273, 3) := by decide +kernel
theorem dX12_insertsField_41 : decode cX12_insertsField 41 = .ok (.goto 49, 3) := by decide +kernel
theorem dX12_insertsField_44 : decode cX12_insertsField 44 = .ok (.iload_n 3, 1) := by decide +kernel
theorem dX12_insertsField_45 : decode cX12_insertsField 45 = .ok (.bipush (-9), 2) := by decide +kernel
theorem dX12_insertsField_47 : decode cX12_insertsField 47 = .ok (.if_icmp .eq 25, 3) := by decide +kernel
theorem dX12_insertsField_50 : decode cX12_insertsField 50 = .ok (.aload_n 0, 1) := by decide +kernel
theorem dX12_insertsField_51 : decode cX12_insertsField 51 = .ok (.sipush 128, 3) := by decide +kernel
theorem dX12_insertsField_54 : decode cX12_insertsField 54 = .ok (.bipush 6, 2) := by decide +kernel
theorem dX12_insertsField_56 : decode cX12_insertsField 56 = .ok (.aload_n 0, 1) := by decide +kernel
theorem dX12_insertsField_57 : decode cX12_insertsField 57 = .ok (.getfield 32, 3) := by decide +kernel
theorem dX12_insertsField_60 : decode cX12_insertsField 60 = .ok (.iconst 0, 1) := by decide +kernel
theorem dX12_insertsField_61 : decode cX12_insertsField 61 = .ok (.iaload, 1) := by decide +kernel
theorem dX12_insertsField_62 : decode cX12_insertsField 62 = .ok (.iconst 1, 1) := by decide +kernel
theorem dX12_insertsField_63 : decode cX12_insertsField 63 = .ok (.isub, 1) := by decide +kernel
theorem dX12_insertsField_64 : decode cX12_insertsField 64 = .ok (.iload_n 3, 1) := by decide +kernel
theorem dX12_insertsField_65 : decode cX12_insertsField 65 = .ok (.isub, 1) := by decide +kernel
theorem dX12_insertsField_66 : decode cX12_insertsField 66 = .ok (.invokevirtual 273, 3) := by decide +kernel
theorem dX12_insertsField_69 : decode cX12_insertsField 69 = .ok (.goto 21, 3) := by decide +kernel
theorem dX12_insertsField_72 : decode cX12_insertsField 72 = .ok (.aload_n 0, 1) := by decide +kernel
theorem dX12_insertsField_73 : decode cX12_insertsField 73 = .ok (.bipush 64, 2) := by decide +kernel
theorem dX12_insertsField_75 : decode cX12_insertsField 75 = .ok (.iconst 5, 1) := by decide +kernel
theorem dX12_insertsField_76 : decode cX12_insertsField 76 = .ok (.aload_n 0, 1) := by decide +kernel
theorem dX12_insertsField_77 : decode cX12_insertsField 77 = .ok (.getfield 16, 3) := by decide +kernel
theorem dX12_insertsField_80 : decode cX12_insertsField 80 = .ok (.iload_n 1, 1) := by decide +kernel
theorem dX12_insertsField_81 : decode cX12_insertsField 81 = .ok (.iaload, 1) := by decide +kernel
theorem dX12_insertsField_82 : decode cX12_insertsField 82 = .ok (.invokevirtual 273, 3) := by decide +kernel
theorem dX12_insertsField_85 : decode cX12_insertsField 85 = .ok (.aload_n 0, 1) := by decide +kernel
theorem dX12_insertsField_86 : decode cX12_insertsField 86 = .ok (.iload_n 1, 1) := by decide +kernel
theorem dX12_insertsField_87 : decode cX12_insertsField 87 = .ok (.invokevirtual 307, 3) := by decide +kernel
theorem dX12_insertsField_90 : decode cX12_insertsField 90 = .ok (.aload_n 0, 1) := by decide +kernel
theorem dX12_insertsField_91 : decode cX12_insertsField 91 = .ok (.iload_n 1, 1) := by decide +kernel
theorem dX12_insertsField_92 : decode cX12_insertsField 92 = .ok (.invokevirtual 310, 3) := by decide +kernel
theorem dX12_insertsField_95 : decode cX12_insertsField 95 = .ok (.aload_n 0, 1) := by decide +kernel
theorem dX12_insertsField_96 : decode cX12_insertsField 96 = .ok (.iload_n 1, 1) := by decide +kernel
theorem dX12_insertsField_97 : decode cX12_insertsField 97 = .ok (.invokevirtual 313, 3) := by decide +kernel
theorem dX12_insertsField_100 : decode cX12_insertsField 100 = .ok (.ireturn, 1) := by decide +kernel
set_option maxRecDepth 20000 in
theorem ggX12_capacity_X12_in : GoodIn wsX12_capacity wsX12_in := goodIn_r _ [7] rfl (by decide +kernel)
set_option maxRecDepth 20000 in
theorem gX12_capacity_X12_in : GoodIn wsX12_capacity (va_wsS RX12 124 yX12_in wsX12_in) := goodIn_app (goodIn_of _ (by decide +kernel)) ggX12_capacity_X12_in
set_option maxRecDepth 20000 in
theorem ggX12_capacity_X12_canHave : GoodIn wsX12_capacity wsX12_canHave := goodIn_r _ [11, 12, 13, 14, 15, 16, 17, 6, 18, 19, 20, 21, 22, 23, 24, 25, 26, 27, 28, 29, 30, 31, 32, 33, 34, 35, 36, 37, 38, 39, 40, 41, 42, 43, 44, 76, 77, 78, 79, 80, 81, 82, 83, 84, 85, 86, 87, 88, 89, 90, 91, 92, 93, 94, 95, 96, 97, 98, 99, 100, 101, 102, 103, 104, 105, 106, 107, 108, 109, 110, 111, 112, 113, 114, 115, 116, 117, 118, 119, 120, 121, 122, 123, 124, 125, 126, 127, 128, 129, 130, 131, 132] rfl (by decide +kernel)
set_option maxRecDepth 20000 in
theorem gX12_capacity_X12_canHave : GoodIn wsX12_capacity (wsV RX12 286 RX12 yX12_canHave wsX12_canHave) := goodIn_app (goodIn_of _ (by decide +kernel)) ggX12_capacity_X12_canHave
set_option maxRecDepth 20000 in
theorem ggX12_capacity_X12_laysNumber : GoodIn wsX12_capacity wsX12_laysNumber := goodIn_r _ [48, 49, 50, 51, 6, 52, 53, 3, 76, 77, 78, 79, 80, 81, 82, 83, 84, 85, 86, 87, 88, 89, 90, 91, 92, 93, 94, 95, 96, 97, 98, 99, 100, 101, 102, 103, 104, 105, 106, 107, 108, 109, 110, 111, 112, 113, 114, 115, 116, 117, 118, 119, 120, 121, 122, 123, 124, 125, 126, 127, 128, 129, 130, 131, 132] rfl (by decide +kernel)
set_option maxRecDepth 20000 in
theorem gX12_capacity_X12_laysNumber : GoodIn wsX12_capacity (wsV RX12 273 RX12 yX12_laysNumber wsX12_laysNumber) := goodIn_app (goodIn_of _ (by decide +kernel)) ggX12_capacity_X12_laysNumber
set_option maxRecDepth 20000 in
theorem ggX12_capacity_X12_isOverfull : GoodIn wsX12_capacity wsX12_isOverfull := goodIn_r _ [57, 58, 3, 76, 77, 78, 79, 80, 81, 82, 83, 84, 85, 86, 87, 88, 89, 90, 91, 92, 93, 94, 95, 96, 97, 98, 99, 100, 101, 102, 103, 104, 105, 106, 107, 108, 109, 110, 111, 112, 113, 114, 115, 116, 117, 118, 119, 120, 121, 122, 123, 124, 125, 126, 127, 128, 129, 130, 131, 132] rfl (by decide +kernel)
set_option maxRecDepth 20000 in
theorem gX12_capacity_X12_isOverfull : GoodIn wsX12_capacity (wsV RX12 289 RX12 yX12_isOverfull wsX12_isOverfull) := goodIn_app (goodIn_of _ (by decide +kernel)) ggX12_capacity_X12_isOverfull
set_option maxRecDepth 20000 in
theorem ggX12_capacity_X12_sendsOrder : GoodIn wsX12_capacity wsX12_sendsOrder := goodIn_r _ [62, 3, 63, 58, 53, 64, 65, 66, 67, 76, 77, 78, 79, 80, 81, 82, 83, 84, 85, 86, 87, 88, 89, 90, 91, 92, 93, 94, 95, 96, 97, 98, 99, 100, 101, 102, 103, 104, 105, 106, 107, 108, 109, 110, 111, 112, 113, 114, 115, 116, 117, 118, 119, 120, 121, 122, 123, 124, 125, 126, 127, 128, 129, 130, 131, 132] rfl (by decide +kernel)
set_option maxRecDepth 20000 in
theorem gX12_capacity_X12_sendsOrder : GoodIn wsX12_capacity (wsV RX12 296 RX12 yX12_sendsOrder wsX12_sendsOrder) := goodIn_app (goodIn_of _ (by decide +kernel)) ggX12_capacity_X12_sendsOrder
set_option maxRecDepth 20000 in
theorem ggX12_capacity_X12_makesRoom : GoodIn wsX12_capacity wsX12_makesRoom := goodIn_r _ [71, 12, 2, 72, 73, 74, 6, 75, 13, 34, 35, 36, 37, 38, 39, 40, 41, 42, 43, 44, 76, 77, 78, 79, 80, 81, 82, 83, 84, 85, 86, 87, 88, 89, 90, 91, 92, 93, 94, 95, 96, 97, 98, 99, 100, 101, 102, 103, 104, 105, 106, 107, 108, 109, 110, 111, 112, 113, 114, 115, 116, 117, 118, 119, 120, 121, 122, 123, 124, 125, 126, 127, 128, 129, 130, 131, 132] rfl (by decide +kernel)
set_option maxRecDepth 20000 in
theorem gX12_capacity_X12_makesRoom : GoodIn wsX12_capacity (wsV RX12 246 RX12 yX12_makesRoom wsX12_makesRoom) := goodIn_app (goodIn_of _ (by decide +kernel)) ggX12_capacity_X12_makesRoom
theorem dX12_capacity_0 : decode cX12_capacity 0 = .ok (.iload_n 1, 1) := by decide +kernel
theorem dX12_capacity_1 : decode cX12_capacity 1 = .ok (.i2l, 1) := by decide +kernel
theorem dX12_capacity_2 : decode cX12_capacity 2 = .ok (.lconst 0, 1) := by decide +kernel
theorem dX12_capacity_3 : decode cX12_capacity 3 = .ok (.aload_n 0, 1) := by decide +kernel
theorem dX12_capacity_4 : decode cX12_capacity 4 = .ok (.getfield 7, 3) := by decide +kernel
theorem dX12_capacity_7 : decode cX12_capacity 7 = .ok (.i2l, 1) := by decide +kernel
theorem dX12_capacity_8 : decode cX12_capacity 8 = .ok (.invokestatic 124, 3) := by decide +kernel
theorem dX12_capacity_11 : decode cX12_capacity 11 = .ok (.ifCond .ne 5, 3) := by decide +kernel
theorem dX12_capacity_14 : decode cX12_capacity 14 = .ok (.iconst (-1), 1) := by decide +kernel
theorem dX12_capacity_15 : decode cX12_capacity 15 = .ok (.ireturn, 1) := by decide +kernel
theorem dX12_capacity_16 : decode cX12_capacity 16 = .ok (.iload_n 1, 1) := by decide +kernel
theorem dX12_capacity_17 : decode cX12_capacity 17 = .ok (.aload_n 0, 1) := by decide +kernel
theorem dX12_capacity_18 : decode cX12_capacity 18 = .ok (.getfield 38, 3) := by decide +kernel
theorem dX12_capacity_21 : decode cX12_capacity 21 = .ok (.iconst 0, 1) := by decide +kernel
theorem dX12_capacity_22 : decode cX12_capacity 22 = .ok (.iaload, 1) := by decide +kernel
theorem dX12_capacity_23 : decode cX12_capacity 23 = .ok (.if_icmp .eq 12, 3) := by decide +kernel
theorem dX12_capacity_26 : decode cX12_capacity 26 = .ok (.aload_n 0, 1) := by decide +kernel
theorem dX12_capacity_27 : decode cX12_capacity 27 = .ok (.iconst 0, 1) := by decide +kernel
theorem dX12_capacity_28 : decode cX12_capacity 28 = .ok (.iload_n 1, 1) := by decide +kernel
theorem dX12_capacity_29 : decode cX12_capacity 29 = .ok (.invokevirtual 286, 3) := by decide +kernel
theorem dX12_capacity_32 : decode cX12_capacity 32 = .ok (.ifCond .ne 6, 3) := by decide +kernel
theorem dX12_capacity_35 : decode cX12_capacity 35 = .ok (.bipush (-2), 2) := by decide +kernel
theorem dX12_capacity_37 : decode cX12_capacity 37 = .ok (.ireturn, 1) := by decide +kernel
theorem dX12_capacity_38 : decode cX12_capacity 38 = .ok (.aload_n 0, 1) := by decide +kernel
theorem dX12_capacity_39 : decode cX12_capacity 39 = .ok (.iconst 0, 1) := by decide +kernel
theorem dX12_capacity_40 : decode cX12_capacity 40 = .ok (.putfield 267, 3) := by decide +kernel
theorem dX12_capacity_43 : decode cX12_capacity 43 = .ok (.aload_n 0, 1) := by decide +kernel
theorem dX12_capacity_44 : decode cX12_capacity 44 = .ok (.bipush 32, 2) := by decide +kernel
theorem dX12_capacity_46 : decode cX12_capacity 46 = .ok (.iconst 5, 1) := by decide +kernel
theorem dX12_capacity_47 : decode cX12_capacity 47 = .ok (.iload_n 1, 1) := by decide +kernel
theorem dX12_capacity_48 : decode cX12_capacity 48 = .ok (.invokevirtual 273, 3) := by decide +kernel
theorem dX12_capacity_51 : decode cX12_capacity 51 = .ok (.aload_n 0, 1) := by decide +kernel
theorem dX12_capacity_52 : decode cX12_capacity 52 = .ok (.invokevirtual 289, 3) := by decide +kernel
theorem dX12_capacity_55 : decode cX12_capacity 55 = .ok (.ifCond .eq 6, 3) := by decide +kernel
theorem dX12_capacity_58 : decode cX12_capacity 58 = .ok (.bipush (-3), 2) := by decide +kernel
theorem dX12_capacity_60 : decode cX12_capacity 60 = .ok (.ireturn, 1) := by decide +kernel
theorem dX12_capacity_61 : decode cX12_capacity 61 = .ok (.aload_n 0, 1) := by decide +kernel
theorem dX12_capacity_62 : decode cX12_capacity 62 = .ok (.iconst 0, 1) := by decide +kernel
theorem dX12_capacity_63 : decode cX12_capacity 63 = .ok (.iload_n 1, 1) := by decide +kernel
theorem dX12_capacity_64 : decode cX12_capacity 64 = .ok (.invokevirtual 296, 3) := by decide +kernel
theorem dX12_capacity_67 : decode cX12_capacity 67 = .ok (.aload_n 0, 1) := by decide +kernel
theorem dX12_capacity_68 : decode cX12_capacity 68 = .ok (.getfield 38, 3) := by decide +kernel
theorem dX12_capacity_71 : decode cX12_capacity 71 = .ok (.iconst 0, 1) := by decide +kernel
theorem dX12_capacity_72 : decode cX12_capacity 72 = .ok (.iload_n 1, 1) := by decide +kernel
theorem dX12_capacity_73 : decode cX12_capacity 73 = .ok (.iastore, 1) := by decide +kernel
theorem dX12_capacity_74 : decode cX12_capacity 74 = .ok (.aload_n 0, 1) := by decide +kernel
theorem dX12_capacity_75 : decode cX12_capacity 75 = .ok (.iconst 0, 1) := by decide +kernel
theorem dX12_capacity_76 : decode cX12_capacity 76 = .ok (.iconst 0, 1) := by decide +kernel
theorem dX12_capacity_77 : decode cX12_capacity 77 = .ok (.invokevirtual 246, 3) := by decide +kernel
theorem dX12_capacity_80 : decode cX12_capacity 80 = .ok (.ireturn, 1) := by decide +kernel
set_option maxRecDepth 20000 in
theorem ggX12_inserts_X12_isField : GoodIn wsX12_inserts wsX12_isField := goodIn_r _ [5, 6, 7, 8, 4, 9, 122, 123, 124, 125, 126, 127, 128, 129, 130, 131, 132, 133, 134, 135, 136, 137, 138, 139, 140, 141, 142, 143, 144, 145, 146, 147, 148, 149, 150, 151, 152, 153, 154, 155, 156, 157, 158, 159, 160, 161, 162, 163, 164, 165, 166, 167, 168, 169, 170, 171, 172, 173, 174, 175, 176, 177, 178] rfl (by decide +kernel)
set_option maxRecDepth 20000 in
theorem gX12_inserts_X12_isField : GoodIn wsX12_inserts (wsV RX12 316 RX12 yX12_isField wsX12_isField) := goodIn_app (goodIn_of _ (by decide +kernel)) ggX12_inserts_X12_isField
set_option maxRecDepth 20000 in
theorem ggX12_inserts_X12_insertsField : GoodIn wsX12_inserts wsX12_insertsField := goodIn_r _ [13, 14, 15, 16, 17, 18, 19, 4, 20, 21, 22, 23, 24, 25, 26, 27, 28, 29, 30, 31, 32, 33, 34, 35, 36, 37, 38, 39, 40, 41, 42, 43, 44, 45, 46, 47, 48, 49, 50, 51, 52, 53, 54, 55, 56, 57, 58, 59, 60, 61, 62, 63, 64, 65, 66, 67, 68, 69, 70, 71, 72, 73, 74, 75, 76, 77, 78, 79, 80, 81, 82, 83, 84, 85, 86, 87, 88, 89, 90, 91, 92, 93, 94, 95, 96, 97, 98, 99, 100, 101, 102, 103, 104, 105, 106, 107, 108, 109, 110, 111, 112, 113, 114, 115, 116, 117, 118, 119, 120, 121, 122, 123, 124, 125, 126, 127, 128, 129, 130, 131, 132, 133, 134, 135, 136, 137, 138, 139, 140, 141, 142, 143, 144, 145, 146, 147, 148, 149, 150, 151, 152, 153, 154, 155, 156, 157, 158, 159, 160, 161, 162, 163, 164, 165, 166, 167, 168, 169, 170, 171, 172, 173, 174, 175, 176, 177, 178] rfl (by decide +kernel)
set_option maxRecDepth 20000 in
theorem gX12_inserts_X12_insertsField : GoodIn wsX12_inserts (wsV RX12 319 RX12 yX12_insertsField wsX12_insertsField) := goodIn_app (goodIn_of _ (by decide +kernel)) ggX12_inserts_X12_insertsField
theorem dX12_inserts_0 : decode cX12_inserts 0 = .ok (.aload_n 0, 1) := by decide +kernel
theorem dX12_inserts_1 : decode cX12_inserts 1 = .ok (.iload_n 1, 1) := by decide +kernel
theorem dX12_inserts_2 : decode cX12_inserts 2 = .ok (.invokevirtual 316, 3) := by decide +kernel
theorem dX12_inserts_5 : decode cX12_inserts 5 = .ok (.ifCond .eq 11, 3) := by decide +kernel
theorem dX12_inserts_8 : decode cX12_inserts 8 = .ok (.aload_n 0, 1) := by decide +kernel
theorem dX12_inserts_9 : decode cX12_inserts 9 = .ok (.iload_n 1, 1) := by decide +kernel
theorem dX12_inserts_10 : decode cX12_inserts 10 = .ok (.invokevirtual 319, 3) := by decide +kernel
theorem dX12_inserts_13 : decode cX12_inserts 13 = .ok (.goto 4, 3) := by decide +kernel
theorem dX12_inserts_16 : decode cX12_inserts 16 = .ok (.iconst (-1), 1) := by decide +kernel
theorem dX12_inserts_17 : decode cX12_inserts 17 = .ok (.ireturn, 1) := by decide +kernel
set_option maxRecDepth 20000 in
theorem ggX12_repeats_X12_isThere : GoodIn wsX12_repeats wsX12_isThere := goodIn_r _ [7, 8, 2, 9, 10, 6, 11, 87, 88, 89, 90, 91, 92, 93, 94, 95, 96, 97, 98, 99, 100, 101, 102, 103, 104, 105, 106, 107, 108, 109, 110, 111, 112, 113, 114, 115, 116, 117, 118, 119, 120, 121, 122, 123, 124, 125, 126, 127, 128, 129, 130, 131, 132, 133, 134, 135, 136, 137, 138, 139, 140, 141, 142, 143] rfl (by decide +kernel)
set_option maxRecDepth 20000 in
theorem gX12_repeats_X12_isThere : GoodIn wsX12_repeats (wsV RX12 322 RX12 yX12_isThere wsX12_isThere) := goodIn_app (goodIn_of _ (by decide +kernel)) ggX12_repeats_X12_isThere
set_option maxRecDepth 20000 in
theorem ggX12_repeats_X12_laysNumber : GoodIn wsX12_repeats wsX12_laysNumber := goodIn_r _ [15, 16, 17, 18, 6, 19, 20, 1, 87, 88, 89, 90, 91, 92, 93, 94, 95, 96, 97, 98, 99, 100, 101, 102, 103, 104, 105, 106, 107, 108, 109, 110, 111, 112, 113, 114, 115, 116, 117, 118, 119, 120, 121, 122, 123, 124, 125, 126, 127, 128, 129, 130, 131, 132, 133, 134, 135, 136, 137, 138, 139, 140, 141, 142, 143] rfl (by decide +kernel)
set_option maxRecDepth 20000 in
theorem gX12_repeats_X12_laysNumber : GoodIn wsX12_repeats (wsV RX12 273 RX12 yX12_laysNumber wsX12_laysNumber) := goodIn_app (goodIn_of _ (by decide +kernel)) ggX12_repeats_X12_laysNumber
set_option maxRecDepth 20000 in
theorem ggX12_repeats_X12_fieldAt : GoodIn wsX12_repeats wsX12_fieldAt := goodIn_r _ [24, 25, 87, 88, 89, 90, 91, 92, 93, 94, 95, 96, 97, 98, 99, 100, 101, 102, 103, 104, 105, 106, 107, 108, 109, 110, 111, 112, 113, 114, 115, 116, 117, 118, 119, 120, 121, 122, 123, 124, 125, 126, 127, 128, 129, 130, 131, 132, 133, 134, 135, 136, 137, 138, 139, 140, 141, 142, 143] rfl (by decide +kernel)
set_option maxRecDepth 20000 in
theorem gX12_repeats_X12_fieldAt : GoodIn wsX12_repeats (wsV RX12 234 RX12 yX12_fieldAt wsX12_fieldAt) := goodIn_app (goodIn_of _ (by decide +kernel)) ggX12_repeats_X12_fieldAt
set_option maxRecDepth 20000 in
theorem ggX12_repeats_X12_inserted : GoodIn wsX12_repeats wsX12_inserted := goodIn_r _ [29, 30, 2, 31, 32, 33, 6, 34, 35, 36, 37, 38, 39, 40, 41, 8, 42, 43, 44, 45, 46, 47, 48, 49, 50, 51, 52, 53, 54, 55, 56, 57, 58, 59, 60, 21, 22, 23, 24, 25, 61, 62, 63, 64, 65, 1, 66, 67, 68, 69, 70, 71, 72, 73, 74, 75, 76, 77, 78, 79, 80, 81, 82, 20, 83, 84, 85, 86, 87, 88, 89, 90, 91, 92, 93, 94, 95, 96, 97, 98, 99, 100, 101, 102, 103, 104, 105, 106, 107, 108, 109, 110, 111, 112, 113, 114, 115, 116, 117, 118, 119, 120, 121, 122, 123, 124, 125, 126, 127, 128, 129, 130, 131, 132, 133, 134, 135, 136, 137, 138, 139, 140, 141, 142, 143] rfl (by decide +kernel)
set_option maxRecDepth 20000 in
theorem gX12_repeats_X12_inserted : GoodIn wsX12_repeats (wsV RX12 313 RX12 yX12_inserted wsX12_inserted) := goodIn_app (goodIn_of _ (by decide +kernel)) ggX12_repeats_X12_inserted
theorem dX12_repeats_0 : decode cX12_repeats 0 = .ok (.aload_n 0, 1) := by decide +kernel
theorem dX12_repeats_1 : decode cX12_repeats 1 = .ok (.iconst 0, 1) := by decide +kernel
theorem dX12_repeats_2 : decode cX12_repeats 2 = .ok (.iload_n 1, 1) := by decide +kernel
theorem dX12_repeats_3 : decode cX12_repeats 3 = .ok (.invokevirtual 322, 3) := by decide +kernel
theorem dX12_repeats_6 : decode cX12_repeats 6 = .ok (.ifCond .ne 5, 3) := by decide +kernel
theorem dX12_repeats_9 : decode cX12_repeats 9 = .ok (.iconst (-1), 1) := by decide +kernel
theorem dX12_repeats_10 : decode cX12_repeats 10 = .ok (.ireturn, 1) := by decide +kernel
theorem dX12_repeats_11 : decode cX12_repeats 11 = .ok (.aload_n 0, 1) := by decide +kernel
theorem dX12_repeats_12 : decode cX12_repeats 12 = .ok (.iconst 0, 1) := by decide +kernel
theorem dX12_repeats_13 : decode cX12_repeats 13 = .ok (.putfield 267, 3) := by decide +kernel
theorem dX12_repeats_16 : decode cX12_repeats 16 = .ok (.aload_n 0, 1) := by decide +kernel
theorem dX12_repeats_17 : decode cX12_repeats 17 = .ok (.iconst 0, 1) := by decide +kernel
theorem dX12_repeats_18 : decode cX12_repeats 18 = .ok (.iconst 5, 1) := by decide +kernel
theorem dX12_repeats_19 : decode cX12_repeats 19 = .ok (.aload_n 0, 1) := by decide +kernel
theorem dX12_repeats_20 : decode cX12_repeats 20 = .ok (.getfield 32, 3) := by decide +kernel
theorem dX12_repeats_23 : decode cX12_repeats 23 = .ok (.iconst 0, 1) := by decide +kernel
theorem dX12_repeats_24 : decode cX12_repeats 24 = .ok (.iaload, 1) := by decide +kernel
theorem dX12_repeats_25 : decode cX12_repeats 25 = .ok (.iconst 1, 1) := by decide +kernel
theorem dX12_repeats_26 : decode cX12_repeats 26 = .ok (.isub, 1) := by decide +kernel
theorem dX12_repeats_27 : decode cX12_repeats 27 = .ok (.iload_n 1, 1) := by decide +kernel
theorem dX12_repeats_28 : decode cX12_repeats 28 = .ok (.isub, 1) := by decide +kernel
theorem dX12_repeats_29 : decode cX12_repeats 29 = .ok (.invokevirtual 273, 3) := by decide +kernel
theorem dX12_repeats_32 : decode cX12_repeats 32 = .ok (.aload_n 0, 1) := by decide +kernel
theorem dX12_repeats_33 : decode cX12_repeats 33 = .ok (.aload_n 0, 1) := by decide +kernel
theorem dX12_repeats_34 : decode cX12_repeats 34 = .ok (.iconst 0, 1) := by decide +kernel
theorem dX12_repeats_35 : decode cX12_repeats 35 = .ok (.iload_n 1, 1) := by decide +kernel
theorem dX12_repeats_36 : decode cX12_repeats 36 = .ok (.invokevirtual 234, 3) := by decide +kernel
theorem dX12_repeats_39 : decode cX12_repeats 39 = .ok (.invokevirtual 313, 3) := by decide +kernel
theorem dX12_repeats_42 : decode cX12_repeats 42 = .ok (.ireturn, 1) := by decide +kernel
set_option maxRecDepth 20000 in
theorem ggX12_puts_X12_isField : GoodIn wsX12_puts wsX12_isField := goodIn_r _ [7, 8, 9, 10, 6, 11, 12, 13, 14, 15, 16, 17, 18, 19, 20, 21, 22, 23, 24, 25, 26, 27, 28, 29, 30, 31, 32, 33, 34, 35, 36, 37, 38, 39, 40, 41, 42, 43, 44, 45, 46, 47, 48, 49, 50, 51, 52, 53, 54, 55, 56, 57, 58, 59, 60, 61, 62, 63, 64, 65, 66, 67, 68] rfl (by decide +kernel)
set_option maxRecDepth 20000 in
theorem gX12_puts_X12_isField : GoodIn wsX12_puts (wsV RX12 316 RX12 yX12_isField wsX12_isField) := goodIn_app (goodIn_of _ (by decide +kernel)) ggX12_puts_X12_isField
theorem dX12_puts_0 : decode cX12_puts 0 = .ok (.aload_n 0, 1) := by decide +kernel
theorem dX12_puts_1 : decode cX12_puts 1 = .ok (.iload_n 1, 1) := by decide +kernel
theorem dX12_puts_2 : decode cX12_puts 2 = .ok (.invokevirtual 316, 3) := by decide +kernel
theorem dX12_puts_5 : decode cX12_puts 5 = .ok (.ifCond .ne 5, 3) := by decide +kernel
theorem dX12_puts_8 : decode cX12_puts 8 = .ok (.iconst (-1), 1) := by decide +kernel
theorem dX12_puts_9 : decode cX12_puts 9 = .ok (.ireturn, 1) := by decide +kernel
theorem dX12_puts_10 : decode cX12_puts 10 = .ok (.aload_n 0, 1) := by decide +kernel
theorem dX12_puts_11 : decode cX12_puts 11 = .ok (.getfield 325, 3) := by decide +kernel
theorem dX12_puts_14 : decode cX12_puts 14 = .ok (.bipush 6, 2) := by decide +kernel
theorem dX12_puts_16 : decode cX12_puts 16 = .ok (.if_icmp .ne 6, 3) := by decide +kernel
theorem dX12_puts_19 : decode cX12_puts 19 = .ok (.bipush (-3), 2) := by decide +kernel
theorem dX12_puts_21 : decode cX12_puts 21 = .ok (.ireturn, 1) := by decide +kernel
theorem dX12_puts_22 : decode cX12_puts 22 = .ok (.aload_n 0, 1) := by decide +kernel
theorem dX12_puts_23 : decode cX12_puts 23 = .ok (.getfield 78, 3) := by decide +kernel
theorem dX12_puts_26 : decode cX12_puts 26 = .ok (.aload_n 0, 1) := by decide +kernel
theorem dX12_puts_27 : decode cX12_puts 27 = .ok (.getfield 325, 3) := by decide +kernel
theorem dX12_puts_30 : decode cX12_puts 30 = .ok (.iload_n 1, 1) := by decide +kernel
theorem dX12_puts_31 : decode cX12_puts 31 = .ok (.iastore, 1) := by decide +kernel
theorem dX12_puts_32 : decode cX12_puts 32 = .ok (.aload_n 0, 1) := by decide +kernel
theorem dX12_puts_33 : decode cX12_puts 33 = .ok (.dup, 1) := by decide +kernel
theorem dX12_puts_34 : decode cX12_puts 34 = .ok (.getfield 325, 3) := by decide +kernel
theorem dX12_puts_37 : decode cX12_puts 37 = .ok (.iconst 1, 1) := by decide +kernel
theorem dX12_puts_38 : decode cX12_puts 38 = .ok (.iadd, 1) := by decide +kernel
theorem dX12_puts_39 : decode cX12_puts 39 = .ok (.putfield 325, 3) := by decide +kernel
theorem dX12_puts_42 : decode cX12_puts 42 = .ok (.aload_n 0, 1) := by decide +kernel
theorem dX12_puts_43 : decode cX12_puts 43 = .ok (.getfield 325, 3) := by decide +kernel
theorem dX12_puts_46 : decode cX12_puts 46 = .ok (.ireturn, 1) := by decide +kernel
theorem dX12_takes_0 : decode cX12_takes 0 = .ok (.aload_n 0, 1) := by decide +kernel
theorem dX12_takes_1 : decode cX12_takes 1 = .ok (.getfield 325, 3) := by decide +kernel
theorem dX12_takes_4 : decode cX12_takes 4 = .ok (.ifCond .ne 6, 3) := by decide +kernel
theorem dX12_takes_7 : decode cX12_takes 7 = .ok (.bipush (-2), 2) := by decide +kernel
theorem dX12_takes_9 : decode cX12_takes 9 = .ok (.ireturn, 1) := by decide +kernel
theorem dX12_takes_10 : decode cX12_takes 10 = .ok (.aload_n 0, 1) := by decide +kernel
theorem dX12_takes_11 : decode cX12_takes 11 = .ok (.dup, 1) := by decide +kernel
theorem dX12_takes_12 : decode cX12_takes 12 = .ok (.getfield 325, 3) := by decide +kernel
theorem dX12_takes_15 : decode cX12_takes 15 = .ok (.iconst 1, 1) := by decide +kernel
theorem dX12_takes_16 : decode cX12_takes 16 = .ok (.isub, 1) := by decide +kernel
theorem dX12_takes_17 : decode cX12_takes 17 = .ok (.putfield 325, 3) := by decide +kernel
theorem dX12_takes_20 : decode cX12_takes 20 = .ok (.aload_n 0, 1) := by decide +kernel
theorem dX12_takes_21 : decode cX12_takes 21 = .ok (.getfield 78, 3) := by decide +kernel
theorem dX12_takes_24 : decode cX12_takes 24 = .ok (.aload_n 0, 1) := by decide +kernel
theorem dX12_takes_25 : decode cX12_takes 25 = .ok (.getfield 325, 3) := by decide +kernel
theorem dX12_takes_28 : decode cX12_takes 28 = .ok (.iaload, 1) := by decide +kernel
theorem dX12_takes_29 : decode cX12_takes 29 = .ok (.ireturn, 1) := by decide +kernel
theorem dX12_isAtRisk_0 : decode cX12_isAtRisk 0 = .ok (.aload_n 0, 1) := by decide +kernel
theorem dX12_isAtRisk_1 : decode cX12_isAtRisk 1 = .ok (.getfield 62, 3) := by decide +kernel
theorem dX12_isAtRisk_4 : decode cX12_isAtRisk 4 = .ok (.iload_n 1, 1) := by decide +kernel
theorem dX12_isAtRisk_5 : decode cX12_isAtRisk 5 = .ok (.baload, 1) := by decide +kernel
theorem dX12_isAtRisk_6 : decode cX12_isAtRisk 6 = .ok (.ifCond .ne 20, 3) := by decide +kernel
theorem dX12_isAtRisk_9 : decode cX12_isAtRisk 9 = .ok (.aload_n 0, 1) := by decide +kernel
theorem dX12_isAtRisk_10 : decode cX12_isAtRisk 10 = .ok (.getfield 47, 3) := by decide +kernel
theorem dX12_isAtRisk_13 : decode cX12_isAtRisk 13 = .ok (.iload_n 1, 1) := by decide +kernel
theorem dX12_isAtRisk_14 : decode cX12_isAtRisk 14 = .ok (.iaload, 1) := by decide +kernel
theorem dX12_isAtRisk_15 : decode cX12_isAtRisk 15 = .ok (.aload_n 0, 1) := by decide +kernel
theorem dX12_isAtRisk_16 : decode cX12_isAtRisk 16 = .ok (.getfield 258, 3) := by decide +kernel
theorem dX12_isAtRisk_19 : decode cX12_isAtRisk 19 = .ok (.if_icmp .le 7, 3) := by decide +kernel
theorem dX12_isAtRisk_22 : decode cX12_isAtRisk 22 = .ok (.iconst 1, 1) := by decide +kernel
theorem dX12_isAtRisk_23 : decode cX12_isAtRisk 23 = .ok (.goto 4, 3) := by decide +kernel
theorem dX12_isAtRisk_26 : decode cX12_isAtRisk 26 = .ok (.iconst 0, 1) := by decide +kernel
theorem dX12_isAtRisk_27 : decode cX12_isAtRisk 27 = .ok (.ireturn, 1) := by decide +kernel
set_option maxRecDepth 20000 in
theorem ggX12_risks_X12_isAtRisk : GoodIn wsX12_risks wsX12_isAtRisk := goodIn_r _ [6, 7, 8, 9, 10, 11, 12, 13, 14, 15, 16, 17, 18, 19, 20, 21, 22, 23, 24, 25, 26, 27, 28, 29, 30, 31, 32, 33, 34, 35, 36, 37, 38, 39, 40, 41, 42, 43, 44, 45, 46, 47, 48, 49, 50, 51, 52, 53, 54, 55, 56, 57, 58, 59, 60, 61, 62, 63, 64, 65, 66] rfl (by decide +kernel)
set_option maxRecDepth 20000 in
theorem gX12_risks_X12_isAtRisk : GoodIn wsX12_risks (wsV RX12 328 RX12 yX12_isAtRisk wsX12_isAtRisk) := goodIn_app (goodIn_of _ (by decide +kernel)) ggX12_risks_X12_isAtRisk
theorem dX12_risks_0 : decode cX12_risks 0 = .ok (.iconst 0, 1) := by decide +kernel
theorem dX12_risks_1 : decode cX12_risks 1 = .ok (.istore_n 1, 1) := by decide +kernel
theorem dX12_risks_2 : decode cX12_risks 2 = .ok (.iconst 0, 1) := by decide +kernel
theorem dX12_risks_3 : decode cX12_risks 3 = .ok (.istore_n 2, 1) := by decide +kernel
theorem dX12_risks_4 : decode cX12_risks 4 = .ok (.iload_n 2, 1) := by decide +kernel
theorem dX12_risks_5 : decode cX12_risks 5 = .ok (.aload_n 0, 1) := by decide +kernel
theorem dX12_risks_6 : decode cX12_risks 6 = .ok (.getfield 252, 3) := by decide +kernel
theorem dX12_risks_9 : decode cX12_risks 9 = .ok (.if_icmp .ge 25, 3) := by decide +kernel
theorem dX12_risks_12 : decode cX12_risks 12 = .ok (.iload_n 1, 1) := by decide +kernel
theorem dX12_risks_13 : decode cX12_risks 13 = .ok (.aload_n 0, 1) := by decide +kernel
theorem dX12_risks_14 : decode cX12_risks 14 = .ok (.iload_n 2, 1) := by decide +kernel
theorem dX12_risks_15 : decode cX12_risks 15 = .ok (.invokevirtual 328, 3) := by decide +kernel
theorem dX12_risks_18 : decode cX12_risks 18 = .ok (.ifCond .eq 7, 3) := by decide +kernel
theorem dX12_risks_21 : decode cX12_risks 21 = .ok (.iconst 1, 1) := by decide +kernel
theorem dX12_risks_22 : decode cX12_risks 22 = .ok (.goto 4, 3) := by decide +kernel
theorem dX12_risks_25 : decode cX12_risks 25 = .ok (.iconst 0, 1) := by decide +kernel
theorem dX12_risks_26 : decode cX12_risks 26 = .ok (.iadd, 1) := by decide +kernel
theorem dX12_risks_27 : decode cX12_risks 27 = .ok (.istore_n 1, 1) := by decide +kernel
theorem dX12_risks_28 : decode cX12_risks 28 = .ok (.iinc 2 1, 3) := by decide +kernel
theorem dX12_risks_31 : decode cX12_risks 31 = .ok (.goto (-27), 3) := by decide +kernel
theorem dX12_risks_34 : decode cX12_risks 34 = .ok (.iload_n 1, 1) := by decide +kernel
theorem dX12_risks_35 : decode cX12_risks 35 = .ok (.ireturn, 1) := by decide +kernel
theorem dX12_laysToLetter_0 : decode cX12_laysToLetter 0 = .ok (.iconst 0, 1) := by decide +kernel
theorem dX12_laysToLetter_1 : decode cX12_laysToLetter 1 = .ok (.istore_n 1, 1) := by decide +kernel
theorem dX12_laysToLetter_2 : decode cX12_laysToLetter 2 = .ok (.iload_n 1, 1) := by decide +kernel
theorem dX12_laysToLetter_3 : decode cX12_laysToLetter 3 = .ok (.aload_n 0, 1) := by decide +kernel
theorem dX12_laysToLetter_4 : decode cX12_laysToLetter 4 = .ok (.getfield 267, 3) := by decide +kernel
theorem dX12_laysToLetter_7 : decode cX12_laysToLetter 7 = .ok (.if_icmp .ge 34, 3) := by decide +kernel
theorem dX12_laysToLetter_10 : decode cX12_laysToLetter 10 = .ok (.aload_n 0, 1) := by decide +kernel
theorem dX12_laysToLetter_11 : decode cX12_laysToLetter 11 = .ok (.getfield 84, 3) := by decide +kernel
theorem dX12_laysToLetter_14 : decode cX12_laysToLetter 14 = .ok (.aload_n 0, 1) := by decide +kernel
theorem dX12_laysToLetter_15 : decode cX12_laysToLetter 15 = .ok (.getfield 331, 3) := by decide +kernel
theorem dX12_laysToLetter_18 : decode cX12_laysToLetter 18 = .ok (.aload_n 0, 1) := by decide +kernel
theorem dX12_laysToLetter_19 : decode cX12_laysToLetter 19 = .ok (.getfield 99, 3) := by decide +kernel
theorem dX12_laysToLetter_22 : decode cX12_laysToLetter 22 = .ok (.iload_n 1, 1) := by decide +kernel
theorem dX12_laysToLetter_23 : decode cX12_laysToLetter 23 = .ok (.iaload, 1) := by decide +kernel
theorem dX12_laysToLetter_24 : decode cX12_laysToLetter 24 = .ok (.iastore, 1) := by decide +kernel
theorem dX12_laysToLetter_25 : decode cX12_laysToLetter 25 = .ok (.aload_n 0, 1) := by decide +kernel
theorem dX12_laysToLetter_26 : decode cX12_laysToLetter 26 = .ok (.dup, 1) := by decide +kernel
theorem dX12_laysToLetter_27 : decode cX12_laysToLetter 27 = .ok (.getfield 331, 3) := by decide +kernel
theorem dX12_laysToLetter_30 : decode cX12_laysToLetter 30 = .ok (.iconst 1, 1) := by decide +kernel
theorem dX12_laysToLetter_31 : decode cX12_laysToLetter 31 = .ok (.iadd, 1) := by decide +kernel
theorem dX12_laysToLetter_32 : decode cX12_laysToLetter 32 = .ok (.putfield 331, 3) := by decide +kernel
theorem dX12_laysToLetter_35 : decode cX12_laysToLetter 35 = .ok (.iinc 1 1, 3) := by decide +kernel
theorem dX12_laysToLetter_38 : decode cX12_laysToLetter 38 = .ok (.goto (-36), 3) := by decide +kernel
theorem dX12_laysToLetter_41 : decode cX12_laysToLetter 41 = .ok (.aload_n 0, 1) := by decide +kernel
theorem dX12_laysToLetter_42 : decode cX12_laysToLetter 42 = .ok (.iconst 0, 1) := by decide +kernel
theorem dX12_laysToLetter_43 : decode cX12_laysToLetter 43 = .ok (.putfield 267, 3) := by decide +kernel
theorem dX12_laysToLetter_46 : decode cX12_laysToLetter 46 = .ok (.return_, 1) := by decide +kernel
theorem dX12_refersTo_0 : decode cX12_refersTo 0 = .ok (.aload_n 0, 1) := by decide +kernel
theorem dX12_refersTo_1 : decode cX12_refersTo 1 = .ok (.getfield 81, 3) := by decide +kernel
theorem dX12_refersTo_4 : decode cX12_refersTo 4 = .ok (.aload_n 0, 1) := by decide +kernel
theorem dX12_refersTo_5 : decode cX12_refersTo 5 = .ok (.getfield 249, 3) := by decide +kernel
theorem dX12_refersTo_8 : decode cX12_refersTo 8 = .ok (.iload_n 1, 1) := by decide +kernel
theorem dX12_refersTo_9 : decode cX12_refersTo 9 = .ok (.iastore, 1) := by decide +kernel
theorem dX12_refersTo_10 : decode cX12_refersTo 10 = .ok (.return_, 1) := by decide +kernel
set_option maxRecDepth 20000 in
theorem ggX12_laysLike_X12_laysNumber : GoodIn wsX12_laysLike wsX12_laysNumber := goodIn_r _ [6, 7, 8, 9, 5, 10, 11, 1, 18, 19, 20, 21, 22, 23, 24, 25, 26, 27, 28, 29, 30, 31, 32, 33, 34, 35, 36, 37, 38, 39, 40, 41, 42, 43, 44, 45, 46, 47, 48, 49, 50, 51, 52, 53, 54, 55, 56, 57, 58, 59, 60, 61, 62, 63, 64, 65, 66, 67, 68, 69, 70, 71, 72, 73, 74] rfl (by decide +kernel)
set_option maxRecDepth 20000 in
theorem gX12_laysLike_X12_laysNumber : GoodIn wsX12_laysLike (wsV RX12 273 RX12 yX12_laysNumber wsX12_laysNumber) := goodIn_app (goodIn_of _ (by decide +kernel)) ggX12_laysLike_X12_laysNumber
set_option maxRecDepth 20000 in
theorem ggX12_laysLike_X12_refersTo : GoodIn wsX12_laysLike wsX12_refersTo := goodIn_r _ [15, 16, 17, 18, 19, 20, 21, 22, 23, 24, 25, 26, 27, 28, 29, 30, 31, 32, 33, 34, 35, 36, 37, 38, 39, 40, 41, 42, 43, 44, 45, 46, 47, 48, 49, 50, 51, 52, 53, 54, 55, 56, 57, 58, 59, 60, 61, 62, 63, 64, 65, 66, 67, 68, 69, 70, 71, 72, 73, 74] rfl (by decide +kernel)
set_option maxRecDepth 20000 in
theorem gX12_laysLike_X12_refersTo : GoodIn wsX12_laysLike (wsV RX12 334 RX12 yX12_refersTo wsX12_refersTo) := goodIn_app (goodIn_of _ (by decide +kernel)) ggX12_laysLike_X12_refersTo
theorem dX12_laysLike_0 : decode cX12_laysLike 0 = .ok (.aload_n 0, 1) := by decide +kernel
theorem dX12_laysLike_1 : decode cX12_laysLike 1 = .ok (.iconst 0, 1) := by decide +kernel
theorem dX12_laysLike_2 : decode cX12_laysLike 2 = .ok (.putfield 267, 3) := by decide +kernel
theorem dX12_laysLike_5 : decode cX12_laysLike 5 = .ok (.iload_n 1, 1) := by decide +kernel
theorem dX12_laysLike_6 : decode cX12_laysLike 6 = .ok (.iload_n 2, 1) := by decide +kernel
theorem dX12_laysLike_7 : decode cX12_laysLike 7 = .ok (.if_icmp .ge 20, 3) := by decide +kernel
theorem dX12_laysLike_10 : decode cX12_laysLike 10 = .ok (.aload_n 0, 1) := by decide +kernel
theorem dX12_laysLike_11 : decode cX12_laysLike 11 = .ok (.sipush 128, 3) := by decide +kernel
theorem dX12_laysLike_14 : decode cX12_laysLike 14 = .ok (.bipush 6, 2) := by decide +kernel
theorem dX12_laysLike_16 : decode cX12_laysLike 16 = .ok (.iload_n 2, 1) := by decide +kernel
theorem dX12_laysLike_17 : decode cX12_laysLike 17 = .ok (.iconst 1, 1) := by decide +kernel
theorem dX12_laysLike_18 : decode cX12_laysLike 18 = .ok (.isub, 1) := by decide +kernel
theorem dX12_laysLike_19 : decode cX12_laysLike 19 = .ok (.iload_n 1, 1) := by decide +kernel
theorem dX12_laysLike_20 : decode cX12_laysLike 20 = .ok (.isub, 1) := by decide +kernel
theorem dX12_laysLike_21 : decode cX12_laysLike 21 = .ok (.invokevirtual 273, 3) := by decide +kernel
theorem dX12_laysLike_24 : decode cX12_laysLike 24 = .ok (.goto 13, 3) := by decide +kernel
theorem dX12_laysLike_27 : decode cX12_laysLike 27 = .ok (.aload_n 0, 1) := by decide +kernel
theorem dX12_laysLike_28 : decode cX12_laysLike 28 = .ok (.bipush 16, 2) := by decide +kernel
theorem dX12_laysLike_30 : decode cX12_laysLike 30 = .ok (.iconst 4, 1) := by decide +kernel
theorem dX12_laysLike_31 : decode cX12_laysLike 31 = .ok (.iload_n 1, 1) := by decide +kernel
theorem dX12_laysLike_32 : decode cX12_laysLike 32 = .ok (.iload_n 2, 1) := by decide +kernel
theorem dX12_laysLike_33 : decode cX12_laysLike 33 = .ok (.isub, 1) := by decide +kernel
theorem dX12_laysLike_34 : decode cX12_laysLike 34 = .ok (.invokevirtual 273, 3) := by decide +kernel
theorem dX12_laysLike_37 : decode cX12_laysLike 37 = .ok (.aload_n 0, 1) := by decide +kernel
theorem dX12_laysLike_38 : decode cX12_laysLike 38 = .ok (.iload_n 1, 1) := by decide +kernel
theorem dX12_laysLike_39 : decode cX12_laysLike 39 = .ok (.invokevirtual 334, 3) := by decide +kernel
theorem dX12_laysLike_42 : decode cX12_laysLike 42 = .ok (.return_, 1) := by decide +kernel
set_option maxRecDepth 20000 in
theorem ggX12_laysByName_X12_stillOf : GoodIn wsX12_laysByName wsX12_stillOf := goodIn_r _ [7, 8, 9, 10, 11, 6, 12, 13, 14, 15, 16, 17, 18, 2, 19, 57, 58, 59, 60, 61, 62, 63, 64, 65, 66, 67, 68, 69, 70, 71, 72, 73, 74, 75, 76, 77, 78, 79, 80, 81, 82, 83, 84, 85, 86, 87, 88, 89, 90, 91, 92, 93, 94, 95, 96, 97, 98, 99, 100, 101, 102, 103, 104, 105, 106, 107, 108, 109, 110, 111, 112, 113] rfl (by decide +kernel)
set_option maxRecDepth 20000 in
theorem gX12_laysByName_X12_stillOf : GoodIn wsX12_laysByName (wsV RX12 299 RX12 yX12_stillOf wsX12_stillOf) := goodIn_app (goodIn_of _ (by decide +kernel)) ggX12_laysByName_X12_stillOf
set_option maxRecDepth 20000 in
theorem ggX12_laysByName_X12_latest : GoodIn wsX12_laysByName wsX12_latest := goodIn_r _ [23, 24, 25, 26, 27, 6, 28, 29, 30, 31, 32, 33, 15, 16, 17, 18, 2, 19, 57, 58, 59, 60, 61, 62, 63, 64, 65, 66, 67, 68, 69, 70, 71, 72, 73, 74, 75, 76, 77, 78, 79, 80, 81, 82, 83, 84, 85, 86, 87, 88, 89, 90, 91, 92, 93, 94, 95, 96, 97, 98, 99, 100, 101, 102, 103, 104, 105, 106, 107, 108, 109, 110, 111, 112, 113] rfl (by decide +kernel)
set_option maxRecDepth 20000 in
theorem gX12_laysByName_X12_latest : GoodIn wsX12_laysByName (wsV RX12 303 RX12 yX12_latest wsX12_latest) := goodIn_app (goodIn_of _ (by decide +kernel)) ggX12_laysByName_X12_latest
set_option maxRecDepth 20000 in
theorem ggX12_laysByName_X12_laysNumber : GoodIn wsX12_laysByName wsX12_laysNumber := goodIn_r _ [37, 38, 39, 40, 6, 41, 42, 1, 57, 58, 59, 60, 61, 62, 63, 64, 65, 66, 67, 68, 69, 70, 71, 72, 73, 74, 75, 76, 77, 78, 79, 80, 81, 82, 83, 84, 85, 86, 87, 88, 89, 90, 91, 92, 93, 94, 95, 96, 97, 98, 99, 100, 101, 102, 103, 104, 105, 106, 107, 108, 109, 110, 111, 112, 113] rfl (by decide +kernel)
set_option maxRecDepth 20000 in
theorem gX12_laysByName_X12_laysNumber : GoodIn wsX12_laysByName (wsV RX12 273 RX12 yX12_laysNumber wsX12_laysNumber) := goodIn_app (goodIn_of _ (by decide +kernel)) ggX12_laysByName_X12_laysNumber
set_option maxRecDepth 20000 in
theorem ggX12_laysByName_X12_refersTo : GoodIn wsX12_laysByName wsX12_refersTo := goodIn_r _ [46, 47, 48, 57, 58, 59, 60, 61, 62, 63, 64, 65, 66, 67, 68, 69, 70, 71, 72, 73, 74, 75, 76, 77, 78, 79, 80, 81, 82, 83, 84, 85, 86, 87, 88, 89, 90, 91, 92, 93, 94, 95, 96, 97, 98, 99, 100, 101, 102, 103, 104, 105, 106, 107, 108, 109, 110, 111, 112, 113] rfl (by decide +kernel)
set_option maxRecDepth 20000 in
theorem gX12_laysByName_X12_refersTo : GoodIn wsX12_laysByName (wsV RX12 334 RX12 yX12_refersTo wsX12_refersTo) := goodIn_app (goodIn_of _ (by decide +kernel)) ggX12_laysByName_X12_refersTo
set_option maxRecDepth 20000 in
theorem ggX12_laysByName_X12_laysName : GoodIn wsX12_laysByName wsX12_laysName := goodIn_r _ [52, 2, 19, 38, 39, 40, 6, 41, 42, 1, 57, 58, 59, 60, 61, 62, 63, 64, 65, 66, 67, 68, 69, 70, 71, 72, 73, 74, 75, 76, 77, 78, 79, 80, 81, 82, 83, 84, 85, 86, 87, 88, 89, 90, 91, 92, 93, 94, 95, 96, 97, 98, 99, 100, 101, 102, 103, 104, 105, 106, 107, 108, 109, 110, 111, 112, 113] rfl (by decide +kernel)
set_option maxRecDepth 20000 in
theorem gX12_laysByName_X12_laysName : GoodIn wsX12_laysByName (wsV RX12 307 RX12 yX12_laysName wsX12_laysName) := goodIn_app (goodIn_of _ (by decide +kernel)) ggX12_laysByName_X12_laysName
set_option maxRecDepth 20000 in
theorem ggX12_laysByName_X12_laysValue : GoodIn wsX12_laysByName wsX12_laysValue := goodIn_r _ [56, 13, 14, 34, 35, 36, 6, 37, 38, 39, 40, 41, 42, 1, 57, 58, 59, 60, 61, 62, 63, 64, 65, 66, 67, 68, 69, 70, 71, 72, 73, 74, 75, 76, 77, 78, 79, 80, 81, 82, 83, 84, 85, 86, 87, 88, 89, 90, 91, 92, 93, 94, 95, 96, 97, 98, 99, 100, 101, 102, 103, 104, 105, 106, 107, 108, 109, 110, 111, 112, 113] rfl (by decide +kernel)
set_option maxRecDepth 20000 in
theorem gX12_laysByName_X12_laysValue : GoodIn wsX12_laysByName (wsV RX12 310 RX12 yX12_laysValue wsX12_laysValue) := goodIn_app (goodIn_of _ (by decide +kernel)) ggX12_laysByName_X12_laysValue
theorem dX12_laysByName_0 : decode cX12_laysByName 0 = .ok (.aload_n 0, 1) := by decide +kernel
theorem dX12_laysByName_1 : decode cX12_laysByName 1 = .ok (.iconst 0, 1) := by decide +kernel
theorem dX12_laysByName_2 : decode cX12_laysByName 2 = .ok (.putfield 267, 3) := by decide +kernel
theorem dX12_laysByName_5 : decode cX12_laysByName 5 = .ok (.aload_n 0, 1) := by decide +kernel
theorem dX12_laysByName_6 : decode cX12_laysByName 6 = .ok (.iload_n 1, 1) := by decide +kernel
theorem dX12_laysByName_7 : decode cX12_laysByName 7 = .ok (.iconst 0, 1) := by decide +kernel
theorem dX12_laysByName_8 : decode cX12_laysByName 8 = .ok (.invokevirtual 299, 3) := by decide +kernel
theorem dX12_laysByName_11 : decode cX12_laysByName 11 = .ok (.istore 4, 2) := by decide +kernel
theorem dX12_laysByName_13 : decode cX12_laysByName 13 = .ok (.aload_n 0, 1) := by decide +kernel
theorem dX12_laysByName_14 : decode cX12_laysByName 14 = .ok (.iload_n 1, 1) := by decide +kernel
theorem dX12_laysByName_15 : decode cX12_laysByName 15 = .ok (.iload_n 2, 1) := by decide +kernel
theorem dX12_laysByName_16 : decode cX12_laysByName 16 = .ok (.iconst 0, 1) := by decide +kernel
theorem dX12_laysByName_17 : decode cX12_laysByName 17 = .ok (.invokevirtual 303, 3) := by decide +kernel
theorem dX12_laysByName_20 : decode cX12_laysByName 20 = .ok (.istore 5, 2) := by decide +kernel
theorem dX12_laysByName_22 : decode cX12_laysByName 22 = .ok (.iload 4, 2) := by decide +kernel
theorem dX12_laysByName_24 : decode cX12_laysByName 24 = .ok (.bipush (-9), 2) := by decide +kernel
theorem dX12_laysByName_26 : decode cX12_laysByName 26 = .ok (.if_icmp .eq 15, 3) := by decide +kernel
theorem dX12_laysByName_29 : decode cX12_laysByName 29 = .ok (.aload_n 0, 1) := by decide +kernel
theorem dX12_laysByName_30 : decode cX12_laysByName 30 = .ok (.bipush 80, 2) := by decide +kernel
theorem dX12_laysByName_32 : decode cX12_laysByName 32 = .ok (.iconst 4, 1) := by decide +kernel
theorem dX12_laysByName_33 : decode cX12_laysByName 33 = .ok (.iload 4, 2) := by decide +kernel
theorem dX12_laysByName_35 : decode cX12_laysByName 35 = .ok (.invokevirtual 273, 3) := by decide +kernel
theorem dX12_laysByName_38 : decode cX12_laysByName 38 = .ok (.goto 69, 3) := by decide +kernel
theorem dX12_laysByName_41 : decode cX12_laysByName 41 = .ok (.iload 5, 2) := by decide +kernel
theorem dX12_laysByName_43 : decode cX12_laysByName 43 = .ok (.bipush (-9), 2) := by decide +kernel
theorem dX12_laysByName_45 : decode cX12_laysByName 45 = .ok (.if_icmp .eq 44, 3) := by decide +kernel
theorem dX12_laysByName_48 : decode cX12_laysByName 48 = .ok (.aload_n 0, 1) := by decide +kernel
theorem dX12_laysByName_49 : decode cX12_laysByName 49 = .ok (.iload 5, 2) := by decide +kernel
theorem dX12_laysByName_51 : decode cX12_laysByName 51 = .ok (.invokevirtual 334, 3) := by decide +kernel
theorem dX12_laysByName_54 : decode cX12_laysByName 54 = .ok (.iload 5, 2) := by decide +kernel
theorem dX12_laysByName_56 : decode cX12_laysByName 56 = .ok (.iload_n 3, 1) := by decide +kernel
theorem dX12_laysByName_57 : decode cX12_laysByName 57 = .ok (.if_icmp .ge 19, 3) := by decide +kernel
theorem dX12_laysByName_60 : decode cX12_laysByName 60 = .ok (.aload_n 0, 1) := by decide +kernel
theorem dX12_laysByName_61 : decode cX12_laysByName 61 = .ok (.bipush 64, 2) := by decide +kernel
theorem dX12_laysByName_63 : decode cX12_laysByName 63 = .ok (.iconst 4, 1) := by decide +kernel
theorem dX12_laysByName_64 : decode cX12_laysByName 64 = .ok (.iload_n 3, 1) := by decide +kernel
theorem dX12_laysByName_65 : decode cX12_laysByName 65 = .ok (.iconst 1, 1) := by decide +kernel
theorem dX12_laysByName_66 : decode cX12_laysByName 66 = .ok (.isub, 1) := by decide +kernel
theorem dX12_laysByName_67 : decode cX12_laysByName 67 = .ok (.iload 5, 2) := by decide +kernel
theorem dX12_laysByName_69 : decode cX12_laysByName 69 = .ok (.isub, 1) := by decide +kernel
theorem dX12_laysByName_70 : decode cX12_laysByName 70 = .ok (.invokevirtual 273, 3) := by decide +kernel
theorem dX12_laysByName_73 : decode cX12_laysByName 73 = .ok (.goto 34, 3) := by decide +kernel
theorem dX12_laysByName_76 : decode cX12_laysByName 76 = .ok (.aload_n 0, 1) := by decide +kernel
theorem dX12_laysByName_77 : decode cX12_laysByName 77 = .ok (.iconst 0, 1) := by decide +kernel
theorem dX12_laysByName_78 : decode cX12_laysByName 78 = .ok (.iconst 3, 1) := by decide +kernel
theorem dX12_laysByName_79 : decode cX12_laysByName 79 = .ok (.iload 5, 2) := by decide +kernel
theorem dX12_laysByName_81 : decode cX12_laysByName 81 = .ok (.iload_n 3, 1) := by decide +kernel
theorem dX12_laysByName_82 : decode cX12_laysByName 82 = .ok (.isub, 1) := by decide +kernel
theorem dX12_laysByName_83 : decode cX12_laysByName 83 = .ok (.invokevirtual 273, 3) := by decide +kernel
theorem dX12_laysByName_86 : decode cX12_laysByName 86 = .ok (.goto 21, 3) := by decide +kernel
theorem dX12_laysByName_89 : decode cX12_laysByName 89 = .ok (.aload_n 0, 1) := by decide +kernel
theorem dX12_laysByName_90 : decode cX12_laysByName 90 = .ok (.bipush 32, 2) := by decide +kernel
theorem dX12_laysByName_92 : decode cX12_laysByName 92 = .ok (.iconst 3, 1) := by decide +kernel
theorem dX12_laysByName_93 : decode cX12_laysByName 93 = .ok (.aload_n 0, 1) := by decide +kernel
theorem dX12_laysByName_94 : decode cX12_laysByName 94 = .ok (.getfield 16, 3) := by decide +kernel
theorem dX12_laysByName_97 : decode cX12_laysByName 97 = .ok (.iload_n 1, 1) := by decide +kernel
theorem dX12_laysByName_98 : decode cX12_laysByName 98 = .ok (.iaload, 1) := by decide +kernel
theorem dX12_laysByName_99 : decode cX12_laysByName 99 = .ok (.invokevirtual 273, 3) := by decide +kernel
theorem dX12_laysByName_102 : decode cX12_laysByName 102 = .ok (.aload_n 0, 1) := by decide +kernel
theorem dX12_laysByName_103 : decode cX12_laysByName 103 = .ok (.iload_n 1, 1) := by decide +kernel
theorem dX12_laysByName_104 : decode cX12_laysByName 104 = .ok (.invokevirtual 307, 3) := by decide +kernel
theorem dX12_laysByName_107 : decode cX12_laysByName 107 = .ok (.aload_n 0, 1) := by decide +kernel
theorem dX12_laysByName_108 : decode cX12_laysByName 108 = .ok (.iload_n 1, 1) := by decide +kernel
theorem dX12_laysByName_109 : decode cX12_laysByName 109 = .ok (.invokevirtual 310, 3) := by decide +kernel
theorem dX12_laysByName_112 : decode cX12_laysByName 112 = .ok (.return_, 1) := by decide +kernel
set_option maxRecDepth 20000 in
theorem ggX12_laysField_X12_refersTo : GoodIn wsX12_laysField wsX12_refersTo := goodIn_r _ [9, 10, 4, 132, 133, 134, 135, 136, 137, 138, 139, 140, 141, 142, 143, 144, 145, 146, 147, 148, 149, 150, 151, 152, 153, 154, 155, 156, 157, 158, 159, 160, 161, 162, 163, 164, 165, 166, 167, 168, 169, 170, 171, 172, 173, 174, 175, 176, 177, 178, 179, 180, 181, 182, 183, 184, 185, 186, 187, 188] rfl (by decide +kernel)
set_option maxRecDepth 20000 in
theorem gX12_laysField_X12_refersTo : GoodIn wsX12_laysField (wsV RX12 334 RX12 yX12_refersTo wsX12_refersTo) := goodIn_app (goodIn_of _ (by decide +kernel)) ggX12_laysField_X12_refersTo
set_option maxRecDepth 20000 in
theorem ggX12_laysField_X12_stillOf : GoodIn wsX12_laysField wsX12_stillOf := goodIn_r _ [14, 15, 16, 17, 18, 8, 19, 20, 21, 22, 23, 24, 25, 26, 27, 132, 133, 134, 135, 136, 137, 138, 139, 140, 141, 142, 143, 144, 145, 146, 147, 148, 149, 150, 151, 152, 153, 154, 155, 156, 157, 158, 159, 160, 161, 162, 163, 164, 165, 166, 167, 168, 169, 170, 171, 172, 173, 174, 175, 176, 177, 178, 179, 180, 181, 182, 183, 184, 185, 186, 187, 188] rfl (by decide +kernel)
set_option maxRecDepth 20000 in
theorem gX12_laysField_X12_stillOf : GoodIn wsX12_laysField (wsV RX12 299 RX12 yX12_stillOf wsX12_stillOf) := goodIn_app (goodIn_of _ (by decide +kernel)) ggX12_laysField_X12_stillOf
set_option maxRecDepth 20000 in
theorem ggX12_laysField_X12_laysNumber : GoodIn wsX12_laysField wsX12_laysNumber := goodIn_r _ [31, 32, 33, 34, 8, 35, 36, 1, 132, 133, 134, 135, 136, 137, 138, 139, 140, 141, 142, 143, 144, 145, 146, 147, 148, 149, 150, 151, 152, 153, 154, 155, 156, 157, 158, 159, 160, 161, 162, 163, 164, 165, 166, 167, 168, 169, 170, 171, 172, 173, 174, 175, 176, 177, 178, 179, 180, 181, 182, 183, 184, 185, 186, 187, 188] rfl (by decide +kernel)
set_option maxRecDepth 20000 in
theorem gX12_laysField_X12_laysNumber : GoodIn wsX12_laysField (wsV RX12 273 RX12 yX12_laysNumber wsX12_laysNumber) := goodIn_app (goodIn_of _ (by decide +kernel)) ggX12_laysField_X12_laysNumber
set_option maxRecDepth 20000 in
theorem ggX12_laysField_X12_latest : GoodIn wsX12_laysField wsX12_latest := goodIn_r _ [40, 2, 41, 42, 43, 8, 44, 45, 46, 47, 48, 49, 22, 23, 24, 25, 26, 27, 132, 133, 134, 135, 136, 137, 138, 139, 140, 141, 142, 143, 144, 145, 146, 147, 148, 149, 150, 151, 152, 153, 154, 155, 156, 157, 158, 159, 160, 161, 162, 163, 164, 165, 166, 167, 168, 169, 170, 171, 172, 173, 174, 175, 176, 177, 178, 179, 180, 181, 182, 183, 184, 185, 186, 187, 188] rfl (by decide +kernel)
set_option maxRecDepth 20000 in
theorem gX12_laysField_X12_latest : GoodIn wsX12_laysField (wsV RX12 303 RX12 yX12_latest wsX12_latest) := goodIn_app (goodIn_of _ (by decide +kernel)) ggX12_laysField_X12_latest
set_option maxRecDepth 20000 in
theorem ggX12_laysField_X12_insertsField : GoodIn wsX12_laysField wsX12_insertsField := goodIn_r _ [53, 1, 2, 26, 11, 12, 13, 8, 14, 15, 16, 17, 18, 19, 20, 21, 22, 23, 24, 25, 27, 37, 38, 39, 40, 41, 42, 43, 44, 45, 46, 47, 48, 49, 28, 29, 30, 31, 32, 33, 34, 35, 36, 54, 55, 56, 57, 58, 59, 60, 61, 62, 63, 64, 65, 66, 67, 68, 69, 70, 71, 72, 73, 74, 75, 76, 77, 78, 79, 3, 80, 81, 82, 83, 4, 10, 84, 85, 86, 87, 88, 89, 90, 91, 92, 93, 94, 95, 96, 97, 98, 99, 100, 101, 102, 103, 104, 105, 106, 107, 108, 109, 110, 111, 112, 113, 114, 115, 116, 117, 132, 133, 134, 135, 136, 137, 138, 139, 140, 141, 142, 143, 144, 145, 146, 147, 148, 149, 150, 151, 152, 153, 154, 155, 156, 157, 158, 159, 160, 161, 162, 163, 164, 165, 166, 167, 168, 169, 170, 171, 172, 173, 174, 175, 176, 177, 178, 179, 180, 181, 182, 183, 184, 185, 186, 187, 188] rfl (by decide +kernel)
set_option maxRecDepth 20000 in
theorem gX12_laysField_X12_insertsField : GoodIn wsX12_laysField (wsV RX12 319 RX12 yX12_insertsField wsX12_insertsField) := goodIn_app (goodIn_of _ (by decide +kernel)) ggX12_laysField_X12_insertsField
set_option maxRecDepth 20000 in
theorem ggX12_laysField_X12_laysLike : GoodIn wsX12_laysField wsX12_laysLike := goodIn_r _ [121, 1, 28, 29, 30, 8, 31, 32, 33, 34, 35, 36, 5, 6, 7, 9, 10, 4, 132, 133, 134, 135, 136, 137, 138, 139, 140, 141, 142, 143, 144, 145, 146, 147, 148, 149, 150, 151, 152, 153, 154, 155, 156, 157, 158, 159, 160, 161, 162, 163, 164, 165, 166, 167, 168, 169, 170, 171, 172, 173, 174, 175, 176, 177, 178, 179, 180, 181, 182, 183, 184, 185, 186, 187, 188] rfl (by decide +kernel)
set_option maxRecDepth 20000 in
theorem gX12_laysField_X12_laysLike : GoodIn wsX12_laysField (wsV RX12 337 RX12 yX12_laysLike wsX12_laysLike) := goodIn_app (goodIn_of _ (by decide +kernel)) ggX12_laysField_X12_laysLike
set_option maxRecDepth 20000 in
theorem ggX12_laysField_X12_laysByName : GoodIn wsX12_laysField wsX12_laysByName := goodIn_r _ [125, 1, 26, 11, 12, 13, 8, 14, 15, 16, 17, 18, 19, 20, 21, 22, 23, 24, 25, 27, 37, 38, 39, 40, 2, 41, 42, 43, 44, 45, 46, 47, 48, 49, 28, 29, 30, 31, 32, 33, 34, 35, 36, 5, 6, 7, 9, 10, 4, 54, 55, 56, 57, 58, 59, 60, 61, 132, 133, 134, 135, 136, 137, 138, 139, 140, 141, 142, 143, 144, 145, 146, 147, 148, 149, 150, 151, 152, 153, 154, 155, 156, 157, 158, 159, 160, 161, 162, 163, 164, 165, 166, 167, 168, 169, 170, 171, 172, 173, 174, 175, 176, 177, 178, 179, 180, 181, 182, 183, 184, 185, 186, 187, 188] rfl (by decide +kernel)
set_option maxRecDepth 20000 in
theorem gX12_laysField_X12_laysByName : GoodIn wsX12_laysField (wsV RX12 340 RX12 yX12_laysByName wsX12_laysByName) := goodIn_app (goodIn_of _ (by decide +kernel)) ggX12_laysField_X12_laysByName
set_option maxRecDepth 20000 in
theorem ggX12_laysField_X12_laysToLetter : GoodIn wsX12_laysField wsX12_laysToLetter := goodIn_r _ [129, 1, 130, 131, 36, 132, 133, 134, 135, 136, 137, 138, 139, 140, 141, 142, 143, 144, 145, 146, 147, 148, 149, 150, 151, 152, 153, 154, 155, 156, 157, 158, 159, 160, 161, 162, 163, 164, 165, 166, 167, 168, 169, 170, 171, 172, 173, 174, 175, 176, 177, 178, 179, 180, 181, 182, 183, 184, 185, 186, 187, 188] rfl (by decide +kernel)
set_option maxRecDepth 20000 in
theorem gX12_laysField_X12_laysToLetter : GoodIn wsX12_laysField (wsV RX12 343 RX12 yX12_laysToLetter wsX12_laysToLetter) := goodIn_app (goodIn_of _ (by decide +kernel)) ggX12_laysField_X12_laysToLetter
theorem dX12_laysField_0 : decode cX12_laysField 0 = .ok (.aload_n 0, 1) := by decide +kernel
theorem dX12_laysField_1 : decode cX12_laysField 1 = .ok (.bipush (-9), 2) := by decide +kernel
theorem dX12_laysField_3 : decode cX12_laysField 3 = .ok (.invokevirtual 334, 3) := by decide +kernel
theorem dX12_laysField_6 : decode cX12_laysField 6 = .ok (.aload_n 0, 1) := by decide +kernel
theorem dX12_laysField_7 : decode cX12_laysField 7 = .ok (.iload_n 1, 1) := by decide +kernel
theorem dX12_laysField_8 : decode cX12_laysField 8 = .ok (.iconst 1, 1) := by decide +kernel
theorem dX12_laysField_9 : decode cX12_laysField 9 = .ok (.invokevirtual 299, 3) := by decide +kernel
theorem dX12_laysField_12 : decode cX12_laysField 12 = .ok (.istore 5, 2) := by decide +kernel
theorem dX12_laysField_14 : decode cX12_laysField 14 = .ok (.iload 5, 2) := by decide +kernel
theorem dX12_laysField_16 : decode cX12_laysField 16 = .ok (.bipush (-9), 2) := by decide +kernel
theorem dX12_laysField_18 : decode cX12_laysField 18 = .ok (.if_icmp .eq 22, 3) := by decide +kernel
theorem dX12_laysField_21 : decode cX12_laysField 21 = .ok (.aload_n 0, 1) := by decide +kernel
theorem dX12_laysField_22 : decode cX12_laysField 22 = .ok (.iconst 0, 1) := by decide +kernel
theorem dX12_laysField_23 : decode cX12_laysField 23 = .ok (.putfield 267, 3) := by decide +kernel
theorem dX12_laysField_26 : decode cX12_laysField 26 = .ok (.aload_n 0, 1) := by decide +kernel
theorem dX12_laysField_27 : decode cX12_laysField 27 = .ok (.sipush 192, 3) := by decide +kernel
theorem dX12_laysField_30 : decode cX12_laysField 30 = .ok (.bipush 6, 2) := by decide +kernel
theorem dX12_laysField_32 : decode cX12_laysField 32 = .ok (.iload 5, 2) := by decide +kernel
theorem dX12_laysField_34 : decode cX12_laysField 34 = .ok (.invokevirtual 273, 3) := by decide +kernel
theorem dX12_laysField_37 : decode cX12_laysField 37 = .ok (.goto 106, 3) := by decide +kernel
theorem dX12_laysField_40 : decode cX12_laysField 40 = .ok (.aload_n 0, 1) := by decide +kernel
theorem dX12_laysField_41 : decode cX12_laysField 41 = .ok (.iload_n 1, 1) := by decide +kernel
theorem dX12_laysField_42 : decode cX12_laysField 42 = .ok (.iload_n 2, 1) := by decide +kernel
theorem dX12_laysField_43 : decode cX12_laysField 43 = .ok (.ifCond .eq 12, 3) := by decide +kernel
theorem dX12_laysField_46 : decode cX12_laysField 46 = .ok (.aload_n 0, 1) := by decide +kernel
theorem dX12_laysField_47 : decode cX12_laysField 47 = .ok (.getfield 32, 3) := by decide +kernel
theorem dX12_laysField_50 : decode cX12_laysField 50 = .ok (.iconst 0, 1) := by decide +kernel
theorem dX12_laysField_51 : decode cX12_laysField 51 = .ok (.iaload, 1) := by decide +kernel
theorem dX12_laysField_52 : decode cX12_laysField 52 = .ok (.goto 7, 3) := by decide +kernel
theorem dX12_laysField_55 : decode cX12_laysField 55 = .ok (.aload_n 0, 1) := by decide +kernel
theorem dX12_laysField_56 : decode cX12_laysField 56 = .ok (.getfield 258, 3) := by decide +kernel
theorem dX12_laysField_59 : decode cX12_laysField 59 = .ok (.iconst 1, 1) := by decide +kernel
theorem dX12_laysField_60 : decode cX12_laysField 60 = .ok (.invokevirtual 303, 3) := by decide +kernel
theorem dX12_laysField_63 : decode cX12_laysField 63 = .ok (.istore 6, 2) := by decide +kernel
theorem dX12_laysField_65 : decode cX12_laysField 65 = .ok (.iload 6, 2) := by decide +kernel
theorem dX12_laysField_67 : decode cX12_laysField 67 = .ok (.bipush (-9), 2) := by decide +kernel
theorem dX12_laysField_69 : decode cX12_laysField 69 = .ok (.if_icmp .ne 32, 3) := by decide +kernel
theorem dX12_laysField_72 : decode cX12_laysField 72 = .ok (.iload_n 3, 1) := by decide +kernel
theorem dX12_laysField_73 : decode cX12_laysField 73 = .ok (.ifCond .eq 28, 3) := by decide +kernel
theorem dX12_laysField_76 : decode cX12_laysField 76 = .ok (.iload_n 2, 1) := by decide +kernel
theorem dX12_laysField_77 : decode cX12_laysField 77 = .ok (.ifCond .eq 24, 3) := by decide +kernel
theorem dX12_laysField_80 : decode cX12_laysField 80 = .ok (.aload_n 0, 1) := by decide +kernel
theorem dX12_laysField_81 : decode cX12_laysField 81 = .ok (.iload_n 1, 1) := by decide +kernel
theorem dX12_laysField_82 : decode cX12_laysField 82 = .ok (.invokevirtual 319, 3) := by decide +kernel
theorem dX12_laysField_85 : decode cX12_laysField 85 = .ok (.istore 7, 2) := by decide +kernel
theorem dX12_laysField_87 : decode cX12_laysField 87 = .ok (.iload 7, 2) := by decide +kernel
theorem dX12_laysField_89 : decode cX12_laysField 89 = .ok (.ifCond .ge 8, 3) := by decide +kernel
theorem dX12_laysField_92 : decode cX12_laysField 92 = .ok (.bipush (-9), 2) := by decide +kernel
theorem dX12_laysField_94 : decode cX12_laysField 94 = .ok (.goto 5, 3) := by decide +kernel
theorem dX12_laysField_97 : decode cX12_laysField 97 = .ok (.iload 7, 2) := by decide +kernel
theorem dX12_laysField_99 : decode cX12_laysField 99 = .ok (.istore 6, 2) := by decide +kernel
theorem dX12_laysField_101 : decode cX12_laysField 101 = .ok (.iload 6, 2) := by decide +kernel
theorem dX12_laysField_103 : decode cX12_laysField 103 = .ok (.bipush (-9), 2) := by decide +kernel
theorem dX12_laysField_105 : decode cX12_laysField 105 = .ok (.if_icmp .eq 14, 3) := by decide +kernel
theorem dX12_laysField_108 : decode cX12_laysField 108 = .ok (.aload_n 0, 1) := by decide +kernel
theorem dX12_laysField_109 : decode cX12_laysField 109 = .ok (.iload 6, 2) := by decide +kernel
theorem dX12_laysField_111 : decode cX12_laysField 111 = .ok (.iload 4, 2) := by decide +kernel
theorem dX12_laysField_113 : decode cX12_laysField 113 = .ok (.invokevirtual 337, 3) := by decide +kernel
theorem dX12_laysField_116 : decode cX12_laysField 116 = .ok (.goto 27, 3) := by decide +kernel
theorem dX12_laysField_119 : decode cX12_laysField 119 = .ok (.aload_n 0, 1) := by decide +kernel
theorem dX12_laysField_120 : decode cX12_laysField 120 = .ok (.iload_n 1, 1) := by decide +kernel
theorem dX12_laysField_121 : decode cX12_laysField 121 = .ok (.iload_n 2, 1) := by decide +kernel
theorem dX12_laysField_122 : decode cX12_laysField 122 = .ok (.ifCond .eq 12, 3) := by decide +kernel
theorem dX12_laysField_125 : decode cX12_laysField 125 = .ok (.aload_n 0, 1) := by decide +kernel
theorem dX12_laysField_126 : decode cX12_laysField 126 = .ok (.getfield 32, 3) := by decide +kernel
theorem dX12_laysField_129 : decode cX12_laysField 129 = .ok (.iconst 0, 1) := by decide +kernel
theorem dX12_laysField_130 : decode cX12_laysField 130 = .ok (.iaload, 1) := by decide +kernel
theorem dX12_laysField_131 : decode cX12_laysField 131 = .ok (.goto 7, 3) := by decide +kernel
theorem dX12_laysField_134 : decode cX12_laysField 134 = .ok (.aload_n 0, 1) := by decide +kernel
theorem dX12_laysField_135 : decode cX12_laysField 135 = .ok (.getfield 258, 3) := by decide +kernel
theorem dX12_laysField_138 : decode cX12_laysField 138 = .ok (.iload 4, 2) := by decide +kernel
theorem dX12_laysField_140 : decode cX12_laysField 140 = .ok (.invokevirtual 340, 3) := by decide +kernel
theorem dX12_laysField_143 : decode cX12_laysField 143 = .ok (.aload_n 0, 1) := by decide +kernel
theorem dX12_laysField_144 : decode cX12_laysField 144 = .ok (.invokevirtual 343, 3) := by decide +kernel
theorem dX12_laysField_147 : decode cX12_laysField 147 = .ok (.aload_n 0, 1) := by decide +kernel
theorem dX12_laysField_148 : decode cX12_laysField 148 = .ok (.dup, 1) := by decide +kernel
theorem dX12_laysField_149 : decode cX12_laysField 149 = .ok (.getfield 249, 3) := by decide +kernel
theorem dX12_laysField_152 : decode cX12_laysField 152 = .ok (.iconst 1, 1) := by decide +kernel
theorem dX12_laysField_153 : decode cX12_laysField 153 = .ok (.iadd, 1) := by decide +kernel
theorem dX12_laysField_154 : decode cX12_laysField 154 = .ok (.putfield 249, 3) := by decide +kernel
theorem dX12_laysField_157 : decode cX12_laysField 157 = .ok (.return_, 1) := by decide +kernel
set_option maxRecDepth 20000 in
theorem ggX12_makes_X12_risks : GoodIn wsX12_makes wsX12_risks := goodIn_r _ [14, 15, 16, 17, 18, 13, 19, 20, 21, 22, 152, 153, 154, 155, 156, 157, 158, 159, 160, 161, 162, 163, 164, 165, 166, 167, 168, 169, 170, 171, 172, 173, 174, 175, 176, 177, 178, 179, 180, 181, 182, 183, 184, 185, 186, 187, 188, 189, 190, 191, 192, 193, 194, 195, 196, 197, 198, 199, 200, 201, 202, 203, 204, 205, 206, 207, 208] rfl (by decide +kernel)
set_option maxRecDepth 20000 in
theorem gX12_makes_X12_risks : GoodIn wsX12_makes (wsV RX12 346 RX12 yX12_risks wsX12_risks) := goodIn_app (goodIn_of _ (by decide +kernel)) ggX12_makes_X12_risks
set_option maxRecDepth 20000 in
theorem ggX12_makes_X12_laysField : GoodIn wsX12_makes wsX12_laysField := goodIn_r _ [26, 8, 4, 22, 1, 27, 28, 29, 13, 30, 7, 31, 32, 33, 34, 35, 36, 37, 38, 39, 40, 41, 42, 43, 44, 45, 46, 47, 48, 49, 50, 51, 52, 53, 54, 55, 56, 57, 58, 59, 60, 61, 62, 63, 64, 65, 66, 67, 68, 69, 70, 71, 72, 73, 74, 75, 76, 77, 78, 79, 80, 81, 82, 83, 84, 85, 86, 87, 88, 89, 90, 91, 92, 93, 94, 95, 96, 97, 98, 99, 100, 101, 102, 103, 15, 104, 105, 106, 107, 108, 20, 109, 110, 111, 112, 113, 114, 115, 116, 117, 118, 119, 120, 121, 122, 123, 124, 125, 126, 127, 128, 129, 130, 131, 132, 133, 134, 135, 136, 137, 138, 139, 140, 141, 142, 143, 144, 145, 146, 147, 148, 2, 152, 153, 154, 155, 156, 157, 158, 159, 160, 161, 162, 163, 164, 165, 166, 167, 168, 169, 170, 171, 172, 173, 174, 175, 176, 177, 178, 179, 180, 181, 182, 183, 184, 185, 186, 187, 188, 189, 190, 191, 192, 193, 194, 195, 196, 197, 198, 199, 200, 201, 202, 203, 204, 205, 206, 207, 208] rfl (by decide +kernel)
set_option maxRecDepth 20000 in
theorem gX12_makes_X12_laysField : GoodIn wsX12_makes (wsV RX12 349 RX12 yX12_laysField wsX12_laysField) := goodIn_app (goodIn_of _ (by decide +kernel)) ggX12_makes_X12_laysField
set_option maxRecDepth 20000 in
theorem ggX12_makes_X12_greater : GoodIn wsX12_makes wsX12_greater := goodIn_r _ [151] rfl (by decide +kernel)
set_option maxRecDepth 20000 in
theorem gX12_makes_X12_greater : GoodIn wsX12_makes (va_wsS RX12 353 yX12_greater wsX12_greater) := goodIn_app (goodIn_of _ (by decide +kernel)) ggX12_makes_X12_greater
set_option maxRecDepth 20000 in
theorem ggX12_makes_X12_laysNumber : GoodIn wsX12_makes wsX12_laysNumber := goodIn_r _ [51, 52, 53, 54, 13, 55, 56, 8, 152, 153, 154, 155, 156, 157, 158, 159, 160, 161, 162, 163, 164, 165, 166, 167, 168, 169, 170, 171, 172, 173, 174, 175, 176, 177, 178, 179, 180, 181, 182, 183, 184, 185, 186, 187, 188, 189, 190, 191, 192, 193, 194, 195, 196, 197, 198, 199, 200, 201, 202, 203, 204, 205, 206, 207, 208] rfl (by decide +kernel)
set_option maxRecDepth 20000 in
theorem gX12_makes_X12_laysNumber : GoodIn wsX12_makes (wsV RX12 273 RX12 yX12_laysNumber wsX12_laysNumber) := goodIn_app (goodIn_of _ (by decide +kernel)) ggX12_makes_X12_laysNumber
theorem dX12_makes_0 : decode cX12_makes 0 = .ok (.aload_n 0, 1) := by decide +kernel
theorem dX12_makes_1 : decode cX12_makes 1 = .ok (.iconst 0, 1) := by decide +kernel
theorem dX12_makes_2 : decode cX12_makes 2 = .ok (.putfield 249, 3) := by decide +kernel
theorem dX12_makes_5 : decode cX12_makes 5 = .ok (.aload_n 0, 1) := by decide +kernel
theorem dX12_makes_6 : decode cX12_makes 6 = .ok (.iconst 0, 1) := by decide +kernel
theorem dX12_makes_7 : decode cX12_makes 7 = .ok (.putfield 331, 3) := by decide +kernel
theorem dX12_makes_10 : decode cX12_makes 10 = .ok (.iload_n 1, 1) := by decide +kernel
theorem dX12_makes_11 : decode cX12_makes 11 = .ok (.ifCond .le 18, 3) := by decide +kernel
theorem dX12_makes_14 : decode cX12_makes 14 = .ok (.aload_n 0, 1) := by decide +kernel
theorem dX12_makes_15 : decode cX12_makes 15 = .ok (.invokevirtual 346, 3) := by decide +kernel
theorem dX12_makes_18 : decode cX12_makes 18 = .ok (.aload_n 0, 1) := by decide +kernel
theorem dX12_makes_19 : decode cX12_makes 19 = .ok (.getfield 13, 3) := by decide +kernel
theorem dX12_makes_22 : decode cX12_makes 22 = .ok (.if_icmp .ge 7, 3) := by decide +kernel
theorem dX12_makes_25 : decode cX12_makes 25 = .ok (.iconst 1, 1) := by decide +kernel
theorem dX12_makes_26 : decode cX12_makes 26 = .ok (.goto 4, 3) := by decide +kernel
theorem dX12_makes_29 : decode cX12_makes 29 = .ok (.iconst 0, 1) := by decide +kernel
theorem dX12_makes_30 : decode cX12_makes 30 = .ok (.istore_n 2, 1) := by decide +kernel
theorem dX12_makes_31 : decode cX12_makes 31 = .ok (.aload_n 0, 1) := by decide +kernel
theorem dX12_makes_32 : decode cX12_makes 32 = .ok (.getfield 32, 3) := by decide +kernel
theorem dX12_makes_35 : decode cX12_makes 35 = .ok (.iconst 0, 1) := by decide +kernel
theorem dX12_makes_36 : decode cX12_makes 36 = .ok (.iaload, 1) := by decide +kernel
theorem dX12_makes_37 : decode cX12_makes 37 = .ok (.istore_n 3, 1) := by decide +kernel
theorem dX12_makes_38 : decode cX12_makes 38 = .ok (.iconst 0, 1) := by decide +kernel
theorem dX12_makes_39 : decode cX12_makes 39 = .ok (.istore 4, 2) := by decide +kernel
theorem dX12_makes_41 : decode cX12_makes 41 = .ok (.iconst 0, 1) := by decide +kernel
theorem dX12_makes_42 : decode cX12_makes 42 = .ok (.istore 5, 2) := by decide +kernel
theorem dX12_makes_44 : decode cX12_makes 44 = .ok (.iload 5, 2) := by decide +kernel
theorem dX12_makes_46 : decode cX12_makes 46 = .ok (.aload_n 0, 1) := by decide +kernel
theorem dX12_makes_47 : decode cX12_makes 47 = .ok (.getfield 325, 3) := by decide +kernel
theorem dX12_makes_50 : decode cX12_makes 50 = .ok (.if_icmp .ge 48, 3) := by decide +kernel
theorem dX12_makes_53 : decode cX12_makes 53 = .ok (.aload_n 0, 1) := by decide +kernel
theorem dX12_makes_54 : decode cX12_makes 54 = .ok (.aload_n 0, 1) := by decide +kernel
theorem dX12_makes_55 : decode cX12_makes 55 = .ok (.getfield 78, 3) := by decide +kernel
theorem dX12_makes_58 : decode cX12_makes 58 = .ok (.iload 5, 2) := by decide +kernel
theorem dX12_makes_60 : decode cX12_makes 60 = .ok (.iaload, 1) := by decide +kernel
theorem dX12_makes_61 : decode cX12_makes 61 = .ok (.iload_n 2, 1) := by decide +kernel
theorem dX12_makes_62 : decode cX12_makes 62 = .ok (.iload_n 1, 1) := by decide +kernel
theorem dX12_makes_63 : decode cX12_makes 63 = .ok (.iconst 2, 1) := by decide +kernel
theorem dX12_makes_64 : decode cX12_makes 64 = .ok (.if_icmp .ne 7, 3) := by decide +kernel
theorem dX12_makes_67 : decode cX12_makes 67 = .ok (.iconst 1, 1) := by decide +kernel
theorem dX12_makes_68 : decode cX12_makes 68 = .ok (.goto 4, 3) := by decide +kernel
theorem dX12_makes_71 : decode cX12_makes 71 = .ok (.iconst 0, 1) := by decide +kernel
theorem dX12_makes_72 : decode cX12_makes 72 = .ok (.iload_n 3, 1) := by decide +kernel
theorem dX12_makes_73 : decode cX12_makes 73 = .ok (.invokevirtual 349, 3) := by decide +kernel
theorem dX12_makes_76 : decode cX12_makes 76 = .ok (.iload 4, 2) := by decide +kernel
theorem dX12_makes_78 : decode cX12_makes 78 = .ok (.aload_n 0, 1) := by decide +kernel
theorem dX12_makes_79 : decode cX12_makes 79 = .ok (.getfield 81, 3) := by decide +kernel
theorem dX12_makes_82 : decode cX12_makes 82 = .ok (.iload 5, 2) := by decide +kernel
theorem dX12_makes_84 : decode cX12_makes 84 = .ok (.iaload, 1) := by decide +kernel
theorem dX12_makes_85 : decode cX12_makes 85 = .ok (.iconst 1, 1) := by decide +kernel
theorem dX12_makes_86 : decode cX12_makes 86 = .ok (.iadd, 1) := by decide +kernel
theorem dX12_makes_87 : decode cX12_makes 87 = .ok (.invokestatic 353, 3) := by decide +kernel
theorem dX12_makes_90 : decode cX12_makes 90 = .ok (.istore 4, 2) := by decide +kernel
theorem dX12_makes_92 : decode cX12_makes 92 = .ok (.iinc 5 1, 3) := by decide +kernel
theorem dX12_makes_95 : decode cX12_makes 95 = .ok (.goto (-51), 3) := by decide +kernel
theorem dX12_makes_98 : decode cX12_makes 98 = .ok (.aload_n 0, 1) := by decide +kernel
theorem dX12_makes_99 : decode cX12_makes 99 = .ok (.iconst 0, 1) := by decide +kernel
theorem dX12_makes_100 : decode cX12_makes 100 = .ok (.putfield 267, 3) := by decide +kernel
theorem dX12_makes_103 : decode cX12_makes 103 = .ok (.aload_n 0, 1) := by decide +kernel
theorem dX12_makes_104 : decode cX12_makes 104 = .ok (.iconst 0, 1) := by decide +kernel
theorem dX12_makes_105 : decode cX12_makes 105 = .ok (.bipush 8, 2) := by decide +kernel
theorem dX12_makes_107 : decode cX12_makes 107 = .ok (.iload 4, 2) := by decide +kernel
theorem dX12_makes_109 : decode cX12_makes 109 = .ok (.ifCond .ne 7, 3) := by decide +kernel
theorem dX12_makes_112 : decode cX12_makes 112 = .ok (.iconst 0, 1) := by decide +kernel
theorem dX12_makes_113 : decode cX12_makes 113 = .ok (.goto 16, 3) := by decide +kernel
theorem dX12_makes_116 : decode cX12_makes 116 = .ok (.iload 4, 2) := by decide +kernel
theorem dX12_makes_118 : decode cX12_makes 118 = .ok (.iconst 2, 1) := by decide +kernel
theorem dX12_makes_119 : decode cX12_makes 119 = .ok (.aload_n 0, 1) := by decide +kernel
theorem dX12_makes_120 : decode cX12_makes 120 = .ok (.getfield 7, 3) := by decide +kernel
theorem dX12_makes_123 : decode cX12_makes 123 = .ok (.iconst 4, 1) := by decide +kernel
theorem dX12_makes_124 : decode cX12_makes 124 = .ok (.idiv, 1) := by decide +kernel
theorem dX12_makes_125 : decode cX12_makes 125 = .ok (.imul, 1) := by decide +kernel
theorem dX12_makes_126 : decode cX12_makes 126 = .ok (.irem, 1) := by decide +kernel
theorem dX12_makes_127 : decode cX12_makes 127 = .ok (.iconst 1, 1) := by decide +kernel
theorem dX12_makes_128 : decode cX12_makes 128 = .ok (.iadd, 1) := by decide +kernel
theorem dX12_makes_129 : decode cX12_makes 129 = .ok (.invokevirtual 273, 3) := by decide +kernel
theorem dX12_makes_132 : decode cX12_makes 132 = .ok (.iload 4, 2) := by decide +kernel
theorem dX12_makes_134 : decode cX12_makes 134 = .ok (.ifCond .eq 9, 3) := by decide +kernel
theorem dX12_makes_137 : decode cX12_makes 137 = .ok (.iload_n 3, 1) := by decide +kernel
theorem dX12_makes_138 : decode cX12_makes 138 = .ok (.iload 4, 2) := by decide +kernel
theorem dX12_makes_140 : decode cX12_makes 140 = .ok (.if_icmp .lt 26, 3) := by decide +kernel
theorem dX12_makes_143 : decode cX12_makes 143 = .ok (.aload_n 0, 1) := by decide +kernel
theorem dX12_makes_144 : decode cX12_makes 144 = .ok (.iconst 0, 1) := by decide +kernel
theorem dX12_makes_145 : decode cX12_makes 145 = .ok (.bipush 7, 2) := by decide +kernel
theorem dX12_makes_147 : decode cX12_makes 147 = .ok (.iload 4, 2) := by decide +kernel
theorem dX12_makes_149 : decode cX12_makes 149 = .ok (.ifCond .ne 7, 3) := by decide +kernel
theorem dX12_makes_152 : decode cX12_makes 152 = .ok (.iconst 0, 1) := by decide +kernel
theorem dX12_makes_153 : decode cX12_makes 153 = .ok (.goto 7, 3) := by decide +kernel
theorem dX12_makes_156 : decode cX12_makes 156 = .ok (.iload_n 3, 1) := by decide +kernel
theorem dX12_makes_157 : decode cX12_makes 157 = .ok (.iload 4, 2) := by decide +kernel
theorem dX12_makes_159 : decode cX12_makes 159 = .ok (.isub, 1) := by decide +kernel
theorem dX12_makes_160 : decode cX12_makes 160 = .ok (.invokevirtual 273, 3) := by decide +kernel
theorem dX12_makes_163 : decode cX12_makes 163 = .ok (.goto 18, 3) := by decide +kernel
theorem dX12_makes_166 : decode cX12_makes 166 = .ok (.aload_n 0, 1) := by decide +kernel
theorem dX12_makes_167 : decode cX12_makes 167 = .ok (.sipush 128, 3) := by decide +kernel
theorem dX12_makes_170 : decode cX12_makes 170 = .ok (.bipush 7, 2) := by decide +kernel
theorem dX12_makes_172 : decode cX12_makes 172 = .ok (.iload 4, 2) := by decide +kernel
theorem dX12_makes_174 : decode cX12_makes 174 = .ok (.iload_n 3, 1) := by decide +kernel
theorem dX12_makes_175 : decode cX12_makes 175 = .ok (.isub, 1) := by decide +kernel
theorem dX12_makes_176 : decode cX12_makes 176 = .ok (.iconst 1, 1) := by decide +kernel
theorem dX12_makes_177 : decode cX12_makes 177 = .ok (.isub, 1) := by decide +kernel
theorem dX12_makes_178 : decode cX12_makes 178 = .ok (.invokevirtual 273, 3) := by decide +kernel
theorem dX12_makes_181 : decode cX12_makes 181 = .ok (.iload 4, 2) := by decide +kernel
theorem dX12_makes_183 : decode cX12_makes 183 = .ok (.ireturn, 1) := by decide +kernel
set_option maxRecDepth 20000 in
theorem ggX12_sends_X12_in : GoodIn wsX12_sends wsX12_in := goodIn_r _ [25] rfl (by decide +kernel)
set_option maxRecDepth 20000 in
theorem gX12_sends_X12_in : GoodIn wsX12_sends (va_wsS RX12 124 yX12_in wsX12_in) := goodIn_app (goodIn_of _ (by decide +kernel)) ggX12_sends_X12_in
set_option maxRecDepth 20000 in
theorem ggX12_sends_X12_makes : GoodIn wsX12_sends wsX12_makes := goodIn_r _ [29, 21, 8, 30, 4, 16, 18, 20, 7, 31, 32, 33, 34, 24, 35, 2, 36, 37, 38, 39, 14, 5, 40, 41, 42, 43, 44, 45, 46, 47, 48, 49, 50, 51, 52, 53, 54, 55, 56, 57, 58, 59, 60, 61, 62, 63, 64, 65, 66, 67, 68, 69, 70, 71, 72, 73, 10, 74, 75, 76, 77, 78, 79, 80, 81, 82, 83, 84, 85, 86, 87, 88, 89, 90, 91, 92, 93, 94, 95, 96, 97, 98, 99, 100, 101, 102, 103, 104, 105, 106, 107, 108, 109, 110, 111, 112, 113, 114, 115, 116, 117, 118, 119, 120, 121, 122, 123, 124, 15, 19, 125, 126, 127, 128, 129, 130, 131, 132, 133, 134, 135, 136, 137, 138, 139, 140, 141, 142, 143, 144, 145, 146, 147, 148, 149, 150, 151, 152, 153, 154, 155, 156, 157, 158, 159, 160, 161, 162, 11, 163, 164, 165, 166, 167, 168, 169, 170, 171, 172, 173, 174, 175, 176, 177, 178, 179, 180, 181, 182, 183, 184, 185, 186, 187, 188, 189, 190, 191, 192, 193, 194, 195, 196, 197, 198, 199, 200, 201, 202, 203, 204, 205, 206, 207, 208, 209, 210, 211, 212, 213, 214, 215, 216, 217, 218, 219, 220, 221, 222] rfl (by decide +kernel)
set_option maxRecDepth 20000 in
theorem gX12_sends_X12_makes : GoodIn wsX12_sends (wsV RX12 358 RX12 yX12_makes wsX12_makes) := goodIn_app (goodIn_of _ (by decide +kernel)) ggX12_sends_X12_makes
theorem dX12_sends_0 : decode cX12_sends 0 = .ok (.iload_n 1, 1) := by decide +kernel
theorem dX12_sends_1 : decode cX12_sends 1 = .ok (.i2l, 1) := by decide +kernel
theorem dX12_sends_2 : decode cX12_sends 2 = .ok (.lconst 0, 1) := by decide +kernel
theorem dX12_sends_3 : decode cX12_sends 3 = .ok (.ldc2_w 356, 3) := by decide +kernel
theorem dX12_sends_6 : decode cX12_sends 6 = .ok (.invokestatic 124, 3) := by decide +kernel
theorem dX12_sends_9 : decode cX12_sends 9 = .ok (.ifCond .ne 5, 3) := by decide +kernel
theorem dX12_sends_12 : decode cX12_sends 12 = .ok (.iconst (-1), 1) := by decide +kernel
theorem dX12_sends_13 : decode cX12_sends 13 = .ok (.ireturn, 1) := by decide +kernel
theorem dX12_sends_14 : decode cX12_sends 14 = .ok (.aload_n 0, 1) := by decide +kernel
theorem dX12_sends_15 : decode cX12_sends 15 = .ok (.getfield 252, 3) := by decide +kernel
theorem dX12_sends_18 : decode cX12_sends 18 = .ok (.bipush 40, 2) := by decide +kernel
theorem dX12_sends_20 : decode cX12_sends 20 = .ok (.if_icmp .ne 6, 3) := by decide +kernel
theorem dX12_sends_23 : decode cX12_sends 23 = .ok (.bipush (-3), 2) := by decide +kernel
theorem dX12_sends_25 : decode cX12_sends 25 = .ok (.ireturn, 1) := by decide +kernel
theorem dX12_sends_26 : decode cX12_sends 26 = .ok (.aload_n 0, 1) := by decide +kernel
theorem dX12_sends_27 : decode cX12_sends 27 = .ok (.getfield 50, 3) := by decide +kernel
theorem dX12_sends_30 : decode cX12_sends 30 = .ok (.aload_n 0, 1) := by decide +kernel
theorem dX12_sends_31 : decode cX12_sends 31 = .ok (.getfield 252, 3) := by decide +kernel
theorem dX12_sends_34 : decode cX12_sends 34 = .ok (.aload_n 0, 1) := by decide +kernel
theorem dX12_sends_35 : decode cX12_sends 35 = .ok (.getfield 32, 3) := by decide +kernel
theorem dX12_sends_38 : decode cX12_sends 38 = .ok (.iconst 0, 1) := by decide +kernel
theorem dX12_sends_39 : decode cX12_sends 39 = .ok (.iaload, 1) := by decide +kernel
theorem dX12_sends_40 : decode cX12_sends 40 = .ok (.iastore, 1) := by decide +kernel
theorem dX12_sends_41 : decode cX12_sends 41 = .ok (.aload_n 0, 1) := by decide +kernel
theorem dX12_sends_42 : decode cX12_sends 42 = .ok (.getfield 47, 3) := by decide +kernel
theorem dX12_sends_45 : decode cX12_sends 45 = .ok (.aload_n 0, 1) := by decide +kernel
theorem dX12_sends_46 : decode cX12_sends 46 = .ok (.getfield 252, 3) := by decide +kernel
theorem dX12_sends_49 : decode cX12_sends 49 = .ok (.aload_n 0, 1) := by decide +kernel
theorem dX12_sends_50 : decode cX12_sends 50 = .ok (.iload_n 1, 1) := by decide +kernel
theorem dX12_sends_51 : decode cX12_sends 51 = .ok (.invokevirtual 358, 3) := by decide +kernel
theorem dX12_sends_54 : decode cX12_sends 54 = .ok (.iastore, 1) := by decide +kernel
theorem dX12_sends_55 : decode cX12_sends 55 = .ok (.aload_n 0, 1) := by decide +kernel
theorem dX12_sends_56 : decode cX12_sends 56 = .ok (.getfield 53, 3) := by decide +kernel
theorem dX12_sends_59 : decode cX12_sends 59 = .ok (.aload_n 0, 1) := by decide +kernel
theorem dX12_sends_60 : decode cX12_sends 60 = .ok (.getfield 252, 3) := by decide +kernel
theorem dX12_sends_63 : decode cX12_sends 63 = .ok (.aload_n 0, 1) := by decide +kernel
theorem dX12_sends_64 : decode cX12_sends 64 = .ok (.getfield 267, 3) := by decide +kernel
theorem dX12_sends_67 : decode cX12_sends 67 = .ok (.aload_n 0, 1) := by decide +kernel
theorem dX12_sends_68 : decode cX12_sends 68 = .ok (.getfield 331, 3) := by decide +kernel
theorem dX12_sends_71 : decode cX12_sends 71 = .ok (.iadd, 1) := by decide +kernel
theorem dX12_sends_72 : decode cX12_sends 72 = .ok (.iastore, 1) := by decide +kernel
theorem dX12_sends_73 : decode cX12_sends 73 = .ok (.iconst 0, 1) := by decide +kernel
theorem dX12_sends_74 : decode cX12_sends 74 = .ok (.istore_n 2, 1) := by decide +kernel
theorem dX12_sends_75 : decode cX12_sends 75 = .ok (.iload_n 2, 1) := by decide +kernel
theorem dX12_sends_76 : decode cX12_sends 76 = .ok (.aload_n 0, 1) := by decide +kernel
theorem dX12_sends_77 : decode cX12_sends 77 = .ok (.getfield 53, 3) := by decide +kernel
theorem dX12_sends_80 : decode cX12_sends 80 = .ok (.aload_n 0, 1) := by decide +kernel
theorem dX12_sends_81 : decode cX12_sends 81 = .ok (.getfield 252, 3) := by decide +kernel
theorem dX12_sends_84 : decode cX12_sends 84 = .ok (.iaload, 1) := by decide +kernel
theorem dX12_sends_85 : decode cX12_sends 85 = .ok (.if_icmp .ge 51, 3) := by decide +kernel
theorem dX12_sends_88 : decode cX12_sends 88 = .ok (.aload_n 0, 1) := by decide +kernel
theorem dX12_sends_89 : decode cX12_sends 89 = .ok (.getfield 75, 3) := by decide +kernel
theorem dX12_sends_92 : decode cX12_sends 92 = .ok (.bipush 112, 2) := by decide +kernel
theorem dX12_sends_94 : decode cX12_sends 94 = .ok (.aload_n 0, 1) := by decide +kernel
theorem dX12_sends_95 : decode cX12_sends 95 = .ok (.getfield 252, 3) := by decide +kernel
theorem dX12_sends_98 : decode cX12_sends 98 = .ok (.imul, 1) := by decide +kernel
theorem dX12_sends_99 : decode cX12_sends 99 = .ok (.iload_n 2, 1) := by decide +kernel
theorem dX12_sends_100 : decode cX12_sends 100 = .ok (.iadd, 1) := by decide +kernel
theorem dX12_sends_101 : decode cX12_sends 101 = .ok (.iload_n 2, 1) := by decide +kernel
theorem dX12_sends_102 : decode cX12_sends 102 = .ok (.aload_n 0, 1) := by decide +kernel
theorem dX12_sends_103 : decode cX12_sends 103 = .ok (.getfield 267, 3) := by decide +kernel
theorem dX12_sends_106 : decode cX12_sends 106 = .ok (.if_icmp .ge 12, 3) := by decide +kernel
theorem dX12_sends_109 : decode cX12_sends 109 = .ok (.aload_n 0, 1) := by decide +kernel
theorem dX12_sends_110 : decode cX12_sends 110 = .ok (.getfield 99, 3) := by decide +kernel
theorem dX12_sends_113 : decode cX12_sends 113 = .ok (.iload_n 2, 1) := by decide +kernel
theorem dX12_sends_114 : decode cX12_sends 114 = .ok (.iaload, 1) := by decide +kernel
theorem dX12_sends_115 : decode cX12_sends 115 = .ok (.goto 14, 3) := by decide +kernel
theorem dX12_sends_118 : decode cX12_sends 118 = .ok (.aload_n 0, 1) := by decide +kernel
theorem dX12_sends_119 : decode cX12_sends 119 = .ok (.getfield 84, 3) := by decide +kernel
theorem dX12_sends_122 : decode cX12_sends 122 = .ok (.iload_n 2, 1) := by decide +kernel
theorem dX12_sends_123 : decode cX12_sends 123 = .ok (.aload_n 0, 1) := by decide +kernel
theorem dX12_sends_124 : decode cX12_sends 124 = .ok (.getfield 267, 3) := by decide +kernel
theorem dX12_sends_127 : decode cX12_sends 127 = .ok (.isub, 1) := by decide +kernel
theorem dX12_sends_128 : decode cX12_sends 128 = .ok (.iaload, 1) := by decide +kernel
theorem dX12_sends_129 : decode cX12_sends 129 = .ok (.iastore, 1) := by decide +kernel
theorem dX12_sends_130 : decode cX12_sends 130 = .ok (.iinc 2 1, 3) := by decide +kernel
theorem dX12_sends_133 : decode cX12_sends 133 = .ok (.goto (-58), 3) := by decide +kernel
theorem dX12_sends_136 : decode cX12_sends 136 = .ok (.aload_n 0, 1) := by decide +kernel
theorem dX12_sends_137 : decode cX12_sends 137 = .ok (.getfield 56, 3) := by decide +kernel
theorem dX12_sends_140 : decode cX12_sends 140 = .ok (.aload_n 0, 1) := by decide +kernel
theorem dX12_sends_141 : decode cX12_sends 141 = .ok (.getfield 252, 3) := by decide +kernel
theorem dX12_sends_144 : decode cX12_sends 144 = .ok (.iconst 0, 1) := by decide +kernel
theorem dX12_sends_145 : decode cX12_sends 145 = .ok (.iastore, 1) := by decide +kernel
theorem dX12_sends_146 : decode cX12_sends 146 = .ok (.aload_n 0, 1) := by decide +kernel
theorem dX12_sends_147 : decode cX12_sends 147 = .ok (.getfield 59, 3) := by decide +kernel
theorem dX12_sends_150 : decode cX12_sends 150 = .ok (.aload_n 0, 1) := by decide +kernel
theorem dX12_sends_151 : decode cX12_sends 151 = .ok (.getfield 252, 3) := by decide +kernel
theorem dX12_sends_154 : decode cX12_sends 154 = .ok (.iconst 0, 1) := by decide +kernel
theorem dX12_sends_155 : decode cX12_sends 155 = .ok (.iastore, 1) := by decide +kernel
theorem dX12_sends_156 : decode cX12_sends 156 = .ok (.aload_n 0, 1) := by decide +kernel
theorem dX12_sends_157 : decode cX12_sends 157 = .ok (.getfield 62, 3) := by decide +kernel
theorem dX12_sends_160 : decode cX12_sends 160 = .ok (.aload_n 0, 1) := by decide +kernel
theorem dX12_sends_161 : decode cX12_sends 161 = .ok (.getfield 252, 3) := by decide +kernel
theorem dX12_sends_164 : decode cX12_sends 164 = .ok (.iconst 0, 1) := by decide +kernel
theorem dX12_sends_165 : decode cX12_sends 165 = .ok (.bastore, 1) := by decide +kernel
theorem dX12_sends_166 : decode cX12_sends 166 = .ok (.aload_n 0, 1) := by decide +kernel
theorem dX12_sends_167 : decode cX12_sends 167 = .ok (.getfield 66, 3) := by decide +kernel
theorem dX12_sends_170 : decode cX12_sends 170 = .ok (.aload_n 0, 1) := by decide +kernel
theorem dX12_sends_171 : decode cX12_sends 171 = .ok (.getfield 252, 3) := by decide +kernel
theorem dX12_sends_174 : decode cX12_sends 174 = .ok (.aload_n 0, 1) := by decide +kernel
theorem dX12_sends_175 : decode cX12_sends 175 = .ok (.getfield 325, 3) := by decide +kernel
theorem dX12_sends_178 : decode cX12_sends 178 = .ok (.iastore, 1) := by decide +kernel
theorem dX12_sends_179 : decode cX12_sends 179 = .ok (.iconst 0, 1) := by decide +kernel
theorem dX12_sends_180 : decode cX12_sends 180 = .ok (.istore_n 2, 1) := by decide +kernel
theorem dX12_sends_181 : decode cX12_sends 181 = .ok (.iload_n 2, 1) := by decide +kernel
theorem dX12_sends_182 : decode cX12_sends 182 = .ok (.aload_n 0, 1) := by decide +kernel
theorem dX12_sends_183 : decode cX12_sends 183 = .ok (.getfield 325, 3) := by decide +kernel
theorem dX12_sends_186 : decode cX12_sends 186 = .ok (.if_icmp .ge 49, 3) := by decide +kernel
theorem dX12_sends_189 : decode cX12_sends 189 = .ok (.aload_n 0, 1) := by decide +kernel
theorem dX12_sends_190 : decode cX12_sends 190 = .ok (.getfield 69, 3) := by decide +kernel
theorem dX12_sends_193 : decode cX12_sends 193 = .ok (.bipush 6, 2) := by decide +kernel
theorem dX12_sends_195 : decode cX12_sends 195 = .ok (.aload_n 0, 1) := by decide +kernel
theorem dX12_sends_196 : decode cX12_sends 196 = .ok (.getfield 252, 3) := by decide +kernel
theorem dX12_sends_199 : decode cX12_sends 199 = .ok (.imul, 1) := by decide +kernel
theorem dX12_sends_200 : decode cX12_sends 200 = .ok (.iload_n 2, 1) := by decide +kernel
theorem dX12_sends_201 : decode cX12_sends 201 = .ok (.iadd, 1) := by decide +kernel
theorem dX12_sends_202 : decode cX12_sends 202 = .ok (.aload_n 0, 1) := by decide +kernel
theorem dX12_sends_203 : decode cX12_sends 203 = .ok (.getfield 78, 3) := by decide +kernel
theorem dX12_sends_206 : decode cX12_sends 206 = .ok (.iload_n 2, 1) := by decide +kernel
theorem dX12_sends_207 : decode cX12_sends 207 = .ok (.iaload, 1) := by decide +kernel
theorem dX12_sends_208 : decode cX12_sends 208 = .ok (.iastore, 1) := by decide +kernel
theorem dX12_sends_209 : decode cX12_sends 209 = .ok (.aload_n 0, 1) := by decide +kernel
theorem dX12_sends_210 : decode cX12_sends 210 = .ok (.getfield 72, 3) := by decide +kernel
theorem dX12_sends_213 : decode cX12_sends 213 = .ok (.bipush 6, 2) := by decide +kernel
theorem dX12_sends_215 : decode cX12_sends 215 = .ok (.aload_n 0, 1) := by decide +kernel
theorem dX12_sends_216 : decode cX12_sends 216 = .ok (.getfield 252, 3) := by decide +kernel
theorem dX12_sends_219 : decode cX12_sends 219 = .ok (.imul, 1) := by decide +kernel
theorem dX12_sends_220 : decode cX12_sends 220 = .ok (.iload_n 2, 1) := by decide +kernel
theorem dX12_sends_221 : decode cX12_sends 221 = .ok (.iadd, 1) := by decide +kernel
theorem dX12_sends_222 : decode cX12_sends 222 = .ok (.aload_n 0, 1) := by decide +kernel
theorem dX12_sends_223 : decode cX12_sends 223 = .ok (.getfield 81, 3) := by decide +kernel
theorem dX12_sends_226 : decode cX12_sends 226 = .ok (.iload_n 2, 1) := by decide +kernel
theorem dX12_sends_227 : decode cX12_sends 227 = .ok (.iaload, 1) := by decide +kernel
theorem dX12_sends_228 : decode cX12_sends 228 = .ok (.iastore, 1) := by decide +kernel
theorem dX12_sends_229 : decode cX12_sends 229 = .ok (.iinc 2 1, 3) := by decide +kernel
theorem dX12_sends_232 : decode cX12_sends 232 = .ok (.goto (-51), 3) := by decide +kernel
theorem dX12_sends_235 : decode cX12_sends 235 = .ok (.aload_n 0, 1) := by decide +kernel
theorem dX12_sends_236 : decode cX12_sends 236 = .ok (.iconst 0, 1) := by decide +kernel
theorem dX12_sends_237 : decode cX12_sends 237 = .ok (.putfield 249, 3) := by decide +kernel
theorem dX12_sends_240 : decode cX12_sends 240 = .ok (.aload_n 0, 1) := by decide +kernel
theorem dX12_sends_241 : decode cX12_sends 241 = .ok (.iconst 0, 1) := by decide +kernel
theorem dX12_sends_242 : decode cX12_sends 242 = .ok (.putfield 325, 3) := by decide +kernel
theorem dX12_sends_245 : decode cX12_sends 245 = .ok (.aload_n 0, 1) := by decide +kernel
theorem dX12_sends_246 : decode cX12_sends 246 = .ok (.dup, 1) := by decide +kernel
theorem dX12_sends_247 : decode cX12_sends 247 = .ok (.getfield 252, 3) := by decide +kernel
theorem dX12_sends_250 : decode cX12_sends 250 = .ok (.iconst 1, 1) := by decide +kernel
theorem dX12_sends_251 : decode cX12_sends 251 = .ok (.iadd, 1) := by decide +kernel
theorem dX12_sends_252 : decode cX12_sends 252 = .ok (.putfield 252, 3) := by decide +kernel
theorem dX12_sends_255 : decode cX12_sends 255 = .ok (.aload_n 0, 1) := by decide +kernel
theorem dX12_sends_256 : decode cX12_sends 256 = .ok (.getfield 252, 3) := by decide +kernel
theorem dX12_sends_259 : decode cX12_sends 259 = .ok (.iconst 1, 1) := by decide +kernel
theorem dX12_sends_260 : decode cX12_sends 260 = .ok (.isub, 1) := by decide +kernel
theorem dX12_sends_261 : decode cX12_sends 261 = .ok (.ireturn, 1) := by decide +kernel
set_option maxRecDepth 20000 in
theorem ggX12_cost_X12_in : GoodIn wsX12_cost wsX12_in := goodIn_r _ [15] rfl (by decide +kernel)
set_option maxRecDepth 20000 in
theorem gX12_cost_X12_in : GoodIn wsX12_cost (va_wsS RX12 124 yX12_in wsX12_in) := goodIn_app (goodIn_of _ (by decide +kernel)) ggX12_cost_X12_in
set_option maxRecDepth 20000 in
theorem ggX12_cost_X12_makes : GoodIn wsX12_cost wsX12_makes := goodIn_r _ [19, 11, 10, 20, 2, 21, 22, 23, 9, 24, 25, 26, 27, 14, 28, 29, 30, 31, 32, 33, 34, 35, 36, 37, 38, 39, 40, 41, 42, 43, 44, 45, 46, 47, 48, 49, 50, 51, 52, 53, 54, 55, 56, 57, 58, 59, 60, 61, 62, 63, 64, 65, 66, 67, 68, 69, 70, 71, 72, 73, 74, 3, 75, 76, 77, 78, 79, 80, 81, 8, 82, 83, 84, 85, 86, 87, 88, 89, 90, 91, 92, 93, 94, 95, 96, 97, 98, 99, 100, 101, 102, 103, 104, 105, 106, 4, 107, 108, 109, 110, 111, 112, 113, 114, 115, 116, 117, 118, 119, 120, 121, 122, 123, 124, 5, 125, 126, 127, 128, 129, 130, 131, 132, 133, 134, 135, 136, 137, 138, 139, 140, 141, 142, 6, 143, 144, 145, 146, 147, 148, 149, 150, 151, 152, 153, 154, 155, 156, 157, 158, 159, 160, 161, 162, 163, 164, 165, 166, 167, 168, 169, 170, 171, 172, 173, 174, 175, 176, 177, 178, 179, 180, 181, 182, 183, 184, 185, 186, 187, 188, 189, 190, 191, 192, 193, 194, 195, 196, 197, 198, 199, 200, 201, 202, 203, 204, 205, 206, 207, 208, 209, 210, 211, 212, 213, 214, 215, 216, 217] rfl (by decide +kernel)
set_option maxRecDepth 20000 in
theorem gX12_cost_X12_makes : GoodIn wsX12_cost (wsV RX12 358 RX12 yX12_makes wsX12_makes) := goodIn_app (goodIn_of _ (by decide +kernel)) ggX12_cost_X12_makes
theorem dX12_cost_0 : decode cX12_cost 0 = .ok (.iload_n 1, 1) := by decide +kernel
theorem dX12_cost_1 : decode cX12_cost 1 = .ok (.i2l, 1) := by decide +kernel
theorem dX12_cost_2 : decode cX12_cost 2 = .ok (.lconst 0, 1) := by decide +kernel
theorem dX12_cost_3 : decode cX12_cost 3 = .ok (.ldc2_w 356, 3) := by decide +kernel
theorem dX12_cost_6 : decode cX12_cost 6 = .ok (.invokestatic 124, 3) := by decide +kernel
theorem dX12_cost_9 : decode cX12_cost 9 = .ok (.ifCond .ne 5, 3) := by decide +kernel
theorem dX12_cost_12 : decode cX12_cost 12 = .ok (.iconst (-1), 1) := by decide +kernel
theorem dX12_cost_13 : decode cX12_cost 13 = .ok (.ireturn, 1) := by decide +kernel
theorem dX12_cost_14 : decode cX12_cost 14 = .ok (.aload_n 0, 1) := by decide +kernel
theorem dX12_cost_15 : decode cX12_cost 15 = .ok (.getfield 32, 3) := by decide +kernel
theorem dX12_cost_18 : decode cX12_cost 18 = .ok (.iconst 0, 1) := by decide +kernel
theorem dX12_cost_19 : decode cX12_cost 19 = .ok (.iaload, 1) := by decide +kernel
theorem dX12_cost_20 : decode cX12_cost 20 = .ok (.istore_n 2, 1) := by decide +kernel
theorem dX12_cost_21 : decode cX12_cost 21 = .ok (.aload_n 0, 1) := by decide +kernel
theorem dX12_cost_22 : decode cX12_cost 22 = .ok (.getfield 35, 3) := by decide +kernel
theorem dX12_cost_25 : decode cX12_cost 25 = .ok (.iconst 0, 1) := by decide +kernel
theorem dX12_cost_26 : decode cX12_cost 26 = .ok (.iaload, 1) := by decide +kernel
theorem dX12_cost_27 : decode cX12_cost 27 = .ok (.istore_n 3, 1) := by decide +kernel
theorem dX12_cost_28 : decode cX12_cost 28 = .ok (.aload_n 0, 1) := by decide +kernel
theorem dX12_cost_29 : decode cX12_cost 29 = .ok (.getfield 41, 3) := by decide +kernel
theorem dX12_cost_32 : decode cX12_cost 32 = .ok (.iconst 0, 1) := by decide +kernel
theorem dX12_cost_33 : decode cX12_cost 33 = .ok (.iaload, 1) := by decide +kernel
theorem dX12_cost_34 : decode cX12_cost 34 = .ok (.istore 4, 2) := by decide +kernel
theorem dX12_cost_36 : decode cX12_cost 36 = .ok (.aload_n 0, 1) := by decide +kernel
theorem dX12_cost_37 : decode cX12_cost 37 = .ok (.getfield 277, 3) := by decide +kernel
theorem dX12_cost_40 : decode cX12_cost 40 = .ok (.istore 5, 2) := by decide +kernel
theorem dX12_cost_42 : decode cX12_cost 42 = .ok (.aload_n 0, 1) := by decide +kernel
theorem dX12_cost_43 : decode cX12_cost 43 = .ok (.getfield 280, 3) := by decide +kernel
theorem dX12_cost_46 : decode cX12_cost 46 = .ok (.istore 6, 2) := by decide +kernel
theorem dX12_cost_48 : decode cX12_cost 48 = .ok (.iconst 0, 1) := by decide +kernel
theorem dX12_cost_49 : decode cX12_cost 49 = .ok (.istore 7, 2) := by decide +kernel
theorem dX12_cost_51 : decode cX12_cost 51 = .ok (.iload 7, 2) := by decide +kernel
theorem dX12_cost_53 : decode cX12_cost 53 = .ok (.bipush 64, 2) := by decide +kernel
theorem dX12_cost_55 : decode cX12_cost 55 = .ok (.if_icmp .ge 23, 3) := by decide +kernel
theorem dX12_cost_58 : decode cX12_cost 58 = .ok (.aload_n 0, 1) := by decide +kernel
theorem dX12_cost_59 : decode cX12_cost 59 = .ok (.getfield 102, 3) := by decide +kernel
theorem dX12_cost_62 : decode cX12_cost 62 = .ok (.iload 7, 2) := by decide +kernel
theorem dX12_cost_64 : decode cX12_cost 64 = .ok (.aload_n 0, 1) := by decide +kernel
theorem dX12_cost_65 : decode cX12_cost 65 = .ok (.getfield 44, 3) := by decide +kernel
theorem dX12_cost_68 : decode cX12_cost 68 = .ok (.iload 7, 2) := by decide +kernel
theorem dX12_cost_70 : decode cX12_cost 70 = .ok (.iaload, 1) := by decide +kernel
theorem dX12_cost_71 : decode cX12_cost 71 = .ok (.iastore, 1) := by decide +kernel
theorem dX12_cost_72 : decode cX12_cost 72 = .ok (.iinc 7 1, 3) := by decide +kernel
theorem dX12_cost_75 : decode cX12_cost 75 = .ok (.goto (-24), 3) := by decide +kernel
theorem dX12_cost_78 : decode cX12_cost 78 = .ok (.aload_n 0, 1) := by decide +kernel
theorem dX12_cost_79 : decode cX12_cost 79 = .ok (.iload_n 1, 1) := by decide +kernel
theorem dX12_cost_80 : decode cX12_cost 80 = .ok (.invokevirtual 358, 3) := by decide +kernel
theorem dX12_cost_83 : decode cX12_cost 83 = .ok (.pop, 1) := by decide +kernel
theorem dX12_cost_84 : decode cX12_cost 84 = .ok (.aload_n 0, 1) := by decide +kernel
theorem dX12_cost_85 : decode cX12_cost 85 = .ok (.getfield 267, 3) := by decide +kernel
theorem dX12_cost_88 : decode cX12_cost 88 = .ok (.aload_n 0, 1) := by decide +kernel
theorem dX12_cost_89 : decode cX12_cost 89 = .ok (.getfield 331, 3) := by decide +kernel
theorem dX12_cost_92 : decode cX12_cost 92 = .ok (.iadd, 1) := by decide +kernel
theorem dX12_cost_93 : decode cX12_cost 93 = .ok (.aload_n 0, 1) := by decide +kernel
theorem dX12_cost_94 : decode cX12_cost 94 = .ok (.getfield 277, 3) := by decide +kernel
theorem dX12_cost_97 : decode cX12_cost 97 = .ok (.iadd, 1) := by decide +kernel
theorem dX12_cost_98 : decode cX12_cost 98 = .ok (.iload 5, 2) := by decide +kernel
theorem dX12_cost_100 : decode cX12_cost 100 = .ok (.isub, 1) := by decide +kernel
theorem dX12_cost_101 : decode cX12_cost 101 = .ok (.istore 7, 2) := by decide +kernel
theorem dX12_cost_103 : decode cX12_cost 103 = .ok (.aload_n 0, 1) := by decide +kernel
theorem dX12_cost_104 : decode cX12_cost 104 = .ok (.iconst 0, 1) := by decide +kernel
theorem dX12_cost_105 : decode cX12_cost 105 = .ok (.putfield 249, 3) := by decide +kernel
theorem dX12_cost_108 : decode cX12_cost 108 = .ok (.aload_n 0, 1) := by decide +kernel
theorem dX12_cost_109 : decode cX12_cost 109 = .ok (.getfield 32, 3) := by decide +kernel
theorem dX12_cost_112 : decode cX12_cost 112 = .ok (.iconst 0, 1) := by decide +kernel
theorem dX12_cost_113 : decode cX12_cost 113 = .ok (.iload_n 2, 1) := by decide +kernel
theorem dX12_cost_114 : decode cX12_cost 114 = .ok (.iastore, 1) := by decide +kernel
theorem dX12_cost_115 : decode cX12_cost 115 = .ok (.aload_n 0, 1) := by decide +kernel
theorem dX12_cost_116 : decode cX12_cost 116 = .ok (.getfield 35, 3) := by decide +kernel
theorem dX12_cost_119 : decode cX12_cost 119 = .ok (.iconst 0, 1) := by decide +kernel
theorem dX12_cost_120 : decode cX12_cost 120 = .ok (.iload_n 3, 1) := by decide +kernel
theorem dX12_cost_121 : decode cX12_cost 121 = .ok (.iastore, 1) := by decide +kernel
theorem dX12_cost_122 : decode cX12_cost 122 = .ok (.aload_n 0, 1) := by decide +kernel
theorem dX12_cost_123 : decode cX12_cost 123 = .ok (.getfield 41, 3) := by decide +kernel
theorem dX12_cost_126 : decode cX12_cost 126 = .ok (.iconst 0, 1) := by decide +kernel
theorem dX12_cost_127 : decode cX12_cost 127 = .ok (.iload 4, 2) := by decide +kernel
theorem dX12_cost_129 : decode cX12_cost 129 = .ok (.iastore, 1) := by decide +kernel
theorem dX12_cost_130 : decode cX12_cost 130 = .ok (.aload_n 0, 1) := by decide +kernel
theorem dX12_cost_131 : decode cX12_cost 131 = .ok (.iload 5, 2) := by decide +kernel
theorem dX12_cost_133 : decode cX12_cost 133 = .ok (.putfield 277, 3) := by decide +kernel
theorem dX12_cost_136 : decode cX12_cost 136 = .ok (.aload_n 0, 1) := by decide +kernel
theorem dX12_cost_137 : decode cX12_cost 137 = .ok (.iload 6, 2) := by decide +kernel
theorem dX12_cost_139 : decode cX12_cost 139 = .ok (.putfield 280, 3) := by decide +kernel
theorem dX12_cost_142 : decode cX12_cost 142 = .ok (.iconst 0, 1) := by decide +kernel
theorem dX12_cost_143 : decode cX12_cost 143 = .ok (.istore 8, 2) := by decide +kernel
theorem dX12_cost_145 : decode cX12_cost 145 = .ok (.iload 8, 2) := by decide +kernel
theorem dX12_cost_147 : decode cX12_cost 147 = .ok (.bipush 64, 2) := by decide +kernel
theorem dX12_cost_149 : decode cX12_cost 149 = .ok (.if_icmp .ge 23, 3) := by decide +kernel
theorem dX12_cost_152 : decode cX12_cost 152 = .ok (.aload_n 0, 1) := by decide +kernel
theorem dX12_cost_153 : decode cX12_cost 153 = .ok (.getfield 44, 3) := by decide +kernel
theorem dX12_cost_156 : decode cX12_cost 156 = .ok (.iload 8, 2) := by decide +kernel
theorem dX12_cost_158 : decode cX12_cost 158 = .ok (.aload_n 0, 1) := by decide +kernel
theorem dX12_cost_159 : decode cX12_cost 159 = .ok (.getfield 102, 3) := by decide +kernel
theorem dX12_cost_162 : decode cX12_cost 162 = .ok (.iload 8, 2) := by decide +kernel
theorem dX12_cost_164 : decode cX12_cost 164 = .ok (.iaload, 1) := by decide +kernel
theorem dX12_cost_165 : decode cX12_cost 165 = .ok (.iastore, 1) := by decide +kernel
theorem dX12_cost_166 : decode cX12_cost 166 = .ok (.iinc 8 1, 3) := by decide +kernel
theorem dX12_cost_169 : decode cX12_cost 169 = .ok (.goto (-24), 3) := by decide +kernel
theorem dX12_cost_172 : decode cX12_cost 172 = .ok (.iload 7, 2) := by decide +kernel
theorem dX12_cost_174 : decode cX12_cost 174 = .ok (.ireturn, 1) := by decide +kernel
set_option maxRecDepth 20000 in
theorem ggX12_loose_X12_isFree : GoodIn wsX12_loose wsX12_isFree := goodIn_r _ [7, 8, 9, 10, 11, 6, 12, 13, 14, 15, 16, 17, 18, 19, 20, 21, 22, 23, 24, 25, 26, 27, 28, 29, 30, 31, 32, 33, 34, 35, 36, 37, 38, 39, 40, 41, 42, 43, 44, 45, 46, 47, 48, 49, 50, 51, 52, 53, 54, 55, 56, 57, 58, 59, 60, 61, 62, 63, 64, 65, 66, 67, 68, 69, 70, 71, 72, 73, 74, 75, 76, 77, 78, 79] rfl (by decide +kernel)
set_option maxRecDepth 20000 in
theorem gX12_loose_X12_isFree : GoodIn wsX12_loose (wsV RX12 264 RX12 yX12_isFree wsX12_isFree) := goodIn_app (goodIn_of _ (by decide +kernel)) ggX12_loose_X12_isFree
theorem dX12_loose_0 : decode cX12_loose 0 = .ok (.aload_n 0, 1) := by decide +kernel
theorem dX12_loose_1 : decode cX12_loose 1 = .ok (.getfield 35, 3) := by decide +kernel
theorem dX12_loose_4 : decode cX12_loose 4 = .ok (.iconst 0, 1) := by decide +kernel
theorem dX12_loose_5 : decode cX12_loose 5 = .ok (.iaload, 1) := by decide +kernel
theorem dX12_loose_6 : decode cX12_loose 6 = .ok (.istore_n 1, 1) := by decide +kernel
theorem dX12_loose_7 : decode cX12_loose 7 = .ok (.iload_n 1, 1) := by decide +kernel
theorem dX12_loose_8 : decode cX12_loose 8 = .ok (.aload_n 0, 1) := by decide +kernel
theorem dX12_loose_9 : decode cX12_loose 9 = .ok (.getfield 32, 3) := by decide +kernel
theorem dX12_loose_12 : decode cX12_loose 12 = .ok (.iconst 0, 1) := by decide +kernel
theorem dX12_loose_13 : decode cX12_loose 13 = .ok (.iaload, 1) := by decide +kernel
theorem dX12_loose_14 : decode cX12_loose 14 = .ok (.if_icmp .ge 17, 3) := by decide +kernel
theorem dX12_loose_17 : decode cX12_loose 17 = .ok (.aload_n 0, 1) := by decide +kernel
theorem dX12_loose_18 : decode cX12_loose 18 = .ok (.iload_n 1, 1) := by decide +kernel
theorem dX12_loose_19 : decode cX12_loose 19 = .ok (.invokevirtual 264, 3) := by decide +kernel
theorem dX12_loose_22 : decode cX12_loose 22 = .ok (.ifCond .eq 9, 3) := by decide +kernel
theorem dX12_loose_25 : decode cX12_loose 25 = .ok (.iinc 1 1, 3) := by decide +kernel
theorem dX12_loose_28 : decode cX12_loose 28 = .ok (.goto (-21), 3) := by decide +kernel
theorem dX12_loose_31 : decode cX12_loose 31 = .ok (.iload_n 1, 1) := by decide +kernel
theorem dX12_loose_32 : decode cX12_loose 32 = .ok (.aload_n 0, 1) := by decide +kernel
theorem dX12_loose_33 : decode cX12_loose 33 = .ok (.getfield 35, 3) := by decide +kernel
theorem dX12_loose_36 : decode cX12_loose 36 = .ok (.iconst 0, 1) := by decide +kernel
theorem dX12_loose_37 : decode cX12_loose 37 = .ok (.iaload, 1) := by decide +kernel
theorem dX12_loose_38 : decode cX12_loose 38 = .ok (.isub, 1) := by decide +kernel
theorem dX12_loose_39 : decode cX12_loose 39 = .ok (.ireturn, 1) := by decide +kernel
set_option maxRecDepth 20000 in
theorem ggX12_answer_X12_laysNumber : GoodIn wsX12_answer wsX12_laysNumber := goodIn_r _ [13, 14, 15, 16, 12, 17, 4, 1, 18, 19, 20, 21, 22, 23, 24, 25, 26, 27, 28, 29, 30, 31, 32, 33, 34, 35, 36, 37, 38, 39, 40, 41, 42, 43, 44, 45, 46, 47, 48, 49, 50, 51, 52, 53, 54, 55, 56, 57, 58, 59, 60, 61, 62, 63, 64, 65, 66, 67, 68, 69, 70, 71, 72, 73, 74] rfl (by decide +kernel)
set_option maxRecDepth 20000 in
theorem gX12_answer_X12_laysNumber : GoodIn wsX12_answer (wsV RX12 273 RX12 yX12_laysNumber wsX12_laysNumber) := goodIn_app (goodIn_of _ (by decide +kernel)) ggX12_answer_X12_laysNumber
theorem dX12_answer_0 : decode cX12_answer 0 = .ok (.aload_n 0, 1) := by decide +kernel
theorem dX12_answer_1 : decode cX12_answer 1 = .ok (.iconst 0, 1) := by decide +kernel
theorem dX12_answer_2 : decode cX12_answer 2 = .ok (.putfield 267, 3) := by decide +kernel
theorem dX12_answer_5 : decode cX12_answer 5 = .ok (.aload_n 0, 1) := by decide +kernel
theorem dX12_answer_6 : decode cX12_answer 6 = .ok (.iload_n 1, 1) := by decide +kernel
theorem dX12_answer_7 : decode cX12_answer 7 = .ok (.ifCond .ne 9, 3) := by decide +kernel
theorem dX12_answer_10 : decode cX12_answer 10 = .ok (.sipush 128, 3) := by decide +kernel
theorem dX12_answer_13 : decode cX12_answer 13 = .ok (.goto 14, 3) := by decide +kernel
theorem dX12_answer_16 : decode cX12_answer 16 = .ok (.iload_n 1, 1) := by decide +kernel
theorem dX12_answer_17 : decode cX12_answer 17 = .ok (.iconst 1, 1) := by decide +kernel
theorem dX12_answer_18 : decode cX12_answer 18 = .ok (.if_icmp .ne 8, 3) := by decide +kernel
theorem dX12_answer_21 : decode cX12_answer 21 = .ok (.bipush 64, 2) := by decide +kernel
theorem dX12_answer_23 : decode cX12_answer 23 = .ok (.goto 4, 3) := by decide +kernel
theorem dX12_answer_26 : decode cX12_answer 26 = .ok (.iconst 0, 1) := by decide +kernel
theorem dX12_answer_27 : decode cX12_answer 27 = .ok (.iload_n 1, 1) := by decide +kernel
theorem dX12_answer_28 : decode cX12_answer 28 = .ok (.ifCond .ne 8, 3) := by decide +kernel
theorem dX12_answer_31 : decode cX12_answer 31 = .ok (.bipush 7, 2) := by decide +kernel
theorem dX12_answer_33 : decode cX12_answer 33 = .ok (.goto 5, 3) := by decide +kernel
theorem dX12_answer_36 : decode cX12_answer 36 = .ok (.bipush 6, 2) := by decide +kernel
theorem dX12_answer_38 : decode cX12_answer 38 = .ok (.iload_n 2, 1) := by decide +kernel
theorem dX12_answer_39 : decode cX12_answer 39 = .ok (.invokevirtual 273, 3) := by decide +kernel
theorem dX12_answer_42 : decode cX12_answer 42 = .ok (.iconst 0, 1) := by decide +kernel
theorem dX12_answer_43 : decode cX12_answer 43 = .ok (.istore_n 3, 1) := by decide +kernel
theorem dX12_answer_44 : decode cX12_answer 44 = .ok (.iload_n 3, 1) := by decide +kernel
theorem dX12_answer_45 : decode cX12_answer 45 = .ok (.aload_n 0, 1) := by decide +kernel
theorem dX12_answer_46 : decode cX12_answer 46 = .ok (.getfield 267, 3) := by decide +kernel
theorem dX12_answer_49 : decode cX12_answer 49 = .ok (.if_icmp .ge 26, 3) := by decide +kernel
theorem dX12_answer_52 : decode cX12_answer 52 = .ok (.aload_n 0, 1) := by decide +kernel
theorem dX12_answer_53 : decode cX12_answer 53 = .ok (.getfield 105, 3) := by decide +kernel
theorem dX12_answer_56 : decode cX12_answer 56 = .ok (.aload_n 0, 1) := by decide +kernel
theorem dX12_answer_57 : decode cX12_answer 57 = .ok (.getfield 361, 3) := by decide +kernel
theorem dX12_answer_60 : decode cX12_answer 60 = .ok (.iload_n 3, 1) := by decide +kernel
theorem dX12_answer_61 : decode cX12_answer 61 = .ok (.iadd, 1) := by decide +kernel
theorem dX12_answer_62 : decode cX12_answer 62 = .ok (.aload_n 0, 1) := by decide +kernel
theorem dX12_answer_63 : decode cX12_answer 63 = .ok (.getfield 99, 3) := by decide +kernel
theorem dX12_answer_66 : decode cX12_answer 66 = .ok (.iload_n 3, 1) := by decide +kernel
theorem dX12_answer_67 : decode cX12_answer 67 = .ok (.iaload, 1) := by decide +kernel
theorem dX12_answer_68 : decode cX12_answer 68 = .ok (.iastore, 1) := by decide +kernel
theorem dX12_answer_69 : decode cX12_answer 69 = .ok (.iinc 3 1, 3) := by decide +kernel
theorem dX12_answer_72 : decode cX12_answer 72 = .ok (.goto (-28), 3) := by decide +kernel
theorem dX12_answer_75 : decode cX12_answer 75 = .ok (.aload_n 0, 1) := by decide +kernel
theorem dX12_answer_76 : decode cX12_answer 76 = .ok (.dup, 1) := by decide +kernel
theorem dX12_answer_77 : decode cX12_answer 77 = .ok (.getfield 361, 3) := by decide +kernel
theorem dX12_answer_80 : decode cX12_answer 80 = .ok (.aload_n 0, 1) := by decide +kernel
theorem dX12_answer_81 : decode cX12_answer 81 = .ok (.getfield 267, 3) := by decide +kernel
theorem dX12_answer_84 : decode cX12_answer 84 = .ok (.iadd, 1) := by decide +kernel
theorem dX12_answer_85 : decode cX12_answer 85 = .ok (.putfield 361, 3) := by decide +kernel
theorem dX12_answer_88 : decode cX12_answer 88 = .ok (.aload_n 0, 1) := by decide +kernel
theorem dX12_answer_89 : decode cX12_answer 89 = .ok (.getfield 108, 3) := by decide +kernel
theorem dX12_answer_92 : decode cX12_answer 92 = .ok (.aload_n 0, 1) := by decide +kernel
theorem dX12_answer_93 : decode cX12_answer 93 = .ok (.getfield 364, 3) := by decide +kernel
theorem dX12_answer_96 : decode cX12_answer 96 = .ok (.iload_n 1, 1) := by decide +kernel
theorem dX12_answer_97 : decode cX12_answer 97 = .ok (.iastore, 1) := by decide +kernel
theorem dX12_answer_98 : decode cX12_answer 98 = .ok (.aload_n 0, 1) := by decide +kernel
theorem dX12_answer_99 : decode cX12_answer 99 = .ok (.getfield 111, 3) := by decide +kernel
theorem dX12_answer_102 : decode cX12_answer 102 = .ok (.aload_n 0, 1) := by decide +kernel
theorem dX12_answer_103 : decode cX12_answer 103 = .ok (.getfield 364, 3) := by decide +kernel
theorem dX12_answer_106 : decode cX12_answer 106 = .ok (.iload_n 2, 1) := by decide +kernel
theorem dX12_answer_107 : decode cX12_answer 107 = .ok (.iastore, 1) := by decide +kernel
theorem dX12_answer_108 : decode cX12_answer 108 = .ok (.aload_n 0, 1) := by decide +kernel
theorem dX12_answer_109 : decode cX12_answer 109 = .ok (.getfield 114, 3) := by decide +kernel
theorem dX12_answer_112 : decode cX12_answer 112 = .ok (.aload_n 0, 1) := by decide +kernel
theorem dX12_answer_113 : decode cX12_answer 113 = .ok (.getfield 364, 3) := by decide +kernel
theorem dX12_answer_116 : decode cX12_answer 116 = .ok (.aload_n 0, 1) := by decide +kernel
theorem dX12_answer_117 : decode cX12_answer 117 = .ok (.getfield 267, 3) := by decide +kernel
theorem dX12_answer_120 : decode cX12_answer 120 = .ok (.iastore, 1) := by decide +kernel
theorem dX12_answer_121 : decode cX12_answer 121 = .ok (.aload_n 0, 1) := by decide +kernel
theorem dX12_answer_122 : decode cX12_answer 122 = .ok (.dup, 1) := by decide +kernel
theorem dX12_answer_123 : decode cX12_answer 123 = .ok (.getfield 364, 3) := by decide +kernel
theorem dX12_answer_126 : decode cX12_answer 126 = .ok (.iconst 1, 1) := by decide +kernel
theorem dX12_answer_127 : decode cX12_answer 127 = .ok (.iadd, 1) := by decide +kernel
theorem dX12_answer_128 : decode cX12_answer 128 = .ok (.putfield 364, 3) := by decide +kernel
theorem dX12_answer_131 : decode cX12_answer 131 = .ok (.return_, 1) := by decide +kernel
set_option maxRecDepth 20000 in
theorem ggX12_becomesRead_X12_answer : GoodIn wsX12_becomesRead wsX12_answer := goodIn_r _ [8, 9, 10, 11, 12, 13, 14, 15, 16, 17, 18, 19, 7, 20, 21, 22, 23, 24, 28, 29, 30, 31, 32, 33, 34, 35, 36, 37, 38, 39, 40, 41, 42, 43, 44, 45, 46, 47, 48, 49, 50, 51, 52, 53, 54, 55, 56, 57, 58, 59, 60, 61, 62, 63, 64, 65, 66, 67, 68, 69, 70, 71, 72, 73, 74, 75, 76, 77, 78, 79, 80, 81, 82, 83, 84] rfl (by decide +kernel)
set_option maxRecDepth 20000 in
theorem gX12_becomesRead_X12_answer : GoodIn wsX12_becomesRead (wsV RX12 367 RX12 yX12_answer wsX12_answer) := goodIn_app (goodIn_of _ (by decide +kernel)) ggX12_becomesRead_X12_answer
set_option maxRecDepth 20000 in
theorem ggX12_becomesRead_X12_greater : GoodIn wsX12_becomesRead wsX12_greater := goodIn_r _ [27] rfl (by decide +kernel)
set_option maxRecDepth 20000 in
theorem gX12_becomesRead_X12_greater : GoodIn wsX12_becomesRead (va_wsS RX12 353 yX12_greater wsX12_greater) := goodIn_app (goodIn_of _ (by decide +kernel)) ggX12_becomesRead_X12_greater
theorem dX12_becomesRead_0 : decode cX12_becomesRead 0 = .ok (.aload_n 0, 1) := by decide +kernel
theorem dX12_becomesRead_1 : decode cX12_becomesRead 1 = .ok (.getfield 59, 3) := by decide +kernel
theorem dX12_becomesRead_4 : decode cX12_becomesRead 4 = .ok (.iload_n 1, 1) := by decide +kernel
theorem dX12_becomesRead_5 : decode cX12_becomesRead 5 = .ok (.iconst 2, 1) := by decide +kernel
theorem dX12_becomesRead_6 : decode cX12_becomesRead 6 = .ok (.iastore, 1) := by decide +kernel
theorem dX12_becomesRead_7 : decode cX12_becomesRead 7 = .ok (.aload_n 0, 1) := by decide +kernel
theorem dX12_becomesRead_8 : decode cX12_becomesRead 8 = .ok (.getfield 47, 3) := by decide +kernel
theorem dX12_becomesRead_11 : decode cX12_becomesRead 11 = .ok (.iload_n 1, 1) := by decide +kernel
theorem dX12_becomesRead_12 : decode cX12_becomesRead 12 = .ok (.iaload, 1) := by decide +kernel
theorem dX12_becomesRead_13 : decode cX12_becomesRead 13 = .ok (.ifCond .le 26, 3) := by decide +kernel
theorem dX12_becomesRead_16 : decode cX12_becomesRead 16 = .ok (.aload_n 0, 1) := by decide +kernel
theorem dX12_becomesRead_17 : decode cX12_becomesRead 17 = .ok (.iconst 0, 1) := by decide +kernel
theorem dX12_becomesRead_18 : decode cX12_becomesRead 18 = .ok (.iload_n 1, 1) := by decide +kernel
theorem dX12_becomesRead_19 : decode cX12_becomesRead 19 = .ok (.invokevirtual 367, 3) := by decide +kernel
theorem dX12_becomesRead_22 : decode cX12_becomesRead 22 = .ok (.aload_n 0, 1) := by decide +kernel
theorem dX12_becomesRead_23 : decode cX12_becomesRead 23 = .ok (.aload_n 0, 1) := by decide +kernel
theorem dX12_becomesRead_24 : decode cX12_becomesRead 24 = .ok (.getfield 370, 3) := by decide +kernel
theorem dX12_becomesRead_27 : decode cX12_becomesRead 27 = .ok (.aload_n 0, 1) := by decide +kernel
theorem dX12_becomesRead_28 : decode cX12_becomesRead 28 = .ok (.getfield 47, 3) := by decide +kernel
theorem dX12_becomesRead_31 : decode cX12_becomesRead 31 = .ok (.iload_n 1, 1) := by decide +kernel
theorem dX12_becomesRead_32 : decode cX12_becomesRead 32 = .ok (.iaload, 1) := by decide +kernel
theorem dX12_becomesRead_33 : decode cX12_becomesRead 33 = .ok (.invokestatic 353, 3) := by decide +kernel
theorem dX12_becomesRead_36 : decode cX12_becomesRead 36 = .ok (.putfield 370, 3) := by decide +kernel
theorem dX12_becomesRead_39 : decode cX12_becomesRead 39 = .ok (.return_, 1) := by decide +kernel
theorem dX12_waiting_0 : decode cX12_waiting 0 = .ok (.iload_n 1, 1) := by decide +kernel
theorem dX12_waiting_1 : decode cX12_waiting 1 = .ok (.istore_n 2, 1) := by decide +kernel
theorem dX12_waiting_2 : decode cX12_waiting 2 = .ok (.iconst 0, 1) := by decide +kernel
theorem dX12_waiting_3 : decode cX12_waiting 3 = .ok (.istore_n 3, 1) := by decide +kernel
theorem dX12_waiting_4 : decode cX12_waiting 4 = .ok (.iload_n 3, 1) := by decide +kernel
theorem dX12_waiting_5 : decode cX12_waiting 5 = .ok (.aload_n 0, 1) := by decide +kernel
theorem dX12_waiting_6 : decode cX12_waiting 6 = .ok (.getfield 32, 3) := by decide +kernel
theorem dX12_waiting_9 : decode cX12_waiting 9 = .ok (.iconst 0, 1) := by decide +kernel
theorem dX12_waiting_10 : decode cX12_waiting 10 = .ok (.iaload, 1) := by decide +kernel
theorem dX12_waiting_11 : decode cX12_waiting 11 = .ok (.if_icmp .gt 59, 3) := by decide +kernel
theorem dX12_waiting_14 : decode cX12_waiting 14 = .ok (.iconst 0, 1) := by decide +kernel
theorem dX12_waiting_15 : decode cX12_waiting 15 = .ok (.istore 4, 2) := by decide +kernel
theorem dX12_waiting_17 : decode cX12_waiting 17 = .ok (.iload 4, 2) := by decide +kernel
theorem dX12_waiting_19 : decode cX12_waiting 19 = .ok (.aload_n 0, 1) := by decide +kernel
theorem dX12_waiting_20 : decode cX12_waiting 20 = .ok (.getfield 252, 3) := by decide +kernel
theorem dX12_waiting_23 : decode cX12_waiting 23 = .ok (.if_icmp .ge 41, 3) := by decide +kernel
theorem dX12_waiting_26 : decode cX12_waiting 26 = .ok (.aload_n 0, 1) := by decide +kernel
theorem dX12_waiting_27 : decode cX12_waiting 27 = .ok (.getfield 59, 3) := by decide +kernel
theorem dX12_waiting_30 : decode cX12_waiting 30 = .ok (.iload 4, 2) := by decide +kernel
theorem dX12_waiting_32 : decode cX12_waiting 32 = .ok (.iaload, 1) := by decide +kernel
theorem dX12_waiting_33 : decode cX12_waiting 33 = .ok (.iconst 1, 1) := by decide +kernel
theorem dX12_waiting_34 : decode cX12_waiting 34 = .ok (.if_icmp .ne 24, 3) := by decide +kernel
theorem dX12_waiting_37 : decode cX12_waiting 37 = .ok (.aload_n 0, 1) := by decide +kernel
theorem dX12_waiting_38 : decode cX12_waiting 38 = .ok (.getfield 47, 3) := by decide +kernel
theorem dX12_waiting_41 : decode cX12_waiting 41 = .ok (.iload 4, 2) := by decide +kernel
theorem dX12_waiting_43 : decode cX12_waiting 43 = .ok (.iaload, 1) := by decide +kernel
theorem dX12_waiting_44 : decode cX12_waiting 44 = .ok (.iload_n 3, 1) := by decide +kernel
theorem dX12_waiting_45 : decode cX12_waiting 45 = .ok (.if_icmp .ne 13, 3) := by decide +kernel
theorem dX12_waiting_48 : decode cX12_waiting 48 = .ok (.iload_n 2, 1) := by decide +kernel
theorem dX12_waiting_49 : decode cX12_waiting 49 = .ok (.ifCond .ne 6, 3) := by decide +kernel
theorem dX12_waiting_52 : decode cX12_waiting 52 = .ok (.iload 4, 2) := by decide +kernel
theorem dX12_waiting_54 : decode cX12_waiting 54 = .ok (.ireturn, 1) := by decide +kernel
theorem dX12_waiting_55 : decode cX12_waiting 55 = .ok (.iinc 2 (-1), 3) := by decide +kernel
theorem dX12_waiting_58 : decode cX12_waiting 58 = .ok (.iinc 4 1, 3) := by decide +kernel
theorem dX12_waiting_61 : decode cX12_waiting 61 = .ok (.goto (-44), 3) := by decide +kernel
theorem dX12_waiting_64 : decode cX12_waiting 64 = .ok (.iinc 3 1, 3) := by decide +kernel
theorem dX12_waiting_67 : decode cX12_waiting 67 = .ok (.goto (-63), 3) := by decide +kernel
theorem dX12_waiting_70 : decode cX12_waiting 70 = .ok (.bipush (-9), 2) := by decide +kernel
theorem dX12_waiting_72 : decode cX12_waiting 72 = .ok (.ireturn, 1) := by decide +kernel
set_option maxRecDepth 20000 in
theorem ggX12_readsAll_X12_waiting : GoodIn wsX12_readsAll wsX12_waiting := goodIn_r _ [7, 2, 8, 9, 1, 38, 39, 40, 41, 42, 43, 44, 45, 46, 47, 48, 49, 50, 51, 52, 53, 54, 55, 56, 57, 58, 59, 60, 61, 62, 63, 64, 65, 66, 67, 68, 69, 70, 71, 72, 73, 74, 75, 76, 77, 78, 79, 80, 81, 82, 83, 84, 85, 86, 87, 88, 89, 90, 91, 92, 93, 94] rfl (by decide +kernel)
set_option maxRecDepth 20000 in
theorem gX12_readsAll_X12_waiting : GoodIn wsX12_readsAll (wsV RX12 373 RX12 yX12_waiting wsX12_waiting) := goodIn_app (goodIn_of _ (by decide +kernel)) ggX12_readsAll_X12_waiting
set_option maxRecDepth 20000 in
theorem ggX12_readsAll_X12_becomesRead : GoodIn wsX12_readsAll wsX12_becomesRead := goodIn_r _ [13, 9, 1, 14, 15, 16, 17, 6, 18, 19, 20, 21, 22, 23, 24, 25, 26, 27, 28, 29, 30, 31, 32, 33, 34, 35, 36, 37, 38, 39, 40, 41, 42, 43, 44, 45, 46, 47, 48, 49, 50, 51, 52, 53, 54, 55, 56, 57, 58, 59, 60, 61, 62, 63, 64, 65, 66, 67, 68, 69, 70, 71, 72, 73, 74, 75, 76, 77, 78, 79, 80, 81, 82, 83, 84, 85, 86, 87, 88, 89, 90, 91, 92, 93, 94] rfl (by decide +kernel)
set_option maxRecDepth 20000 in
theorem gX12_readsAll_X12_becomesRead : GoodIn wsX12_readsAll (wsV RX12 376 RX12 yX12_becomesRead wsX12_becomesRead) := goodIn_app (goodIn_of _ (by decide +kernel)) ggX12_readsAll_X12_becomesRead
theorem dX12_readsAll_0 : decode cX12_readsAll 0 = .ok (.aload_n 0, 1) := by decide +kernel
theorem dX12_readsAll_1 : decode cX12_readsAll 1 = .ok (.iconst 0, 1) := by decide +kernel
theorem dX12_readsAll_2 : decode cX12_readsAll 2 = .ok (.invokevirtual 373, 3) := by decide +kernel
theorem dX12_readsAll_5 : decode cX12_readsAll 5 = .ok (.istore_n 1, 1) := by decide +kernel
theorem dX12_readsAll_6 : decode cX12_readsAll 6 = .ok (.iload_n 1, 1) := by decide +kernel
theorem dX12_readsAll_7 : decode cX12_readsAll 7 = .ok (.bipush (-9), 2) := by decide +kernel
theorem dX12_readsAll_9 : decode cX12_readsAll 9 = .ok (.if_icmp .eq 32, 3) := by decide +kernel
theorem dX12_readsAll_12 : decode cX12_readsAll 12 = .ok (.aload_n 0, 1) := by decide +kernel
theorem dX12_readsAll_13 : decode cX12_readsAll 13 = .ok (.getfield 47, 3) := by decide +kernel
theorem dX12_readsAll_16 : decode cX12_readsAll 16 = .ok (.iload_n 1, 1) := by decide +kernel
theorem dX12_readsAll_17 : decode cX12_readsAll 17 = .ok (.iaload, 1) := by decide +kernel
theorem dX12_readsAll_18 : decode cX12_readsAll 18 = .ok (.aload_n 0, 1) := by decide +kernel
theorem dX12_readsAll_19 : decode cX12_readsAll 19 = .ok (.getfield 32, 3) := by decide +kernel
theorem dX12_readsAll_22 : decode cX12_readsAll 22 = .ok (.iconst 1, 1) := by decide +kernel
theorem dX12_readsAll_23 : decode cX12_readsAll 23 = .ok (.iaload, 1) := by decide +kernel
theorem dX12_readsAll_24 : decode cX12_readsAll 24 = .ok (.if_icmp .gt 17, 3) := by decide +kernel
theorem dX12_readsAll_27 : decode cX12_readsAll 27 = .ok (.aload_n 0, 1) := by decide +kernel
theorem dX12_readsAll_28 : decode cX12_readsAll 28 = .ok (.iload_n 1, 1) := by decide +kernel
theorem dX12_readsAll_29 : decode cX12_readsAll 29 = .ok (.invokevirtual 376, 3) := by decide +kernel
theorem dX12_readsAll_32 : decode cX12_readsAll 32 = .ok (.aload_n 0, 1) := by decide +kernel
theorem dX12_readsAll_33 : decode cX12_readsAll 33 = .ok (.iconst 0, 1) := by decide +kernel
theorem dX12_readsAll_34 : decode cX12_readsAll 34 = .ok (.invokevirtual 373, 3) := by decide +kernel
theorem dX12_readsAll_37 : decode cX12_readsAll 37 = .ok (.istore_n 1, 1) := by decide +kernel
theorem dX12_readsAll_38 : decode cX12_readsAll 38 = .ok (.goto (-32), 3) := by decide +kernel
theorem dX12_readsAll_41 : decode cX12_readsAll 41 = .ok (.return_, 1) := by decide +kernel
set_option maxRecDepth 20000 in
theorem ggX12_does_X12_makesRoom : GoodIn wsX12_does wsX12_makesRoom := goodIn_r _ [10, 11, 2, 12, 13, 14, 9, 15, 16, 17, 18, 19, 20, 21, 22, 23, 24, 25, 26, 27, 72, 73, 74, 75, 76, 77, 78, 79, 80, 81, 82, 83, 84, 85, 86, 87, 88, 89, 90, 91, 92, 93, 94, 95, 96, 97, 98, 99, 100, 101, 102, 103, 104, 105, 106, 107, 108, 109, 110, 111, 112, 113, 114, 115, 116, 117, 118, 119, 120, 121, 122, 123, 124, 125, 126, 127, 128] rfl (by decide +kernel)
set_option maxRecDepth 20000 in
theorem gX12_does_X12_makesRoom : GoodIn wsX12_does (wsV RX12 246 RX12 yX12_makesRoom wsX12_makesRoom) := goodIn_app (goodIn_of _ (by decide +kernel)) ggX12_does_X12_makesRoom
set_option maxRecDepth 20000 in
theorem ggX12_does_X12_comes : GoodIn wsX12_does wsX12_comes := goodIn_r _ [31, 21, 32, 11, 22, 23, 24, 9, 25, 26, 27, 6, 7, 8, 10, 2, 12, 13, 14, 15, 16, 17, 18, 19, 20, 72, 73, 74, 75, 76, 77, 78, 79, 80, 81, 82, 83, 84, 85, 86, 87, 88, 89, 90, 91, 92, 93, 94, 95, 96, 97, 98, 99, 100, 101, 102, 103, 104, 105, 106, 107, 108, 109, 110, 111, 112, 113, 114, 115, 116, 117, 118, 119, 120, 121, 122, 123, 124, 125, 126, 127, 128] rfl (by decide +kernel)
set_option maxRecDepth 20000 in
theorem gX12_does_X12_comes : GoodIn wsX12_does (wsV RX12 292 RX12 yX12_comes wsX12_comes) := goodIn_app (goodIn_of _ (by decide +kernel)) ggX12_does_X12_comes
set_option maxRecDepth 20000 in
theorem ggX12_does_X12_readsAll : GoodIn wsX12_does wsX12_readsAll := goodIn_r _ [36, 37, 32, 38, 39, 40, 9, 41, 42, 43, 44, 45, 46, 47, 48, 49, 50, 51, 52, 53, 54, 55, 56, 57, 58, 59, 60, 61, 62, 63, 64, 65, 66, 67, 68, 69, 70, 71, 72, 73, 74, 75, 76, 77, 78, 79, 80, 81, 82, 83, 84, 85, 86, 87, 88, 89, 90, 91, 92, 93, 94, 95, 96, 97, 98, 99, 100, 101, 102, 103, 104, 105, 106, 107, 108, 109, 110, 111, 112, 113, 114, 115, 116, 117, 118, 119, 120, 121, 122, 123, 124, 125, 126, 127, 128] rfl (by decide +kernel)
set_option maxRecDepth 20000 in
theorem gX12_does_X12_readsAll : GoodIn wsX12_does (wsV RX12 379 RX12 yX12_readsAll wsX12_readsAll) := goodIn_app (goodIn_of _ (by decide +kernel)) ggX12_does_X12_readsAll
theorem dX12_does_0 : decode cX12_does 0 = .ok (.aload_n 0, 1) := by decide +kernel
theorem dX12_does_1 : decode cX12_does 1 = .ok (.getfield 90, 3) := by decide +kernel
theorem dX12_does_4 : decode cX12_does 4 = .ok (.iconst 0, 1) := by decide +kernel
theorem dX12_does_5 : decode cX12_does 5 = .ok (.iaload, 1) := by decide +kernel
theorem dX12_does_6 : decode cX12_does 6 = .ok (.ifCond .ne 25, 3) := by decide +kernel
theorem dX12_does_9 : decode cX12_does 9 = .ok (.aload_n 0, 1) := by decide +kernel
theorem dX12_does_10 : decode cX12_does 10 = .ok (.getfield 38, 3) := by decide +kernel
theorem dX12_does_13 : decode cX12_does 13 = .ok (.iconst 1, 1) := by decide +kernel
theorem dX12_does_14 : decode cX12_does 14 = .ok (.aload_n 0, 1) := by decide +kernel
theorem dX12_does_15 : decode cX12_does 15 = .ok (.getfield 96, 3) := by decide +kernel
theorem dX12_does_18 : decode cX12_does 18 = .ok (.iconst 0, 1) := by decide +kernel
theorem dX12_does_19 : decode cX12_does 19 = .ok (.iaload, 1) := by decide +kernel
theorem dX12_does_20 : decode cX12_does 20 = .ok (.iastore, 1) := by decide +kernel
theorem dX12_does_21 : decode cX12_does 21 = .ok (.aload_n 0, 1) := by decide +kernel
theorem dX12_does_22 : decode cX12_does 22 = .ok (.iconst 1, 1) := by decide +kernel
theorem dX12_does_23 : decode cX12_does 23 = .ok (.iconst 0, 1) := by decide +kernel
theorem dX12_does_24 : decode cX12_does 24 = .ok (.invokevirtual 246, 3) := by decide +kernel
theorem dX12_does_27 : decode cX12_does 27 = .ok (.pop, 1) := by decide +kernel
theorem dX12_does_28 : decode cX12_does 28 = .ok (.goto 18, 3) := by decide +kernel
theorem dX12_does_31 : decode cX12_does 31 = .ok (.aload_n 0, 1) := by decide +kernel
theorem dX12_does_32 : decode cX12_does 32 = .ok (.iconst 1, 1) := by decide +kernel
theorem dX12_does_33 : decode cX12_does 33 = .ok (.aload_n 0, 1) := by decide +kernel
theorem dX12_does_34 : decode cX12_does 34 = .ok (.getfield 96, 3) := by decide +kernel
theorem dX12_does_37 : decode cX12_does 37 = .ok (.iconst 0, 1) := by decide +kernel
theorem dX12_does_38 : decode cX12_does 38 = .ok (.iaload, 1) := by decide +kernel
theorem dX12_does_39 : decode cX12_does 39 = .ok (.invokevirtual 292, 3) := by decide +kernel
theorem dX12_does_42 : decode cX12_does 42 = .ok (.aload_n 0, 1) := by decide +kernel
theorem dX12_does_43 : decode cX12_does 43 = .ok (.invokevirtual 379, 3) := by decide +kernel
theorem dX12_does_46 : decode cX12_does 46 = .ok (.aload_n 0, 1) := by decide +kernel
theorem dX12_does_47 : decode cX12_does 47 = .ok (.dup, 1) := by decide +kernel
theorem dX12_does_48 : decode cX12_does 48 = .ok (.getfield 280, 3) := by decide +kernel
theorem dX12_does_51 : decode cX12_does 51 = .ok (.iconst 1, 1) := by decide +kernel
theorem dX12_does_52 : decode cX12_does 52 = .ok (.isub, 1) := by decide +kernel
theorem dX12_does_53 : decode cX12_does 53 = .ok (.putfield 280, 3) := by decide +kernel
theorem dX12_does_56 : decode cX12_does 56 = .ok (.iconst 0, 1) := by decide +kernel
theorem dX12_does_57 : decode cX12_does 57 = .ok (.istore_n 1, 1) := by decide +kernel
theorem dX12_does_58 : decode cX12_does 58 = .ok (.iload_n 1, 1) := by decide +kernel
theorem dX12_does_59 : decode cX12_does 59 = .ok (.aload_n 0, 1) := by decide +kernel
theorem dX12_does_60 : decode cX12_does 60 = .ok (.getfield 280, 3) := by decide +kernel
theorem dX12_does_63 : decode cX12_does 63 = .ok (.if_icmp .ge 51, 3) := by decide +kernel
theorem dX12_does_66 : decode cX12_does 66 = .ok (.aload_n 0, 1) := by decide +kernel
theorem dX12_does_67 : decode cX12_does 67 = .ok (.getfield 90, 3) := by decide +kernel
theorem dX12_does_70 : decode cX12_does 70 = .ok (.iload_n 1, 1) := by decide +kernel
theorem dX12_does_71 : decode cX12_does 71 = .ok (.aload_n 0, 1) := by decide +kernel
theorem dX12_does_72 : decode cX12_does 72 = .ok (.getfield 90, 3) := by decide +kernel
theorem dX12_does_75 : decode cX12_does 75 = .ok (.iload_n 1, 1) := by decide +kernel
theorem dX12_does_76 : decode cX12_does 76 = .ok (.iconst 1, 1) := by decide +kernel
theorem dX12_does_77 : decode cX12_does 77 = .ok (.iadd, 1) := by decide +kernel
theorem dX12_does_78 : decode cX12_does 78 = .ok (.iaload, 1) := by decide +kernel
theorem dX12_does_79 : decode cX12_does 79 = .ok (.iastore, 1) := by decide +kernel
theorem dX12_does_80 : decode cX12_does 80 = .ok (.aload_n 0, 1) := by decide +kernel
theorem dX12_does_81 : decode cX12_does 81 = .ok (.getfield 96, 3) := by decide +kernel
theorem dX12_does_84 : decode cX12_does 84 = .ok (.iload_n 1, 1) := by decide +kernel
theorem dX12_does_85 : decode cX12_does 85 = .ok (.aload_n 0, 1) := by decide +kernel
theorem dX12_does_86 : decode cX12_does 86 = .ok (.getfield 96, 3) := by decide +kernel
theorem dX12_does_89 : decode cX12_does 89 = .ok (.iload_n 1, 1) := by decide +kernel
theorem dX12_does_90 : decode cX12_does 90 = .ok (.iconst 1, 1) := by decide +kernel
theorem dX12_does_91 : decode cX12_does 91 = .ok (.iadd, 1) := by decide +kernel
theorem dX12_does_92 : decode cX12_does 92 = .ok (.iaload, 1) := by decide +kernel
theorem dX12_does_93 : decode cX12_does 93 = .ok (.iastore, 1) := by decide +kernel
theorem dX12_does_94 : decode cX12_does 94 = .ok (.aload_n 0, 1) := by decide +kernel
theorem dX12_does_95 : decode cX12_does 95 = .ok (.getfield 93, 3) := by decide +kernel
theorem dX12_does_98 : decode cX12_does 98 = .ok (.iload_n 1, 1) := by decide +kernel
theorem dX12_does_99 : decode cX12_does 99 = .ok (.aload_n 0, 1) := by decide +kernel
theorem dX12_does_100 : decode cX12_does 100 = .ok (.getfield 93, 3) := by decide +kernel
theorem dX12_does_103 : decode cX12_does 103 = .ok (.iload_n 1, 1) := by decide +kernel
theorem dX12_does_104 : decode cX12_does 104 = .ok (.iconst 1, 1) := by decide +kernel
theorem dX12_does_105 : decode cX12_does 105 = .ok (.iadd, 1) := by decide +kernel
theorem dX12_does_106 : decode cX12_does 106 = .ok (.iaload, 1) := by decide +kernel
theorem dX12_does_107 : decode cX12_does 107 = .ok (.iastore, 1) := by decide +kernel
theorem dX12_does_108 : decode cX12_does 108 = .ok (.iinc 1 1, 3) := by decide +kernel
theorem dX12_does_111 : decode cX12_does 111 = .ok (.goto (-53), 3) := by decide +kernel
theorem dX12_does_114 : decode cX12_does 114 = .ok (.return_, 1) := by decide +kernel
set_option maxRecDepth 20000 in
theorem ggX12_feeds_X12_in : GoodIn wsX12_feeds wsX12_in := goodIn_r _ [8] rfl (by decide +kernel)
set_option maxRecDepth 20000 in
theorem gX12_feeds_X12_in : GoodIn wsX12_feeds (va_wsS RX12 124 yX12_in wsX12_in) := goodIn_app (goodIn_of _ (by decide +kernel)) ggX12_feeds_X12_in
set_option maxRecDepth 20000 in
theorem ggX12_feeds_X12_lesser : GoodIn wsX12_feeds wsX12_lesser := goodIn_r _ [11] rfl (by decide +kernel)
set_option maxRecDepth 20000 in
theorem gX12_feeds_X12_lesser : GoodIn wsX12_feeds (va_wsS RX12 283 yX12_lesser wsX12_lesser) := goodIn_app (goodIn_of _ (by decide +kernel)) ggX12_feeds_X12_lesser
set_option maxRecDepth 20000 in
theorem ggX12_feeds_X12_does : GoodIn wsX12_feeds wsX12_does := goodIn_r _ [15, 16, 17, 18, 19, 3, 20, 21, 22, 7, 23, 24, 25, 26, 27, 28, 29, 30, 31, 32, 33, 34, 35, 36, 37, 38, 39, 40, 41, 42, 43, 44, 45, 46, 47, 48, 49, 50, 51, 52, 53, 54, 55, 56, 57, 58, 59, 60, 61, 62, 63, 64, 65, 66, 67, 68, 69, 70, 71, 72, 73, 74, 75, 76, 77, 78, 79, 80, 81, 82, 83, 84, 85, 86, 87, 88, 89, 90, 91, 92, 93, 94, 95, 96, 97, 98, 99, 100, 101, 102, 103, 104, 105, 106, 107, 108, 109, 110, 111, 112, 113, 114, 115, 116, 117, 118, 119, 120, 121, 122, 123, 124, 125, 126, 127, 128, 129, 130, 131, 132, 133, 134, 135, 136, 137, 138, 139, 140, 141] rfl (by decide +kernel)
set_option maxRecDepth 20000 in
theorem gX12_feeds_X12_does : GoodIn wsX12_feeds (wsV RX12 384 RX12 yX12_does wsX12_does) := goodIn_app (goodIn_of _ (by decide +kernel)) ggX12_feeds_X12_does
theorem dX12_feeds_0 : decode cX12_feeds 0 = .ok (.iload_n 1, 1) := by decide +kernel
theorem dX12_feeds_1 : decode cX12_feeds 1 = .ok (.i2l, 1) := by decide +kernel
theorem dX12_feeds_2 : decode cX12_feeds 2 = .ok (.lconst 1, 1) := by decide +kernel
theorem dX12_feeds_3 : decode cX12_feeds 3 = .ok (.ldc2_w 382, 3) := by decide +kernel
theorem dX12_feeds_6 : decode cX12_feeds 6 = .ok (.invokestatic 124, 3) := by decide +kernel
theorem dX12_feeds_9 : decode cX12_feeds 9 = .ok (.ifCond .ne 5, 3) := by decide +kernel
theorem dX12_feeds_12 : decode cX12_feeds 12 = .ok (.iconst (-1), 1) := by decide +kernel
theorem dX12_feeds_13 : decode cX12_feeds 13 = .ok (.ireturn, 1) := by decide +kernel
theorem dX12_feeds_14 : decode cX12_feeds 14 = .ok (.iconst 0, 1) := by decide +kernel
theorem dX12_feeds_15 : decode cX12_feeds 15 = .ok (.istore_n 2, 1) := by decide +kernel
theorem dX12_feeds_16 : decode cX12_feeds 16 = .ok (.iload_n 1, 1) := by decide +kernel
theorem dX12_feeds_17 : decode cX12_feeds 17 = .ok (.aload_n 0, 1) := by decide +kernel
theorem dX12_feeds_18 : decode cX12_feeds 18 = .ok (.getfield 277, 3) := by decide +kernel
theorem dX12_feeds_21 : decode cX12_feeds 21 = .ok (.invokestatic 283, 3) := by decide +kernel
theorem dX12_feeds_24 : decode cX12_feeds 24 = .ok (.istore_n 3, 1) := by decide +kernel
theorem dX12_feeds_25 : decode cX12_feeds 25 = .ok (.iconst 0, 1) := by decide +kernel
theorem dX12_feeds_26 : decode cX12_feeds 26 = .ok (.istore 4, 2) := by decide +kernel
theorem dX12_feeds_28 : decode cX12_feeds 28 = .ok (.iload 4, 2) := by decide +kernel
theorem dX12_feeds_30 : decode cX12_feeds 30 = .ok (.iload_n 3, 1) := by decide +kernel
theorem dX12_feeds_31 : decode cX12_feeds 31 = .ok (.if_icmp .ge 35, 3) := by decide +kernel
theorem dX12_feeds_34 : decode cX12_feeds 34 = .ok (.aload_n 0, 1) := by decide +kernel
theorem dX12_feeds_35 : decode cX12_feeds 35 = .ok (.getfield 93, 3) := by decide +kernel
theorem dX12_feeds_38 : decode cX12_feeds 38 = .ok (.iconst 0, 1) := by decide +kernel
theorem dX12_feeds_39 : decode cX12_feeds 39 = .ok (.dup2, 1) := by decide +kernel
theorem dX12_feeds_40 : decode cX12_feeds 40 = .ok (.iaload, 1) := by decide +kernel
theorem dX12_feeds_41 : decode cX12_feeds 41 = .ok (.iconst 1, 1) := by decide +kernel
theorem dX12_feeds_42 : decode cX12_feeds 42 = .ok (.isub, 1) := by decide +kernel
theorem dX12_feeds_43 : decode cX12_feeds 43 = .ok (.iastore, 1) := by decide +kernel
theorem dX12_feeds_44 : decode cX12_feeds 44 = .ok (.aload_n 0, 1) := by decide +kernel
theorem dX12_feeds_45 : decode cX12_feeds 45 = .ok (.getfield 93, 3) := by decide +kernel
theorem dX12_feeds_48 : decode cX12_feeds 48 = .ok (.iconst 0, 1) := by decide +kernel
theorem dX12_feeds_49 : decode cX12_feeds 49 = .ok (.iaload, 1) := by decide +kernel
theorem dX12_feeds_50 : decode cX12_feeds 50 = .ok (.ifCond .ne 10, 3) := by decide +kernel
theorem dX12_feeds_53 : decode cX12_feeds 53 = .ok (.aload_n 0, 1) := by decide +kernel
theorem dX12_feeds_54 : decode cX12_feeds 54 = .ok (.invokevirtual 384, 3) := by decide +kernel
theorem dX12_feeds_57 : decode cX12_feeds 57 = .ok (.iinc 2 1, 3) := by decide +kernel
theorem dX12_feeds_60 : decode cX12_feeds 60 = .ok (.iinc 4 1, 3) := by decide +kernel
theorem dX12_feeds_63 : decode cX12_feeds 63 = .ok (.goto (-35), 3) := by decide +kernel
theorem dX12_feeds_66 : decode cX12_feeds 66 = .ok (.aload_n 0, 1) := by decide +kernel
theorem dX12_feeds_67 : decode cX12_feeds 67 = .ok (.dup, 1) := by decide +kernel
theorem dX12_feeds_68 : decode cX12_feeds 68 = .ok (.getfield 277, 3) := by decide +kernel
theorem dX12_feeds_71 : decode cX12_feeds 71 = .ok (.iload_n 3, 1) := by decide +kernel
theorem dX12_feeds_72 : decode cX12_feeds 72 = .ok (.isub, 1) := by decide +kernel
theorem dX12_feeds_73 : decode cX12_feeds 73 = .ok (.putfield 277, 3) := by decide +kernel
theorem dX12_feeds_76 : decode cX12_feeds 76 = .ok (.iconst 0, 1) := by decide +kernel
theorem dX12_feeds_77 : decode cX12_feeds 77 = .ok (.istore 4, 2) := by decide +kernel
theorem dX12_feeds_79 : decode cX12_feeds 79 = .ok (.iload 4, 2) := by decide +kernel
theorem dX12_feeds_81 : decode cX12_feeds 81 = .ok (.aload_n 0, 1) := by decide +kernel
theorem dX12_feeds_82 : decode cX12_feeds 82 = .ok (.getfield 277, 3) := by decide +kernel
theorem dX12_feeds_85 : decode cX12_feeds 85 = .ok (.if_icmp .ge 25, 3) := by decide +kernel
theorem dX12_feeds_88 : decode cX12_feeds 88 = .ok (.aload_n 0, 1) := by decide +kernel
theorem dX12_feeds_89 : decode cX12_feeds 89 = .ok (.getfield 87, 3) := by decide +kernel
theorem dX12_feeds_92 : decode cX12_feeds 92 = .ok (.iload 4, 2) := by decide +kernel
theorem dX12_feeds_94 : decode cX12_feeds 94 = .ok (.aload_n 0, 1) := by decide +kernel
theorem dX12_feeds_95 : decode cX12_feeds 95 = .ok (.getfield 87, 3) := by decide +kernel
theorem dX12_feeds_98 : decode cX12_feeds 98 = .ok (.iload 4, 2) := by decide +kernel
theorem dX12_feeds_100 : decode cX12_feeds 100 = .ok (.iload_n 3, 1) := by decide +kernel
theorem dX12_feeds_101 : decode cX12_feeds 101 = .ok (.iadd, 1) := by decide +kernel
theorem dX12_feeds_102 : decode cX12_feeds 102 = .ok (.iaload, 1) := by decide +kernel
theorem dX12_feeds_103 : decode cX12_feeds 103 = .ok (.iastore, 1) := by decide +kernel
theorem dX12_feeds_104 : decode cX12_feeds 104 = .ok (.iinc 4 1, 3) := by decide +kernel
theorem dX12_feeds_107 : decode cX12_feeds 107 = .ok (.goto (-28), 3) := by decide +kernel
theorem dX12_feeds_110 : decode cX12_feeds 110 = .ok (.iload_n 2, 1) := by decide +kernel
theorem dX12_feeds_111 : decode cX12_feeds 111 = .ok (.ireturn, 1) := by decide +kernel
set_option maxRecDepth 20000 in
theorem ggX12_isLetter_X12_in : GoodIn wsX12_isLetter wsX12_in := goodIn_r _ [5] rfl (by decide +kernel)
set_option maxRecDepth 20000 in
theorem gX12_isLetter_X12_in : GoodIn wsX12_isLetter (va_wsS RX12 124 yX12_in wsX12_in) := goodIn_app (goodIn_of _ (by decide +kernel)) ggX12_isLetter_X12_in
theorem dX12_isLetter_0 : decode cX12_isLetter 0 = .ok (.iload_n 1, 1) := by decide +kernel
theorem dX12_isLetter_1 : decode cX12_isLetter 1 = .ok (.i2l, 1) := by decide +kernel
theorem dX12_isLetter_2 : decode cX12_isLetter 2 = .ok (.lconst 0, 1) := by decide +kernel
theorem dX12_isLetter_3 : decode cX12_isLetter 3 = .ok (.aload_n 0, 1) := by decide +kernel
theorem dX12_isLetter_4 : decode cX12_isLetter 4 = .ok (.getfield 252, 3) := by decide +kernel
theorem dX12_isLetter_7 : decode cX12_isLetter 7 = .ok (.iconst 1, 1) := by decide +kernel
theorem dX12_isLetter_8 : decode cX12_isLetter 8 = .ok (.isub, 1) := by decide +kernel
theorem dX12_isLetter_9 : decode cX12_isLetter 9 = .ok (.i2l, 1) := by decide +kernel
theorem dX12_isLetter_10 : decode cX12_isLetter 10 = .ok (.invokestatic 124, 3) := by decide +kernel
theorem dX12_isLetter_13 : decode cX12_isLetter 13 = .ok (.ireturn, 1) := by decide +kernel
set_option maxRecDepth 20000 in
theorem ggX12_gives_X12_isLetter : GoodIn wsX12_gives wsX12_isLetter := goodIn_r _ [11, 12, 13, 14, 10, 15, 47, 48, 49, 50, 51, 52, 53, 54, 55, 56, 57, 58, 59, 60, 61, 62, 63, 64, 65, 66, 67, 68, 69, 70, 71, 72, 73, 74, 75, 76, 77, 78, 79, 80, 81, 82, 83, 84, 85, 86, 87, 88, 89, 90, 91, 92, 93, 94, 95, 96, 97, 98, 99, 100, 101, 102, 103] rfl (by decide +kernel)
set_option maxRecDepth 20000 in
theorem gX12_gives_X12_isLetter : GoodIn wsX12_gives (wsV RX12 387 RX12 yX12_isLetter wsX12_isLetter) := goodIn_app (goodIn_of _ (by decide +kernel)) ggX12_gives_X12_isLetter
set_option maxRecDepth 20000 in
theorem ggX12_gives_X12_in : GoodIn wsX12_gives wsX12_in := goodIn_r _ [15] rfl (by decide +kernel)
set_option maxRecDepth 20000 in
theorem gX12_gives_X12_in : GoodIn wsX12_gives (va_wsS RX12 124 yX12_in wsX12_in) := goodIn_app (goodIn_of _ (by decide +kernel)) ggX12_gives_X12_in
set_option maxRecDepth 20000 in
theorem ggX12_gives_X12_lesser : GoodIn wsX12_gives wsX12_lesser := goodIn_r _ [18] rfl (by decide +kernel)
set_option maxRecDepth 20000 in
theorem gX12_gives_X12_lesser : GoodIn wsX12_gives (va_wsS RX12 283 yX12_lesser wsX12_lesser) := goodIn_app (goodIn_of _ (by decide +kernel)) ggX12_gives_X12_lesser
set_option maxRecDepth 20000 in
theorem ggX12_gives_X12_becomesRead : GoodIn wsX12_gives wsX12_becomesRead := goodIn_r _ [22, 2, 5, 23, 24, 25, 26, 10, 27, 28, 29, 30, 31, 32, 33, 34, 35, 36, 37, 38, 39, 40, 41, 42, 43, 44, 45, 46, 47, 48, 49, 50, 51, 52, 53, 54, 55, 56, 57, 58, 59, 60, 61, 62, 63, 64, 65, 66, 67, 68, 69, 70, 71, 72, 73, 74, 75, 76, 77, 78, 79, 80, 81, 82, 83, 84, 85, 86, 87, 88, 89, 90, 91, 92, 93, 94, 95, 96, 97, 98, 99, 100, 101, 102, 103] rfl (by decide +kernel)
set_option maxRecDepth 20000 in
theorem gX12_gives_X12_becomesRead : GoodIn wsX12_gives (wsV RX12 376 RX12 yX12_becomesRead wsX12_becomesRead) := goodIn_app (goodIn_of _ (by decide +kernel)) ggX12_gives_X12_becomesRead
theorem dX12_gives_0 : decode cX12_gives 0 = .ok (.aload_n 0, 1) := by decide +kernel
theorem dX12_gives_1 : decode cX12_gives 1 = .ok (.iload_n 1, 1) := by decide +kernel
theorem dX12_gives_2 : decode cX12_gives 2 = .ok (.invokevirtual 387, 3) := by decide +kernel
theorem dX12_gives_5 : decode cX12_gives 5 = .ok (.ifCond .eq 15, 3) := by decide +kernel
theorem dX12_gives_8 : decode cX12_gives 8 = .ok (.iload_n 2, 1) := by decide +kernel
theorem dX12_gives_9 : decode cX12_gives 9 = .ok (.i2l, 1) := by decide +kernel
theorem dX12_gives_10 : decode cX12_gives 10 = .ok (.lconst 1, 1) := by decide +kernel
theorem dX12_gives_11 : decode cX12_gives 11 = .ok (.ldc2_w 382, 3) := by decide +kernel
theorem dX12_gives_14 : decode cX12_gives 14 = .ok (.invokestatic 124, 3) := by decide +kernel
theorem dX12_gives_17 : decode cX12_gives 17 = .ok (.ifCond .ne 5, 3) := by decide +kernel
theorem dX12_gives_20 : decode cX12_gives 20 = .ok (.iconst (-1), 1) := by decide +kernel
theorem dX12_gives_21 : decode cX12_gives 21 = .ok (.ireturn, 1) := by decide +kernel
theorem dX12_gives_22 : decode cX12_gives 22 = .ok (.aload_n 0, 1) := by decide +kernel
theorem dX12_gives_23 : decode cX12_gives 23 = .ok (.getfield 59, 3) := by decide +kernel
theorem dX12_gives_26 : decode cX12_gives 26 = .ok (.iload_n 1, 1) := by decide +kernel
theorem dX12_gives_27 : decode cX12_gives 27 = .ok (.iaload, 1) := by decide +kernel
theorem dX12_gives_28 : decode cX12_gives 28 = .ok (.ifCond .eq 6, 3) := by decide +kernel
theorem dX12_gives_31 : decode cX12_gives 31 = .ok (.bipush (-2), 2) := by decide +kernel
theorem dX12_gives_33 : decode cX12_gives 33 = .ok (.ireturn, 1) := by decide +kernel
theorem dX12_gives_34 : decode cX12_gives 34 = .ok (.aload_n 0, 1) := by decide +kernel
theorem dX12_gives_35 : decode cX12_gives 35 = .ok (.getfield 56, 3) := by decide +kernel
theorem dX12_gives_38 : decode cX12_gives 38 = .ok (.iload_n 1, 1) := by decide +kernel
theorem dX12_gives_39 : decode cX12_gives 39 = .ok (.aload_n 0, 1) := by decide +kernel
theorem dX12_gives_40 : decode cX12_gives 40 = .ok (.getfield 53, 3) := by decide +kernel
theorem dX12_gives_43 : decode cX12_gives 43 = .ok (.iload_n 1, 1) := by decide +kernel
theorem dX12_gives_44 : decode cX12_gives 44 = .ok (.iaload, 1) := by decide +kernel
theorem dX12_gives_45 : decode cX12_gives 45 = .ok (.aload_n 0, 1) := by decide +kernel
theorem dX12_gives_46 : decode cX12_gives 46 = .ok (.getfield 56, 3) := by decide +kernel
theorem dX12_gives_49 : decode cX12_gives 49 = .ok (.iload_n 1, 1) := by decide +kernel
theorem dX12_gives_50 : decode cX12_gives 50 = .ok (.iaload, 1) := by decide +kernel
theorem dX12_gives_51 : decode cX12_gives 51 = .ok (.iload_n 2, 1) := by decide +kernel
theorem dX12_gives_52 : decode cX12_gives 52 = .ok (.iadd, 1) := by decide +kernel
theorem dX12_gives_53 : decode cX12_gives 53 = .ok (.invokestatic 283, 3) := by decide +kernel
theorem dX12_gives_56 : decode cX12_gives 56 = .ok (.iastore, 1) := by decide +kernel
theorem dX12_gives_57 : decode cX12_gives 57 = .ok (.aload_n 0, 1) := by decide +kernel
theorem dX12_gives_58 : decode cX12_gives 58 = .ok (.getfield 56, 3) := by decide +kernel
theorem dX12_gives_61 : decode cX12_gives 61 = .ok (.iload_n 1, 1) := by decide +kernel
theorem dX12_gives_62 : decode cX12_gives 62 = .ok (.iaload, 1) := by decide +kernel
theorem dX12_gives_63 : decode cX12_gives 63 = .ok (.aload_n 0, 1) := by decide +kernel
theorem dX12_gives_64 : decode cX12_gives 64 = .ok (.getfield 53, 3) := by decide +kernel
theorem dX12_gives_67 : decode cX12_gives 67 = .ok (.iload_n 1, 1) := by decide +kernel
theorem dX12_gives_68 : decode cX12_gives 68 = .ok (.iaload, 1) := by decide +kernel
theorem dX12_gives_69 : decode cX12_gives 69 = .ok (.if_icmp .ge 5, 3) := by decide +kernel
theorem dX12_gives_72 : decode cX12_gives 72 = .ok (.iconst 0, 1) := by decide +kernel
theorem dX12_gives_73 : decode cX12_gives 73 = .ok (.ireturn, 1) := by decide +kernel
theorem dX12_gives_74 : decode cX12_gives 74 = .ok (.aload_n 0, 1) := by decide +kernel
theorem dX12_gives_75 : decode cX12_gives 75 = .ok (.getfield 47, 3) := by decide +kernel
theorem dX12_gives_78 : decode cX12_gives 78 = .ok (.iload_n 1, 1) := by decide +kernel
theorem dX12_gives_79 : decode cX12_gives 79 = .ok (.iaload, 1) := by decide +kernel
theorem dX12_gives_80 : decode cX12_gives 80 = .ok (.aload_n 0, 1) := by decide +kernel
theorem dX12_gives_81 : decode cX12_gives 81 = .ok (.getfield 32, 3) := by decide +kernel
theorem dX12_gives_84 : decode cX12_gives 84 = .ok (.iconst 1, 1) := by decide +kernel
theorem dX12_gives_85 : decode cX12_gives 85 = .ok (.iaload, 1) := by decide +kernel
theorem dX12_gives_86 : decode cX12_gives 86 = .ok (.if_icmp .le 12, 3) := by decide +kernel
theorem dX12_gives_89 : decode cX12_gives 89 = .ok (.aload_n 0, 1) := by decide +kernel
theorem dX12_gives_90 : decode cX12_gives 90 = .ok (.getfield 59, 3) := by decide +kernel
theorem dX12_gives_93 : decode cX12_gives 93 = .ok (.iload_n 1, 1) := by decide +kernel
theorem dX12_gives_94 : decode cX12_gives 94 = .ok (.iconst 1, 1) := by decide +kernel
theorem dX12_gives_95 : decode cX12_gives 95 = .ok (.iastore, 1) := by decide +kernel
theorem dX12_gives_96 : decode cX12_gives 96 = .ok (.iconst 1, 1) := by decide +kernel
theorem dX12_gives_97 : decode cX12_gives 97 = .ok (.ireturn, 1) := by decide +kernel
theorem dX12_gives_98 : decode cX12_gives 98 = .ok (.aload_n 0, 1) := by decide +kernel
theorem dX12_gives_99 : decode cX12_gives 99 = .ok (.iload_n 1, 1) := by decide +kernel
theorem dX12_gives_100 : decode cX12_gives 100 = .ok (.invokevirtual 376, 3) := by decide +kernel
theorem dX12_gives_103 : decode cX12_gives 103 = .ok (.iconst 2, 1) := by decide +kernel
theorem dX12_gives_104 : decode cX12_gives 104 = .ok (.ireturn, 1) := by decide +kernel
set_option maxRecDepth 20000 in
theorem ggX12_quits_X12_isLetter : GoodIn wsX12_quits wsX12_isLetter := goodIn_r _ [7, 8, 9, 10, 6, 11, 32, 33, 34, 35, 36, 37, 38, 39, 40, 41, 42, 43, 44, 45, 46, 47, 48, 49, 50, 51, 52, 53, 54, 55, 56, 57, 58, 59, 60, 61, 62, 63, 64, 65, 66, 67, 68, 69, 70, 71, 72, 73, 74, 75, 76, 77, 78, 79, 80, 81, 82, 83, 84, 85, 86, 87, 88] rfl (by decide +kernel)
set_option maxRecDepth 20000 in
theorem gX12_quits_X12_isLetter : GoodIn wsX12_quits (wsV RX12 387 RX12 yX12_isLetter wsX12_isLetter) := goodIn_app (goodIn_of _ (by decide +kernel)) ggX12_quits_X12_isLetter
set_option maxRecDepth 20000 in
theorem ggX12_quits_X12_answer : GoodIn wsX12_quits wsX12_answer := goodIn_r _ [15, 16, 17, 18, 19, 20, 21, 22, 23, 24, 25, 26, 6, 27, 28, 29, 30, 31, 32, 33, 34, 35, 36, 37, 38, 39, 40, 41, 42, 43, 44, 45, 46, 47, 48, 49, 50, 51, 52, 53, 54, 55, 56, 57, 58, 59, 60, 61, 62, 63, 64, 65, 66, 67, 68, 69, 70, 71, 72, 73, 74, 75, 76, 77, 78, 79, 80, 81, 82, 83, 84, 85, 86, 87, 88] rfl (by decide +kernel)
set_option maxRecDepth 20000 in
theorem gX12_quits_X12_answer : GoodIn wsX12_quits (wsV RX12 367 RX12 yX12_answer wsX12_answer) := goodIn_app (goodIn_of _ (by decide +kernel)) ggX12_quits_X12_answer
theorem dX12_quits_0 : decode cX12_quits 0 = .ok (.aload_n 0, 1) := by decide +kernel
theorem dX12_quits_1 : decode cX12_quits 1 = .ok (.iload_n 1, 1) := by decide +kernel
theorem dX12_quits_2 : decode cX12_quits 2 = .ok (.invokevirtual 387, 3) := by decide +kernel
theorem dX12_quits_5 : decode cX12_quits 5 = .ok (.ifCond .ne 5, 3) := by decide +kernel
theorem dX12_quits_8 : decode cX12_quits 8 = .ok (.iconst (-1), 1) := by decide +kernel
theorem dX12_quits_9 : decode cX12_quits 9 = .ok (.ireturn, 1) := by decide +kernel
theorem dX12_quits_10 : decode cX12_quits 10 = .ok (.aload_n 0, 1) := by decide +kernel
theorem dX12_quits_11 : decode cX12_quits 11 = .ok (.getfield 59, 3) := by decide +kernel
theorem dX12_quits_14 : decode cX12_quits 14 = .ok (.iload_n 1, 1) := by decide +kernel
theorem dX12_quits_15 : decode cX12_quits 15 = .ok (.iaload, 1) := by decide +kernel
theorem dX12_quits_16 : decode cX12_quits 16 = .ok (.iconst 1, 1) := by decide +kernel
theorem dX12_quits_17 : decode cX12_quits 17 = .ok (.if_icmp .le 6, 3) := by decide +kernel
theorem dX12_quits_20 : decode cX12_quits 20 = .ok (.bipush (-2), 2) := by decide +kernel
theorem dX12_quits_22 : decode cX12_quits 22 = .ok (.ireturn, 1) := by decide +kernel
theorem dX12_quits_23 : decode cX12_quits 23 = .ok (.aload_n 0, 1) := by decide +kernel
theorem dX12_quits_24 : decode cX12_quits 24 = .ok (.getfield 59, 3) := by decide +kernel
theorem dX12_quits_27 : decode cX12_quits 27 = .ok (.iload_n 1, 1) := by decide +kernel
theorem dX12_quits_28 : decode cX12_quits 28 = .ok (.iconst 3, 1) := by decide +kernel
theorem dX12_quits_29 : decode cX12_quits 29 = .ok (.iastore, 1) := by decide +kernel
theorem dX12_quits_30 : decode cX12_quits 30 = .ok (.aload_n 0, 1) := by decide +kernel
theorem dX12_quits_31 : decode cX12_quits 31 = .ok (.iconst 1, 1) := by decide +kernel
theorem dX12_quits_32 : decode cX12_quits 32 = .ok (.iload_n 1, 1) := by decide +kernel
theorem dX12_quits_33 : decode cX12_quits 33 = .ok (.invokevirtual 367, 3) := by decide +kernel
theorem dX12_quits_36 : decode cX12_quits 36 = .ok (.aload_n 0, 1) := by decide +kernel
theorem dX12_quits_37 : decode cX12_quits 37 = .ok (.getfield 56, 3) := by decide +kernel
theorem dX12_quits_40 : decode cX12_quits 40 = .ok (.iload_n 1, 1) := by decide +kernel
theorem dX12_quits_41 : decode cX12_quits 41 = .ok (.iaload, 1) := by decide +kernel
theorem dX12_quits_42 : decode cX12_quits 42 = .ok (.ireturn, 1) := by decide +kernel
set_option maxRecDepth 20000 in
theorem ggX12_grows_X12_answer : GoodIn wsX12_grows wsX12_answer := goodIn_r _ [8, 9, 10, 3, 11, 12, 13, 14, 15, 16, 17, 18, 7, 19, 20, 21, 22, 23, 24, 25, 26, 27, 28, 29, 30, 31, 32, 33, 34, 35, 36, 37, 38, 39, 40, 41, 42, 43, 44, 45, 46, 47, 48, 49, 50, 51, 52, 53, 54, 55, 56, 57, 58, 59, 60, 61, 62, 63, 64, 65, 66, 67, 68, 69, 70, 71, 72, 73, 74, 75, 76, 77, 78, 79, 80] rfl (by decide +kernel)
set_option maxRecDepth 20000 in
theorem gX12_grows_X12_answer : GoodIn wsX12_grows (wsV RX12 367 RX12 yX12_answer wsX12_answer) := goodIn_app (goodIn_of _ (by decide +kernel)) ggX12_grows_X12_answer
theorem dX12_grows_0 : decode cX12_grows 0 = .ok (.aload_n 0, 1) := by decide +kernel
theorem dX12_grows_1 : decode cX12_grows 1 = .ok (.getfield 32, 3) := by decide +kernel
theorem dX12_grows_4 : decode cX12_grows 4 = .ok (.iconst 1, 1) := by decide +kernel
theorem dX12_grows_5 : decode cX12_grows 5 = .ok (.iaload, 1) := by decide +kernel
theorem dX12_grows_6 : decode cX12_grows 6 = .ok (.aload_n 0, 1) := by decide +kernel
theorem dX12_grows_7 : decode cX12_grows 7 = .ok (.getfield 370, 3) := by decide +kernel
theorem dX12_grows_10 : decode cX12_grows 10 = .ok (.isub, 1) := by decide +kernel
theorem dX12_grows_11 : decode cX12_grows 11 = .ok (.istore_n 1, 1) := by decide +kernel
theorem dX12_grows_12 : decode cX12_grows 12 = .ok (.iload_n 1, 1) := by decide +kernel
theorem dX12_grows_13 : decode cX12_grows 13 = .ok (.ifCond .ne 6, 3) := by decide +kernel
theorem dX12_grows_16 : decode cX12_grows 16 = .ok (.bipush (-2), 2) := by decide +kernel
theorem dX12_grows_18 : decode cX12_grows 18 = .ok (.ireturn, 1) := by decide +kernel
theorem dX12_grows_19 : decode cX12_grows 19 = .ok (.aload_n 0, 1) := by decide +kernel
theorem dX12_grows_20 : decode cX12_grows 20 = .ok (.getfield 361, 3) := by decide +kernel
theorem dX12_grows_23 : decode cX12_grows 23 = .ok (.bipush 100, 2) := by decide +kernel
theorem dX12_grows_25 : decode cX12_grows 25 = .ok (.if_icmp .lt 6, 3) := by decide +kernel
theorem dX12_grows_28 : decode cX12_grows 28 = .ok (.bipush (-3), 2) := by decide +kernel
theorem dX12_grows_30 : decode cX12_grows 30 = .ok (.ireturn, 1) := by decide +kernel
theorem dX12_grows_31 : decode cX12_grows 31 = .ok (.aload_n 0, 1) := by decide +kernel
theorem dX12_grows_32 : decode cX12_grows 32 = .ok (.iconst 2, 1) := by decide +kernel
theorem dX12_grows_33 : decode cX12_grows 33 = .ok (.iload_n 1, 1) := by decide +kernel
theorem dX12_grows_34 : decode cX12_grows 34 = .ok (.invokevirtual 367, 3) := by decide +kernel
theorem dX12_grows_37 : decode cX12_grows 37 = .ok (.aload_n 0, 1) := by decide +kernel
theorem dX12_grows_38 : decode cX12_grows 38 = .ok (.aload_n 0, 1) := by decide +kernel
theorem dX12_grows_39 : decode cX12_grows 39 = .ok (.getfield 32, 3) := by decide +kernel
theorem dX12_grows_42 : decode cX12_grows 42 = .ok (.iconst 1, 1) := by decide +kernel
theorem dX12_grows_43 : decode cX12_grows 43 = .ok (.iaload, 1) := by decide +kernel
theorem dX12_grows_44 : decode cX12_grows 44 = .ok (.putfield 370, 3) := by decide +kernel
theorem dX12_grows_47 : decode cX12_grows 47 = .ok (.iload_n 1, 1) := by decide +kernel
theorem dX12_grows_48 : decode cX12_grows 48 = .ok (.ireturn, 1) := by decide +kernel
set_option maxRecDepth 20000 in
theorem ggX12_hearsFirst_X12_greater : GoodIn wsX12_hearsFirst wsX12_greater := goodIn_r _ [11] rfl (by decide +kernel)
set_option maxRecDepth 20000 in
theorem gX12_hearsFirst_X12_greater : GoodIn wsX12_hearsFirst (va_wsS RX12 353 yX12_greater wsX12_greater) := goodIn_app (goodIn_of _ (by decide +kernel)) ggX12_hearsFirst_X12_greater
theorem dX12_hearsFirst_0 : decode cX12_hearsFirst 0 = .ok (.aload_n 0, 1) := by decide +kernel
theorem dX12_hearsFirst_1 : decode cX12_hearsFirst 1 = .ok (.getfield 111, 3) := by decide +kernel
theorem dX12_hearsFirst_4 : decode cX12_hearsFirst 4 = .ok (.iconst 0, 1) := by decide +kernel
theorem dX12_hearsFirst_5 : decode cX12_hearsFirst 5 = .ok (.iaload, 1) := by decide +kernel
theorem dX12_hearsFirst_6 : decode cX12_hearsFirst 6 = .ok (.istore_n 1, 1) := by decide +kernel
theorem dX12_hearsFirst_7 : decode cX12_hearsFirst 7 = .ok (.aload_n 0, 1) := by decide +kernel
theorem dX12_hearsFirst_8 : decode cX12_hearsFirst 8 = .ok (.getfield 108, 3) := by decide +kernel
theorem dX12_hearsFirst_11 : decode cX12_hearsFirst 11 = .ok (.iconst 0, 1) := by decide +kernel
theorem dX12_hearsFirst_12 : decode cX12_hearsFirst 12 = .ok (.iaload, 1) := by decide +kernel
theorem dX12_hearsFirst_13 : decode cX12_hearsFirst 13 = .ok (.iconst 2, 1) := by decide +kernel
theorem dX12_hearsFirst_14 : decode cX12_hearsFirst 14 = .ok (.if_icmp .ne 16, 3) := by decide +kernel
theorem dX12_hearsFirst_17 : decode cX12_hearsFirst 17 = .ok (.aload_n 0, 1) := by decide +kernel
theorem dX12_hearsFirst_18 : decode cX12_hearsFirst 18 = .ok (.dup, 1) := by decide +kernel
theorem dX12_hearsFirst_19 : decode cX12_hearsFirst 19 = .ok (.getfield 258, 3) := by decide +kernel
theorem dX12_hearsFirst_22 : decode cX12_hearsFirst 22 = .ok (.iload_n 1, 1) := by decide +kernel
theorem dX12_hearsFirst_23 : decode cX12_hearsFirst 23 = .ok (.iadd, 1) := by decide +kernel
theorem dX12_hearsFirst_24 : decode cX12_hearsFirst 24 = .ok (.putfield 258, 3) := by decide +kernel
theorem dX12_hearsFirst_27 : decode cX12_hearsFirst 27 = .ok (.goto 43, 3) := by decide +kernel
theorem dX12_hearsFirst_30 : decode cX12_hearsFirst 30 = .ok (.aload_n 0, 1) := by decide +kernel
theorem dX12_hearsFirst_31 : decode cX12_hearsFirst 31 = .ok (.getfield 62, 3) := by decide +kernel
theorem dX12_hearsFirst_34 : decode cX12_hearsFirst 34 = .ok (.iload_n 1, 1) := by decide +kernel
theorem dX12_hearsFirst_35 : decode cX12_hearsFirst 35 = .ok (.iconst 1, 1) := by decide +kernel
theorem dX12_hearsFirst_36 : decode cX12_hearsFirst 36 = .ok (.bastore, 1) := by decide +kernel
theorem dX12_hearsFirst_37 : decode cX12_hearsFirst 37 = .ok (.aload_n 0, 1) := by decide +kernel
theorem dX12_hearsFirst_38 : decode cX12_hearsFirst 38 = .ok (.aload_n 0, 1) := by decide +kernel
theorem dX12_hearsFirst_39 : decode cX12_hearsFirst 39 = .ok (.getfield 108, 3) := by decide +kernel
theorem dX12_hearsFirst_42 : decode cX12_hearsFirst 42 = .ok (.iconst 0, 1) := by decide +kernel
theorem dX12_hearsFirst_43 : decode cX12_hearsFirst 43 = .ok (.iaload, 1) := by decide +kernel
theorem dX12_hearsFirst_44 : decode cX12_hearsFirst 44 = .ok (.ifCond .ne 19, 3) := by decide +kernel
theorem dX12_hearsFirst_47 : decode cX12_hearsFirst 47 = .ok (.aload_n 0, 1) := by decide +kernel
theorem dX12_hearsFirst_48 : decode cX12_hearsFirst 48 = .ok (.getfield 258, 3) := by decide +kernel
theorem dX12_hearsFirst_51 : decode cX12_hearsFirst 51 = .ok (.aload_n 0, 1) := by decide +kernel
theorem dX12_hearsFirst_52 : decode cX12_hearsFirst 52 = .ok (.getfield 47, 3) := by decide +kernel
theorem dX12_hearsFirst_55 : decode cX12_hearsFirst 55 = .ok (.iload_n 1, 1) := by decide +kernel
theorem dX12_hearsFirst_56 : decode cX12_hearsFirst 56 = .ok (.iaload, 1) := by decide +kernel
theorem dX12_hearsFirst_57 : decode cX12_hearsFirst 57 = .ok (.invokestatic 353, 3) := by decide +kernel
theorem dX12_hearsFirst_60 : decode cX12_hearsFirst 60 = .ok (.goto 7, 3) := by decide +kernel
theorem dX12_hearsFirst_63 : decode cX12_hearsFirst 63 = .ok (.aload_n 0, 1) := by decide +kernel
theorem dX12_hearsFirst_64 : decode cX12_hearsFirst 64 = .ok (.getfield 258, 3) := by decide +kernel
theorem dX12_hearsFirst_67 : decode cX12_hearsFirst 67 = .ok (.putfield 258, 3) := by decide +kernel
theorem dX12_hearsFirst_70 : decode cX12_hearsFirst 70 = .ok (.aload_n 0, 1) := by decide +kernel
theorem dX12_hearsFirst_71 : decode cX12_hearsFirst 71 = .ok (.dup, 1) := by decide +kernel
theorem dX12_hearsFirst_72 : decode cX12_hearsFirst 72 = .ok (.getfield 364, 3) := by decide +kernel
theorem dX12_hearsFirst_75 : decode cX12_hearsFirst 75 = .ok (.iconst 1, 1) := by decide +kernel
theorem dX12_hearsFirst_76 : decode cX12_hearsFirst 76 = .ok (.isub, 1) := by decide +kernel
theorem dX12_hearsFirst_77 : decode cX12_hearsFirst 77 = .ok (.putfield 364, 3) := by decide +kernel
theorem dX12_hearsFirst_80 : decode cX12_hearsFirst 80 = .ok (.iconst 0, 1) := by decide +kernel
theorem dX12_hearsFirst_81 : decode cX12_hearsFirst 81 = .ok (.istore_n 2, 1) := by decide +kernel
theorem dX12_hearsFirst_82 : decode cX12_hearsFirst 82 = .ok (.iload_n 2, 1) := by decide +kernel
theorem dX12_hearsFirst_83 : decode cX12_hearsFirst 83 = .ok (.aload_n 0, 1) := by decide +kernel
theorem dX12_hearsFirst_84 : decode cX12_hearsFirst 84 = .ok (.getfield 364, 3) := by decide +kernel
theorem dX12_hearsFirst_87 : decode cX12_hearsFirst 87 = .ok (.if_icmp .ge 51, 3) := by decide +kernel
theorem dX12_hearsFirst_90 : decode cX12_hearsFirst 90 = .ok (.aload_n 0, 1) := by decide +kernel
theorem dX12_hearsFirst_91 : decode cX12_hearsFirst 91 = .ok (.getfield 108, 3) := by decide +kernel
theorem dX12_hearsFirst_94 : decode cX12_hearsFirst 94 = .ok (.iload_n 2, 1) := by decide +kernel
theorem dX12_hearsFirst_95 : decode cX12_hearsFirst 95 = .ok (.aload_n 0, 1) := by decide +kernel
theorem dX12_hearsFirst_96 : decode cX12_hearsFirst 96 = .ok (.getfield 108, 3) := by decide +kernel
theorem dX12_hearsFirst_99 : decode cX12_hearsFirst 99 = .ok (.iload_n 2, 1) := by decide +kernel
theorem dX12_hearsFirst_100 : decode cX12_hearsFirst 100 = .ok (.iconst 1, 1) := by decide +kernel
theorem dX12_hearsFirst_101 : decode cX12_hearsFirst 101 = .ok (.iadd, 1) := by decide +kernel
theorem dX12_hearsFirst_102 : decode cX12_hearsFirst 102 = .ok (.iaload, 1) := by decide +kernel
theorem dX12_hearsFirst_103 : decode cX12_hearsFirst 103 = .ok (.iastore, 1) := by decide +kernel
theorem dX12_hearsFirst_104 : decode cX12_hearsFirst 104 = .ok (.aload_n 0, 1) := by decide +kernel
theorem dX12_hearsFirst_105 : decode cX12_hearsFirst 105 = .ok (.getfield 111, 3) := by decide +kernel
theorem dX12_hearsFirst_108 : decode cX12_hearsFirst 108 = .ok (.iload_n 2, 1) := by decide +kernel
theorem dX12_hearsFirst_109 : decode cX12_hearsFirst 109 = .ok (.aload_n 0, 1) := by decide +kernel
theorem dX12_hearsFirst_110 : decode cX12_hearsFirst 110 = .ok (.getfield 111, 3) := by decide +kernel
theorem dX12_hearsFirst_113 : decode cX12_hearsFirst 113 = .ok (.iload_n 2, 1) := by decide +kernel
theorem dX12_hearsFirst_114 : decode cX12_hearsFirst 114 = .ok (.iconst 1, 1) := by decide +kernel
theorem dX12_hearsFirst_115 : decode cX12_hearsFirst 115 = .ok (.iadd, 1) := by decide +kernel
theorem dX12_hearsFirst_116 : decode cX12_hearsFirst 116 = .ok (.iaload, 1) := by decide +kernel
theorem dX12_hearsFirst_117 : decode cX12_hearsFirst 117 = .ok (.iastore, 1) := by decide +kernel
theorem dX12_hearsFirst_118 : decode cX12_hearsFirst 118 = .ok (.aload_n 0, 1) := by decide +kernel
theorem dX12_hearsFirst_119 : decode cX12_hearsFirst 119 = .ok (.getfield 114, 3) := by decide +kernel
theorem dX12_hearsFirst_122 : decode cX12_hearsFirst 122 = .ok (.iload_n 2, 1) := by decide +kernel
theorem dX12_hearsFirst_123 : decode cX12_hearsFirst 123 = .ok (.aload_n 0, 1) := by decide +kernel
theorem dX12_hearsFirst_124 : decode cX12_hearsFirst 124 = .ok (.getfield 114, 3) := by decide +kernel
theorem dX12_hearsFirst_127 : decode cX12_hearsFirst 127 = .ok (.iload_n 2, 1) := by decide +kernel
theorem dX12_hearsFirst_128 : decode cX12_hearsFirst 128 = .ok (.iconst 1, 1) := by decide +kernel
theorem dX12_hearsFirst_129 : decode cX12_hearsFirst 129 = .ok (.iadd, 1) := by decide +kernel
theorem dX12_hearsFirst_130 : decode cX12_hearsFirst 130 = .ok (.iaload, 1) := by decide +kernel
theorem dX12_hearsFirst_131 : decode cX12_hearsFirst 131 = .ok (.iastore, 1) := by decide +kernel
theorem dX12_hearsFirst_132 : decode cX12_hearsFirst 132 = .ok (.iinc 2 1, 3) := by decide +kernel
theorem dX12_hearsFirst_135 : decode cX12_hearsFirst 135 = .ok (.goto (-53), 3) := by decide +kernel
theorem dX12_hearsFirst_138 : decode cX12_hearsFirst 138 = .ok (.return_, 1) := by decide +kernel
set_option maxRecDepth 20000 in
theorem ggX12_hears_X12_in : GoodIn wsX12_hears wsX12_in := goodIn_r _ [8] rfl (by decide +kernel)
set_option maxRecDepth 20000 in
theorem gX12_hears_X12_in : GoodIn wsX12_hears (va_wsS RX12 124 yX12_in wsX12_in) := goodIn_app (goodIn_of _ (by decide +kernel)) ggX12_hears_X12_in
set_option maxRecDepth 20000 in
theorem ggX12_hears_X12_lesser : GoodIn wsX12_hears wsX12_lesser := goodIn_r _ [11] rfl (by decide +kernel)
set_option maxRecDepth 20000 in
theorem gX12_hears_X12_lesser : GoodIn wsX12_hears (va_wsS RX12 283 yX12_lesser wsX12_lesser) := goodIn_app (goodIn_of _ (by decide +kernel)) ggX12_hears_X12_lesser
set_option maxRecDepth 20000 in
theorem ggX12_hears_X12_hearsFirst : GoodIn wsX12_hears wsX12_hearsFirst := goodIn_r _ [15, 16, 17, 18, 19, 20, 21, 3, 22, 23, 7, 24, 25, 26, 27, 28, 29, 30, 31, 32, 33, 34, 35, 36, 37, 38, 39, 40, 41, 42, 43, 44, 45, 46, 47, 48, 49, 50, 51, 52, 53, 54, 55, 56, 57, 58, 59, 60, 61, 62, 63, 64, 65, 66, 67, 68, 69, 70, 71, 72, 73, 74, 75, 76, 77, 78, 79, 80, 81] rfl (by decide +kernel)
set_option maxRecDepth 20000 in
theorem gX12_hears_X12_hearsFirst : GoodIn wsX12_hears (wsV RX12 390 RX12 yX12_hearsFirst wsX12_hearsFirst) := goodIn_app (goodIn_of _ (by decide +kernel)) ggX12_hears_X12_hearsFirst
theorem dX12_hears_0 : decode cX12_hears 0 = .ok (.iload_n 1, 1) := by decide +kernel
theorem dX12_hears_1 : decode cX12_hears 1 = .ok (.i2l, 1) := by decide +kernel
theorem dX12_hears_2 : decode cX12_hears 2 = .ok (.lconst 1, 1) := by decide +kernel
theorem dX12_hears_3 : decode cX12_hears 3 = .ok (.ldc2_w 382, 3) := by decide +kernel
theorem dX12_hears_6 : decode cX12_hears 6 = .ok (.invokestatic 124, 3) := by decide +kernel
theorem dX12_hears_9 : decode cX12_hears 9 = .ok (.ifCond .ne 5, 3) := by decide +kernel
theorem dX12_hears_12 : decode cX12_hears 12 = .ok (.iconst (-1), 1) := by decide +kernel
theorem dX12_hears_13 : decode cX12_hears 13 = .ok (.ireturn, 1) := by decide +kernel
theorem dX12_hears_14 : decode cX12_hears 14 = .ok (.iconst 0, 1) := by decide +kernel
theorem dX12_hears_15 : decode cX12_hears 15 = .ok (.istore_n 2, 1) := by decide +kernel
theorem dX12_hears_16 : decode cX12_hears 16 = .ok (.iload_n 1, 1) := by decide +kernel
theorem dX12_hears_17 : decode cX12_hears 17 = .ok (.aload_n 0, 1) := by decide +kernel
theorem dX12_hears_18 : decode cX12_hears 18 = .ok (.getfield 361, 3) := by decide +kernel
theorem dX12_hears_21 : decode cX12_hears 21 = .ok (.invokestatic 283, 3) := by decide +kernel
theorem dX12_hears_24 : decode cX12_hears 24 = .ok (.istore_n 3, 1) := by decide +kernel
theorem dX12_hears_25 : decode cX12_hears 25 = .ok (.iconst 0, 1) := by decide +kernel
theorem dX12_hears_26 : decode cX12_hears 26 = .ok (.istore 4, 2) := by decide +kernel
theorem dX12_hears_28 : decode cX12_hears 28 = .ok (.iload 4, 2) := by decide +kernel
theorem dX12_hears_30 : decode cX12_hears 30 = .ok (.iload_n 3, 1) := by decide +kernel
theorem dX12_hears_31 : decode cX12_hears 31 = .ok (.if_icmp .ge 35, 3) := by decide +kernel
theorem dX12_hears_34 : decode cX12_hears 34 = .ok (.aload_n 0, 1) := by decide +kernel
theorem dX12_hears_35 : decode cX12_hears 35 = .ok (.getfield 114, 3) := by decide +kernel
theorem dX12_hears_38 : decode cX12_hears 38 = .ok (.iconst 0, 1) := by decide +kernel
theorem dX12_hears_39 : decode cX12_hears 39 = .ok (.dup2, 1) := by decide +kernel
theorem dX12_hears_40 : decode cX12_hears 40 = .ok (.iaload, 1) := by decide +kernel
theorem dX12_hears_41 : decode cX12_hears 41 = .ok (.iconst 1, 1) := by decide +kernel
theorem dX12_hears_42 : decode cX12_hears 42 = .ok (.isub, 1) := by decide +kernel
theorem dX12_hears_43 : decode cX12_hears 43 = .ok (.iastore, 1) := by decide +kernel
theorem dX12_hears_44 : decode cX12_hears 44 = .ok (.aload_n 0, 1) := by decide +kernel
theorem dX12_hears_45 : decode cX12_hears 45 = .ok (.getfield 114, 3) := by decide +kernel
theorem dX12_hears_48 : decode cX12_hears 48 = .ok (.iconst 0, 1) := by decide +kernel
theorem dX12_hears_49 : decode cX12_hears 49 = .ok (.iaload, 1) := by decide +kernel
theorem dX12_hears_50 : decode cX12_hears 50 = .ok (.ifCond .ne 10, 3) := by decide +kernel
theorem dX12_hears_53 : decode cX12_hears 53 = .ok (.aload_n 0, 1) := by decide +kernel
theorem dX12_hears_54 : decode cX12_hears 54 = .ok (.invokevirtual 390, 3) := by decide +kernel
theorem dX12_hears_57 : decode cX12_hears 57 = .ok (.iinc 2 1, 3) := by decide +kernel
theorem dX12_hears_60 : decode cX12_hears 60 = .ok (.iinc 4 1, 3) := by decide +kernel
theorem dX12_hears_63 : decode cX12_hears 63 = .ok (.goto (-35), 3) := by decide +kernel
theorem dX12_hears_66 : decode cX12_hears 66 = .ok (.aload_n 0, 1) := by decide +kernel
theorem dX12_hears_67 : decode cX12_hears 67 = .ok (.dup, 1) := by decide +kernel
theorem dX12_hears_68 : decode cX12_hears 68 = .ok (.getfield 361, 3) := by decide +kernel
theorem dX12_hears_71 : decode cX12_hears 71 = .ok (.iload_n 3, 1) := by decide +kernel
theorem dX12_hears_72 : decode cX12_hears 72 = .ok (.isub, 1) := by decide +kernel
theorem dX12_hears_73 : decode cX12_hears 73 = .ok (.putfield 361, 3) := by decide +kernel
theorem dX12_hears_76 : decode cX12_hears 76 = .ok (.iconst 0, 1) := by decide +kernel
theorem dX12_hears_77 : decode cX12_hears 77 = .ok (.istore 4, 2) := by decide +kernel
theorem dX12_hears_79 : decode cX12_hears 79 = .ok (.iload 4, 2) := by decide +kernel
theorem dX12_hears_81 : decode cX12_hears 81 = .ok (.aload_n 0, 1) := by decide +kernel
theorem dX12_hears_82 : decode cX12_hears 82 = .ok (.getfield 361, 3) := by decide +kernel
theorem dX12_hears_85 : decode cX12_hears 85 = .ok (.if_icmp .ge 25, 3) := by decide +kernel
theorem dX12_hears_88 : decode cX12_hears 88 = .ok (.aload_n 0, 1) := by decide +kernel
theorem dX12_hears_89 : decode cX12_hears 89 = .ok (.getfield 105, 3) := by decide +kernel
theorem dX12_hears_92 : decode cX12_hears 92 = .ok (.iload 4, 2) := by decide +kernel
theorem dX12_hears_94 : decode cX12_hears 94 = .ok (.aload_n 0, 1) := by decide +kernel
theorem dX12_hears_95 : decode cX12_hears 95 = .ok (.getfield 105, 3) := by decide +kernel
theorem dX12_hears_98 : decode cX12_hears 98 = .ok (.iload 4, 2) := by decide +kernel
theorem dX12_hears_100 : decode cX12_hears 100 = .ok (.iload_n 3, 1) := by decide +kernel
theorem dX12_hears_101 : decode cX12_hears 101 = .ok (.iadd, 1) := by decide +kernel
theorem dX12_hears_102 : decode cX12_hears 102 = .ok (.iaload, 1) := by decide +kernel
theorem dX12_hears_103 : decode cX12_hears 103 = .ok (.iastore, 1) := by decide +kernel
theorem dX12_hears_104 : decode cX12_hears 104 = .ok (.iinc 4 1, 3) := by decide +kernel
theorem dX12_hears_107 : decode cX12_hears 107 = .ok (.goto (-28), 3) := by decide +kernel
theorem dX12_hears_110 : decode cX12_hears 110 = .ok (.iload_n 2, 1) := by decide +kernel
theorem dX12_hears_111 : decode cX12_hears 111 = .ok (.ireturn, 1) := by decide +kernel
theorem dX12_begins_0 : decode cX12_begins 0 = .ok (.iconst 0, 1) := by decide +kernel
theorem dX12_begins_1 : decode cX12_begins 1 = .ok (.istore_n 1, 1) := by decide +kernel
theorem dX12_begins_2 : decode cX12_begins 2 = .ok (.iload_n 1, 1) := by decide +kernel
theorem dX12_begins_3 : decode cX12_begins 3 = .ok (.iconst 2, 1) := by decide +kernel
theorem dX12_begins_4 : decode cX12_begins 4 = .ok (.if_icmp .ge 37, 3) := by decide +kernel
theorem dX12_begins_7 : decode cX12_begins 7 = .ok (.aload_n 0, 1) := by decide +kernel
theorem dX12_begins_8 : decode cX12_begins 8 = .ok (.getfield 32, 3) := by decide +kernel
theorem dX12_begins_11 : decode cX12_begins 11 = .ok (.iload_n 1, 1) := by decide +kernel
theorem dX12_begins_12 : decode cX12_begins 12 = .ok (.iconst 0, 1) := by decide +kernel
theorem dX12_begins_13 : decode cX12_begins 13 = .ok (.iastore, 1) := by decide +kernel
theorem dX12_begins_14 : decode cX12_begins 14 = .ok (.aload_n 0, 1) := by decide +kernel
theorem dX12_begins_15 : decode cX12_begins 15 = .ok (.getfield 35, 3) := by decide +kernel
theorem dX12_begins_18 : decode cX12_begins 18 = .ok (.iload_n 1, 1) := by decide +kernel
theorem dX12_begins_19 : decode cX12_begins 19 = .ok (.iconst 0, 1) := by decide +kernel
theorem dX12_begins_20 : decode cX12_begins 20 = .ok (.iastore, 1) := by decide +kernel
theorem dX12_begins_21 : decode cX12_begins 21 = .ok (.aload_n 0, 1) := by decide +kernel
theorem dX12_begins_22 : decode cX12_begins 22 = .ok (.getfield 38, 3) := by decide +kernel
theorem dX12_begins_25 : decode cX12_begins 25 = .ok (.iload_n 1, 1) := by decide +kernel
theorem dX12_begins_26 : decode cX12_begins 26 = .ok (.iconst 0, 1) := by decide +kernel
theorem dX12_begins_27 : decode cX12_begins 27 = .ok (.iastore, 1) := by decide +kernel
theorem dX12_begins_28 : decode cX12_begins 28 = .ok (.aload_n 0, 1) := by decide +kernel
theorem dX12_begins_29 : decode cX12_begins 29 = .ok (.getfield 41, 3) := by decide +kernel
theorem dX12_begins_32 : decode cX12_begins 32 = .ok (.iload_n 1, 1) := by decide +kernel
theorem dX12_begins_33 : decode cX12_begins 33 = .ok (.iconst 0, 1) := by decide +kernel
theorem dX12_begins_34 : decode cX12_begins 34 = .ok (.iastore, 1) := by decide +kernel
theorem dX12_begins_35 : decode cX12_begins 35 = .ok (.iinc 1 1, 3) := by decide +kernel
theorem dX12_begins_38 : decode cX12_begins 38 = .ok (.goto (-36), 3) := by decide +kernel
theorem dX12_begins_41 : decode cX12_begins 41 = .ok (.aload_n 0, 1) := by decide +kernel
theorem dX12_begins_42 : decode cX12_begins 42 = .ok (.iconst 0, 1) := by decide +kernel
theorem dX12_begins_43 : decode cX12_begins 43 = .ok (.putfield 258, 3) := by decide +kernel
theorem dX12_begins_46 : decode cX12_begins 46 = .ok (.aload_n 0, 1) := by decide +kernel
theorem dX12_begins_47 : decode cX12_begins 47 = .ok (.iconst 0, 1) := by decide +kernel
theorem dX12_begins_48 : decode cX12_begins 48 = .ok (.putfield 370, 3) := by decide +kernel
theorem dX12_begins_51 : decode cX12_begins 51 = .ok (.aload_n 0, 1) := by decide +kernel
theorem dX12_begins_52 : decode cX12_begins 52 = .ok (.iconst 0, 1) := by decide +kernel
theorem dX12_begins_53 : decode cX12_begins 53 = .ok (.putfield 252, 3) := by decide +kernel
theorem dX12_begins_56 : decode cX12_begins 56 = .ok (.aload_n 0, 1) := by decide +kernel
theorem dX12_begins_57 : decode cX12_begins 57 = .ok (.iconst 0, 1) := by decide +kernel
theorem dX12_begins_58 : decode cX12_begins 58 = .ok (.putfield 325, 3) := by decide +kernel
theorem dX12_begins_61 : decode cX12_begins 61 = .ok (.aload_n 0, 1) := by decide +kernel
theorem dX12_begins_62 : decode cX12_begins 62 = .ok (.iconst 0, 1) := by decide +kernel
theorem dX12_begins_63 : decode cX12_begins 63 = .ok (.putfield 249, 3) := by decide +kernel
theorem dX12_begins_66 : decode cX12_begins 66 = .ok (.aload_n 0, 1) := by decide +kernel
theorem dX12_begins_67 : decode cX12_begins 67 = .ok (.iconst 0, 1) := by decide +kernel
theorem dX12_begins_68 : decode cX12_begins 68 = .ok (.putfield 277, 3) := by decide +kernel
theorem dX12_begins_71 : decode cX12_begins 71 = .ok (.aload_n 0, 1) := by decide +kernel
theorem dX12_begins_72 : decode cX12_begins 72 = .ok (.iconst 0, 1) := by decide +kernel
theorem dX12_begins_73 : decode cX12_begins 73 = .ok (.putfield 280, 3) := by decide +kernel
theorem dX12_begins_76 : decode cX12_begins 76 = .ok (.aload_n 0, 1) := by decide +kernel
theorem dX12_begins_77 : decode cX12_begins 77 = .ok (.iconst 0, 1) := by decide +kernel
theorem dX12_begins_78 : decode cX12_begins 78 = .ok (.putfield 361, 3) := by decide +kernel
theorem dX12_begins_81 : decode cX12_begins 81 = .ok (.aload_n 0, 1) := by decide +kernel
theorem dX12_begins_82 : decode cX12_begins 82 = .ok (.iconst 0, 1) := by decide +kernel
theorem dX12_begins_83 : decode cX12_begins 83 = .ok (.putfield 364, 3) := by decide +kernel
theorem dX12_begins_86 : decode cX12_begins 86 = .ok (.return_, 1) := by decide +kernel
set_option maxRecDepth 20000 in
theorem ggX12_table_X12_in : GoodIn wsX12_table wsX12_in := goodIn_r _ [8] rfl (by decide +kernel)
set_option maxRecDepth 20000 in
theorem gX12_table_X12_in : GoodIn wsX12_table (va_wsS RX12 124 yX12_in wsX12_in) := goodIn_app (goodIn_of _ (by decide +kernel)) ggX12_table_X12_in
theorem dX12_table_0 : decode cX12_table 0 = .ok (.iload_n 1, 1) := by decide +kernel
theorem dX12_table_1 : decode cX12_table 1 = .ok (.i2l, 1) := by decide +kernel
theorem dX12_table_2 : decode cX12_table 2 = .ok (.lconst 0, 1) := by decide +kernel
theorem dX12_table_3 : decode cX12_table 3 = .ok (.lconst 1, 1) := by decide +kernel
theorem dX12_table_4 : decode cX12_table 4 = .ok (.invokestatic 124, 3) := by decide +kernel
theorem dX12_table_7 : decode cX12_table 7 = .ok (.ifCond .ne 5, 3) := by decide +kernel
theorem dX12_table_10 : decode cX12_table 10 = .ok (.iconst (-1), 1) := by decide +kernel
theorem dX12_table_11 : decode cX12_table 11 = .ok (.ireturn, 1) := by decide +kernel
theorem dX12_table_12 : decode cX12_table 12 = .ok (.iload_n 2, 1) := by decide +kernel
theorem dX12_table_13 : decode cX12_table 13 = .ok (.tableswitch 97 0 4 #[35, 42, 56, 63, 70], 35) := by decide +kernel
theorem dX12_table_48 : decode cX12_table 48 = .ok (.aload_n 0, 1) := by decide +kernel
theorem dX12_table_49 : decode cX12_table 49 = .ok (.getfield 32, 3) := by decide +kernel
theorem dX12_table_52 : decode cX12_table 52 = .ok (.iload_n 1, 1) := by decide +kernel
theorem dX12_table_53 : decode cX12_table 53 = .ok (.iaload, 1) := by decide +kernel
theorem dX12_table_54 : decode cX12_table 54 = .ok (.ireturn, 1) := by decide +kernel
theorem dX12_table_55 : decode cX12_table 55 = .ok (.aload_n 0, 1) := by decide +kernel
theorem dX12_table_56 : decode cX12_table 56 = .ok (.getfield 32, 3) := by decide +kernel
theorem dX12_table_59 : decode cX12_table 59 = .ok (.iload_n 1, 1) := by decide +kernel
theorem dX12_table_60 : decode cX12_table 60 = .ok (.iaload, 1) := by decide +kernel
theorem dX12_table_61 : decode cX12_table 61 = .ok (.aload_n 0, 1) := by decide +kernel
theorem dX12_table_62 : decode cX12_table 62 = .ok (.getfield 35, 3) := by decide +kernel
theorem dX12_table_65 : decode cX12_table 65 = .ok (.iload_n 1, 1) := by decide +kernel
theorem dX12_table_66 : decode cX12_table 66 = .ok (.iaload, 1) := by decide +kernel
theorem dX12_table_67 : decode cX12_table 67 = .ok (.isub, 1) := by decide +kernel
theorem dX12_table_68 : decode cX12_table 68 = .ok (.ireturn, 1) := by decide +kernel
theorem dX12_table_69 : decode cX12_table 69 = .ok (.aload_n 0, 1) := by decide +kernel
theorem dX12_table_70 : decode cX12_table 70 = .ok (.getfield 41, 3) := by decide +kernel
theorem dX12_table_73 : decode cX12_table 73 = .ok (.iload_n 1, 1) := by decide +kernel
theorem dX12_table_74 : decode cX12_table 74 = .ok (.iaload, 1) := by decide +kernel
theorem dX12_table_75 : decode cX12_table 75 = .ok (.ireturn, 1) := by decide +kernel
theorem dX12_table_76 : decode cX12_table 76 = .ok (.aload_n 0, 1) := by decide +kernel
theorem dX12_table_77 : decode cX12_table 77 = .ok (.getfield 38, 3) := by decide +kernel
theorem dX12_table_80 : decode cX12_table 80 = .ok (.iload_n 1, 1) := by decide +kernel
theorem dX12_table_81 : decode cX12_table 81 = .ok (.iaload, 1) := by decide +kernel
theorem dX12_table_82 : decode cX12_table 82 = .ok (.ireturn, 1) := by decide +kernel
theorem dX12_table_83 : decode cX12_table 83 = .ok (.aload_n 0, 1) := by decide +kernel
theorem dX12_table_84 : decode cX12_table 84 = .ok (.getfield 35, 3) := by decide +kernel
theorem dX12_table_87 : decode cX12_table 87 = .ok (.iload_n 1, 1) := by decide +kernel
theorem dX12_table_88 : decode cX12_table 88 = .ok (.iaload, 1) := by decide +kernel
theorem dX12_table_89 : decode cX12_table 89 = .ok (.aload_n 0, 1) := by decide +kernel
theorem dX12_table_90 : decode cX12_table 90 = .ok (.getfield 32, 3) := by decide +kernel
theorem dX12_table_93 : decode cX12_table 93 = .ok (.iload_n 1, 1) := by decide +kernel
theorem dX12_table_94 : decode cX12_table 94 = .ok (.iaload, 1) := by decide +kernel
theorem dX12_table_95 : decode cX12_table 95 = .ok (.if_icmp .ge 12, 3) := by decide +kernel
theorem dX12_table_98 : decode cX12_table 98 = .ok (.aload_n 0, 1) := by decide +kernel
theorem dX12_table_99 : decode cX12_table 99 = .ok (.getfield 35, 3) := by decide +kernel
theorem dX12_table_102 : decode cX12_table 102 = .ok (.iload_n 1, 1) := by decide +kernel
theorem dX12_table_103 : decode cX12_table 103 = .ok (.iaload, 1) := by decide +kernel
theorem dX12_table_104 : decode cX12_table 104 = .ok (.goto 5, 3) := by decide +kernel
theorem dX12_table_107 : decode cX12_table 107 = .ok (.bipush (-9), 2) := by decide +kernel
theorem dX12_table_109 : decode cX12_table 109 = .ok (.ireturn, 1) := by decide +kernel
theorem dX12_table_110 : decode cX12_table 110 = .ok (.iconst (-1), 1) := by decide +kernel
theorem dX12_table_111 : decode cX12_table 111 = .ok (.ireturn, 1) := by decide +kernel
set_option maxRecDepth 20000 in
theorem ggX12_entry_X12_in : GoodIn wsX12_entry wsX12_in := goodIn_r _ [4] rfl (by decide +kernel)
set_option maxRecDepth 20000 in
theorem gX12_entry_X12_in : GoodIn wsX12_entry (va_wsS RX12 124 yX12_in wsX12_in) := goodIn_app (goodIn_of _ (by decide +kernel)) ggX12_entry_X12_in
set_option maxRecDepth 20000 in
theorem ggX12_entry_X12_isThere : GoodIn wsX12_entry wsX12_isThere := goodIn_r _ [8, 9, 10, 1, 2, 3, 4, 22, 23, 24, 25, 26, 27, 28, 29, 30, 31, 32, 33, 34, 35, 36, 37, 38, 39, 40, 41, 42, 43, 44, 45, 46, 47, 48, 49, 50, 51, 52, 53, 54, 55, 56, 57, 58, 59, 60, 61, 62, 63, 64, 65, 66, 67, 68, 69, 70, 71, 72, 73, 74, 75, 76, 77, 78] rfl (by decide +kernel)
set_option maxRecDepth 20000 in
theorem gX12_entry_X12_isThere : GoodIn wsX12_entry (wsV RX12 322 RX12 yX12_isThere wsX12_isThere) := goodIn_app (goodIn_of _ (by decide +kernel)) ggX12_entry_X12_isThere
set_option maxRecDepth 20000 in
theorem ggX12_entry_X12_fieldAt : GoodIn wsX12_entry wsX12_fieldAt := goodIn_r _ [14, 15, 22, 23, 24, 25, 26, 27, 28, 29, 30, 31, 32, 33, 34, 35, 36, 37, 38, 39, 40, 41, 42, 43, 44, 45, 46, 47, 48, 49, 50, 51, 52, 53, 54, 55, 56, 57, 58, 59, 60, 61, 62, 63, 64, 65, 66, 67, 68, 69, 70, 71, 72, 73, 74, 75, 76, 77, 78] rfl (by decide +kernel)
set_option maxRecDepth 20000 in
theorem gX12_entry_X12_fieldAt : GoodIn wsX12_entry (wsV RX12 234 RX12 yX12_fieldAt wsX12_fieldAt) := goodIn_app (goodIn_of _ (by decide +kernel)) ggX12_entry_X12_fieldAt
set_option maxRecDepth 20000 in
theorem ggX12_entry_X12_sizeOf : GoodIn wsX12_entry wsX12_sizeOf := goodIn_r _ [19, 20, 21, 22, 23, 24, 25, 26, 27, 28, 29, 30, 31, 32, 33, 34, 35, 36, 37, 38, 39, 40, 41, 42, 43, 44, 45, 46, 47, 48, 49, 50, 51, 52, 53, 54, 55, 56, 57, 58, 59, 60, 61, 62, 63, 64, 65, 66, 67, 68, 69, 70, 71, 72, 73, 74, 75, 76, 77, 78] rfl (by decide +kernel)
set_option maxRecDepth 20000 in
theorem gX12_entry_X12_sizeOf : GoodIn wsX12_entry (wsV RX12 238 RX12 yX12_sizeOf wsX12_sizeOf) := goodIn_app (goodIn_of _ (by decide +kernel)) ggX12_entry_X12_sizeOf
theorem dX12_entry_0 : decode cX12_entry 0 = .ok (.iload_n 1, 1) := by decide +kernel
theorem dX12_entry_1 : decode cX12_entry 1 = .ok (.i2l, 1) := by decide +kernel
theorem dX12_entry_2 : decode cX12_entry 2 = .ok (.lconst 0, 1) := by decide +kernel
theorem dX12_entry_3 : decode cX12_entry 3 = .ok (.lconst 1, 1) := by decide +kernel
theorem dX12_entry_4 : decode cX12_entry 4 = .ok (.invokestatic 124, 3) := by decide +kernel
theorem dX12_entry_7 : decode cX12_entry 7 = .ok (.ifCond .eq 17, 3) := by decide +kernel
theorem dX12_entry_10 : decode cX12_entry 10 = .ok (.iload_n 2, 1) := by decide +kernel
theorem dX12_entry_11 : decode cX12_entry 11 = .ok (.ifCond .lt 13, 3) := by decide +kernel
theorem dX12_entry_14 : decode cX12_entry 14 = .ok (.iload_n 3, 1) := by decide +kernel
theorem dX12_entry_15 : decode cX12_entry 15 = .ok (.i2l, 1) := by decide +kernel
theorem dX12_entry_16 : decode cX12_entry 16 = .ok (.lconst 0, 1) := by decide +kernel
theorem dX12_entry_17 : decode cX12_entry 17 = .ok (.lconst 1, 1) := by decide +kernel
theorem dX12_entry_18 : decode cX12_entry 18 = .ok (.invokestatic 124, 3) := by decide +kernel
theorem dX12_entry_21 : decode cX12_entry 21 = .ok (.ifCond .ne 5, 3) := by decide +kernel
theorem dX12_entry_24 : decode cX12_entry 24 = .ok (.iconst (-1), 1) := by decide +kernel
theorem dX12_entry_25 : decode cX12_entry 25 = .ok (.ireturn, 1) := by decide +kernel
theorem dX12_entry_26 : decode cX12_entry 26 = .ok (.aload_n 0, 1) := by decide +kernel
theorem dX12_entry_27 : decode cX12_entry 27 = .ok (.iload_n 1, 1) := by decide +kernel
theorem dX12_entry_28 : decode cX12_entry 28 = .ok (.iload_n 2, 1) := by decide +kernel
theorem dX12_entry_29 : decode cX12_entry 29 = .ok (.invokevirtual 322, 3) := by decide +kernel
theorem dX12_entry_32 : decode cX12_entry 32 = .ok (.ifCond .ne 6, 3) := by decide +kernel
theorem dX12_entry_35 : decode cX12_entry 35 = .ok (.bipush (-9), 2) := by decide +kernel
theorem dX12_entry_37 : decode cX12_entry 37 = .ok (.ireturn, 1) := by decide +kernel
theorem dX12_entry_38 : decode cX12_entry 38 = .ok (.iload_n 3, 1) := by decide +kernel
theorem dX12_entry_39 : decode cX12_entry 39 = .ok (.ifCond .ne 16, 3) := by decide +kernel
theorem dX12_entry_42 : decode cX12_entry 42 = .ok (.aload_n 0, 1) := by decide +kernel
theorem dX12_entry_43 : decode cX12_entry 43 = .ok (.aload_n 0, 1) := by decide +kernel
theorem dX12_entry_44 : decode cX12_entry 44 = .ok (.iload_n 1, 1) := by decide +kernel
theorem dX12_entry_45 : decode cX12_entry 45 = .ok (.iload_n 2, 1) := by decide +kernel
theorem dX12_entry_46 : decode cX12_entry 46 = .ok (.invokevirtual 234, 3) := by decide +kernel
theorem dX12_entry_49 : decode cX12_entry 49 = .ok (.invokevirtual 238, 3) := by decide +kernel
theorem dX12_entry_52 : decode cX12_entry 52 = .ok (.goto 9, 3) := by decide +kernel
theorem dX12_entry_55 : decode cX12_entry 55 = .ok (.aload_n 0, 1) := by decide +kernel
theorem dX12_entry_56 : decode cX12_entry 56 = .ok (.iload_n 1, 1) := by decide +kernel
theorem dX12_entry_57 : decode cX12_entry 57 = .ok (.iload_n 2, 1) := by decide +kernel
theorem dX12_entry_58 : decode cX12_entry 58 = .ok (.invokevirtual 234, 3) := by decide +kernel
theorem dX12_entry_61 : decode cX12_entry 61 = .ok (.ireturn, 1) := by decide +kernel
set_option maxRecDepth 20000 in
theorem ggX12_holds_X12_isThere : GoodIn wsX12_holds wsX12_isThere := goodIn_r _ [7, 8, 9, 10, 11, 6, 12, 20, 21, 22, 23, 24, 25, 26, 27, 28, 29, 30, 31, 32, 33, 34, 35, 36, 37, 38, 39, 40, 41, 42, 43, 44, 45, 46, 47, 48, 49, 50, 51, 52, 53, 54, 55, 56, 57, 58, 59, 60, 61, 62, 63, 64, 65, 66, 67, 68, 69, 70, 71, 72, 73, 74, 75, 76] rfl (by decide +kernel)
set_option maxRecDepth 20000 in
theorem gX12_holds_X12_isThere : GoodIn wsX12_holds (wsV RX12 322 RX12 yX12_isThere wsX12_isThere) := goodIn_app (goodIn_of _ (by decide +kernel)) ggX12_holds_X12_isThere
set_option maxRecDepth 20000 in
theorem ggX12_holds_X12_isHeldBy : GoodIn wsX12_holds wsX12_isHeldBy := goodIn_r _ [16, 17, 18, 19, 20, 21, 22, 23, 24, 25, 26, 27, 28, 29, 30, 31, 32, 33, 34, 35, 36, 37, 38, 39, 40, 41, 42, 43, 44, 45, 46, 47, 48, 49, 50, 51, 52, 53, 54, 55, 56, 57, 58, 59, 60, 61, 62, 63, 64, 65, 66, 67, 68, 69, 70, 71, 72, 73, 74, 75, 76] rfl (by decide +kernel)
set_option maxRecDepth 20000 in
theorem gX12_holds_X12_isHeldBy : GoodIn wsX12_holds (wsV RX12 255 RX12 yX12_isHeldBy wsX12_isHeldBy) := goodIn_app (goodIn_of _ (by decide +kernel)) ggX12_holds_X12_isHeldBy
theorem dX12_holds_0 : decode cX12_holds 0 = .ok (.aload_n 0, 1) := by decide +kernel
theorem dX12_holds_1 : decode cX12_holds 1 = .ok (.iconst 0, 1) := by decide +kernel
theorem dX12_holds_2 : decode cX12_holds 2 = .ok (.iload_n 1, 1) := by decide +kernel
theorem dX12_holds_3 : decode cX12_holds 3 = .ok (.invokevirtual 322, 3) := by decide +kernel
theorem dX12_holds_6 : decode cX12_holds 6 = .ok (.ifCond .ne 7, 3) := by decide +kernel
theorem dX12_holds_9 : decode cX12_holds 9 = .ok (.ldc2_w 393, 3) := by decide +kernel
theorem dX12_holds_12 : decode cX12_holds 12 = .ok (.lreturn, 1) := by decide +kernel
theorem dX12_holds_13 : decode cX12_holds 13 = .ok (.lconst 0, 1) := by decide +kernel
theorem dX12_holds_14 : decode cX12_holds 14 = .ok (.lstore_n 2, 1) := by decide +kernel
theorem dX12_holds_15 : decode cX12_holds 15 = .ok (.iconst 0, 1) := by decide +kernel
theorem dX12_holds_16 : decode cX12_holds 16 = .ok (.istore 4, 2) := by decide +kernel
theorem dX12_holds_18 : decode cX12_holds 18 = .ok (.iload 4, 2) := by decide +kernel
theorem dX12_holds_20 : decode cX12_holds 20 = .ok (.aload_n 0, 1) := by decide +kernel
theorem dX12_holds_21 : decode cX12_holds 21 = .ok (.getfield 252, 3) := by decide +kernel
theorem dX12_holds_24 : decode cX12_holds 24 = .ok (.if_icmp .ge 30, 3) := by decide +kernel
theorem dX12_holds_27 : decode cX12_holds 27 = .ok (.lload_n 2, 1) := by decide +kernel
theorem dX12_holds_28 : decode cX12_holds 28 = .ok (.aload_n 0, 1) := by decide +kernel
theorem dX12_holds_29 : decode cX12_holds 29 = .ok (.iload 4, 2) := by decide +kernel
theorem dX12_holds_31 : decode cX12_holds 31 = .ok (.iload_n 1, 1) := by decide +kernel
theorem dX12_holds_32 : decode cX12_holds 32 = .ok (.invokevirtual 255, 3) := by decide +kernel
theorem dX12_holds_35 : decode cX12_holds 35 = .ok (.ifCond .eq 10, 3) := by decide +kernel
theorem dX12_holds_38 : decode cX12_holds 38 = .ok (.lconst 1, 1) := by decide +kernel
theorem dX12_holds_39 : decode cX12_holds 39 = .ok (.iload 4, 2) := by decide +kernel
theorem dX12_holds_41 : decode cX12_holds 41 = .ok (.lshl, 1) := by decide +kernel
theorem dX12_holds_42 : decode cX12_holds 42 = .ok (.goto 4, 3) := by decide +kernel
theorem dX12_holds_45 : decode cX12_holds 45 = .ok (.lconst 0, 1) := by decide +kernel
theorem dX12_holds_46 : decode cX12_holds 46 = .ok (.lor, 1) := by decide +kernel
theorem dX12_holds_47 : decode cX12_holds 47 = .ok (.lstore_n 2, 1) := by decide +kernel
theorem dX12_holds_48 : decode cX12_holds 48 = .ok (.iinc 4 1, 3) := by decide +kernel
theorem dX12_holds_51 : decode cX12_holds 51 = .ok (.goto (-33), 3) := by decide +kernel
theorem dX12_holds_54 : decode cX12_holds 54 = .ok (.lload_n 2, 1) := by decide +kernel
theorem dX12_holds_55 : decode cX12_holds 55 = .ok (.lreturn, 1) := by decide +kernel
set_option maxRecDepth 20000 in
theorem ggX12_letter_X12_isLetter : GoodIn wsX12_letter wsX12_isLetter := goodIn_r _ [12, 13, 14, 15, 11, 16, 17, 18, 19, 20, 21, 22, 23, 24, 25, 26, 27, 28, 29, 30, 31, 32, 33, 34, 35, 36, 37, 38, 39, 40, 41, 42, 43, 44, 45, 46, 47, 48, 49, 50, 51, 52, 53, 54, 55, 56, 57, 58, 59, 60, 61, 62, 63, 64, 65, 66, 67, 68, 69, 70, 71, 72, 73] rfl (by decide +kernel)
set_option maxRecDepth 20000 in
theorem gX12_letter_X12_isLetter : GoodIn wsX12_letter (wsV RX12 387 RX12 yX12_isLetter wsX12_isLetter) := goodIn_app (goodIn_of _ (by decide +kernel)) ggX12_letter_X12_isLetter
theorem dX12_letter_0 : decode cX12_letter 0 = .ok (.aload_n 0, 1) := by decide +kernel
theorem dX12_letter_1 : decode cX12_letter 1 = .ok (.iload_n 1, 1) := by decide +kernel
theorem dX12_letter_2 : decode cX12_letter 2 = .ok (.invokevirtual 387, 3) := by decide +kernel
theorem dX12_letter_5 : decode cX12_letter 5 = .ok (.ifCond .ne 5, 3) := by decide +kernel
theorem dX12_letter_8 : decode cX12_letter 8 = .ok (.iconst (-1), 1) := by decide +kernel
theorem dX12_letter_9 : decode cX12_letter 9 = .ok (.ireturn, 1) := by decide +kernel
theorem dX12_letter_10 : decode cX12_letter 10 = .ok (.iload_n 2, 1) := by decide +kernel
theorem dX12_letter_11 : decode cX12_letter 11 = .ok (.tableswitch 98 0 6 #[41, 48, 55, 62, 69, 76, 91], 41) := by decide +kernel
theorem dX12_letter_52 : decode cX12_letter 52 = .ok (.aload_n 0, 1) := by decide +kernel
theorem dX12_letter_53 : decode cX12_letter 53 = .ok (.getfield 53, 3) := by decide +kernel
theorem dX12_letter_56 : decode cX12_letter 56 = .ok (.iload_n 1, 1) := by decide +kernel
theorem dX12_letter_57 : decode cX12_letter 57 = .ok (.iaload, 1) := by decide +kernel
theorem dX12_letter_58 : decode cX12_letter 58 = .ok (.ireturn, 1) := by decide +kernel
theorem dX12_letter_59 : decode cX12_letter 59 = .ok (.aload_n 0, 1) := by decide +kernel
theorem dX12_letter_60 : decode cX12_letter 60 = .ok (.getfield 47, 3) := by decide +kernel
theorem dX12_letter_63 : decode cX12_letter 63 = .ok (.iload_n 1, 1) := by decide +kernel
theorem dX12_letter_64 : decode cX12_letter 64 = .ok (.iaload, 1) := by decide +kernel
theorem dX12_letter_65 : decode cX12_letter 65 = .ok (.ireturn, 1) := by decide +kernel
theorem dX12_letter_66 : decode cX12_letter 66 = .ok (.aload_n 0, 1) := by decide +kernel
theorem dX12_letter_67 : decode cX12_letter 67 = .ok (.getfield 50, 3) := by decide +kernel
theorem dX12_letter_70 : decode cX12_letter 70 = .ok (.iload_n 1, 1) := by decide +kernel
theorem dX12_letter_71 : decode cX12_letter 71 = .ok (.iaload, 1) := by decide +kernel
theorem dX12_letter_72 : decode cX12_letter 72 = .ok (.ireturn, 1) := by decide +kernel
theorem dX12_letter_73 : decode cX12_letter 73 = .ok (.aload_n 0, 1) := by decide +kernel
theorem dX12_letter_74 : decode cX12_letter 74 = .ok (.getfield 56, 3) := by decide +kernel
theorem dX12_letter_77 : decode cX12_letter 77 = .ok (.iload_n 1, 1) := by decide +kernel
theorem dX12_letter_78 : decode cX12_letter 78 = .ok (.iaload, 1) := by decide +kernel
theorem dX12_letter_79 : decode cX12_letter 79 = .ok (.ireturn, 1) := by decide +kernel
theorem dX12_letter_80 : decode cX12_letter 80 = .ok (.aload_n 0, 1) := by decide +kernel
theorem dX12_letter_81 : decode cX12_letter 81 = .ok (.getfield 59, 3) := by decide +kernel
theorem dX12_letter_84 : decode cX12_letter 84 = .ok (.iload_n 1, 1) := by decide +kernel
theorem dX12_letter_85 : decode cX12_letter 85 = .ok (.iaload, 1) := by decide +kernel
theorem dX12_letter_86 : decode cX12_letter 86 = .ok (.ireturn, 1) := by decide +kernel
theorem dX12_letter_87 : decode cX12_letter 87 = .ok (.aload_n 0, 1) := by decide +kernel
theorem dX12_letter_88 : decode cX12_letter 88 = .ok (.getfield 62, 3) := by decide +kernel
theorem dX12_letter_91 : decode cX12_letter 91 = .ok (.iload_n 1, 1) := by decide +kernel
theorem dX12_letter_92 : decode cX12_letter 92 = .ok (.baload, 1) := by decide +kernel
theorem dX12_letter_93 : decode cX12_letter 93 = .ok (.ifCond .eq 7, 3) := by decide +kernel
theorem dX12_letter_96 : decode cX12_letter 96 = .ok (.iconst 1, 1) := by decide +kernel
theorem dX12_letter_97 : decode cX12_letter 97 = .ok (.goto 4, 3) := by decide +kernel
theorem dX12_letter_100 : decode cX12_letter 100 = .ok (.iconst 0, 1) := by decide +kernel
theorem dX12_letter_101 : decode cX12_letter 101 = .ok (.ireturn, 1) := by decide +kernel
theorem dX12_letter_102 : decode cX12_letter 102 = .ok (.aload_n 0, 1) := by decide +kernel
theorem dX12_letter_103 : decode cX12_letter 103 = .ok (.getfield 66, 3) := by decide +kernel
theorem dX12_letter_106 : decode cX12_letter 106 = .ok (.iload_n 1, 1) := by decide +kernel
theorem dX12_letter_107 : decode cX12_letter 107 = .ok (.iaload, 1) := by decide +kernel
theorem dX12_letter_108 : decode cX12_letter 108 = .ok (.ireturn, 1) := by decide +kernel
theorem dX12_letter_109 : decode cX12_letter 109 = .ok (.iconst (-1), 1) := by decide +kernel
theorem dX12_letter_110 : decode cX12_letter 110 = .ok (.ireturn, 1) := by decide +kernel
set_option maxRecDepth 20000 in
theorem ggX12_got_X12_isLetter : GoodIn wsX12_got wsX12_isLetter := goodIn_r _ [8, 9, 10, 11, 7, 12, 13, 14, 15, 16, 17, 18, 19, 20, 21, 22, 23, 24, 25, 26, 27, 28, 29, 30, 31, 32, 33, 34, 35, 36, 37, 38, 39, 40, 41, 42, 43, 44, 45, 46, 47, 48, 49, 50, 51, 52, 53, 54, 55, 56, 57, 58, 59, 60, 61, 62, 63, 64, 65, 66, 67, 68, 69] rfl (by decide +kernel)
set_option maxRecDepth 20000 in
theorem gX12_got_X12_isLetter : GoodIn wsX12_got (wsV RX12 387 RX12 yX12_isLetter wsX12_isLetter) := goodIn_app (goodIn_of _ (by decide +kernel)) ggX12_got_X12_isLetter
set_option maxRecDepth 20000 in
theorem ggX12_got_X12_in : GoodIn wsX12_got wsX12_in := goodIn_r _ [12] rfl (by decide +kernel)
set_option maxRecDepth 20000 in
theorem gX12_got_X12_in : GoodIn wsX12_got (va_wsS RX12 124 yX12_in wsX12_in) := goodIn_app (goodIn_of _ (by decide +kernel)) ggX12_got_X12_in
theorem dX12_got_0 : decode cX12_got 0 = .ok (.aload_n 0, 1) := by decide +kernel
theorem dX12_got_1 : decode cX12_got 1 = .ok (.iload_n 1, 1) := by decide +kernel
theorem dX12_got_2 : decode cX12_got 2 = .ok (.invokevirtual 387, 3) := by decide +kernel
theorem dX12_got_5 : decode cX12_got 5 = .ok (.ifCond .eq 21, 3) := by decide +kernel
theorem dX12_got_8 : decode cX12_got 8 = .ok (.iload_n 2, 1) := by decide +kernel
theorem dX12_got_9 : decode cX12_got 9 = .ok (.i2l, 1) := by decide +kernel
theorem dX12_got_10 : decode cX12_got 10 = .ok (.lconst 0, 1) := by decide +kernel
theorem dX12_got_11 : decode cX12_got 11 = .ok (.aload_n 0, 1) := by decide +kernel
theorem dX12_got_12 : decode cX12_got 12 = .ok (.getfield 66, 3) := by decide +kernel
theorem dX12_got_15 : decode cX12_got 15 = .ok (.iload_n 1, 1) := by decide +kernel
theorem dX12_got_16 : decode cX12_got 16 = .ok (.iaload, 1) := by decide +kernel
theorem dX12_got_17 : decode cX12_got 17 = .ok (.iconst 1, 1) := by decide +kernel
theorem dX12_got_18 : decode cX12_got 18 = .ok (.isub, 1) := by decide +kernel
theorem dX12_got_19 : decode cX12_got 19 = .ok (.i2l, 1) := by decide +kernel
theorem dX12_got_20 : decode cX12_got 20 = .ok (.invokestatic 124, 3) := by decide +kernel
theorem dX12_got_23 : decode cX12_got 23 = .ok (.ifCond .ne 5, 3) := by decide +kernel
theorem dX12_got_26 : decode cX12_got 26 = .ok (.iconst (-1), 1) := by decide +kernel
theorem dX12_got_27 : decode cX12_got 27 = .ok (.ireturn, 1) := by decide +kernel
theorem dX12_got_28 : decode cX12_got 28 = .ok (.aload_n 0, 1) := by decide +kernel
theorem dX12_got_29 : decode cX12_got 29 = .ok (.getfield 59, 3) := by decide +kernel
theorem dX12_got_32 : decode cX12_got 32 = .ok (.iload_n 1, 1) := by decide +kernel
theorem dX12_got_33 : decode cX12_got 33 = .ok (.iaload, 1) := by decide +kernel
theorem dX12_got_34 : decode cX12_got 34 = .ok (.iconst 2, 1) := by decide +kernel
theorem dX12_got_35 : decode cX12_got 35 = .ok (.if_icmp .ne 17, 3) := by decide +kernel
theorem dX12_got_38 : decode cX12_got 38 = .ok (.aload_n 0, 1) := by decide +kernel
theorem dX12_got_39 : decode cX12_got 39 = .ok (.getfield 69, 3) := by decide +kernel
theorem dX12_got_42 : decode cX12_got 42 = .ok (.bipush 6, 2) := by decide +kernel
theorem dX12_got_44 : decode cX12_got 44 = .ok (.iload_n 1, 1) := by decide +kernel
theorem dX12_got_45 : decode cX12_got 45 = .ok (.imul, 1) := by decide +kernel
theorem dX12_got_46 : decode cX12_got 46 = .ok (.iload_n 2, 1) := by decide +kernel
theorem dX12_got_47 : decode cX12_got 47 = .ok (.iadd, 1) := by decide +kernel
theorem dX12_got_48 : decode cX12_got 48 = .ok (.iaload, 1) := by decide +kernel
theorem dX12_got_49 : decode cX12_got 49 = .ok (.goto 5, 3) := by decide +kernel
theorem dX12_got_52 : decode cX12_got 52 = .ok (.bipush (-2), 2) := by decide +kernel
theorem dX12_got_54 : decode cX12_got 54 = .ok (.ireturn, 1) := by decide +kernel
set_option maxRecDepth 20000 in
theorem ggX12_waits_X12_waiting : GoodIn wsX12_waits wsX12_waiting := goodIn_r _ [5, 6, 7, 8, 9, 10, 11, 12, 13, 14, 15, 16, 17, 18, 19, 20, 21, 22, 23, 24, 25, 26, 27, 28, 29, 30, 31, 32, 33, 34, 35, 36, 37, 38, 39, 40, 41, 42, 43, 44, 45, 46, 47, 48, 49, 50, 51, 52, 53, 54, 55, 56, 57, 58, 59, 60, 61, 62, 63, 64, 65, 66] rfl (by decide +kernel)
set_option maxRecDepth 20000 in
theorem gX12_waits_X12_waiting : GoodIn wsX12_waits (wsV RX12 373 RX12 yX12_waiting wsX12_waiting) := goodIn_app (goodIn_of _ (by decide +kernel)) ggX12_waits_X12_waiting
theorem dX12_waits_0 : decode cX12_waits 0 = .ok (.iload_n 1, 1) := by decide +kernel
theorem dX12_waits_1 : decode cX12_waits 1 = .ok (.ifCond .ge 7, 3) := by decide +kernel
theorem dX12_waits_4 : decode cX12_waits 4 = .ok (.iconst (-1), 1) := by decide +kernel
theorem dX12_waits_5 : decode cX12_waits 5 = .ok (.goto 8, 3) := by decide +kernel
theorem dX12_waits_8 : decode cX12_waits 8 = .ok (.aload_n 0, 1) := by decide +kernel
theorem dX12_waits_9 : decode cX12_waits 9 = .ok (.iload_n 1, 1) := by decide +kernel
theorem dX12_waits_10 : decode cX12_waits 10 = .ok (.invokevirtual 373, 3) := by decide +kernel
theorem dX12_waits_13 : decode cX12_waits 13 = .ok (.ireturn, 1) := by decide +kernel
set_option maxRecDepth 20000 in
theorem ggX12_octet_X12_isLetter : GoodIn wsX12_octet wsX12_isLetter := goodIn_r _ [11, 12, 13, 14, 10, 15, 16, 17, 18, 19, 20, 21, 22, 23, 24, 25, 26, 27, 28, 29, 30, 31, 32, 33, 34, 35, 36, 37, 38, 39, 40, 41, 42, 43, 44, 45, 46, 47, 48, 49, 50, 51, 52, 53, 54, 55, 56, 57, 58, 59, 60, 61, 62, 63, 64, 65, 66, 67, 68, 69, 70, 71, 72] rfl (by decide +kernel)
set_option maxRecDepth 20000 in
theorem gX12_octet_X12_isLetter : GoodIn wsX12_octet (wsV RX12 387 RX12 yX12_isLetter wsX12_isLetter) := goodIn_app (goodIn_of _ (by decide +kernel)) ggX12_octet_X12_isLetter
theorem dX12_octet_0 : decode cX12_octet 0 = .ok (.aload_n 0, 1) := by decide +kernel
theorem dX12_octet_1 : decode cX12_octet 1 = .ok (.iload_n 1, 1) := by decide +kernel
theorem dX12_octet_2 : decode cX12_octet 2 = .ok (.invokevirtual 387, 3) := by decide +kernel
theorem dX12_octet_5 : decode cX12_octet 5 = .ok (.ifCond .ne 15, 3) := by decide +kernel
theorem dX12_octet_8 : decode cX12_octet 8 = .ok (.iload_n 1, 1) := by decide +kernel
theorem dX12_octet_9 : decode cX12_octet 9 = .ok (.bipush 40, 2) := by decide +kernel
theorem dX12_octet_11 : decode cX12_octet 11 = .ok (.if_icmp .eq 9, 3) := by decide +kernel
theorem dX12_octet_14 : decode cX12_octet 14 = .ok (.iload_n 1, 1) := by decide +kernel
theorem dX12_octet_15 : decode cX12_octet 15 = .ok (.bipush 41, 2) := by decide +kernel
theorem dX12_octet_17 : decode cX12_octet 17 = .ok (.if_icmp .ne 7, 3) := by decide +kernel
theorem dX12_octet_20 : decode cX12_octet 20 = .ok (.iconst 1, 1) := by decide +kernel
theorem dX12_octet_21 : decode cX12_octet 21 = .ok (.goto 4, 3) := by decide +kernel
theorem dX12_octet_24 : decode cX12_octet 24 = .ok (.iconst 0, 1) := by decide +kernel
theorem dX12_octet_25 : decode cX12_octet 25 = .ok (.istore_n 3, 1) := by decide +kernel
theorem dX12_octet_26 : decode cX12_octet 26 = .ok (.iload_n 3, 1) := by decide +kernel
theorem dX12_octet_27 : decode cX12_octet 27 = .ok (.ifCond .eq 7, 3) := by decide +kernel
theorem dX12_octet_30 : decode cX12_octet 30 = .ok (.iload_n 2, 1) := by decide +kernel
theorem dX12_octet_31 : decode cX12_octet 31 = .ok (.ifCond .ge 5, 3) := by decide +kernel
theorem dX12_octet_34 : decode cX12_octet 34 = .ok (.iconst (-1), 1) := by decide +kernel
theorem dX12_octet_35 : decode cX12_octet 35 = .ok (.ireturn, 1) := by decide +kernel
theorem dX12_octet_36 : decode cX12_octet 36 = .ok (.iload_n 1, 1) := by decide +kernel
theorem dX12_octet_37 : decode cX12_octet 37 = .ok (.bipush 40, 2) := by decide +kernel
theorem dX12_octet_39 : decode cX12_octet 39 = .ok (.if_icmp .ne 23, 3) := by decide +kernel
theorem dX12_octet_42 : decode cX12_octet 42 = .ok (.iload_n 2, 1) := by decide +kernel
theorem dX12_octet_43 : decode cX12_octet 43 = .ok (.aload_n 0, 1) := by decide +kernel
theorem dX12_octet_44 : decode cX12_octet 44 = .ok (.getfield 277, 3) := by decide +kernel
theorem dX12_octet_47 : decode cX12_octet 47 = .ok (.if_icmp .ge 12, 3) := by decide +kernel
theorem dX12_octet_50 : decode cX12_octet 50 = .ok (.aload_n 0, 1) := by decide +kernel
theorem dX12_octet_51 : decode cX12_octet 51 = .ok (.getfield 87, 3) := by decide +kernel
theorem dX12_octet_54 : decode cX12_octet 54 = .ok (.iload_n 2, 1) := by decide +kernel
theorem dX12_octet_55 : decode cX12_octet 55 = .ok (.iaload, 1) := by decide +kernel
theorem dX12_octet_56 : decode cX12_octet 56 = .ok (.goto 5, 3) := by decide +kernel
theorem dX12_octet_59 : decode cX12_octet 59 = .ok (.bipush (-9), 2) := by decide +kernel
theorem dX12_octet_61 : decode cX12_octet 61 = .ok (.ireturn, 1) := by decide +kernel
theorem dX12_octet_62 : decode cX12_octet 62 = .ok (.iload_n 1, 1) := by decide +kernel
theorem dX12_octet_63 : decode cX12_octet 63 = .ok (.bipush 41, 2) := by decide +kernel
theorem dX12_octet_65 : decode cX12_octet 65 = .ok (.if_icmp .ne 23, 3) := by decide +kernel
theorem dX12_octet_68 : decode cX12_octet 68 = .ok (.iload_n 2, 1) := by decide +kernel
theorem dX12_octet_69 : decode cX12_octet 69 = .ok (.aload_n 0, 1) := by decide +kernel
theorem dX12_octet_70 : decode cX12_octet 70 = .ok (.getfield 361, 3) := by decide +kernel
theorem dX12_octet_73 : decode cX12_octet 73 = .ok (.if_icmp .ge 12, 3) := by decide +kernel
theorem dX12_octet_76 : decode cX12_octet 76 = .ok (.aload_n 0, 1) := by decide +kernel
theorem dX12_octet_77 : decode cX12_octet 77 = .ok (.getfield 105, 3) := by decide +kernel
theorem dX12_octet_80 : decode cX12_octet 80 = .ok (.iload_n 2, 1) := by decide +kernel
theorem dX12_octet_81 : decode cX12_octet 81 = .ok (.iaload, 1) := by decide +kernel
theorem dX12_octet_82 : decode cX12_octet 82 = .ok (.goto 5, 3) := by decide +kernel
theorem dX12_octet_85 : decode cX12_octet 85 = .ok (.bipush (-9), 2) := by decide +kernel
theorem dX12_octet_87 : decode cX12_octet 87 = .ok (.ireturn, 1) := by decide +kernel
theorem dX12_octet_88 : decode cX12_octet 88 = .ok (.iload_n 2, 1) := by decide +kernel
theorem dX12_octet_89 : decode cX12_octet 89 = .ok (.aload_n 0, 1) := by decide +kernel
theorem dX12_octet_90 : decode cX12_octet 90 = .ok (.getfield 53, 3) := by decide +kernel
theorem dX12_octet_93 : decode cX12_octet 93 = .ok (.iload_n 1, 1) := by decide +kernel
theorem dX12_octet_94 : decode cX12_octet 94 = .ok (.iaload, 1) := by decide +kernel
theorem dX12_octet_95 : decode cX12_octet 95 = .ok (.if_icmp .ge 17, 3) := by decide +kernel
theorem dX12_octet_98 : decode cX12_octet 98 = .ok (.aload_n 0, 1) := by decide +kernel
theorem dX12_octet_99 : decode cX12_octet 99 = .ok (.getfield 75, 3) := by decide +kernel
theorem dX12_octet_102 : decode cX12_octet 102 = .ok (.bipush 112, 2) := by decide +kernel
theorem dX12_octet_104 : decode cX12_octet 104 = .ok (.iload_n 1, 1) := by decide +kernel
theorem dX12_octet_105 : decode cX12_octet 105 = .ok (.imul, 1) := by decide +kernel
theorem dX12_octet_106 : decode cX12_octet 106 = .ok (.iload_n 2, 1) := by decide +kernel
theorem dX12_octet_107 : decode cX12_octet 107 = .ok (.iadd, 1) := by decide +kernel
theorem dX12_octet_108 : decode cX12_octet 108 = .ok (.iaload, 1) := by decide +kernel
theorem dX12_octet_109 : decode cX12_octet 109 = .ok (.goto 5, 3) := by decide +kernel
theorem dX12_octet_112 : decode cX12_octet 112 = .ok (.bipush (-9), 2) := by decide +kernel
theorem dX12_octet_114 : decode cX12_octet 114 = .ok (.ireturn, 1) := by decide +kernel
set_option maxRecDepth 20000 in
theorem ggX12_coded_X12_in : GoodIn wsX12_coded wsX12_in := goodIn_r _ [9] rfl (by decide +kernel)
set_option maxRecDepth 20000 in
theorem gX12_coded_X12_in : GoodIn wsX12_coded (va_wsS RX12 124 yX12_in wsX12_in) := goodIn_app (goodIn_of _ (by decide +kernel)) ggX12_coded_X12_in
set_option maxRecDepth 20000 in
theorem ggX12_coded_X12_laysNumber : GoodIn wsX12_coded wsX12_laysNumber := goodIn_r _ [13, 14, 15, 16, 8, 17, 5, 3, 18, 19, 20, 21, 22, 23, 24, 25, 26, 27, 28, 29, 30, 31, 32, 33, 34, 35, 36, 37, 38, 39, 40, 41, 42, 43, 44, 45, 46, 47, 48, 49, 50, 51, 52, 53, 54, 55, 56, 57, 58, 59, 60, 61, 62, 63, 64, 65, 66, 67, 68, 69, 70, 71, 72, 73, 74] rfl (by decide +kernel)
set_option maxRecDepth 20000 in
theorem gX12_coded_X12_laysNumber : GoodIn wsX12_coded (wsV RX12 273 RX12 yX12_laysNumber wsX12_laysNumber) := goodIn_app (goodIn_of _ (by decide +kernel)) ggX12_coded_X12_laysNumber
theorem dX12_coded_0 : decode cX12_coded 0 = .ok (.iload_n 1, 1) := by decide +kernel
theorem dX12_coded_1 : decode cX12_coded 1 = .ok (.i2l, 1) := by decide +kernel
theorem dX12_coded_2 : decode cX12_coded 2 = .ok (.lconst 1, 1) := by decide +kernel
theorem dX12_coded_3 : decode cX12_coded 3 = .ok (.ldc2_w 395, 3) := by decide +kernel
theorem dX12_coded_6 : decode cX12_coded 6 = .ok (.invokestatic 124, 3) := by decide +kernel
theorem dX12_coded_9 : decode cX12_coded 9 = .ok (.ifCond .eq 7, 3) := by decide +kernel
theorem dX12_coded_12 : decode cX12_coded 12 = .ok (.iload_n 2, 1) := by decide +kernel
theorem dX12_coded_13 : decode cX12_coded 13 = .ok (.ifCond .ge 7, 3) := by decide +kernel
theorem dX12_coded_16 : decode cX12_coded 16 = .ok (.ldc2_w 393, 3) := by decide +kernel
theorem dX12_coded_19 : decode cX12_coded 19 = .ok (.lreturn, 1) := by decide +kernel
theorem dX12_coded_20 : decode cX12_coded 20 = .ok (.aload_n 0, 1) := by decide +kernel
theorem dX12_coded_21 : decode cX12_coded 21 = .ok (.iconst 0, 1) := by decide +kernel
theorem dX12_coded_22 : decode cX12_coded 22 = .ok (.putfield 267, 3) := by decide +kernel
theorem dX12_coded_25 : decode cX12_coded 25 = .ok (.aload_n 0, 1) := by decide +kernel
theorem dX12_coded_26 : decode cX12_coded 26 = .ok (.iconst 0, 1) := by decide +kernel
theorem dX12_coded_27 : decode cX12_coded 27 = .ok (.iload_n 1, 1) := by decide +kernel
theorem dX12_coded_28 : decode cX12_coded 28 = .ok (.iload_n 2, 1) := by decide +kernel
theorem dX12_coded_29 : decode cX12_coded 29 = .ok (.invokevirtual 273, 3) := by decide +kernel
theorem dX12_coded_32 : decode cX12_coded 32 = .ok (.lconst 0, 1) := by decide +kernel
theorem dX12_coded_33 : decode cX12_coded 33 = .ok (.lstore_n 3, 1) := by decide +kernel
theorem dX12_coded_34 : decode cX12_coded 34 = .ok (.iconst 0, 1) := by decide +kernel
theorem dX12_coded_35 : decode cX12_coded 35 = .ok (.istore 5, 2) := by decide +kernel
theorem dX12_coded_37 : decode cX12_coded 37 = .ok (.iload 5, 2) := by decide +kernel
theorem dX12_coded_39 : decode cX12_coded 39 = .ok (.aload_n 0, 1) := by decide +kernel
theorem dX12_coded_40 : decode cX12_coded 40 = .ok (.getfield 267, 3) := by decide +kernel
theorem dX12_coded_43 : decode cX12_coded 43 = .ok (.if_icmp .ge 24, 3) := by decide +kernel
theorem dX12_coded_46 : decode cX12_coded 46 = .ok (.ldc2_w 151, 3) := by decide +kernel
theorem dX12_coded_49 : decode cX12_coded 49 = .ok (.lload_n 3, 1) := by decide +kernel
theorem dX12_coded_50 : decode cX12_coded 50 = .ok (.lmul, 1) := by decide +kernel
theorem dX12_coded_51 : decode cX12_coded 51 = .ok (.aload_n 0, 1) := by decide +kernel
theorem dX12_coded_52 : decode cX12_coded 52 = .ok (.getfield 99, 3) := by decide +kernel
theorem dX12_coded_55 : decode cX12_coded 55 = .ok (.iload 5, 2) := by decide +kernel
theorem dX12_coded_57 : decode cX12_coded 57 = .ok (.iaload, 1) := by decide +kernel
theorem dX12_coded_58 : decode cX12_coded 58 = .ok (.i2l, 1) := by decide +kernel
theorem dX12_coded_59 : decode cX12_coded 59 = .ok (.ladd, 1) := by decide +kernel
theorem dX12_coded_60 : decode cX12_coded 60 = .ok (.lstore_n 3, 1) := by decide +kernel
theorem dX12_coded_61 : decode cX12_coded 61 = .ok (.iinc 5 1, 3) := by decide +kernel
theorem dX12_coded_64 : decode cX12_coded 64 = .ok (.goto (-27), 3) := by decide +kernel
theorem dX12_coded_67 : decode cX12_coded 67 = .ok (.lload_n 3, 1) := by decide +kernel
theorem dX12_coded_68 : decode cX12_coded 68 = .ok (.lreturn, 1) := by decide +kernel
set_option maxRecDepth 20000 in
theorem ggX12_number_X12_in : GoodIn wsX12_number wsX12_in := goodIn_r _ [10] rfl (by decide +kernel)
set_option maxRecDepth 20000 in
theorem gX12_number_X12_in : GoodIn wsX12_number (va_wsS RX12 124 yX12_in wsX12_in) := goodIn_app (goodIn_of _ (by decide +kernel)) ggX12_number_X12_in
theorem dX12_number_0 : decode cX12_number 0 = .ok (.iload_n 1, 1) := by decide +kernel
theorem dX12_number_1 : decode cX12_number 1 = .ok (.i2l, 1) := by decide +kernel
theorem dX12_number_2 : decode cX12_number 2 = .ok (.lconst 1, 1) := by decide +kernel
theorem dX12_number_3 : decode cX12_number 3 = .ok (.ldc2_w 395, 3) := by decide +kernel
theorem dX12_number_6 : decode cX12_number 6 = .ok (.invokestatic 124, 3) := by decide +kernel
theorem dX12_number_9 : decode cX12_number 9 = .ok (.ifCond .ne 5, 3) := by decide +kernel
theorem dX12_number_12 : decode cX12_number 12 = .ok (.iconst (-1), 1) := by decide +kernel
theorem dX12_number_13 : decode cX12_number 13 = .ok (.ireturn, 1) := by decide +kernel
theorem dX12_number_14 : decode cX12_number 14 = .ok (.aload_n 0, 1) := by decide +kernel
theorem dX12_number_15 : decode cX12_number 15 = .ok (.getfield 135, 3) := by decide +kernel
theorem dX12_number_18 : decode cX12_number 18 = .ok (.ifCond .ne 6, 3) := by decide +kernel
theorem dX12_number_21 : decode cX12_number 21 = .ok (.bipush (-2), 2) := by decide +kernel
theorem dX12_number_23 : decode cX12_number 23 = .ok (.ireturn, 1) := by decide +kernel
theorem dX12_number_24 : decode cX12_number 24 = .ok (.iconst 1, 1) := by decide +kernel
theorem dX12_number_25 : decode cX12_number 25 = .ok (.iload_n 1, 1) := by decide +kernel
theorem dX12_number_26 : decode cX12_number 26 = .ok (.ishl, 1) := by decide +kernel
theorem dX12_number_27 : decode cX12_number 27 = .ok (.iconst 1, 1) := by decide +kernel
theorem dX12_number_28 : decode cX12_number 28 = .ok (.isub, 1) := by decide +kernel
theorem dX12_number_29 : decode cX12_number 29 = .ok (.istore_n 2, 1) := by decide +kernel
theorem dX12_number_30 : decode cX12_number 30 = .ok (.aload_n 0, 1) := by decide +kernel
theorem dX12_number_31 : decode cX12_number 31 = .ok (.getfield 29, 3) := by decide +kernel
theorem dX12_number_34 : decode cX12_number 34 = .ok (.iconst 0, 1) := by decide +kernel
theorem dX12_number_35 : decode cX12_number 35 = .ok (.iaload, 1) := by decide +kernel
theorem dX12_number_36 : decode cX12_number 36 = .ok (.iload_n 2, 1) := by decide +kernel
theorem dX12_number_37 : decode cX12_number 37 = .ok (.iconst 1, 1) := by decide +kernel
theorem dX12_number_38 : decode cX12_number 38 = .ok (.iadd, 1) := by decide +kernel
theorem dX12_number_39 : decode cX12_number 39 = .ok (.irem, 1) := by decide +kernel
theorem dX12_number_40 : decode cX12_number 40 = .ok (.istore_n 3, 1) := by decide +kernel
theorem dX12_number_41 : decode cX12_number 41 = .ok (.iload_n 3, 1) := by decide +kernel
theorem dX12_number_42 : decode cX12_number 42 = .ok (.iload_n 2, 1) := by decide +kernel
theorem dX12_number_43 : decode cX12_number 43 = .ok (.if_icmp .ge 18, 3) := by decide +kernel
theorem dX12_number_46 : decode cX12_number 46 = .ok (.aload_n 0, 1) := by decide +kernel
theorem dX12_number_47 : decode cX12_number 47 = .ok (.getfield 135, 3) := by decide +kernel
theorem dX12_number_50 : decode cX12_number 50 = .ok (.iconst 1, 1) := by decide +kernel
theorem dX12_number_51 : decode cX12_number 51 = .ok (.if_icmp .ne 7, 3) := by decide +kernel
theorem dX12_number_54 : decode cX12_number 54 = .ok (.iload_n 3, 1) := by decide +kernel
theorem dX12_number_55 : decode cX12_number 55 = .ok (.goto 5, 3) := by decide +kernel
theorem dX12_number_58 : decode cX12_number 58 = .ok (.bipush (-2), 2) := by decide +kernel
theorem dX12_number_60 : decode cX12_number 60 = .ok (.ireturn, 1) := by decide +kernel
theorem dX12_number_61 : decode cX12_number 61 = .ok (.iload_n 2, 1) := by decide +kernel
theorem dX12_number_62 : decode cX12_number 62 = .ok (.i2l, 1) := by decide +kernel
theorem dX12_number_63 : decode cX12_number 63 = .ok (.lstore 4, 2) := by decide +kernel
theorem dX12_number_65 : decode cX12_number 65 = .ok (.lconst 1, 1) := by decide +kernel
theorem dX12_number_66 : decode cX12_number 66 = .ok (.lstore 6, 2) := by decide +kernel
theorem dX12_number_68 : decode cX12_number 68 = .ok (.iconst 1, 1) := by decide +kernel
theorem dX12_number_69 : decode cX12_number 69 = .ok (.istore 8, 2) := by decide +kernel
theorem dX12_number_71 : decode cX12_number 71 = .ok (.iload 8, 2) := by decide +kernel
theorem dX12_number_73 : decode cX12_number 73 = .ok (.aload_n 0, 1) := by decide +kernel
theorem dX12_number_74 : decode cX12_number 74 = .ok (.getfield 135, 3) := by decide +kernel
theorem dX12_number_77 : decode cX12_number 77 = .ok (.if_icmp .ge 83, 3) := by decide +kernel
theorem dX12_number_80 : decode cX12_number 80 = .ok (.aload_n 0, 1) := by decide +kernel
theorem dX12_number_81 : decode cX12_number 81 = .ok (.getfield 29, 3) := by decide +kernel
theorem dX12_number_84 : decode cX12_number 84 = .ok (.iload 8, 2) := by decide +kernel
theorem dX12_number_86 : decode cX12_number 86 = .ok (.iaload, 1) := by decide +kernel
theorem dX12_number_87 : decode cX12_number 87 = .ok (.bipush 127, 2) := by decide +kernel
theorem dX12_number_89 : decode cX12_number 89 = .ok (.if_icmp .le 71, 3) := by decide +kernel
theorem dX12_number_92 : decode cX12_number 92 = .ok (.lload 4, 2) := by decide +kernel
theorem dX12_number_94 : decode cX12_number 94 = .ok (.aload_n 0, 1) := by decide +kernel
theorem dX12_number_95 : decode cX12_number 95 = .ok (.getfield 29, 3) := by decide +kernel
theorem dX12_number_98 : decode cX12_number 98 = .ok (.iload 8, 2) := by decide +kernel
theorem dX12_number_100 : decode cX12_number 100 = .ok (.iaload, 1) := by decide +kernel
theorem dX12_number_101 : decode cX12_number 101 = .ok (.sipush 128, 3) := by decide +kernel
theorem dX12_number_104 : decode cX12_number 104 = .ok (.isub, 1) := by decide +kernel
theorem dX12_number_105 : decode cX12_number 105 = .ok (.i2l, 1) := by decide +kernel
theorem dX12_number_106 : decode cX12_number 106 = .ok (.lload 6, 2) := by decide +kernel
theorem dX12_number_108 : decode cX12_number 108 = .ok (.lmul, 1) := by decide +kernel
theorem dX12_number_109 : decode cX12_number 109 = .ok (.ladd, 1) := by decide +kernel
theorem dX12_number_110 : decode cX12_number 110 = .ok (.lstore 4, 2) := by decide +kernel
theorem dX12_number_112 : decode cX12_number 112 = .ok (.lload 4, 2) := by decide +kernel
theorem dX12_number_114 : decode cX12_number 114 = .ok (.ldc2_w 397, 3) := by decide +kernel
theorem dX12_number_117 : decode cX12_number 117 = .ok (.lcmp, 1) := by decide +kernel
theorem dX12_number_118 : decode cX12_number 118 = .ok (.ifCond .le 9, 3) := by decide +kernel
theorem dX12_number_121 : decode cX12_number 121 = .ok (.ldc2_w 399, 3) := by decide +kernel
theorem dX12_number_124 : decode cX12_number 124 = .ok (.goto 5, 3) := by decide +kernel
theorem dX12_number_127 : decode cX12_number 127 = .ok (.lload 4, 2) := by decide +kernel
theorem dX12_number_129 : decode cX12_number 129 = .ok (.lstore 4, 2) := by decide +kernel
theorem dX12_number_131 : decode cX12_number 131 = .ok (.lload 6, 2) := by decide +kernel
theorem dX12_number_133 : decode cX12_number 133 = .ok (.ldc2_w 397, 3) := by decide +kernel
theorem dX12_number_136 : decode cX12_number 136 = .ok (.lcmp, 1) := by decide +kernel
theorem dX12_number_137 : decode cX12_number 137 = .ok (.ifCond .le 9, 3) := by decide +kernel
theorem dX12_number_140 : decode cX12_number 140 = .ok (.ldc2_w 399, 3) := by decide +kernel
theorem dX12_number_143 : decode cX12_number 143 = .ok (.goto 9, 3) := by decide +kernel
theorem dX12_number_146 : decode cX12_number 146 = .ok (.ldc2_w 401, 3) := by decide +kernel
theorem dX12_number_149 : decode cX12_number 149 = .ok (.lload 6, 2) := by decide +kernel
theorem dX12_number_151 : decode cX12_number 151 = .ok (.lmul, 1) := by decide +kernel
theorem dX12_number_152 : decode cX12_number 152 = .ok (.lstore 6, 2) := by decide +kernel
theorem dX12_number_154 : decode cX12_number 154 = .ok (.iinc 8 1, 3) := by decide +kernel
theorem dX12_number_157 : decode cX12_number 157 = .ok (.goto (-86), 3) := by decide +kernel
theorem dX12_number_160 : decode cX12_number 160 = .ok (.iload 8, 2) := by decide +kernel
theorem dX12_number_162 : decode cX12_number 162 = .ok (.aload_n 0, 1) := by decide +kernel
theorem dX12_number_163 : decode cX12_number 163 = .ok (.getfield 135, 3) := by decide +kernel
theorem dX12_number_166 : decode cX12_number 166 = .ok (.iconst 1, 1) := by decide +kernel
theorem dX12_number_167 : decode cX12_number 167 = .ok (.isub, 1) := by decide +kernel
theorem dX12_number_168 : decode cX12_number 168 = .ok (.if_icmp .eq 6, 3) := by decide +kernel
theorem dX12_number_171 : decode cX12_number 171 = .ok (.bipush (-2), 2) := by decide +kernel
theorem dX12_number_173 : decode cX12_number 173 = .ok (.ireturn, 1) := by decide +kernel
theorem dX12_number_174 : decode cX12_number 174 = .ok (.lload 4, 2) := by decide +kernel
theorem dX12_number_176 : decode cX12_number 176 = .ok (.aload_n 0, 1) := by decide +kernel
theorem dX12_number_177 : decode cX12_number 177 = .ok (.getfield 29, 3) := by decide +kernel
theorem dX12_number_180 : decode cX12_number 180 = .ok (.iload 8, 2) := by decide +kernel
theorem dX12_number_182 : decode cX12_number 182 = .ok (.iaload, 1) := by decide +kernel
theorem dX12_number_183 : decode cX12_number 183 = .ok (.i2l, 1) := by decide +kernel
theorem dX12_number_184 : decode cX12_number 184 = .ok (.lload 6, 2) := by decide +kernel
theorem dX12_number_186 : decode cX12_number 186 = .ok (.lmul, 1) := by decide +kernel
theorem dX12_number_187 : decode cX12_number 187 = .ok (.ladd, 1) := by decide +kernel
theorem dX12_number_188 : decode cX12_number 188 = .ok (.lstore 4, 2) := by decide +kernel
theorem dX12_number_190 : decode cX12_number 190 = .ok (.lload 4, 2) := by decide +kernel
theorem dX12_number_192 : decode cX12_number 192 = .ok (.ldc2_w 397, 3) := by decide +kernel
theorem dX12_number_195 : decode cX12_number 195 = .ok (.lcmp, 1) := by decide +kernel
theorem dX12_number_196 : decode cX12_number 196 = .ok (.ifCond .le 8, 3) := by decide +kernel
theorem dX12_number_199 : decode cX12_number 199 = .ok (.bipush (-3), 2) := by decide +kernel
theorem dX12_number_201 : decode cX12_number 201 = .ok (.goto 6, 3) := by decide +kernel
theorem dX12_number_204 : decode cX12_number 204 = .ok (.lload 4, 2) := by decide +kernel
theorem dX12_number_206 : decode cX12_number 206 = .ok (.l2i, 1) := by decide +kernel
theorem dX12_number_207 : decode cX12_number 207 = .ok (.ireturn, 1) := by decide +kernel
theorem dX12_waitingMany_0 : decode cX12_waitingMany 0 = .ok (.iconst 0, 1) := by decide +kernel
theorem dX12_waitingMany_1 : decode cX12_waitingMany 1 = .ok (.istore_n 1, 1) := by decide +kernel
theorem dX12_waitingMany_2 : decode cX12_waitingMany 2 = .ok (.iconst 0, 1) := by decide +kernel
theorem dX12_waitingMany_3 : decode cX12_waitingMany 3 = .ok (.istore_n 2, 1) := by decide +kernel
theorem dX12_waitingMany_4 : decode cX12_waitingMany 4 = .ok (.iload_n 2, 1) := by decide +kernel
theorem dX12_waitingMany_5 : decode cX12_waitingMany 5 = .ok (.aload_n 0, 1) := by decide +kernel
theorem dX12_waitingMany_6 : decode cX12_waitingMany 6 = .ok (.getfield 252, 3) := by decide +kernel
theorem dX12_waitingMany_9 : decode cX12_waitingMany 9 = .ok (.if_icmp .ge 27, 3) := by decide +kernel
theorem dX12_waitingMany_12 : decode cX12_waitingMany 12 = .ok (.iload_n 1, 1) := by decide +kernel
theorem dX12_waitingMany_13 : decode cX12_waitingMany 13 = .ok (.aload_n 0, 1) := by decide +kernel
theorem dX12_waitingMany_14 : decode cX12_waitingMany 14 = .ok (.getfield 59, 3) := by decide +kernel
theorem dX12_waitingMany_17 : decode cX12_waitingMany 17 = .ok (.iload_n 2, 1) := by decide +kernel
theorem dX12_waitingMany_18 : decode cX12_waitingMany 18 = .ok (.iaload, 1) := by decide +kernel
theorem dX12_waitingMany_19 : decode cX12_waitingMany 19 = .ok (.iconst 1, 1) := by decide +kernel
theorem dX12_waitingMany_20 : decode cX12_waitingMany 20 = .ok (.if_icmp .ne 7, 3) := by decide +kernel
theorem dX12_waitingMany_23 : decode cX12_waitingMany 23 = .ok (.iconst 1, 1) := by decide +kernel
theorem dX12_waitingMany_24 : decode cX12_waitingMany 24 = .ok (.goto 4, 3) := by decide +kernel
theorem dX12_waitingMany_27 : decode cX12_waitingMany 27 = .ok (.iconst 0, 1) := by decide +kernel
theorem dX12_waitingMany_28 : decode cX12_waitingMany 28 = .ok (.iadd, 1) := by decide +kernel
theorem dX12_waitingMany_29 : decode cX12_waitingMany 29 = .ok (.istore_n 1, 1) := by decide +kernel
theorem dX12_waitingMany_30 : decode cX12_waitingMany 30 = .ok (.iinc 2 1, 3) := by decide +kernel
theorem dX12_waitingMany_33 : decode cX12_waitingMany 33 = .ok (.goto (-29), 3) := by decide +kernel
theorem dX12_waitingMany_36 : decode cX12_waitingMany 36 = .ok (.iload_n 1, 1) := by decide +kernel
theorem dX12_waitingMany_37 : decode cX12_waitingMany 37 = .ok (.ireturn, 1) := by decide +kernel
set_option maxRecDepth 20000 in
theorem ggX12_count_X12_waitingMany : GoodIn wsX12_count wsX12_waitingMany := goodIn_r _ [16, 7, 17, 28, 29, 30, 31, 32, 33, 34, 35, 36, 37, 38, 39, 40, 41, 42, 43, 44, 45, 46, 47, 48, 49, 50, 51, 52, 53, 54, 55, 56, 57, 58, 59, 60, 61, 62, 63, 64, 65, 66, 67, 68, 69, 70, 71, 72, 73, 74, 75, 76, 77, 78, 79, 80, 81, 82, 83, 84] rfl (by decide +kernel)
set_option maxRecDepth 20000 in
theorem gX12_count_X12_waitingMany : GoodIn wsX12_count (wsV RX12 403 RX12 yX12_waitingMany wsX12_waitingMany) := goodIn_app (goodIn_of _ (by decide +kernel)) ggX12_count_X12_waitingMany
set_option maxRecDepth 20000 in
theorem ggX12_count_X12_risks : GoodIn wsX12_count wsX12_risks := goodIn_r _ [21, 7, 22, 23, 24, 15, 25, 26, 27, 5, 28, 29, 30, 31, 32, 33, 34, 35, 36, 37, 38, 39, 40, 41, 42, 43, 44, 45, 46, 47, 48, 49, 50, 51, 52, 53, 54, 55, 56, 57, 58, 59, 60, 61, 62, 63, 64, 65, 66, 67, 68, 69, 70, 71, 72, 73, 74, 75, 76, 77, 78, 79, 80, 81, 82, 83, 84] rfl (by decide +kernel)
set_option maxRecDepth 20000 in
theorem gX12_count_X12_risks : GoodIn wsX12_count (wsV RX12 346 RX12 yX12_risks wsX12_risks) := goodIn_app (goodIn_of _ (by decide +kernel)) ggX12_count_X12_risks
theorem dX12_count_0 : decode cX12_count 0 = .ok (.iload_n 1, 1) := by decide +kernel
theorem dX12_count_1 : decode cX12_count 1 = .ok (.tableswitch 132 0 12 #[67, 72, 77, 82, 87, 92, 97, 102, 107, 112, 117, 122, 127], 67) := by decide +kernel
theorem dX12_count_68 : decode cX12_count 68 = .ok (.aload_n 0, 1) := by decide +kernel
theorem dX12_count_69 : decode cX12_count 69 = .ok (.getfield 231, 3) := by decide +kernel
theorem dX12_count_72 : decode cX12_count 72 = .ok (.ireturn, 1) := by decide +kernel
theorem dX12_count_73 : decode cX12_count 73 = .ok (.aload_n 0, 1) := by decide +kernel
theorem dX12_count_74 : decode cX12_count 74 = .ok (.getfield 223, 3) := by decide +kernel
theorem dX12_count_77 : decode cX12_count 77 = .ok (.ireturn, 1) := by decide +kernel
theorem dX12_count_78 : decode cX12_count 78 = .ok (.aload_n 0, 1) := by decide +kernel
theorem dX12_count_79 : decode cX12_count 79 = .ok (.getfield 7, 3) := by decide +kernel
theorem dX12_count_82 : decode cX12_count 82 = .ok (.ireturn, 1) := by decide +kernel
theorem dX12_count_83 : decode cX12_count 83 = .ok (.aload_n 0, 1) := by decide +kernel
theorem dX12_count_84 : decode cX12_count 84 = .ok (.getfield 13, 3) := by decide +kernel
theorem dX12_count_87 : decode cX12_count 87 = .ok (.ireturn, 1) := by decide +kernel
theorem dX12_count_88 : decode cX12_count 88 = .ok (.aload_n 0, 1) := by decide +kernel
theorem dX12_count_89 : decode cX12_count 89 = .ok (.getfield 258, 3) := by decide +kernel
theorem dX12_count_92 : decode cX12_count 92 = .ok (.ireturn, 1) := by decide +kernel
theorem dX12_count_93 : decode cX12_count 93 = .ok (.aload_n 0, 1) := by decide +kernel
theorem dX12_count_94 : decode cX12_count 94 = .ok (.getfield 370, 3) := by decide +kernel
theorem dX12_count_97 : decode cX12_count 97 = .ok (.ireturn, 1) := by decide +kernel
theorem dX12_count_98 : decode cX12_count 98 = .ok (.aload_n 0, 1) := by decide +kernel
theorem dX12_count_99 : decode cX12_count 99 = .ok (.getfield 252, 3) := by decide +kernel
theorem dX12_count_102 : decode cX12_count 102 = .ok (.ireturn, 1) := by decide +kernel
theorem dX12_count_103 : decode cX12_count 103 = .ok (.aload_n 0, 1) := by decide +kernel
theorem dX12_count_104 : decode cX12_count 104 = .ok (.invokevirtual 403, 3) := by decide +kernel
theorem dX12_count_107 : decode cX12_count 107 = .ok (.ireturn, 1) := by decide +kernel
theorem dX12_count_108 : decode cX12_count 108 = .ok (.aload_n 0, 1) := by decide +kernel
theorem dX12_count_109 : decode cX12_count 109 = .ok (.invokevirtual 346, 3) := by decide +kernel
theorem dX12_count_112 : decode cX12_count 112 = .ok (.ireturn, 1) := by decide +kernel
theorem dX12_count_113 : decode cX12_count 113 = .ok (.aload_n 0, 1) := by decide +kernel
theorem dX12_count_114 : decode cX12_count 114 = .ok (.getfield 277, 3) := by decide +kernel
theorem dX12_count_117 : decode cX12_count 117 = .ok (.ireturn, 1) := by decide +kernel
theorem dX12_count_118 : decode cX12_count 118 = .ok (.aload_n 0, 1) := by decide +kernel
theorem dX12_count_119 : decode cX12_count 119 = .ok (.getfield 361, 3) := by decide +kernel
theorem dX12_count_122 : decode cX12_count 122 = .ok (.ireturn, 1) := by decide +kernel
theorem dX12_count_123 : decode cX12_count 123 = .ok (.aload_n 0, 1) := by decide +kernel
theorem dX12_count_124 : decode cX12_count 124 = .ok (.getfield 325, 3) := by decide +kernel
theorem dX12_count_127 : decode cX12_count 127 = .ok (.ireturn, 1) := by decide +kernel
theorem dX12_count_128 : decode cX12_count 128 = .ok (.aload_n 0, 1) := by decide +kernel
theorem dX12_count_129 : decode cX12_count 129 = .ok (.getfield 135, 3) := by decide +kernel
theorem dX12_count_132 : decode cX12_count 132 = .ok (.ireturn, 1) := by decide +kernel
theorem dX12_count_133 : decode cX12_count 133 = .ok (.iconst (-1), 1) := by decide +kernel
theorem dX12_count_134 : decode cX12_count 134 = .ok (.ireturn, 1) := by decide +kernel
