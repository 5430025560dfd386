theorem dX4_takes_42 : decode cX4_takes 42 = .ok (.aload_n 0, 1) := by decide +kernel
theorem dX4_takes_43 : decode cX4_takes 43 = .ok (.aload_n 0, 1) := by decide +kernel
theorem dX4_takes_44 : decode cX4_takes 44 = .ok (.getfield 88, 3) := by decide +kernel
theorem dX4_takes_47 : decode cX4_takes 47 = .ok (.invokevirtual 91, 3) := by decide +kernel
theorem dX4_takes_50 : decode cX4_takes 50 = .ok (.istore_n 1, 1) := by decide +kernel
theorem dX4_takes_51 : decode cX4_takes 51 = .ok (.iload_n 1, 1) := by decide +kernel
theorem dX4_takes_52 : decode cX4_takes 52 = .ok (.ifCond .ge 11, 3) := by decide +kernel
theorem dX4_takes_55 : decode cX4_takes 55 = .ok (.aload_n 0, 1) := by decide +kernel
theorem dX4_takes_56 : decode cX4_takes 56 = .ok (.iconst 0, 1) := by decide +kernel
theorem dX4_takes_57 : decode cX4_takes 57 = .ok (.putfield 107, 3) := by decide +kernel
theorem dX4_takes_60 : decode cX4_takes 60 = .ok (.goto 214, 3) := by decide +kernel
theorem dX4_takes_63 : decode cX4_takes 63 = .ok (.iload_n 1, 1) := by decide +kernel
theorem dX4_takes_64 : decode cX4_takes 64 = .ok (.i2l, 1) := by decide +kernel
theorem dX4_takes_65 : decode cX4_takes 65 = .ok (.ldc2_w 110, 3) := by decide +kernel
theorem dX4_takes_68 : decode cX4_takes 68 = .ok (.ldc2_w 112, 3) := by decide +kernel
theorem dX4_takes_71 : decode cX4_takes 71 = .ok (.invokestatic 72, 3) := by decide +kernel
theorem dX4_takes_74 : decode cX4_takes 74 = .ok (.ifCond .eq 42, 3) := by decide +kernel
theorem dX4_takes_77 : decode cX4_takes 77 = .ok (.aload_n 0, 1) := by decide +kernel
theorem dX4_takes_78 : decode cX4_takes 78 = .ok (.iconst 1, 1) := by decide +kernel
theorem dX4_takes_79 : decode cX4_takes 79 = .ok (.putfield 107, 3) := by decide +kernel
theorem dX4_takes_82 : decode cX4_takes 82 = .ok (.aload_n 0, 1) := by decide +kernel
theorem dX4_takes_83 : decode cX4_takes 83 = .ok (.aload_n 0, 1) := by decide +kernel
theorem dX4_takes_84 : decode cX4_takes 84 = .ok (.getfield 88, 3) := by decide +kernel
theorem dX4_takes_87 : decode cX4_takes 87 = .ok (.invokevirtual 91, 3) := by decide +kernel
theorem dX4_takes_90 : decode cX4_takes 90 = .ok (.i2l, 1) := by decide +kernel
theorem dX4_takes_91 : decode cX4_takes 91 = .ok (.ldc2_w 110, 3) := by decide +kernel
theorem dX4_takes_94 : decode cX4_takes 94 = .ok (.ldc2_w 112, 3) := by decide +kernel
theorem dX4_takes_97 : decode cX4_takes 97 = .ok (.invokestatic 72, 3) := by decide +kernel
theorem dX4_takes_100 : decode cX4_takes 100 = .ok (.ifCond .eq 174, 3) := by decide +kernel
theorem dX4_takes_103 : decode cX4_takes 103 = .ok (.aload_n 0, 1) := by decide +kernel
theorem dX4_takes_104 : decode cX4_takes 104 = .ok (.dup, 1) := by decide +kernel
theorem dX4_takes_105 : decode cX4_takes 105 = .ok (.getfield 88, 3) := by decide +kernel
theorem dX4_takes_108 : decode cX4_takes 108 = .ok (.iconst 1, 1) := by decide +kernel
theorem dX4_takes_109 : decode cX4_takes 109 = .ok (.iadd, 1) := by decide +kernel
theorem dX4_takes_110 : decode cX4_takes 110 = .ok (.putfield 88, 3) := by decide +kernel
theorem dX4_takes_113 : decode cX4_takes 113 = .ok (.goto (-31), 3) := by decide +kernel
theorem dX4_takes_116 : decode cX4_takes 116 = .ok (.iload_n 1, 1) := by decide +kernel
theorem dX4_takes_117 : decode cX4_takes 117 = .ok (.i2l, 1) := by decide +kernel
theorem dX4_takes_118 : decode cX4_takes 118 = .ok (.ldc2_w 114, 3) := by decide +kernel
theorem dX4_takes_121 : decode cX4_takes 121 = .ok (.ldc2_w 116, 3) := by decide +kernel
theorem dX4_takes_124 : decode cX4_takes 124 = .ok (.invokestatic 72, 3) := by decide +kernel
theorem dX4_takes_127 : decode cX4_takes 127 = .ok (.ifCond .eq 116, 3) := by decide +kernel
theorem dX4_takes_130 : decode cX4_takes 130 = .ok (.aload_n 0, 1) := by decide +kernel
theorem dX4_takes_131 : decode cX4_takes 131 = .ok (.iconst 2, 1) := by decide +kernel
theorem dX4_takes_132 : decode cX4_takes 132 = .ok (.putfield 107, 3) := by decide +kernel
theorem dX4_takes_135 : decode cX4_takes 135 = .ok (.aload_n 0, 1) := by decide +kernel
theorem dX4_takes_136 : decode cX4_takes 136 = .ok (.iconst 0, 1) := by decide +kernel
theorem dX4_takes_137 : decode cX4_takes 137 = .ok (.putfield 118, 3) := by decide +kernel
theorem dX4_takes_140 : decode cX4_takes 140 = .ok (.aload_n 0, 1) := by decide +kernel
theorem dX4_takes_141 : decode cX4_takes 141 = .ok (.aload_n 0, 1) := by decide +kernel
theorem dX4_takes_142 : decode cX4_takes 142 = .ok (.getfield 88, 3) := by decide +kernel
theorem dX4_takes_145 : decode cX4_takes 145 = .ok (.invokevirtual 91, 3) := by decide +kernel
theorem dX4_takes_148 : decode cX4_takes 148 = .ok (.i2l, 1) := by decide +kernel
theorem dX4_takes_149 : decode cX4_takes 149 = .ok (.ldc2_w 114, 3) := by decide +kernel
theorem dX4_takes_152 : decode cX4_takes 152 = .ok (.ldc2_w 116, 3) := by decide +kernel
theorem dX4_takes_155 : decode cX4_takes 155 = .ok (.invokestatic 72, 3) := by decide +kernel
theorem dX4_takes_158 : decode cX4_takes 158 = .ok (.ifCond .eq 59, 3) := by decide +kernel
theorem dX4_takes_161 : decode cX4_takes 161 = .ok (.aload_n 0, 1) := by decide +kernel
theorem dX4_takes_162 : decode cX4_takes 162 = .ok (.aload_n 0, 1) := by decide +kernel
theorem dX4_takes_163 : decode cX4_takes 163 = .ok (.getfield 88, 3) := by decide +kernel
theorem dX4_takes_166 : decode cX4_takes 166 = .ok (.aload_n 0, 1) := by decide +kernel
theorem dX4_takes_167 : decode cX4_takes 167 = .ok (.getfield 82, 3) := by decide +kernel
theorem dX4_takes_170 : decode cX4_takes 170 = .ok (.isub, 1) := by decide +kernel
theorem dX4_takes_171 : decode cX4_takes 171 = .ok (.iconst 2, 1) := by decide +kernel
theorem dX4_takes_172 : decode cX4_takes 172 = .ok (.if_icmp .ge 25, 3) := by decide +kernel
theorem dX4_takes_175 : decode cX4_takes 175 = .ok (.bipush 10, 2) := by decide +kernel
theorem dX4_takes_177 : decode cX4_takes 177 = .ok (.aload_n 0, 1) := by decide +kernel
theorem dX4_takes_178 : decode cX4_takes 178 = .ok (.getfield 118, 3) := by decide +kernel
theorem dX4_takes_181 : decode cX4_takes 181 = .ok (.imul, 1) := by decide +kernel
theorem dX4_takes_182 : decode cX4_takes 182 = .ok (.aload_n 0, 1) := by decide +kernel
theorem dX4_takes_183 : decode cX4_takes 183 = .ok (.aload_n 0, 1) := by decide +kernel
theorem dX4_takes_184 : decode cX4_takes 184 = .ok (.getfield 88, 3) := by decide +kernel
theorem dX4_takes_187 : decode cX4_takes 187 = .ok (.invokevirtual 91, 3) := by decide +kernel
theorem dX4_takes_190 : decode cX4_takes 190 = .ok (.iadd, 1) := by decide +kernel
theorem dX4_takes_191 : decode cX4_takes 191 = .ok (.bipush 48, 2) := by decide +kernel
theorem dX4_takes_193 : decode cX4_takes 193 = .ok (.isub, 1) := by decide +kernel
theorem dX4_takes_194 : decode cX4_takes 194 = .ok (.goto 7, 3) := by decide +kernel
theorem dX4_takes_197 : decode cX4_takes 197 = .ok (.aload_n 0, 1) := by decide +kernel
theorem dX4_takes_198 : decode cX4_takes 198 = .ok (.getfield 118, 3) := by decide +kernel
theorem dX4_takes_201 : decode cX4_takes 201 = .ok (.putfield 118, 3) := by decide +kernel
theorem dX4_takes_204 : decode cX4_takes 204 = .ok (.aload_n 0, 1) := by decide +kernel
theorem dX4_takes_205 : decode cX4_takes 205 = .ok (.dup, 1) := by decide +kernel
theorem dX4_takes_206 : decode cX4_takes 206 = .ok (.getfield 88, 3) := by decide +kernel
theorem dX4_takes_209 : decode cX4_takes 209 = .ok (.iconst 1, 1) := by decide +kernel
theorem dX4_takes_210 : decode cX4_takes 210 = .ok (.iadd, 1) := by decide +kernel
theorem dX4_takes_211 : decode cX4_takes 211 = .ok (.putfield 88, 3) := by decide +kernel
theorem dX4_takes_214 : decode cX4_takes 214 = .ok (.goto (-74), 3) := by decide +kernel
theorem dX4_takes_217 : decode cX4_takes 217 = .ok (.aload_n 0, 1) := by decide +kernel
theorem dX4_takes_218 : decode cX4_takes 218 = .ok (.aload_n 0, 1) := by decide +kernel
theorem dX4_takes_219 : decode cX4_takes 219 = .ok (.getfield 88, 3) := by decide +kernel
theorem dX4_takes_222 : decode cX4_takes 222 = .ok (.aload_n 0, 1) := by decide +kernel
theorem dX4_takes_223 : decode cX4_takes 223 = .ok (.getfield 82, 3) := by decide +kernel
theorem dX4_takes_226 : decode cX4_takes 226 = .ok (.isub, 1) := by decide +kernel
theorem dX4_takes_227 : decode cX4_takes 227 = .ok (.iconst 2, 1) := by decide +kernel
theorem dX4_takes_228 : decode cX4_takes 228 = .ok (.if_icmp .gt 7, 3) := by decide +kernel
theorem dX4_takes_231 : decode cX4_takes 231 = .ok (.iconst 1, 1) := by decide +kernel
theorem dX4_takes_232 : decode cX4_takes 232 = .ok (.goto 4, 3) := by decide +kernel
theorem dX4_takes_235 : decode cX4_takes 235 = .ok (.iconst 0, 1) := by decide +kernel
theorem dX4_takes_236 : decode cX4_takes 236 = .ok (.iconst 1, 1) := by decide +kernel
theorem dX4_takes_237 : decode cX4_takes 237 = .ok (.invokevirtual 121, 3) := by decide +kernel
theorem dX4_takes_240 : decode cX4_takes 240 = .ok (.goto 34, 3) := by decide +kernel
theorem dX4_takes_243 : decode cX4_takes 243 = .ok (.aload_n 0, 1) := by decide +kernel
theorem dX4_takes_244 : decode cX4_takes 244 = .ok (.iconst 3, 1) := by decide +kernel
theorem dX4_takes_245 : decode cX4_takes 245 = .ok (.putfield 107, 3) := by decide +kernel
theorem dX4_takes_248 : decode cX4_takes 248 = .ok (.aload_n 0, 1) := by decide +kernel
theorem dX4_takes_249 : decode cX4_takes 249 = .ok (.iload_n 1, 1) := by decide +kernel
theorem dX4_takes_250 : decode cX4_takes 250 = .ok (.bipush 59, 2) := by decide +kernel
theorem dX4_takes_252 : decode cX4_takes 252 = .ok (.if_icmp .ne 7, 3) := by decide +kernel
theorem dX4_takes_255 : decode cX4_takes 255 = .ok (.iconst 1, 1) := by decide +kernel
theorem dX4_takes_256 : decode cX4_takes 256 = .ok (.goto 4, 3) := by decide +kernel
theorem dX4_takes_259 : decode cX4_takes 259 = .ok (.iconst 0, 1) := by decide +kernel
theorem dX4_takes_260 : decode cX4_takes 260 = .ok (.iconst 1, 1) := by decide +kernel
theorem dX4_takes_261 : decode cX4_takes 261 = .ok (.invokevirtual 121, 3) := by decide +kernel
theorem dX4_takes_264 : decode cX4_takes 264 = .ok (.aload_n 0, 1) := by decide +kernel
theorem dX4_takes_265 : decode cX4_takes 265 = .ok (.dup, 1) := by decide +kernel
theorem dX4_takes_266 : decode cX4_takes 266 = .ok (.getfield 88, 3) := by decide +kernel
theorem dX4_takes_269 : decode cX4_takes 269 = .ok (.iconst 1, 1) := by decide +kernel
theorem dX4_takes_270 : decode cX4_takes 270 = .ok (.iadd, 1) := by decide +kernel
theorem dX4_takes_271 : decode cX4_takes 271 = .ok (.putfield 88, 3) := by decide +kernel
theorem dX4_takes_274 : decode cX4_takes 274 = .ok (.return_, 1) := by decide +kernel
set_option maxRecDepth 20000 in
theorem ggX4_looked_X4_needs : GoodIn wsX4_looked wsX4_needs := goodIn_r _ [8, 1, 9, 10, 14, 15, 16, 17, 18, 19, 20, 21, 22, 23, 24, 25, 26, 27, 28, 29, 30, 31, 32, 33, 34, 35, 36, 37, 38, 39, 40, 41, 42] (by decide +kernel) (by decide +kernel)
set_option maxRecDepth 20000 in
theorem gX4_looked_X4_needs : GoodIn wsX4_looked (wsV RX4 121 RX4 yX4_needs wsX4_needs) := goodIn_app (goodIn_of _ (by decide +kernel)) ggX4_looked_X4_needs
set_option maxRecDepth 20000 in
theorem ggX4_looked_X4_in : GoodIn wsX4_looked wsX4_in := goodIn_r _ [13] (by decide +kernel) (by decide +kernel)
set_option maxRecDepth 20000 in
theorem gX4_looked_X4_in : GoodIn wsX4_looked (va_wsS RX4 72 yX4_in wsX4_in) := goodIn_app (goodIn_of _ (by decide +kernel)) ggX4_looked_X4_in
theorem dX4_looked_0 : decode cX4_looked 0 = .ok (.aload_n 0, 1) := by decide +kernel
theorem dX4_looked_1 : decode cX4_looked 1 = .ok (.getfield 79, 3) := by decide +kernel
theorem dX4_looked_4 : decode cX4_looked 4 = .ok (.ifCond .ne 21, 3) := by decide +kernel
theorem dX4_looked_7 : decode cX4_looked 7 = .ok (.aload_n 0, 1) := by decide +kernel
theorem dX4_looked_8 : decode cX4_looked 8 = .ok (.aload_n 0, 1) := by decide +kernel
theorem dX4_looked_9 : decode cX4_looked 9 = .ok (.getfield 107, 3) := by decide +kernel
theorem dX4_looked_12 : decode cX4_looked 12 = .ok (.iconst 2, 1) := by decide +kernel
theorem dX4_looked_13 : decode cX4_looked 13 = .ok (.if_icmp .ne 7, 3) := by decide +kernel
theorem dX4_looked_16 : decode cX4_looked 16 = .ok (.iconst 1, 1) := by decide +kernel
theorem dX4_looked_17 : decode cX4_looked 17 = .ok (.goto 4, 3) := by decide +kernel
theorem dX4_looked_20 : decode cX4_looked 20 = .ok (.iconst 0, 1) := by decide +kernel
theorem dX4_looked_21 : decode cX4_looked 21 = .ok (.iconst 2, 1) := by decide +kernel
theorem dX4_looked_22 : decode cX4_looked 22 = .ok (.invokevirtual 121, 3) := by decide +kernel
theorem dX4_looked_25 : decode cX4_looked 25 = .ok (.aload_n 0, 1) := by decide +kernel
theorem dX4_looked_26 : decode cX4_looked 26 = .ok (.getfield 79, 3) := by decide +kernel
theorem dX4_looked_29 : decode cX4_looked 29 = .ok (.ifCond .ne 20, 3) := by decide +kernel
theorem dX4_looked_32 : decode cX4_looked 32 = .ok (.aload_n 0, 1) := by decide +kernel
theorem dX4_looked_33 : decode cX4_looked 33 = .ok (.aload_n 0, 1) := by decide +kernel
theorem dX4_looked_34 : decode cX4_looked 34 = .ok (.getfield 118, 3) := by decide +kernel
theorem dX4_looked_37 : decode cX4_looked 37 = .ok (.i2l, 1) := by decide +kernel
theorem dX4_looked_38 : decode cX4_looked 38 = .ok (.iload_n 1, 1) := by decide +kernel
theorem dX4_looked_39 : decode cX4_looked 39 = .ok (.i2l, 1) := by decide +kernel
theorem dX4_looked_40 : decode cX4_looked 40 = .ok (.iload_n 2, 1) := by decide +kernel
theorem dX4_looked_41 : decode cX4_looked 41 = .ok (.i2l, 1) := by decide +kernel
theorem dX4_looked_42 : decode cX4_looked 42 = .ok (.invokestatic 72, 3) := by decide +kernel
theorem dX4_looked_45 : decode cX4_looked 45 = .ok (.iconst 3, 1) := by decide +kernel
theorem dX4_looked_46 : decode cX4_looked 46 = .ok (.invokevirtual 121, 3) := by decide +kernel
theorem dX4_looked_49 : decode cX4_looked 49 = .ok (.aload_n 0, 1) := by decide +kernel
theorem dX4_looked_50 : decode cX4_looked 50 = .ok (.getfield 79, 3) := by decide +kernel
theorem dX4_looked_53 : decode cX4_looked 53 = .ok (.ifCond .ne 10, 3) := by decide +kernel
theorem dX4_looked_56 : decode cX4_looked 56 = .ok (.aload_n 0, 1) := by decide +kernel
theorem dX4_looked_57 : decode cX4_looked 57 = .ok (.getfield 118, 3) := by decide +kernel
theorem dX4_looked_60 : decode cX4_looked 60 = .ok (.goto 4, 3) := by decide +kernel
theorem dX4_looked_63 : decode cX4_looked 63 = .ok (.iconst 0, 1) := by decide +kernel
theorem dX4_looked_64 : decode cX4_looked 64 = .ok (.ireturn, 1) := by decide +kernel
set_option maxRecDepth 20000 in
theorem ggX4_readNumber_X4_looked : GoodIn wsX4_readNumber wsX4_looked := goodIn_r _ [5, 6, 7, 8, 9, 10, 11, 4, 12, 13, 14, 15, 16, 17, 33, 34, 35, 36, 37, 38, 39, 40, 41, 42, 43, 44, 45, 46, 47, 48, 49, 50, 51, 52, 53, 54, 55, 56, 57, 58, 59, 60, 61] (by decide +kernel) (by decide +kernel)
set_option maxRecDepth 20000 in
theorem gX4_readNumber_X4_looked : GoodIn wsX4_readNumber (wsV RX4 125 RX4 yX4_looked wsX4_looked) := goodIn_app (goodIn_of _ (by decide +kernel)) ggX4_readNumber_X4_looked
set_option maxRecDepth 20000 in
theorem ggX4_readNumber_X4_takes : GoodIn wsX4_readNumber wsX4_takes := goodIn_r _ [21, 6, 22, 13, 7, 23, 24, 25, 26, 8, 27, 28, 29, 4, 30, 31, 32, 15, 16, 17, 9, 10, 11, 12, 14, 33, 34, 35, 36, 37, 38, 39, 40, 41, 42, 43, 44, 45, 46, 47, 48, 49, 50, 51, 52, 53, 54, 55, 56, 57, 58, 59, 60, 61] (by decide +kernel) (by decide +kernel)
set_option maxRecDepth 20000 in
theorem gX4_readNumber_X4_takes : GoodIn wsX4_readNumber (wsV RX4 129 RX4 yX4_takes wsX4_takes) := goodIn_app (goodIn_of _ (by decide +kernel)) ggX4_readNumber_X4_takes
theorem dX4_readNumber_0 : decode cX4_readNumber 0 = .ok (.aload_n 0, 1) := by decide +kernel
theorem dX4_readNumber_1 : decode cX4_readNumber 1 = .ok (.iload_n 1, 1) := by decide +kernel
theorem dX4_readNumber_2 : decode cX4_readNumber 2 = .ok (.iload_n 2, 1) := by decide +kernel
theorem dX4_readNumber_3 : decode cX4_readNumber 3 = .ok (.invokevirtual 125, 3) := by decide +kernel
theorem dX4_readNumber_6 : decode cX4_readNumber 6 = .ok (.istore_n 3, 1) := by decide +kernel
theorem dX4_readNumber_7 : decode cX4_readNumber 7 = .ok (.aload_n 0, 1) := by decide +kernel
theorem dX4_readNumber_8 : decode cX4_readNumber 8 = .ok (.invokevirtual 129, 3) := by decide +kernel
theorem dX4_readNumber_11 : decode cX4_readNumber 11 = .ok (.iload_n 3, 1) := by decide +kernel
theorem dX4_readNumber_12 : decode cX4_readNumber 12 = .ok (.ireturn, 1) := by decide +kernel
set_option maxRecDepth 20000 in
theorem ggX4_readOne_X4_readNumber : GoodIn wsX4_readOne wsX4_readNumber := goodIn_r _ [6, 7, 8, 9, 5, 10, 11, 12, 13, 14, 15, 16, 17, 18, 19, 20, 21, 22, 23, 24, 25, 26, 27, 28, 29, 30, 31, 32, 33, 34, 35, 36, 37, 38, 39, 40, 41, 42, 43, 44, 45, 46, 47, 48, 49, 50, 51, 52, 53, 54, 55, 56, 57, 58, 59, 60, 61, 62, 63, 64, 65, 66] (by decide +kernel) (by decide +kernel)
set_option maxRecDepth 20000 in
theorem gX4_readOne_X4_readNumber : GoodIn wsX4_readOne (wsV RX4 132 RX4 yX4_readNumber wsX4_readNumber) := goodIn_app (goodIn_of _ (by decide +kernel)) ggX4_readOne_X4_readNumber
theorem dX4_readOne_0 : decode cX4_readOne 0 = .ok (.aload_n 0, 1) := by decide +kernel
theorem dX4_readOne_1 : decode cX4_readOne 1 = .ok (.iconst 0, 1) := by decide +kernel
theorem dX4_readOne_2 : decode cX4_readOne 2 = .ok (.iconst 4, 1) := by decide +kernel
theorem dX4_readOne_3 : decode cX4_readOne 3 = .ok (.invokevirtual 132, 3) := by decide +kernel
theorem dX4_readOne_6 : decode cX4_readOne 6 = .ok (.istore_n 1, 1) := by decide +kernel
theorem dX4_readOne_7 : decode cX4_readOne 7 = .ok (.aload_n 0, 1) := by decide +kernel
theorem dX4_readOne_8 : decode cX4_readOne 8 = .ok (.iload_n 1, 1) := by decide +kernel
theorem dX4_readOne_9 : decode cX4_readOne 9 = .ok (.aload_n 0, 1) := by decide +kernel
theorem dX4_readOne_10 : decode cX4_readOne 10 = .ok (.getfield 64, 3) := by decide +kernel
theorem dX4_readOne_13 : decode cX4_readOne 13 = .ok (.if_icmp .le 7, 3) := by decide +kernel
theorem dX4_readOne_16 : decode cX4_readOne 16 = .ok (.iload_n 1, 1) := by decide +kernel
theorem dX4_readOne_17 : decode cX4_readOne 17 = .ok (.goto 7, 3) := by decide +kernel
theorem dX4_readOne_20 : decode cX4_readOne 20 = .ok (.aload_n 0, 1) := by decide +kernel
theorem dX4_readOne_21 : decode cX4_readOne 21 = .ok (.getfield 64, 3) := by decide +kernel
theorem dX4_readOne_24 : decode cX4_readOne 24 = .ok (.putfield 64, 3) := by decide +kernel
theorem dX4_readOne_27 : decode cX4_readOne 27 = .ok (.iload_n 1, 1) := by decide +kernel
theorem dX4_readOne_28 : decode cX4_readOne 28 = .ok (.ireturn, 1) := by decide +kernel
set_option maxRecDepth 20000 in
theorem ggX4_readGift_X4_readNumber : GoodIn wsX4_readGift wsX4_readNumber := goodIn_r _ [7, 8, 9, 10, 6, 11, 12, 13, 14, 15, 16, 17, 18, 19, 20, 21, 22, 23, 24, 25, 26, 27, 28, 29, 30, 31, 32, 33, 34, 35, 36, 37, 38, 43, 44, 45, 46, 47, 48, 49, 50, 51, 52, 53, 54, 55, 56, 57, 58, 59, 60, 61, 62, 63, 64, 65, 66, 67, 68, 69, 70, 71] (by decide +kernel) (by decide +kernel)
set_option maxRecDepth 20000 in
theorem gX4_readGift_X4_readNumber : GoodIn wsX4_readGift (wsV RX4 132 RX4 yX4_readNumber wsX4_readNumber) := goodIn_app (goodIn_of _ (by decide +kernel)) ggX4_readGift_X4_readNumber
set_option maxRecDepth 20000 in
theorem ggX4_readGift_X4_readOne : GoodIn wsX4_readGift wsX4_readOne := goodIn_r _ [42, 2, 3, 4, 5, 6, 7, 8, 9, 10, 11, 12, 13, 14, 15, 16, 17, 18, 19, 20, 21, 22, 23, 24, 25, 26, 27, 28, 29, 30, 31, 32, 33, 34, 35, 36, 37, 38, 43, 44, 45, 46, 47, 48, 49, 50, 51, 52, 53, 54, 55, 56, 57, 58, 59, 60, 61, 62, 63, 64, 65, 66, 67, 68, 69, 70, 71] (by decide +kernel) (by decide +kernel)
set_option maxRecDepth 20000 in
theorem gX4_readGift_X4_readOne : GoodIn wsX4_readGift (wsV RX4 135 RX4 yX4_readOne wsX4_readOne) := goodIn_app (goodIn_of _ (by decide +kernel)) ggX4_readGift_X4_readOne
set_option maxRecDepth 20000 in
theorem ggX4_readGift_X4_looked : GoodIn wsX4_readGift wsX4_looked := goodIn_r _ [11, 12, 13, 14, 15, 16, 17, 6, 18, 19, 20, 21, 22, 23, 43, 44, 45, 46, 47, 48, 49, 50, 51, 52, 53, 54, 55, 56, 57, 58, 59, 60, 61, 62, 63, 64, 65, 66, 67, 68, 69, 70, 71] (by decide +kernel) (by decide +kernel)
set_option maxRecDepth 20000 in
theorem gX4_readGift_X4_looked : GoodIn wsX4_readGift (wsV RX4 125 RX4 yX4_looked wsX4_looked) := goodIn_app (goodIn_of _ (by decide +kernel)) ggX4_readGift_X4_looked
set_option maxRecDepth 20000 in
theorem ggX4_readGift_X4_needs : GoodIn wsX4_readGift wsX4_needs := goodIn_r _ [18, 12, 19, 20, 43, 44, 45, 46, 47, 48, 49, 50, 51, 52, 53, 54, 55, 56, 57, 58, 59, 60, 61, 62, 63, 64, 65, 66, 67, 68, 69, 70, 71] (by decide +kernel) (by decide +kernel)
set_option maxRecDepth 20000 in
theorem gX4_readGift_X4_needs : GoodIn wsX4_readGift (wsV RX4 121 RX4 yX4_needs wsX4_needs) := goodIn_app (goodIn_of _ (by decide +kernel)) ggX4_readGift_X4_needs
set_option maxRecDepth 20000 in
theorem ggX4_readGift_X4_takes : GoodIn wsX4_readGift wsX4_takes := goodIn_r _ [27, 12, 28, 19, 13, 29, 30, 31, 32, 14, 33, 34, 35, 6, 36, 37, 38, 21, 22, 23, 15, 16, 17, 18, 20, 43, 44, 45, 46, 47, 48, 49, 50, 51, 52, 53, 54, 55, 56, 57, 58, 59, 60, 61, 62, 63, 64, 65, 66, 67, 68, 69, 70, 71] (by decide +kernel) (by decide +kernel)
set_option maxRecDepth 20000 in
theorem gX4_readGift_X4_takes : GoodIn wsX4_readGift (wsV RX4 129 RX4 yX4_takes wsX4_takes) := goodIn_app (goodIn_of _ (by decide +kernel)) ggX4_readGift_X4_takes
theorem dX4_readGift_0 : decode cX4_readGift 0 = .ok (.bipush 24, 2) := by decide +kernel
theorem dX4_readGift_2 : decode cX4_readGift 2 = .ok (.iconst 4, 1) := by decide +kernel
theorem dX4_readGift_3 : decode cX4_readGift 3 = .ok (.aload_n 0, 1) := by decide +kernel
theorem dX4_readGift_4 : decode cX4_readGift 4 = .ok (.getfield 20, 3) := by decide +kernel
theorem dX4_readGift_7 : decode cX4_readGift 7 = .ok (.bipush 23, 2) := by decide +kernel
theorem dX4_readGift_9 : decode cX4_readGift 9 = .ok (.iaload, 1) := by decide +kernel
theorem dX4_readGift_10 : decode cX4_readGift 10 = .ok (.imul, 1) := by decide +kernel
theorem dX4_readGift_11 : decode cX4_readGift 11 = .ok (.iadd, 1) := by decide +kernel
theorem dX4_readGift_12 : decode cX4_readGift 12 = .ok (.istore_n 1, 1) := by decide +kernel
theorem dX4_readGift_13 : decode cX4_readGift 13 = .ok (.aload_n 0, 1) := by decide +kernel
theorem dX4_readGift_14 : decode cX4_readGift 14 = .ok (.getfield 20, 3) := by decide +kernel
theorem dX4_readGift_17 : decode cX4_readGift 17 = .ok (.iload_n 1, 1) := by decide +kernel
theorem dX4_readGift_18 : decode cX4_readGift 18 = .ok (.aload_n 0, 1) := by decide +kernel
theorem dX4_readGift_19 : decode cX4_readGift 19 = .ok (.iconst 0, 1) := by decide +kernel
theorem dX4_readGift_20 : decode cX4_readGift 20 = .ok (.bipush 20, 2) := by decide +kernel
theorem dX4_readGift_22 : decode cX4_readGift 22 = .ok (.invokevirtual 132, 3) := by decide +kernel
theorem dX4_readGift_25 : decode cX4_readGift 25 = .ok (.iastore, 1) := by decide +kernel
theorem dX4_readGift_26 : decode cX4_readGift 26 = .ok (.aload_n 0, 1) := by decide +kernel
theorem dX4_readGift_27 : decode cX4_readGift 27 = .ok (.getfield 20, 3) := by decide +kernel
theorem dX4_readGift_30 : decode cX4_readGift 30 = .ok (.iload_n 1, 1) := by decide +kernel
theorem dX4_readGift_31 : decode cX4_readGift 31 = .ok (.iconst 1, 1) := by decide +kernel
theorem dX4_readGift_32 : decode cX4_readGift 32 = .ok (.iadd, 1) := by decide +kernel
theorem dX4_readGift_33 : decode cX4_readGift 33 = .ok (.aload_n 0, 1) := by decide +kernel
theorem dX4_readGift_34 : decode cX4_readGift 34 = .ok (.invokevirtual 135, 3) := by decide +kernel
theorem dX4_readGift_37 : decode cX4_readGift 37 = .ok (.iastore, 1) := by decide +kernel
theorem dX4_readGift_38 : decode cX4_readGift 38 = .ok (.aload_n 0, 1) := by decide +kernel
theorem dX4_readGift_39 : decode cX4_readGift 39 = .ok (.iconst 0, 1) := by decide +kernel
theorem dX4_readGift_40 : decode cX4_readGift 40 = .ok (.iconst 4, 1) := by decide +kernel
theorem dX4_readGift_41 : decode cX4_readGift 41 = .ok (.invokevirtual 125, 3) := by decide +kernel
theorem dX4_readGift_44 : decode cX4_readGift 44 = .ok (.istore_n 2, 1) := by decide +kernel
theorem dX4_readGift_45 : decode cX4_readGift 45 = .ok (.aload_n 0, 1) := by decide +kernel
theorem dX4_readGift_46 : decode cX4_readGift 46 = .ok (.iload_n 2, 1) := by decide +kernel
theorem dX4_readGift_47 : decode cX4_readGift 47 = .ok (.aload_n 0, 1) := by decide +kernel
theorem dX4_readGift_48 : decode cX4_readGift 48 = .ok (.getfield 20, 3) := by decide +kernel
theorem dX4_readGift_51 : decode cX4_readGift 51 = .ok (.iload_n 1, 1) := by decide +kernel
theorem dX4_readGift_52 : decode cX4_readGift 52 = .ok (.iconst 1, 1) := by decide +kernel
theorem dX4_readGift_53 : decode cX4_readGift 53 = .ok (.iadd, 1) := by decide +kernel
theorem dX4_readGift_54 : decode cX4_readGift 54 = .ok (.iaload, 1) := by decide +kernel
theorem dX4_readGift_55 : decode cX4_readGift 55 = .ok (.if_icmp .eq 7, 3) := by decide +kernel
theorem dX4_readGift_58 : decode cX4_readGift 58 = .ok (.iconst 1, 1) := by decide +kernel
theorem dX4_readGift_59 : decode cX4_readGift 59 = .ok (.goto 4, 3) := by decide +kernel
theorem dX4_readGift_62 : decode cX4_readGift 62 = .ok (.iconst 0, 1) := by decide +kernel
theorem dX4_readGift_63 : decode cX4_readGift 63 = .ok (.iconst 3, 1) := by decide +kernel
theorem dX4_readGift_64 : decode cX4_readGift 64 = .ok (.invokevirtual 121, 3) := by decide +kernel
theorem dX4_readGift_67 : decode cX4_readGift 67 = .ok (.aload_n 0, 1) := by decide +kernel
theorem dX4_readGift_68 : decode cX4_readGift 68 = .ok (.getfield 20, 3) := by decide +kernel
theorem dX4_readGift_71 : decode cX4_readGift 71 = .ok (.iload_n 1, 1) := by decide +kernel
theorem dX4_readGift_72 : decode cX4_readGift 72 = .ok (.iconst 2, 1) := by decide +kernel
theorem dX4_readGift_73 : decode cX4_readGift 73 = .ok (.iadd, 1) := by decide +kernel
theorem dX4_readGift_74 : decode cX4_readGift 74 = .ok (.iload_n 2, 1) := by decide +kernel
theorem dX4_readGift_75 : decode cX4_readGift 75 = .ok (.iastore, 1) := by decide +kernel
theorem dX4_readGift_76 : decode cX4_readGift 76 = .ok (.aload_n 0, 1) := by decide +kernel
theorem dX4_readGift_77 : decode cX4_readGift 77 = .ok (.iload_n 2, 1) := by decide +kernel
theorem dX4_readGift_78 : decode cX4_readGift 78 = .ok (.aload_n 0, 1) := by decide +kernel
theorem dX4_readGift_79 : decode cX4_readGift 79 = .ok (.getfield 64, 3) := by decide +kernel
theorem dX4_readGift_82 : decode cX4_readGift 82 = .ok (.if_icmp .le 7, 3) := by decide +kernel
theorem dX4_readGift_85 : decode cX4_readGift 85 = .ok (.iload_n 2, 1) := by decide +kernel
theorem dX4_readGift_86 : decode cX4_readGift 86 = .ok (.goto 7, 3) := by decide +kernel
theorem dX4_readGift_89 : decode cX4_readGift 89 = .ok (.aload_n 0, 1) := by decide +kernel
theorem dX4_readGift_90 : decode cX4_readGift 90 = .ok (.getfield 64, 3) := by decide +kernel
theorem dX4_readGift_93 : decode cX4_readGift 93 = .ok (.putfield 64, 3) := by decide +kernel
theorem dX4_readGift_96 : decode cX4_readGift 96 = .ok (.aload_n 0, 1) := by decide +kernel
theorem dX4_readGift_97 : decode cX4_readGift 97 = .ok (.invokevirtual 129, 3) := by decide +kernel
theorem dX4_readGift_100 : decode cX4_readGift 100 = .ok (.aload_n 0, 1) := by decide +kernel
theorem dX4_readGift_101 : decode cX4_readGift 101 = .ok (.getfield 20, 3) := by decide +kernel
theorem dX4_readGift_104 : decode cX4_readGift 104 = .ok (.iload_n 1, 1) := by decide +kernel
theorem dX4_readGift_105 : decode cX4_readGift 105 = .ok (.iconst 3, 1) := by decide +kernel
theorem dX4_readGift_106 : decode cX4_readGift 106 = .ok (.iadd, 1) := by decide +kernel
theorem dX4_readGift_107 : decode cX4_readGift 107 = .ok (.aload_n 0, 1) := by decide +kernel
theorem dX4_readGift_108 : decode cX4_readGift 108 = .ok (.iconst 1, 1) := by decide +kernel
theorem dX4_readGift_109 : decode cX4_readGift 109 = .ok (.bipush 20, 2) := by decide +kernel
theorem dX4_readGift_111 : decode cX4_readGift 111 = .ok (.invokevirtual 132, 3) := by decide +kernel
theorem dX4_readGift_114 : decode cX4_readGift 114 = .ok (.iastore, 1) := by decide +kernel
theorem dX4_readGift_115 : decode cX4_readGift 115 = .ok (.aload_n 0, 1) := by decide +kernel
theorem dX4_readGift_116 : decode cX4_readGift 116 = .ok (.getfield 20, 3) := by decide +kernel
theorem dX4_readGift_119 : decode cX4_readGift 119 = .ok (.bipush 23, 2) := by decide +kernel
theorem dX4_readGift_121 : decode cX4_readGift 121 = .ok (.dup2, 1) := by decide +kernel
theorem dX4_readGift_122 : decode cX4_readGift 122 = .ok (.iaload, 1) := by decide +kernel
theorem dX4_readGift_123 : decode cX4_readGift 123 = .ok (.iconst 1, 1) := by decide +kernel
theorem dX4_readGift_124 : decode cX4_readGift 124 = .ok (.iadd, 1) := by decide +kernel
theorem dX4_readGift_125 : decode cX4_readGift 125 = .ok (.iastore, 1) := by decide +kernel
theorem dX4_readGift_126 : decode cX4_readGift 126 = .ok (.return_, 1) := by decide +kernel
set_option maxRecDepth 20000 in
theorem ggX4_readLineOf_X4_readGift : GoodIn wsX4_readLineOf wsX4_readGift := goodIn_r _ [7, 1, 8, 9, 10, 11, 6, 12, 13, 14, 15, 16, 17, 18, 19, 20, 21, 22, 23, 24, 25, 26, 27, 28, 29, 30, 31, 32, 33, 34, 35, 36, 37, 38, 39, 40, 41, 42, 43, 44, 45, 46, 47, 48, 49, 50, 51, 52, 53, 54, 55, 56, 57, 58, 59, 60, 61, 62, 63, 64, 65, 66, 67, 68, 69, 70, 71, 72, 73, 74, 75, 76] (by decide +kernel) (by decide +kernel)
set_option maxRecDepth 20000 in
theorem gX4_readLineOf_X4_readGift : GoodIn wsX4_readLineOf (wsV RX4 138 RX4 yX4_readGift wsX4_readGift) := goodIn_app (goodIn_of _ (by decide +kernel)) ggX4_readLineOf_X4_readGift
set_option maxRecDepth 20000 in
theorem ggX4_readLineOf_X4_readNumber : GoodIn wsX4_readLineOf wsX4_readNumber := goodIn_r _ [12, 13, 14, 15, 6, 16, 17, 18, 19, 20, 21, 22, 23, 24, 25, 26, 27, 28, 29, 30, 31, 32, 33, 34, 35, 36, 37, 38, 39, 40, 41, 42, 43, 48, 49, 50, 51, 52, 53, 54, 55, 56, 57, 58, 59, 60, 61, 62, 63, 64, 65, 66, 67, 68, 69, 70, 71, 72, 73, 74, 75, 76] (by decide +kernel) (by decide +kernel)
set_option maxRecDepth 20000 in
theorem gX4_readLineOf_X4_readNumber : GoodIn wsX4_readLineOf (wsV RX4 132 RX4 yX4_readNumber wsX4_readNumber) := goodIn_app (goodIn_of _ (by decide +kernel)) ggX4_readLineOf_X4_readNumber
set_option maxRecDepth 20000 in
theorem ggX4_readLineOf_X4_readOne : GoodIn wsX4_readLineOf wsX4_readOne := goodIn_r _ [47, 8, 9, 10, 11, 6, 12, 13, 14, 15, 16, 17, 18, 19, 20, 21, 22, 23, 24, 25, 26, 27, 28, 29, 30, 31, 32, 33, 34, 35, 36, 37, 38, 39, 40, 41, 42, 43, 48, 49, 50, 51, 52, 53, 54, 55, 56, 57, 58, 59, 60, 61, 62, 63, 64, 65, 66, 67, 68, 69, 70, 71, 72, 73, 74, 75, 76] (by decide +kernel) (by decide +kernel)
set_option maxRecDepth 20000 in
theorem gX4_readLineOf_X4_readOne : GoodIn wsX4_readLineOf (wsV RX4 135 RX4 yX4_readOne wsX4_readOne) := goodIn_app (goodIn_of _ (by decide +kernel)) ggX4_readLineOf_X4_readOne
theorem dX4_readLineOf_0 : decode cX4_readLineOf 0 = .ok (.iload_n 1, 1) := by decide +kernel
theorem dX4_readLineOf_1 : decode cX4_readLineOf 1 = .ok (.tableswitch 65 4 6 #[27, 34, 51], 27) := by decide +kernel
theorem dX4_readLineOf_28 : decode cX4_readLineOf 28 = .ok (.aload_n 0, 1) := by decide +kernel
theorem dX4_readLineOf_29 : decode cX4_readLineOf 29 = .ok (.invokevirtual 138, 3) := by decide +kernel
theorem dX4_readLineOf_32 : decode cX4_readLineOf 32 = .ok (.goto 98, 3) := by decide +kernel
theorem dX4_readLineOf_35 : decode cX4_readLineOf 35 = .ok (.aload_n 0, 1) := by decide +kernel
theorem dX4_readLineOf_36 : decode cX4_readLineOf 36 = .ok (.getfield 20, 3) := by decide +kernel
theorem dX4_readLineOf_39 : decode cX4_readLineOf 39 = .ok (.bipush 21, 2) := by decide +kernel
theorem dX4_readLineOf_41 : decode cX4_readLineOf 41 = .ok (.aload_n 0, 1) := by decide +kernel
theorem dX4_readLineOf_42 : decode cX4_readLineOf 42 = .ok (.iconst 0, 1) := by decide +kernel
theorem dX4_readLineOf_43 : decode cX4_readLineOf 43 = .ok (.bipush 9, 2) := by decide +kernel
theorem dX4_readLineOf_45 : decode cX4_readLineOf 45 = .ok (.invokevirtual 132, 3) := by decide +kernel
theorem dX4_readLineOf_48 : decode cX4_readLineOf 48 = .ok (.iastore, 1) := by decide +kernel
theorem dX4_readLineOf_49 : decode cX4_readLineOf 49 = .ok (.goto 81, 3) := by decide +kernel
theorem dX4_readLineOf_52 : decode cX4_readLineOf 52 = .ok (.aload_n 0, 1) := by decide +kernel
theorem dX4_readLineOf_53 : decode cX4_readLineOf 53 = .ok (.getfield 20, 3) := by decide +kernel
theorem dX4_readLineOf_56 : decode cX4_readLineOf 56 = .ok (.bipush 22, 2) := by decide +kernel
theorem dX4_readLineOf_58 : decode cX4_readLineOf 58 = .ok (.aload_n 0, 1) := by decide +kernel
theorem dX4_readLineOf_59 : decode cX4_readLineOf 59 = .ok (.invokevirtual 135, 3) := by decide +kernel
theorem dX4_readLineOf_62 : decode cX4_readLineOf 62 = .ok (.iastore, 1) := by decide +kernel
theorem dX4_readLineOf_63 : decode cX4_readLineOf 63 = .ok (.goto 67, 3) := by decide +kernel
theorem dX4_readLineOf_66 : decode cX4_readLineOf 66 = .ok (.aload_n 0, 1) := by decide +kernel
theorem dX4_readLineOf_67 : decode cX4_readLineOf 67 = .ok (.getfield 20, 3) := by decide +kernel
theorem dX4_readLineOf_70 : decode cX4_readLineOf 70 = .ok (.iconst 4, 1) := by decide +kernel
theorem dX4_readLineOf_71 : decode cX4_readLineOf 71 = .ok (.aload_n 0, 1) := by decide +kernel
theorem dX4_readLineOf_72 : decode cX4_readLineOf 72 = .ok (.getfield 53, 3) := by decide +kernel
theorem dX4_readLineOf_75 : decode cX4_readLineOf 75 = .ok (.imul, 1) := by decide +kernel
theorem dX4_readLineOf_76 : decode cX4_readLineOf 76 = .ok (.iconst 0, 1) := by decide +kernel
theorem dX4_readLineOf_77 : decode cX4_readLineOf 77 = .ok (.iadd, 1) := by decide +kernel
theorem dX4_readLineOf_78 : decode cX4_readLineOf 78 = .ok (.iload_n 1, 1) := by decide +kernel
theorem dX4_readLineOf_79 : decode cX4_readLineOf 79 = .ok (.iastore, 1) := by decide +kernel
theorem dX4_readLineOf_80 : decode cX4_readLineOf 80 = .ok (.aload_n 0, 1) := by decide +kernel
theorem dX4_readLineOf_81 : decode cX4_readLineOf 81 = .ok (.getfield 20, 3) := by decide +kernel
theorem dX4_readLineOf_84 : decode cX4_readLineOf 84 = .ok (.iconst 4, 1) := by decide +kernel
theorem dX4_readLineOf_85 : decode cX4_readLineOf 85 = .ok (.aload_n 0, 1) := by decide +kernel
theorem dX4_readLineOf_86 : decode cX4_readLineOf 86 = .ok (.getfield 53, 3) := by decide +kernel
theorem dX4_readLineOf_89 : decode cX4_readLineOf 89 = .ok (.imul, 1) := by decide +kernel
theorem dX4_readLineOf_90 : decode cX4_readLineOf 90 = .ok (.iconst 1, 1) := by decide +kernel
theorem dX4_readLineOf_91 : decode cX4_readLineOf 91 = .ok (.iadd, 1) := by decide +kernel
theorem dX4_readLineOf_92 : decode cX4_readLineOf 92 = .ok (.aload_n 0, 1) := by decide +kernel
theorem dX4_readLineOf_93 : decode cX4_readLineOf 93 = .ok (.iconst 0, 1) := by decide +kernel
theorem dX4_readLineOf_94 : decode cX4_readLineOf 94 = .ok (.bipush 99, 2) := by decide +kernel
theorem dX4_readLineOf_96 : decode cX4_readLineOf 96 = .ok (.invokevirtual 132, 3) := by decide +kernel
theorem dX4_readLineOf_99 : decode cX4_readLineOf 99 = .ok (.iastore, 1) := by decide +kernel
theorem dX4_readLineOf_100 : decode cX4_readLineOf 100 = .ok (.aload_n 0, 1) := by decide +kernel
theorem dX4_readLineOf_101 : decode cX4_readLineOf 101 = .ok (.getfield 20, 3) := by decide +kernel
theorem dX4_readLineOf_104 : decode cX4_readLineOf 104 = .ok (.iconst 4, 1) := by decide +kernel
theorem dX4_readLineOf_105 : decode cX4_readLineOf 105 = .ok (.aload_n 0, 1) := by decide +kernel
theorem dX4_readLineOf_106 : decode cX4_readLineOf 106 = .ok (.getfield 53, 3) := by decide +kernel
theorem dX4_readLineOf_109 : decode cX4_readLineOf 109 = .ok (.imul, 1) := by decide +kernel
theorem dX4_readLineOf_110 : decode cX4_readLineOf 110 = .ok (.iconst 2, 1) := by decide +kernel
theorem dX4_readLineOf_111 : decode cX4_readLineOf 111 = .ok (.iadd, 1) := by decide +kernel
theorem dX4_readLineOf_112 : decode cX4_readLineOf 112 = .ok (.aload_n 0, 1) := by decide +kernel
theorem dX4_readLineOf_113 : decode cX4_readLineOf 113 = .ok (.iconst 0, 1) := by decide +kernel
theorem dX4_readLineOf_114 : decode cX4_readLineOf 114 = .ok (.bipush 20, 2) := by decide +kernel
theorem dX4_readLineOf_116 : decode cX4_readLineOf 116 = .ok (.invokevirtual 132, 3) := by decide +kernel
theorem dX4_readLineOf_119 : decode cX4_readLineOf 119 = .ok (.iastore, 1) := by decide +kernel
theorem dX4_readLineOf_120 : decode cX4_readLineOf 120 = .ok (.aload_n 0, 1) := by decide +kernel
theorem dX4_readLineOf_121 : decode cX4_readLineOf 121 = .ok (.dup, 1) := by decide +kernel
theorem dX4_readLineOf_122 : decode cX4_readLineOf 122 = .ok (.getfield 53, 3) := by decide +kernel
theorem dX4_readLineOf_125 : decode cX4_readLineOf 125 = .ok (.iconst 1, 1) := by decide +kernel
theorem dX4_readLineOf_126 : decode cX4_readLineOf 126 = .ok (.iadd, 1) := by decide +kernel
theorem dX4_readLineOf_127 : decode cX4_readLineOf 127 = .ok (.putfield 53, 3) := by decide +kernel
theorem dX4_readLineOf_130 : decode cX4_readLineOf 130 = .ok (.return_, 1) := by decide +kernel
set_option maxRecDepth 20000 in
theorem ggX4_readLine_X4_lineNow : GoodIn wsX4_readLine wsX4_lineNow := goodIn_r _ [11, 12, 13, 14, 10, 15, 16, 17, 18, 19, 20, 21, 22, 23, 24, 25, 26, 27, 28, 29, 30, 31, 70, 71, 72, 73, 74, 75, 76, 77, 78, 79, 80, 81, 82, 83, 84, 85, 86, 87, 88, 89, 90, 91, 92, 93, 94, 95, 96, 97, 98] (by decide +kernel) (by decide +kernel)
set_option maxRecDepth 20000 in
theorem gX4_readLine_X4_lineNow : GoodIn wsX4_readLine (wsV RX4 141 RX4 yX4_lineNow wsX4_lineNow) := goodIn_app (goodIn_of _ (by decide +kernel)) ggX4_readLine_X4_lineNow
set_option maxRecDepth 20000 in
theorem ggX4_readLine_X4_needs : GoodIn wsX4_readLine wsX4_needs := goodIn_r _ [35, 6, 17, 36, 70, 71, 72, 73, 74, 75, 76, 77, 78, 79, 80, 81, 82, 83, 84, 85, 86, 87, 88, 89, 90, 91, 92, 93, 94, 95, 96, 97, 98] (by decide +kernel) (by decide +kernel)
set_option maxRecDepth 20000 in
theorem gX4_readLine_X4_needs : GoodIn wsX4_readLine (wsV RX4 121 RX4 yX4_needs wsX4_needs) := goodIn_app (goodIn_of _ (by decide +kernel)) ggX4_readLine_X4_needs
set_option maxRecDepth 20000 in
theorem ggX4_readLine_X4_takes : GoodIn wsX4_readLine wsX4_takes := goodIn_r _ [40, 6, 16, 17, 1, 41, 42, 43, 44, 45, 18, 19, 20, 10, 21, 22, 23, 46, 47, 48, 32, 33, 34, 35, 36, 70, 71, 72, 73, 74, 75, 76, 77, 78, 79, 80, 81, 82, 83, 84, 85, 86, 87, 88, 89, 90, 91, 92, 93, 94, 95, 96, 97, 98] (by decide +kernel) (by decide +kernel)
set_option maxRecDepth 20000 in
theorem gX4_readLine_X4_takes : GoodIn wsX4_readLine (wsV RX4 129 RX4 yX4_takes wsX4_takes) := goodIn_app (goodIn_of _ (by decide +kernel)) ggX4_readLine_X4_takes
set_option maxRecDepth 20000 in
theorem ggX4_readLine_X4_readLineOf : GoodIn wsX4_readLine wsX4_readLineOf := goodIn_r _ [52, 2, 3, 53, 54, 55, 10, 56, 57, 58, 59, 60, 61, 62, 63, 64, 65, 6, 1, 45, 32, 33, 34, 35, 17, 36, 46, 47, 48, 37, 38, 39, 40, 16, 41, 42, 43, 44, 18, 19, 20, 21, 22, 23, 66, 67, 68, 69, 70, 71, 72, 73, 74, 75, 76, 77, 78, 79, 80, 81, 82, 83, 84, 85, 86, 87, 88, 89, 90, 91, 92, 93, 94, 95, 96, 97, 98] (by decide +kernel) (by decide +kernel)
set_option maxRecDepth 20000 in
theorem gX4_readLine_X4_readLineOf : GoodIn wsX4_readLine (wsV RX4 144 RX4 yX4_readLineOf wsX4_readLineOf) := goodIn_app (goodIn_of _ (by decide +kernel)) ggX4_readLine_X4_readLineOf
theorem dX4_readLine_0 : decode cX4_readLine 0 = .ok (.aload_n 0, 1) := by decide +kernel
theorem dX4_readLine_1 : decode cX4_readLine 1 = .ok (.getfield 107, 3) := by decide +kernel
theorem dX4_readLine_4 : decode cX4_readLine 4 = .ok (.iconst 1, 1) := by decide +kernel
theorem dX4_readLine_5 : decode cX4_readLine 5 = .ok (.if_icmp .ne 10, 3) := by decide +kernel
theorem dX4_readLine_8 : decode cX4_readLine 8 = .ok (.aload_n 0, 1) := by decide +kernel
theorem dX4_readLine_9 : decode cX4_readLine 9 = .ok (.invokevirtual 141, 3) := by decide +kernel
theorem dX4_readLine_12 : decode cX4_readLine 12 = .ok (.goto 5, 3) := by decide +kernel
theorem dX4_readLine_15 : decode cX4_readLine 15 = .ok (.bipush (-4), 2) := by decide +kernel
theorem dX4_readLine_17 : decode cX4_readLine 17 = .ok (.istore_n 1, 1) := by decide +kernel
theorem dX4_readLine_18 : decode cX4_readLine 18 = .ok (.aload_n 0, 1) := by decide +kernel
theorem dX4_readLine_19 : decode cX4_readLine 19 = .ok (.iload_n 1, 1) := by decide +kernel
theorem dX4_readLine_20 : decode cX4_readLine 20 = .ok (.bipush (-4), 2) := by decide +kernel
theorem dX4_readLine_22 : decode cX4_readLine 22 = .ok (.if_icmp .eq 7, 3) := by decide +kernel
theorem dX4_readLine_25 : decode cX4_readLine 25 = .ok (.iconst 1, 1) := by decide +kernel
theorem dX4_readLine_26 : decode cX4_readLine 26 = .ok (.goto 4, 3) := by decide +kernel
theorem dX4_readLine_29 : decode cX4_readLine 29 = .ok (.iconst 0, 1) := by decide +kernel
theorem dX4_readLine_30 : decode cX4_readLine 30 = .ok (.iconst 2, 1) := by decide +kernel
theorem dX4_readLine_31 : decode cX4_readLine 31 = .ok (.invokevirtual 121, 3) := by decide +kernel
theorem dX4_readLine_34 : decode cX4_readLine 34 = .ok (.aload_n 0, 1) := by decide +kernel
theorem dX4_readLine_35 : decode cX4_readLine 35 = .ok (.iload_n 1, 1) := by decide +kernel
theorem dX4_readLine_36 : decode cX4_readLine 36 = .ok (.iconst 4, 1) := by decide +kernel
theorem dX4_readLine_37 : decode cX4_readLine 37 = .ok (.if_icmp .gt 30, 3) := by decide +kernel
theorem dX4_readLine_40 : decode cX4_readLine 40 = .ok (.iload_n 1, 1) := by decide +kernel
theorem dX4_readLine_41 : decode cX4_readLine 41 = .ok (.iconst 4, 1) := by decide +kernel
theorem dX4_readLine_42 : decode cX4_readLine 42 = .ok (.if_icmp .ne 17, 3) := by decide +kernel
theorem dX4_readLine_45 : decode cX4_readLine 45 = .ok (.aload_n 0, 1) := by decide +kernel
theorem dX4_readLine_46 : decode cX4_readLine 46 = .ok (.getfield 20, 3) := by decide +kernel
theorem dX4_readLine_49 : decode cX4_readLine 49 = .ok (.bipush 23, 2) := by decide +kernel
theorem dX4_readLine_51 : decode cX4_readLine 51 = .ok (.iaload, 1) := by decide +kernel
theorem dX4_readLine_52 : decode cX4_readLine 52 = .ok (.iconst 4, 1) := by decide +kernel
theorem dX4_readLine_53 : decode cX4_readLine 53 = .ok (.if_icmp .ge 18, 3) := by decide +kernel
theorem dX4_readLine_56 : decode cX4_readLine 56 = .ok (.goto 11, 3) := by decide +kernel
theorem dX4_readLine_59 : decode cX4_readLine 59 = .ok (.aload_n 0, 1) := by decide +kernel
theorem dX4_readLine_60 : decode cX4_readLine 60 = .ok (.getfield 53, 3) := by decide +kernel
theorem dX4_readLine_63 : decode cX4_readLine 63 = .ok (.iconst 5, 1) := by decide +kernel
theorem dX4_readLine_64 : decode cX4_readLine 64 = .ok (.if_icmp .ge 7, 3) := by decide +kernel
theorem dX4_readLine_67 : decode cX4_readLine 67 = .ok (.iconst 1, 1) := by decide +kernel
theorem dX4_readLine_68 : decode cX4_readLine 68 = .ok (.goto 4, 3) := by decide +kernel
theorem dX4_readLine_71 : decode cX4_readLine 71 = .ok (.iconst 0, 1) := by decide +kernel
theorem dX4_readLine_72 : decode cX4_readLine 72 = .ok (.iconst 5, 1) := by decide +kernel
theorem dX4_readLine_73 : decode cX4_readLine 73 = .ok (.invokevirtual 121, 3) := by decide +kernel
theorem dX4_readLine_76 : decode cX4_readLine 76 = .ok (.aload_n 0, 1) := by decide +kernel
theorem dX4_readLine_77 : decode cX4_readLine 77 = .ok (.iload_n 1, 1) := by decide +kernel
theorem dX4_readLine_78 : decode cX4_readLine 78 = .ok (.iconst 5, 1) := by decide +kernel
theorem dX4_readLine_79 : decode cX4_readLine 79 = .ok (.if_icmp .ne 10, 3) := by decide +kernel
theorem dX4_readLine_82 : decode cX4_readLine 82 = .ok (.aload_n 0, 1) := by decide +kernel
theorem dX4_readLine_83 : decode cX4_readLine 83 = .ok (.getfield 57, 3) := by decide +kernel
theorem dX4_readLine_86 : decode cX4_readLine 86 = .ok (.ifCond .ne 7, 3) := by decide +kernel
theorem dX4_readLine_89 : decode cX4_readLine 89 = .ok (.iconst 1, 1) := by decide +kernel
theorem dX4_readLine_90 : decode cX4_readLine 90 = .ok (.goto 4, 3) := by decide +kernel
theorem dX4_readLine_93 : decode cX4_readLine 93 = .ok (.iconst 0, 1) := by decide +kernel
theorem dX4_readLine_94 : decode cX4_readLine 94 = .ok (.iconst 4, 1) := by decide +kernel
theorem dX4_readLine_95 : decode cX4_readLine 95 = .ok (.invokevirtual 121, 3) := by decide +kernel
theorem dX4_readLine_98 : decode cX4_readLine 98 = .ok (.aload_n 0, 1) := by decide +kernel
theorem dX4_readLine_99 : decode cX4_readLine 99 = .ok (.iload_n 1, 1) := by decide +kernel
theorem dX4_readLine_100 : decode cX4_readLine 100 = .ok (.bipush 6, 2) := by decide +kernel
theorem dX4_readLine_102 : decode cX4_readLine 102 = .ok (.if_icmp .ne 10, 3) := by decide +kernel
theorem dX4_readLine_105 : decode cX4_readLine 105 = .ok (.aload_n 0, 1) := by decide +kernel
theorem dX4_readLine_106 : decode cX4_readLine 106 = .ok (.getfield 61, 3) := by decide +kernel
theorem dX4_readLine_109 : decode cX4_readLine 109 = .ok (.ifCond .ne 7, 3) := by decide +kernel
theorem dX4_readLine_112 : decode cX4_readLine 112 = .ok (.iconst 1, 1) := by decide +kernel
theorem dX4_readLine_113 : decode cX4_readLine 113 = .ok (.goto 4, 3) := by decide +kernel
theorem dX4_readLine_116 : decode cX4_readLine 116 = .ok (.iconst 0, 1) := by decide +kernel
theorem dX4_readLine_117 : decode cX4_readLine 117 = .ok (.iconst 4, 1) := by decide +kernel
theorem dX4_readLine_118 : decode cX4_readLine 118 = .ok (.invokevirtual 121, 3) := by decide +kernel
theorem dX4_readLine_121 : decode cX4_readLine 121 = .ok (.aload_n 0, 1) := by decide +kernel
theorem dX4_readLine_122 : decode cX4_readLine 122 = .ok (.aload_n 0, 1) := by decide +kernel
theorem dX4_readLine_123 : decode cX4_readLine 123 = .ok (.getfield 57, 3) := by decide +kernel
theorem dX4_readLine_126 : decode cX4_readLine 126 = .ok (.ifCond .ne 8, 3) := by decide +kernel
theorem dX4_readLine_129 : decode cX4_readLine 129 = .ok (.iload_n 1, 1) := by decide +kernel
theorem dX4_readLine_130 : decode cX4_readLine 130 = .ok (.iconst 5, 1) := by decide +kernel
theorem dX4_readLine_131 : decode cX4_readLine 131 = .ok (.if_icmp .ne 7, 3) := by decide +kernel
theorem dX4_readLine_134 : decode cX4_readLine 134 = .ok (.iconst 1, 1) := by decide +kernel
theorem dX4_readLine_135 : decode cX4_readLine 135 = .ok (.goto 4, 3) := by decide +kernel
theorem dX4_readLine_138 : decode cX4_readLine 138 = .ok (.iconst 0, 1) := by decide +kernel
theorem dX4_readLine_139 : decode cX4_readLine 139 = .ok (.putfield 57, 3) := by decide +kernel
theorem dX4_readLine_142 : decode cX4_readLine 142 = .ok (.aload_n 0, 1) := by decide +kernel
theorem dX4_readLine_143 : decode cX4_readLine 143 = .ok (.aload_n 0, 1) := by decide +kernel
theorem dX4_readLine_144 : decode cX4_readLine 144 = .ok (.getfield 61, 3) := by decide +kernel
theorem dX4_readLine_147 : decode cX4_readLine 147 = .ok (.ifCond .ne 9, 3) := by decide +kernel
theorem dX4_readLine_150 : decode cX4_readLine 150 = .ok (.iload_n 1, 1) := by decide +kernel
theorem dX4_readLine_151 : decode cX4_readLine 151 = .ok (.bipush 6, 2) := by decide +kernel
theorem dX4_readLine_153 : decode cX4_readLine 153 = .ok (.if_icmp .ne 7, 3) := by decide +kernel
theorem dX4_readLine_156 : decode cX4_readLine 156 = .ok (.iconst 1, 1) := by decide +kernel
theorem dX4_readLine_157 : decode cX4_readLine 157 = .ok (.goto 4, 3) := by decide +kernel
theorem dX4_readLine_160 : decode cX4_readLine 160 = .ok (.iconst 0, 1) := by decide +kernel
theorem dX4_readLine_161 : decode cX4_readLine 161 = .ok (.putfield 61, 3) := by decide +kernel
theorem dX4_readLine_164 : decode cX4_readLine 164 = .ok (.aload_n 0, 1) := by decide +kernel
theorem dX4_readLine_165 : decode cX4_readLine 165 = .ok (.invokevirtual 129, 3) := by decide +kernel
theorem dX4_readLine_168 : decode cX4_readLine 168 = .ok (.aload_n 0, 1) := by decide +kernel
theorem dX4_readLine_169 : decode cX4_readLine 169 = .ok (.getfield 79, 3) := by decide +kernel
theorem dX4_readLine_172 : decode cX4_readLine 172 = .ok (.ifCond .le 4, 3) := by decide +kernel
theorem dX4_readLine_175 : decode cX4_readLine 175 = .ok (.return_, 1) := by decide +kernel
theorem dX4_readLine_176 : decode cX4_readLine 176 = .ok (.aload_n 0, 1) := by decide +kernel
theorem dX4_readLine_177 : decode cX4_readLine 177 = .ok (.iload_n 1, 1) := by decide +kernel
theorem dX4_readLine_178 : decode cX4_readLine 178 = .ok (.invokevirtual 144, 3) := by decide +kernel
theorem dX4_readLine_181 : decode cX4_readLine 181 = .ok (.aload_n 0, 1) := by decide +kernel
theorem dX4_readLine_182 : decode cX4_readLine 182 = .ok (.getfield 79, 3) := by decide +kernel
theorem dX4_readLine_185 : decode cX4_readLine 185 = .ok (.ifCond .ne 21, 3) := by decide +kernel
theorem dX4_readLine_188 : decode cX4_readLine 188 = .ok (.aload_n 0, 1) := by decide +kernel
theorem dX4_readLine_189 : decode cX4_readLine 189 = .ok (.aload_n 0, 1) := by decide +kernel
theorem dX4_readLine_190 : decode cX4_readLine 190 = .ok (.getfield 107, 3) := by decide +kernel
theorem dX4_readLine_193 : decode cX4_readLine 193 = .ok (.iconst 3, 1) := by decide +kernel
theorem dX4_readLine_194 : decode cX4_readLine 194 = .ok (.if_icmp .ne 7, 3) := by decide +kernel
theorem dX4_readLine_197 : decode cX4_readLine 197 = .ok (.iconst 1, 1) := by decide +kernel
theorem dX4_readLine_198 : decode cX4_readLine 198 = .ok (.goto 4, 3) := by decide +kernel
theorem dX4_readLine_201 : decode cX4_readLine 201 = .ok (.iconst 0, 1) := by decide +kernel
theorem dX4_readLine_202 : decode cX4_readLine 202 = .ok (.iconst 2, 1) := by decide +kernel
theorem dX4_readLine_203 : decode cX4_readLine 203 = .ok (.invokevirtual 121, 3) := by decide +kernel
theorem dX4_readLine_206 : decode cX4_readLine 206 = .ok (.aload_n 0, 1) := by decide +kernel
theorem dX4_readLine_207 : decode cX4_readLine 207 = .ok (.invokevirtual 129, 3) := by decide +kernel
theorem dX4_readLine_210 : decode cX4_readLine 210 = .ok (.return_, 1) := by decide +kernel
set_option maxRecDepth 20000 in
theorem ggX4_text_X4_firstDraft : GoodIn wsX4_text wsX4_firstDraft := goodIn_r _ [12, 13, 5, 14, 15, 4, 85, 86, 87, 88, 89, 90, 91, 92, 93, 94, 95, 96, 97, 98, 99, 100, 101, 102, 103, 104, 105, 106, 107, 108, 109, 110, 111, 112, 113] (by decide +kernel) (by decide +kernel)
set_option maxRecDepth 20000 in
theorem gX4_text_X4_firstDraft : GoodIn wsX4_text (wsV RX4 47 RX4 yX4_firstDraft wsX4_firstDraft) := goodIn_app (goodIn_of _ (by decide +kernel)) ggX4_text_X4_firstDraft
set_option maxRecDepth 20000 in
theorem ggX4_text_X4_takes : GoodIn wsX4_text wsX4_takes := goodIn_r _ [19, 1, 2, 20, 3, 21, 22, 23, 24, 25, 26, 27, 28, 11, 29, 6, 30, 31, 32, 33, 34, 35, 36, 37, 7, 85, 86, 87, 88, 89, 90, 91, 92, 93, 94, 95, 96, 97, 98, 99, 100, 101, 102, 103, 104, 105, 106, 107, 108, 109, 110, 111, 112, 113] (by decide +kernel) (by decide +kernel)
set_option maxRecDepth 20000 in
theorem gX4_text_X4_takes : GoodIn wsX4_text (wsV RX4 129 RX4 yX4_takes wsX4_takes) := goodIn_app (goodIn_of _ (by decide +kernel)) ggX4_text_X4_takes
set_option maxRecDepth 20000 in
theorem ggX4_text_X4_readLine : GoodIn wsX4_text wsX4_readLine := goodIn_r _ [41, 3, 13, 5, 14, 15, 1, 42, 43, 44, 11, 45, 46, 47, 48, 49, 2, 20, 26, 27, 28, 29, 6, 30, 50, 51, 52, 53, 54, 55, 56, 57, 34, 35, 36, 37, 7, 16, 17, 18, 19, 21, 22, 23, 24, 25, 31, 32, 33, 58, 59, 60, 61, 62, 63, 64, 65, 4, 66, 67, 68, 69, 70, 71, 72, 73, 74, 75, 76, 77, 85, 86, 87, 88, 89, 90, 91, 92, 93, 94, 95, 96, 97, 98, 99, 100, 101, 102, 103, 104, 105, 106, 107, 108, 109, 110, 111, 112, 113] (by decide +kernel) (by decide +kernel)
set_option maxRecDepth 20000 in
theorem gX4_text_X4_readLine : GoodIn wsX4_text (wsV RX4 148 RX4 yX4_readLine wsX4_readLine) := goodIn_app (goodIn_of _ (by decide +kernel)) ggX4_text_X4_readLine
set_option maxRecDepth 20000 in
theorem ggX4_text_X4_needs : GoodIn wsX4_text wsX4_needs := goodIn_r _ [37, 1, 20, 7, 85, 86, 87, 88, 89, 90, 91, 92, 93, 94, 95, 96, 97, 98, 99, 100, 101, 102, 103, 104, 105, 106, 107, 108, 109, 110, 111, 112, 113] (by decide +kernel) (by decide +kernel)
set_option maxRecDepth 20000 in
theorem gX4_text_X4_needs : GoodIn wsX4_text (wsV RX4 121 RX4 yX4_needs wsX4_needs) := goodIn_app (goodIn_of _ (by decide +kernel)) ggX4_text_X4_needs
set_option maxRecDepth 20000 in
theorem ggX4_text_X4_keepDraft : GoodIn wsX4_text wsX4_keepDraft := goodIn_r _ [81, 82, 13, 5, 83, 84, 85, 86, 87, 88, 89, 90, 91, 92, 93, 94, 95, 96, 97, 98, 99, 100, 101, 102, 103, 104, 105, 106, 107, 108, 109, 110, 111, 112, 113] (by decide +kernel) (by decide +kernel)
set_option maxRecDepth 20000 in
theorem gX4_text_X4_keepDraft : GoodIn wsX4_text (wsV RX4 50 RX4 yX4_keepDraft wsX4_keepDraft) := goodIn_app (goodIn_of _ (by decide +kernel)) ggX4_text_X4_keepDraft
theorem dX4_text_0 : decode cX4_text 0 = .ok (.iconst 0, 1) := by decide +kernel
theorem dX4_text_1 : decode cX4_text 1 = .ok (.istore_n 1, 1) := by decide +kernel
theorem dX4_text_2 : decode cX4_text 2 = .ok (.aload_n 0, 1) := by decide +kernel
theorem dX4_text_3 : decode cX4_text 3 = .ok (.iconst 0, 1) := by decide +kernel
theorem dX4_text_4 : decode cX4_text 4 = .ok (.putfield 79, 3) := by decide +kernel
theorem dX4_text_7 : decode cX4_text 7 = .ok (.aload_n 0, 1) := by decide +kernel
theorem dX4_text_8 : decode cX4_text 8 = .ok (.iconst 0, 1) := by decide +kernel
theorem dX4_text_9 : decode cX4_text 9 = .ok (.putfield 88, 3) := by decide +kernel
theorem dX4_text_12 : decode cX4_text 12 = .ok (.aload_n 0, 1) := by decide +kernel
theorem dX4_text_13 : decode cX4_text 13 = .ok (.invokevirtual 47, 3) := by decide +kernel
theorem dX4_text_16 : decode cX4_text 16 = .ok (.aload_n 0, 1) := by decide +kernel
theorem dX4_text_17 : decode cX4_text 17 = .ok (.invokevirtual 129, 3) := by decide +kernel
theorem dX4_text_20 : decode cX4_text 20 = .ok (.aload_n 0, 1) := by decide +kernel
theorem dX4_text_21 : decode cX4_text 21 = .ok (.getfield 79, 3) := by decide +kernel
theorem dX4_text_24 : decode cX4_text 24 = .ok (.ifCond .ne 20, 3) := by decide +kernel
theorem dX4_text_27 : decode cX4_text 27 = .ok (.aload_n 0, 1) := by decide +kernel
theorem dX4_text_28 : decode cX4_text 28 = .ok (.getfield 107, 3) := by decide +kernel
theorem dX4_text_31 : decode cX4_text 31 = .ok (.ifCond .eq 13, 3) := by decide +kernel
theorem dX4_text_34 : decode cX4_text 34 = .ok (.aload_n 0, 1) := by decide +kernel
theorem dX4_text_35 : decode cX4_text 35 = .ok (.invokevirtual 148, 3) := by decide +kernel
theorem dX4_text_38 : decode cX4_text 38 = .ok (.iinc 1 1, 3) := by decide +kernel
theorem dX4_text_41 : decode cX4_text 41 = .ok (.goto (-21), 3) := by decide +kernel
theorem dX4_text_44 : decode cX4_text 44 = .ok (.aload_n 0, 1) := by decide +kernel
theorem dX4_text_45 : decode cX4_text 45 = .ok (.getfield 79, 3) := by decide +kernel
theorem dX4_text_48 : decode cX4_text 48 = .ok (.ifCond .ne 25, 3) := by decide +kernel
theorem dX4_text_51 : decode cX4_text 51 = .ok (.aload_n 0, 1) := by decide +kernel
theorem dX4_text_52 : decode cX4_text 52 = .ok (.aload_n 0, 1) := by decide +kernel
theorem dX4_text_53 : decode cX4_text 53 = .ok (.getfield 64, 3) := by decide +kernel
theorem dX4_text_56 : decode cX4_text 56 = .ok (.aload_n 0, 1) := by decide +kernel
theorem dX4_text_57 : decode cX4_text 57 = .ok (.getfield 53, 3) := by decide +kernel
theorem dX4_text_60 : decode cX4_text 60 = .ok (.if_icmp .ge 7, 3) := by decide +kernel
theorem dX4_text_63 : decode cX4_text 63 = .ok (.iconst 1, 1) := by decide +kernel
theorem dX4_text_64 : decode cX4_text 64 = .ok (.goto 4, 3) := by decide +kernel
theorem dX4_text_67 : decode cX4_text 67 = .ok (.iconst 0, 1) := by decide +kernel
theorem dX4_text_68 : decode cX4_text 68 = .ok (.bipush 6, 2) := by decide +kernel
theorem dX4_text_70 : decode cX4_text 70 = .ok (.invokevirtual 121, 3) := by decide +kernel
theorem dX4_text_73 : decode cX4_text 73 = .ok (.aload_n 0, 1) := by decide +kernel
theorem dX4_text_74 : decode cX4_text 74 = .ok (.iconst 0, 1) := by decide +kernel
theorem dX4_text_75 : decode cX4_text 75 = .ok (.putfield 76, 3) := by decide +kernel
theorem dX4_text_78 : decode cX4_text 78 = .ok (.aload_n 0, 1) := by decide +kernel
theorem dX4_text_79 : decode cX4_text 79 = .ok (.getfield 79, 3) := by decide +kernel
theorem dX4_text_82 : decode cX4_text 82 = .ok (.ifCond .le 11, 3) := by decide +kernel
theorem dX4_text_85 : decode cX4_text 85 = .ok (.bipush (-10), 2) := by decide +kernel
theorem dX4_text_87 : decode cX4_text 87 = .ok (.aload_n 0, 1) := by decide +kernel
theorem dX4_text_88 : decode cX4_text 88 = .ok (.getfield 85, 3) := by decide +kernel
theorem dX4_text_91 : decode cX4_text 91 = .ok (.isub, 1) := by decide +kernel
theorem dX4_text_92 : decode cX4_text 92 = .ok (.ireturn, 1) := by decide +kernel
theorem dX4_text_93 : decode cX4_text 93 = .ok (.aload_n 0, 1) := by decide +kernel
theorem dX4_text_94 : decode cX4_text 94 = .ok (.invokevirtual 50, 3) := by decide +kernel
theorem dX4_text_97 : decode cX4_text 97 = .ok (.iload_n 1, 1) := by decide +kernel
theorem dX4_text_98 : decode cX4_text 98 = .ok (.ireturn, 1) := by decide +kernel
theorem dX4_fault_0 : decode cX4_fault 0 = .ok (.aload_n 0, 1) := by decide +kernel
theorem dX4_fault_1 : decode cX4_fault 1 = .ok (.getfield 79, 3) := by decide +kernel
theorem dX4_fault_4 : decode cX4_fault 4 = .ok (.ireturn, 1) := by decide +kernel
set_option maxRecDepth 20000 in
theorem ggX4_isOne_X4_in : GoodIn wsX4_isOne wsX4_in := goodIn_r _ [5] (by decide +kernel) (by decide +kernel)
set_option maxRecDepth 20000 in
theorem gX4_isOne_X4_in : GoodIn wsX4_isOne (va_wsS RX4 72 yX4_in wsX4_in) := goodIn_app (goodIn_of _ (by decide +kernel)) ggX4_isOne_X4_in
theorem dX4_isOne_0 : decode cX4_isOne 0 = .ok (.iload_n 1, 1) := by decide +kernel
theorem dX4_isOne_1 : decode cX4_isOne 1 = .ok (.i2l, 1) := by decide +kernel
theorem dX4_isOne_2 : decode cX4_isOne 2 = .ok (.lconst 0, 1) := by decide +kernel
theorem dX4_isOne_3 : decode cX4_isOne 3 = .ok (.aload_n 0, 1) := by decide +kernel
theorem dX4_isOne_4 : decode cX4_isOne 4 = .ok (.getfield 67, 3) := by decide +kernel
theorem dX4_isOne_7 : decode cX4_isOne 7 = .ok (.iconst 1, 1) := by decide +kernel
theorem dX4_isOne_8 : decode cX4_isOne 8 = .ok (.isub, 1) := by decide +kernel
theorem dX4_isOne_9 : decode cX4_isOne 9 = .ok (.i2l, 1) := by decide +kernel
theorem dX4_isOne_10 : decode cX4_isOne 10 = .ok (.invokestatic 72, 3) := by decide +kernel
theorem dX4_isOne_13 : decode cX4_isOne 13 = .ok (.ireturn, 1) := by decide +kernel
set_option maxRecDepth 20000 in
theorem ggX4_isPart_X4_in : GoodIn wsX4_isPart wsX4_in := goodIn_r _ [4] (by decide +kernel) (by decide +kernel)
set_option maxRecDepth 20000 in
theorem gX4_isPart_X4_in : GoodIn wsX4_isPart (va_wsS RX4 72 yX4_in wsX4_in) := goodIn_app (goodIn_of _ (by decide +kernel)) ggX4_isPart_X4_in
theorem dX4_isPart_0 : decode cX4_isPart 0 = .ok (.iload_n 0, 1) := by decide +kernel
theorem dX4_isPart_1 : decode cX4_isPart 1 = .ok (.i2l, 1) := by decide +kernel
theorem dX4_isPart_2 : decode cX4_isPart 2 = .ok (.lconst 0, 1) := by decide +kernel
theorem dX4_isPart_3 : decode cX4_isPart 3 = .ok (.lconst 1, 1) := by decide +kernel
theorem dX4_isPart_4 : decode cX4_isPart 4 = .ok (.invokestatic 72, 3) := by decide +kernel
theorem dX4_isPart_7 : decode cX4_isPart 7 = .ok (.ireturn, 1) := by decide +kernel
theorem dX4_starts_0 : decode cX4_starts 0 = .ok (.iconst 0, 1) := by decide +kernel
theorem dX4_starts_1 : decode cX4_starts 1 = .ok (.istore_n 1, 1) := by decide +kernel
theorem dX4_starts_2 : decode cX4_starts 2 = .ok (.iload_n 1, 1) := by decide +kernel
theorem dX4_starts_3 : decode cX4_starts 3 = .ok (.bipush 57, 2) := by decide +kernel
theorem dX4_starts_5 : decode cX4_starts 5 = .ok (.if_icmp .ge 21, 3) := by decide +kernel
theorem dX4_starts_8 : decode cX4_starts 8 = .ok (.aload_n 0, 1) := by decide +kernel
theorem dX4_starts_9 : decode cX4_starts 9 = .ok (.getfield 13, 3) := by decide +kernel
theorem dX4_starts_12 : decode cX4_starts 12 = .ok (.iload_n 1, 1) := by decide +kernel
theorem dX4_starts_13 : decode cX4_starts 13 = .ok (.aload_n 0, 1) := by decide +kernel
theorem dX4_starts_14 : decode cX4_starts 14 = .ok (.getfield 7, 3) := by decide +kernel
theorem dX4_starts_17 : decode cX4_starts 17 = .ok (.iload_n 1, 1) := by decide +kernel
theorem dX4_starts_18 : decode cX4_starts 18 = .ok (.iaload, 1) := by decide +kernel
theorem dX4_starts_19 : decode cX4_starts 19 = .ok (.iastore, 1) := by decide +kernel
theorem dX4_starts_20 : decode cX4_starts 20 = .ok (.iinc 1 1, 3) := by decide +kernel
theorem dX4_starts_23 : decode cX4_starts 23 = .ok (.goto (-21), 3) := by decide +kernel
theorem dX4_starts_26 : decode cX4_starts 26 = .ok (.return_, 1) := by decide +kernel
theorem dX4_settles_0 : decode cX4_settles 0 = .ok (.iconst 0, 1) := by decide +kernel
theorem dX4_settles_1 : decode cX4_settles 1 = .ok (.istore_n 1, 1) := by decide +kernel
theorem dX4_settles_2 : decode cX4_settles 2 = .ok (.iload_n 1, 1) := by decide +kernel
theorem dX4_settles_3 : decode cX4_settles 3 = .ok (.bipush 57, 2) := by decide +kernel
theorem dX4_settles_5 : decode cX4_settles 5 = .ok (.if_icmp .ge 21, 3) := by decide +kernel
theorem dX4_settles_8 : decode cX4_settles 8 = .ok (.aload_n 0, 1) := by decide +kernel
theorem dX4_settles_9 : decode cX4_settles 9 = .ok (.getfield 7, 3) := by decide +kernel
theorem dX4_settles_12 : decode cX4_settles 12 = .ok (.iload_n 1, 1) := by decide +kernel
theorem dX4_settles_13 : decode cX4_settles 13 = .ok (.aload_n 0, 1) := by decide +kernel
theorem dX4_settles_14 : decode cX4_settles 14 = .ok (.getfield 13, 3) := by decide +kernel
theorem dX4_settles_17 : decode cX4_settles 17 = .ok (.iload_n 1, 1) := by decide +kernel
theorem dX4_settles_18 : decode cX4_settles 18 = .ok (.iaload, 1) := by decide +kernel
theorem dX4_settles_19 : decode cX4_settles 19 = .ok (.iastore, 1) := by decide +kernel
theorem dX4_settles_20 : decode cX4_settles 20 = .ok (.iinc 1 1, 3) := by decide +kernel
theorem dX4_settles_23 : decode cX4_settles 23 = .ok (.goto (-21), 3) := by decide +kernel
theorem dX4_settles_26 : decode cX4_settles 26 = .ok (.return_, 1) := by decide +kernel
theorem dX4_of_0 : decode cX4_of 0 = .ok (.aload_n 0, 1) := by decide +kernel
theorem dX4_of_1 : decode cX4_of 1 = .ok (.getfield 13, 3) := by decide +kernel
theorem dX4_of_4 : decode cX4_of 4 = .ok (.iconst 4, 1) := by decide +kernel
theorem dX4_of_5 : decode cX4_of 5 = .ok (.iload_n 1, 1) := by decide +kernel
theorem dX4_of_6 : decode cX4_of 6 = .ok (.imul, 1) := by decide +kernel
theorem dX4_of_7 : decode cX4_of 7 = .ok (.iload_n 2, 1) := by decide +kernel
theorem dX4_of_8 : decode cX4_of 8 = .ok (.iadd, 1) := by decide +kernel
theorem dX4_of_9 : decode cX4_of 9 = .ok (.iaload, 1) := by decide +kernel
theorem dX4_of_10 : decode cX4_of 10 = .ok (.ireturn, 1) := by decide +kernel
theorem dX4_becomesOf_0 : decode cX4_becomesOf 0 = .ok (.aload_n 0, 1) := by decide +kernel
theorem dX4_becomesOf_1 : decode cX4_becomesOf 1 = .ok (.getfield 13, 3) := by decide +kernel
theorem dX4_becomesOf_4 : decode cX4_becomesOf 4 = .ok (.iconst 4, 1) := by decide +kernel
theorem dX4_becomesOf_5 : decode cX4_becomesOf 5 = .ok (.iload_n 1, 1) := by decide +kernel
theorem dX4_becomesOf_6 : decode cX4_becomesOf 6 = .ok (.imul, 1) := by decide +kernel
theorem dX4_becomesOf_7 : decode cX4_becomesOf 7 = .ok (.iload_n 2, 1) := by decide +kernel
theorem dX4_becomesOf_8 : decode cX4_becomesOf 8 = .ok (.iadd, 1) := by decide +kernel
theorem dX4_becomesOf_9 : decode cX4_becomesOf 9 = .ok (.iload_n 3, 1) := by decide +kernel
theorem dX4_becomesOf_10 : decode cX4_becomesOf 10 = .ok (.iastore, 1) := by decide +kernel
theorem dX4_becomesOf_11 : decode cX4_becomesOf 11 = .ok (.return_, 1) := by decide +kernel
set_option maxRecDepth 20000 in
theorem ggX4_tradeBrings_X4_of : GoodIn wsX4_tradeBrings wsX4_of := goodIn_r _ [6, 1, 7, 8, 9, 10, 11, 12, 13, 14, 15, 16, 17, 18, 19, 20, 21, 22, 23, 24, 25, 26, 27, 28, 29, 30, 31, 32, 33, 34, 35] (by decide +kernel) (by decide +kernel)
set_option maxRecDepth 20000 in
theorem gX4_tradeBrings_X4_of : GoodIn wsX4_tradeBrings (wsV RX4 151 RX4 yX4_of wsX4_of) := goodIn_app (goodIn_of _ (by decide +kernel)) ggX4_tradeBrings_X4_of
theorem dX4_tradeBrings_0 : decode cX4_tradeBrings 0 = .ok (.aload_n 0, 1) := by decide +kernel
theorem dX4_tradeBrings_1 : decode cX4_tradeBrings 1 = .ok (.iload_n 1, 1) := by decide +kernel
theorem dX4_tradeBrings_2 : decode cX4_tradeBrings 2 = .ok (.iconst 2, 1) := by decide +kernel
theorem dX4_tradeBrings_3 : decode cX4_tradeBrings 3 = .ok (.invokevirtual 151, 3) := by decide +kernel
theorem dX4_tradeBrings_6 : decode cX4_tradeBrings 6 = .ok (.bipush 10, 2) := by decide +kernel
theorem dX4_tradeBrings_8 : decode cX4_tradeBrings 8 = .ok (.isub, 1) := by decide +kernel
theorem dX4_tradeBrings_9 : decode cX4_tradeBrings 9 = .ok (.aload_n 0, 1) := by decide +kernel
theorem dX4_tradeBrings_10 : decode cX4_tradeBrings 10 = .ok (.getfield 13, 3) := by decide +kernel
theorem dX4_tradeBrings_13 : decode cX4_tradeBrings 13 = .ok (.bipush 21, 2) := by decide +kernel
theorem dX4_tradeBrings_15 : decode cX4_tradeBrings 15 = .ok (.iaload, 1) := by decide +kernel
theorem dX4_tradeBrings_16 : decode cX4_tradeBrings 16 = .ok (.isub, 1) := by decide +kernel
theorem dX4_tradeBrings_17 : decode cX4_tradeBrings 17 = .ok (.istore_n 2, 1) := by decide +kernel
theorem dX4_tradeBrings_18 : decode cX4_tradeBrings 18 = .ok (.aload_n 0, 1) := by decide +kernel
theorem dX4_tradeBrings_19 : decode cX4_tradeBrings 19 = .ok (.iload_n 1, 1) := by decide +kernel
theorem dX4_tradeBrings_20 : decode cX4_tradeBrings 20 = .ok (.iconst 0, 1) := by decide +kernel
theorem dX4_tradeBrings_21 : decode cX4_tradeBrings 21 = .ok (.invokevirtual 151, 3) := by decide +kernel
theorem dX4_tradeBrings_24 : decode cX4_tradeBrings 24 = .ok (.iconst 1, 1) := by decide +kernel
theorem dX4_tradeBrings_25 : decode cX4_tradeBrings 25 = .ok (.if_icmp .ne 9, 3) := by decide +kernel
theorem dX4_tradeBrings_28 : decode cX4_tradeBrings 28 = .ok (.iload_n 2, 1) := by decide +kernel
theorem dX4_tradeBrings_29 : decode cX4_tradeBrings 29 = .ok (.iconst 1, 1) := by decide +kernel
theorem dX4_tradeBrings_30 : decode cX4_tradeBrings 30 = .ok (.iadd, 1) := by decide +kernel
theorem dX4_tradeBrings_31 : decode cX4_tradeBrings 31 = .ok (.goto 22, 3) := by decide +kernel
theorem dX4_tradeBrings_34 : decode cX4_tradeBrings 34 = .ok (.aload_n 0, 1) := by decide +kernel
theorem dX4_tradeBrings_35 : decode cX4_tradeBrings 35 = .ok (.iload_n 1, 1) := by decide +kernel
theorem dX4_tradeBrings_36 : decode cX4_tradeBrings 36 = .ok (.iconst 0, 1) := by decide +kernel
theorem dX4_tradeBrings_37 : decode cX4_tradeBrings 37 = .ok (.invokevirtual 151, 3) := by decide +kernel
theorem dX4_tradeBrings_40 : decode cX4_tradeBrings 40 = .ok (.iconst 2, 1) := by decide +kernel
theorem dX4_tradeBrings_41 : decode cX4_tradeBrings 41 = .ok (.if_icmp .ne 11, 3) := by decide +kernel
theorem dX4_tradeBrings_44 : decode cX4_tradeBrings 44 = .ok (.iload_n 2, 1) := by decide +kernel
theorem dX4_tradeBrings_45 : decode cX4_tradeBrings 45 = .ok (.iconst 1, 1) := by decide +kernel
theorem dX4_tradeBrings_46 : decode cX4_tradeBrings 46 = .ok (.iadd, 1) := by decide +kernel
theorem dX4_tradeBrings_47 : decode cX4_tradeBrings 47 = .ok (.iconst 2, 1) := by decide +kernel
theorem dX4_tradeBrings_48 : decode cX4_tradeBrings 48 = .ok (.idiv, 1) := by decide +kernel
theorem dX4_tradeBrings_49 : decode cX4_tradeBrings 49 = .ok (.goto 4, 3) := by decide +kernel
theorem dX4_tradeBrings_52 : decode cX4_tradeBrings 52 = .ok (.iload_n 2, 1) := by decide +kernel
theorem dX4_tradeBrings_53 : decode cX4_tradeBrings 53 = .ok (.ireturn, 1) := by decide +kernel
set_option maxRecDepth 20000 in
theorem ggX4_coinBrings_X4_of : GoodIn wsX4_coinBrings wsX4_of := goodIn_r _ [6, 7, 11, 12, 13, 14, 15, 16, 17, 18, 19, 20, 21, 22, 23, 24, 25, 26, 27, 28, 29, 30, 31, 32, 33, 34, 35, 36, 37, 38, 39] (by decide +kernel) (by decide +kernel)
set_option maxRecDepth 20000 in
theorem gX4_coinBrings_X4_of : GoodIn wsX4_coinBrings (wsV RX4 151 RX4 yX4_of wsX4_of) := goodIn_app (goodIn_of _ (by decide +kernel)) ggX4_coinBrings_X4_of
set_option maxRecDepth 20000 in
theorem ggX4_coinBrings_X4_flag : GoodIn wsX4_coinBrings wsX4_flag := goodIn_r _ [10] (by decide +kernel) (by decide +kernel)
set_option maxRecDepth 20000 in
theorem gX4_coinBrings_X4_flag : GoodIn wsX4_coinBrings (va_wsS RX4 154 yX4_flag wsX4_flag) := goodIn_app (goodIn_of _ (by decide +kernel)) ggX4_coinBrings_X4_flag
theorem dX4_coinBrings_0 : decode cX4_coinBrings 0 = .ok (.iconst 0, 1) := by decide +kernel
theorem dX4_coinBrings_1 : decode cX4_coinBrings 1 = .ok (.istore_n 2, 1) := by decide +kernel
theorem dX4_coinBrings_2 : decode cX4_coinBrings 2 = .ok (.iconst 0, 1) := by decide +kernel
theorem dX4_coinBrings_3 : decode cX4_coinBrings 3 = .ok (.istore_n 3, 1) := by decide +kernel
theorem dX4_coinBrings_4 : decode cX4_coinBrings 4 = .ok (.iload_n 3, 1) := by decide +kernel
theorem dX4_coinBrings_5 : decode cX4_coinBrings 5 = .ok (.aload_n 0, 1) := by decide +kernel
theorem dX4_coinBrings_6 : decode cX4_coinBrings 6 = .ok (.getfield 67, 3) := by decide +kernel
theorem dX4_coinBrings_9 : decode cX4_coinBrings 9 = .ok (.if_icmp .ge 35, 3) := by decide +kernel
theorem dX4_coinBrings_12 : decode cX4_coinBrings 12 = .ok (.iload_n 2, 1) := by decide +kernel
theorem dX4_coinBrings_13 : decode cX4_coinBrings 13 = .ok (.aload_n 0, 1) := by decide +kernel
theorem dX4_coinBrings_14 : decode cX4_coinBrings 14 = .ok (.iload_n 3, 1) := by decide +kernel
theorem dX4_coinBrings_15 : decode cX4_coinBrings 15 = .ok (.iconst 1, 1) := by decide +kernel
theorem dX4_coinBrings_16 : decode cX4_coinBrings 16 = .ok (.invokevirtual 151, 3) := by decide +kernel
theorem dX4_coinBrings_19 : decode cX4_coinBrings 19 = .ok (.aload_n 0, 1) := by decide +kernel
theorem dX4_coinBrings_20 : decode cX4_coinBrings 20 = .ok (.iload_n 1, 1) := by decide +kernel
theorem dX4_coinBrings_21 : decode cX4_coinBrings 21 = .ok (.iconst 1, 1) := by decide +kernel
theorem dX4_coinBrings_22 : decode cX4_coinBrings 22 = .ok (.invokevirtual 151, 3) := by decide +kernel
theorem dX4_coinBrings_25 : decode cX4_coinBrings 25 = .ok (.if_icmp .ge 7, 3) := by decide +kernel
theorem dX4_coinBrings_28 : decode cX4_coinBrings 28 = .ok (.iconst 1, 1) := by decide +kernel
theorem dX4_coinBrings_29 : decode cX4_coinBrings 29 = .ok (.goto 4, 3) := by decide +kernel
theorem dX4_coinBrings_32 : decode cX4_coinBrings 32 = .ok (.iconst 0, 1) := by decide +kernel
theorem dX4_coinBrings_33 : decode cX4_coinBrings 33 = .ok (.invokestatic 154, 3) := by decide +kernel
theorem dX4_coinBrings_36 : decode cX4_coinBrings 36 = .ok (.iadd, 1) := by decide +kernel
theorem dX4_coinBrings_37 : decode cX4_coinBrings 37 = .ok (.istore_n 2, 1) := by decide +kernel
theorem dX4_coinBrings_38 : decode cX4_coinBrings 38 = .ok (.iinc 3 1, 3) := by decide +kernel
theorem dX4_coinBrings_41 : decode cX4_coinBrings 41 = .ok (.goto (-37), 3) := by decide +kernel
theorem dX4_coinBrings_44 : decode cX4_coinBrings 44 = .ok (.aload_n 0, 1) := by decide +kernel
theorem dX4_coinBrings_45 : decode cX4_coinBrings 45 = .ok (.iload_n 1, 1) := by decide +kernel
theorem dX4_coinBrings_46 : decode cX4_coinBrings 46 = .ok (.iconst 0, 1) := by decide +kernel
theorem dX4_coinBrings_47 : decode cX4_coinBrings 47 = .ok (.invokevirtual 151, 3) := by decide +kernel
theorem dX4_coinBrings_50 : decode cX4_coinBrings 50 = .ok (.istore_n 3, 1) := by decide +kernel
theorem dX4_coinBrings_51 : decode cX4_coinBrings 51 = .ok (.iload_n 3, 1) := by decide +kernel
theorem dX4_coinBrings_52 : decode cX4_coinBrings 52 = .ok (.iconst 1, 1) := by decide +kernel
theorem dX4_coinBrings_53 : decode cX4_coinBrings 53 = .ok (.if_icmp .ne 7, 3) := by decide +kernel
theorem dX4_coinBrings_56 : decode cX4_coinBrings 56 = .ok (.iconst 0, 1) := by decide +kernel
theorem dX4_coinBrings_57 : decode cX4_coinBrings 57 = .ok (.goto 27, 3) := by decide +kernel
theorem dX4_coinBrings_60 : decode cX4_coinBrings 60 = .ok (.iload_n 3, 1) := by decide +kernel
theorem dX4_coinBrings_61 : decode cX4_coinBrings 61 = .ok (.iconst 2, 1) := by decide +kernel
theorem dX4_coinBrings_62 : decode cX4_coinBrings 62 = .ok (.if_icmp .ne 8, 3) := by decide +kernel
theorem dX4_coinBrings_65 : decode cX4_coinBrings 65 = .ok (.bipush 15, 2) := by decide +kernel
theorem dX4_coinBrings_67 : decode cX4_coinBrings 67 = .ok (.goto 17, 3) := by decide +kernel
theorem dX4_coinBrings_70 : decode cX4_coinBrings 70 = .ok (.iload_n 3, 1) := by decide +kernel
theorem dX4_coinBrings_71 : decode cX4_coinBrings 71 = .ok (.iconst 3, 1) := by decide +kernel
theorem dX4_coinBrings_72 : decode cX4_coinBrings 72 = .ok (.if_icmp .ne 11, 3) := by decide +kernel
theorem dX4_coinBrings_75 : decode cX4_coinBrings 75 = .ok (.iconst 5, 1) := by decide +kernel
theorem dX4_coinBrings_76 : decode cX4_coinBrings 76 = .ok (.iconst 2, 1) := by decide +kernel
theorem dX4_coinBrings_77 : decode cX4_coinBrings 77 = .ok (.iload_n 2, 1) := by decide +kernel
theorem dX4_coinBrings_78 : decode cX4_coinBrings 78 = .ok (.imul, 1) := by decide +kernel
theorem dX4_coinBrings_79 : decode cX4_coinBrings 79 = .ok (.iadd, 1) := by decide +kernel
theorem dX4_coinBrings_80 : decode cX4_coinBrings 80 = .ok (.goto 4, 3) := by decide +kernel
theorem dX4_coinBrings_83 : decode cX4_coinBrings 83 = .ok (.iconst 5, 1) := by decide +kernel
theorem dX4_coinBrings_84 : decode cX4_coinBrings 84 = .ok (.ireturn, 1) := by decide +kernel
set_option maxRecDepth 20000 in
theorem ggX4_brings_X4_tradeBrings : GoodIn wsX4_brings wsX4_tradeBrings := goodIn_r _ [6, 1, 7, 8, 9, 5, 10, 19, 20, 21, 22, 23, 24, 25, 26, 27, 28, 29, 30, 31, 32, 33, 34, 35, 36, 37, 38, 39, 40, 41, 42, 43, 44, 45, 46, 47] (by decide +kernel) (by decide +kernel)
set_option maxRecDepth 20000 in
theorem gX4_brings_X4_tradeBrings : GoodIn wsX4_brings (wsV RX4 158 RX4 yX4_tradeBrings wsX4_tradeBrings) := goodIn_app (goodIn_of _ (by decide +kernel)) ggX4_brings_X4_tradeBrings
set_option maxRecDepth 20000 in
theorem ggX4_brings_X4_coinBrings : GoodIn wsX4_brings wsX4_coinBrings := goodIn_r _ [14, 15, 7, 8, 9, 5, 10, 1, 16, 17, 18, 19, 20, 21, 22, 23, 24, 25, 26, 27, 28, 29, 30, 31, 32, 33, 34, 35, 36, 37, 38, 39, 40, 41, 42, 43, 44, 45, 46, 47] (by decide +kernel) (by decide +kernel)
set_option maxRecDepth 20000 in
theorem gX4_brings_X4_coinBrings : GoodIn wsX4_brings (wsV RX4 161 RX4 yX4_coinBrings wsX4_coinBrings) := goodIn_app (goodIn_of _ (by decide +kernel)) ggX4_brings_X4_coinBrings
theorem dX4_brings_0 : decode cX4_brings 0 = .ok (.aload_n 0, 1) := by decide +kernel
theorem dX4_brings_1 : decode cX4_brings 1 = .ok (.iload_n 1, 1) := by decide +kernel
theorem dX4_brings_2 : decode cX4_brings 2 = .ok (.invokevirtual 158, 3) := by decide +kernel
theorem dX4_brings_5 : decode cX4_brings 5 = .ok (.aload_n 0, 1) := by decide +kernel
theorem dX4_brings_6 : decode cX4_brings 6 = .ok (.getfield 13, 3) := by decide +kernel
theorem dX4_brings_9 : decode cX4_brings 9 = .ok (.bipush 22, 2) := by decide +kernel
theorem dX4_brings_11 : decode cX4_brings 11 = .ok (.iaload, 1) := by decide +kernel
theorem dX4_brings_12 : decode cX4_brings 12 = .ok (.iload_n 1, 1) := by decide +kernel
theorem dX4_brings_13 : decode cX4_brings 13 = .ok (.if_icmp .ne 11, 3) := by decide +kernel
theorem dX4_brings_16 : decode cX4_brings 16 = .ok (.aload_n 0, 1) := by decide +kernel
theorem dX4_brings_17 : decode cX4_brings 17 = .ok (.iload_n 1, 1) := by decide +kernel
theorem dX4_brings_18 : decode cX4_brings 18 = .ok (.invokevirtual 161, 3) := by decide +kernel
theorem dX4_brings_21 : decode cX4_brings 21 = .ok (.goto 4, 3) := by decide +kernel
theorem dX4_brings_24 : decode cX4_brings 24 = .ok (.iconst 0, 1) := by decide +kernel
theorem dX4_brings_25 : decode cX4_brings 25 = .ok (.iadd, 1) := by decide +kernel
theorem dX4_brings_26 : decode cX4_brings 26 = .ok (.ireturn, 1) := by decide +kernel
set_option maxRecDepth 20000 in
theorem ggX4_giftsGo_X4_of : GoodIn wsX4_giftsGo wsX4_of := goodIn_r _ [6, 1, 14, 15, 16, 17, 18, 19, 20, 21, 22, 23, 24, 25, 26, 27, 28, 29, 30, 31, 32, 33, 34, 35, 36, 37, 38, 39, 40, 41, 42] (by decide +kernel) (by decide +kernel)
set_option maxRecDepth 20000 in
theorem gX4_giftsGo_X4_of : GoodIn wsX4_giftsGo (wsV RX4 151 RX4 yX4_of wsX4_of) := goodIn_app (goodIn_of _ (by decide +kernel)) ggX4_giftsGo_X4_of
set_option maxRecDepth 20000 in
theorem ggX4_giftsGo_X4_becomesOf : GoodIn wsX4_giftsGo wsX4_becomesOf := goodIn_r _ [10, 1, 14, 15, 16, 17, 18, 19, 20, 21, 22, 23, 24, 25, 26, 27, 28, 29, 30, 31, 32, 33, 34, 35, 36, 37, 38, 39, 40, 41, 42] (by decide +kernel) (by decide +kernel)
set_option maxRecDepth 20000 in
theorem gX4_giftsGo_X4_becomesOf : GoodIn wsX4_giftsGo (wsV RX4 164 RX4 yX4_becomesOf wsX4_becomesOf) := goodIn_app (goodIn_of _ (by decide +kernel)) ggX4_giftsGo_X4_becomesOf
set_option maxRecDepth 20000 in
theorem ggX4_giftsGo_X4_within : GoodIn wsX4_giftsGo wsX4_within := goodIn_r _ [13] (by decide +kernel) (by decide +kernel)
set_option maxRecDepth 20000 in
theorem gX4_giftsGo_X4_within : GoodIn wsX4_giftsGo (va_wsS RX4 168 yX4_within wsX4_within) := goodIn_app (goodIn_of _ (by decide +kernel)) ggX4_giftsGo_X4_within
theorem dX4_giftsGo_0 : decode cX4_giftsGo 0 = .ok (.iconst 0, 1) := by decide +kernel
theorem dX4_giftsGo_1 : decode cX4_giftsGo 1 = .ok (.istore_n 1, 1) := by decide +kernel
theorem dX4_giftsGo_2 : decode cX4_giftsGo 2 = .ok (.iload_n 1, 1) := by decide +kernel
theorem dX4_giftsGo_3 : decode cX4_giftsGo 3 = .ok (.aload_n 0, 1) := by decide +kernel
theorem dX4_giftsGo_4 : decode cX4_giftsGo 4 = .ok (.getfield 13, 3) := by decide +kernel
theorem dX4_giftsGo_7 : decode cX4_giftsGo 7 = .ok (.bipush 23, 2) := by decide +kernel
theorem dX4_giftsGo_9 : decode cX4_giftsGo 9 = .ok (.iaload, 1) := by decide +kernel
theorem dX4_giftsGo_10 : decode cX4_giftsGo 10 = .ok (.if_icmp .ge 121, 3) := by decide +kernel
theorem dX4_giftsGo_13 : decode cX4_giftsGo 13 = .ok (.bipush 24, 2) := by decide +kernel
theorem dX4_giftsGo_15 : decode cX4_giftsGo 15 = .ok (.iconst 4, 1) := by decide +kernel
theorem dX4_giftsGo_16 : decode cX4_giftsGo 16 = .ok (.iload_n 1, 1) := by decide +kernel
theorem dX4_giftsGo_17 : decode cX4_giftsGo 17 = .ok (.imul, 1) := by decide +kernel
theorem dX4_giftsGo_18 : decode cX4_giftsGo 18 = .ok (.iadd, 1) := by decide +kernel
theorem dX4_giftsGo_19 : decode cX4_giftsGo 19 = .ok (.istore_n 2, 1) := by decide +kernel
theorem dX4_giftsGo_20 : decode cX4_giftsGo 20 = .ok (.aload_n 0, 1) := by decide +kernel
theorem dX4_giftsGo_21 : decode cX4_giftsGo 21 = .ok (.getfield 13, 3) := by decide +kernel
theorem dX4_giftsGo_24 : decode cX4_giftsGo 24 = .ok (.iload_n 2, 1) := by decide +kernel
theorem dX4_giftsGo_25 : decode cX4_giftsGo 25 = .ok (.iaload, 1) := by decide +kernel
theorem dX4_giftsGo_26 : decode cX4_giftsGo 26 = .ok (.aload_n 0, 1) := by decide +kernel
theorem dX4_giftsGo_27 : decode cX4_giftsGo 27 = .ok (.getfield 13, 3) := by decide +kernel
theorem dX4_giftsGo_30 : decode cX4_giftsGo 30 = .ok (.bipush 20, 2) := by decide +kernel
theorem dX4_giftsGo_32 : decode cX4_giftsGo 32 = .ok (.iaload, 1) := by decide +kernel
theorem dX4_giftsGo_33 : decode cX4_giftsGo 33 = .ok (.if_icmp .ne 92, 3) := by decide +kernel
theorem dX4_giftsGo_36 : decode cX4_giftsGo 36 = .ok (.aload_n 0, 1) := by decide +kernel
theorem dX4_giftsGo_37 : decode cX4_giftsGo 37 = .ok (.aload_n 0, 1) := by decide +kernel
theorem dX4_giftsGo_38 : decode cX4_giftsGo 38 = .ok (.getfield 13, 3) := by decide +kernel
theorem dX4_giftsGo_41 : decode cX4_giftsGo 41 = .ok (.iload_n 2, 1) := by decide +kernel
theorem dX4_giftsGo_42 : decode cX4_giftsGo 42 = .ok (.iconst 1, 1) := by decide +kernel
theorem dX4_giftsGo_43 : decode cX4_giftsGo 43 = .ok (.iadd, 1) := by decide +kernel
theorem dX4_giftsGo_44 : decode cX4_giftsGo 44 = .ok (.iaload, 1) := by decide +kernel
theorem dX4_giftsGo_45 : decode cX4_giftsGo 45 = .ok (.iconst 1, 1) := by decide +kernel
theorem dX4_giftsGo_46 : decode cX4_giftsGo 46 = .ok (.invokevirtual 151, 3) := by decide +kernel
theorem dX4_giftsGo_49 : decode cX4_giftsGo 49 = .ok (.istore_n 3, 1) := by decide +kernel
theorem dX4_giftsGo_50 : decode cX4_giftsGo 50 = .ok (.aload_n 0, 1) := by decide +kernel
theorem dX4_giftsGo_51 : decode cX4_giftsGo 51 = .ok (.getfield 13, 3) := by decide +kernel
theorem dX4_giftsGo_54 : decode cX4_giftsGo 54 = .ok (.iload_n 2, 1) := by decide +kernel
theorem dX4_giftsGo_55 : decode cX4_giftsGo 55 = .ok (.iconst 3, 1) := by decide +kernel
theorem dX4_giftsGo_56 : decode cX4_giftsGo 56 = .ok (.iadd, 1) := by decide +kernel
theorem dX4_giftsGo_57 : decode cX4_giftsGo 57 = .ok (.iaload, 1) := by decide +kernel
theorem dX4_giftsGo_58 : decode cX4_giftsGo 58 = .ok (.iload_n 3, 1) := by decide +kernel
theorem dX4_giftsGo_59 : decode cX4_giftsGo 59 = .ok (.if_icmp .ge 14, 3) := by decide +kernel
theorem dX4_giftsGo_62 : decode cX4_giftsGo 62 = .ok (.aload_n 0, 1) := by decide +kernel
theorem dX4_giftsGo_63 : decode cX4_giftsGo 63 = .ok (.getfield 13, 3) := by decide +kernel
theorem dX4_giftsGo_66 : decode cX4_giftsGo 66 = .ok (.iload_n 2, 1) := by decide +kernel
theorem dX4_giftsGo_67 : decode cX4_giftsGo 67 = .ok (.iconst 3, 1) := by decide +kernel
theorem dX4_giftsGo_68 : decode cX4_giftsGo 68 = .ok (.iadd, 1) := by decide +kernel
theorem dX4_giftsGo_69 : decode cX4_giftsGo 69 = .ok (.iaload, 1) := by decide +kernel
theorem dX4_giftsGo_70 : decode cX4_giftsGo 70 = .ok (.goto 4, 3) := by decide +kernel
theorem dX4_giftsGo_73 : decode cX4_giftsGo 73 = .ok (.iload_n 3, 1) := by decide +kernel
theorem dX4_giftsGo_74 : decode cX4_giftsGo 74 = .ok (.istore 4, 2) := by decide +kernel
theorem dX4_giftsGo_76 : decode cX4_giftsGo 76 = .ok (.aload_n 0, 1) := by decide +kernel
theorem dX4_giftsGo_77 : decode cX4_giftsGo 77 = .ok (.aload_n 0, 1) := by decide +kernel
theorem dX4_giftsGo_78 : decode cX4_giftsGo 78 = .ok (.getfield 13, 3) := by decide +kernel
theorem dX4_giftsGo_81 : decode cX4_giftsGo 81 = .ok (.iload_n 2, 1) := by decide +kernel
theorem dX4_giftsGo_82 : decode cX4_giftsGo 82 = .ok (.iconst 1, 1) := by decide +kernel
theorem dX4_giftsGo_83 : decode cX4_giftsGo 83 = .ok (.iadd, 1) := by decide +kernel
theorem dX4_giftsGo_84 : decode cX4_giftsGo 84 = .ok (.iaload, 1) := by decide +kernel
theorem dX4_giftsGo_85 : decode cX4_giftsGo 85 = .ok (.iconst 1, 1) := by decide +kernel
theorem dX4_giftsGo_86 : decode cX4_giftsGo 86 = .ok (.iload_n 3, 1) := by decide +kernel
theorem dX4_giftsGo_87 : decode cX4_giftsGo 87 = .ok (.iload 4, 2) := by decide +kernel
theorem dX4_giftsGo_89 : decode cX4_giftsGo 89 = .ok (.isub, 1) := by decide +kernel
theorem dX4_giftsGo_90 : decode cX4_giftsGo 90 = .ok (.invokevirtual 164, 3) := by decide +kernel
theorem dX4_giftsGo_93 : decode cX4_giftsGo 93 = .ok (.aload_n 0, 1) := by decide +kernel
theorem dX4_giftsGo_94 : decode cX4_giftsGo 94 = .ok (.aload_n 0, 1) := by decide +kernel
theorem dX4_giftsGo_95 : decode cX4_giftsGo 95 = .ok (.getfield 13, 3) := by decide +kernel
theorem dX4_giftsGo_98 : decode cX4_giftsGo 98 = .ok (.iload_n 2, 1) := by decide +kernel
theorem dX4_giftsGo_99 : decode cX4_giftsGo 99 = .ok (.iconst 2, 1) := by decide +kernel
theorem dX4_giftsGo_100 : decode cX4_giftsGo 100 = .ok (.iadd, 1) := by decide +kernel
theorem dX4_giftsGo_101 : decode cX4_giftsGo 101 = .ok (.iaload, 1) := by decide +kernel
theorem dX4_giftsGo_102 : decode cX4_giftsGo 102 = .ok (.iconst 1, 1) := by decide +kernel
theorem dX4_giftsGo_103 : decode cX4_giftsGo 103 = .ok (.aload_n 0, 1) := by decide +kernel
theorem dX4_giftsGo_104 : decode cX4_giftsGo 104 = .ok (.aload_n 0, 1) := by decide +kernel
theorem dX4_giftsGo_105 : decode cX4_giftsGo 105 = .ok (.getfield 13, 3) := by decide +kernel
theorem dX4_giftsGo_108 : decode cX4_giftsGo 108 = .ok (.iload_n 2, 1) := by decide +kernel
theorem dX4_giftsGo_109 : decode cX4_giftsGo 109 = .ok (.iconst 2, 1) := by decide +kernel
theorem dX4_giftsGo_110 : decode cX4_giftsGo 110 = .ok (.iadd, 1) := by decide +kernel
theorem dX4_giftsGo_111 : decode cX4_giftsGo 111 = .ok (.iaload, 1) := by decide +kernel
theorem dX4_giftsGo_112 : decode cX4_giftsGo 112 = .ok (.iconst 1, 1) := by decide +kernel
theorem dX4_giftsGo_113 : decode cX4_giftsGo 113 = .ok (.invokevirtual 151, 3) := by decide +kernel
theorem dX4_giftsGo_116 : decode cX4_giftsGo 116 = .ok (.iload 4, 2) := by decide +kernel
theorem dX4_giftsGo_118 : decode cX4_giftsGo 118 = .ok (.iadd, 1) := by decide +kernel
theorem dX4_giftsGo_119 : decode cX4_giftsGo 119 = .ok (.invokestatic 168, 3) := by decide +kernel
theorem dX4_giftsGo_122 : decode cX4_giftsGo 122 = .ok (.invokevirtual 164, 3) := by decide +kernel
theorem dX4_giftsGo_125 : decode cX4_giftsGo 125 = .ok (.iinc 1 1, 3) := by decide +kernel
theorem dX4_giftsGo_128 : decode cX4_giftsGo 128 = .ok (.goto (-126), 3) := by decide +kernel
theorem dX4_giftsGo_131 : decode cX4_giftsGo 131 = .ok (.return_, 1) := by decide +kernel
set_option maxRecDepth 20000 in
theorem ggX4_poorest_X4_of : GoodIn wsX4_poorest wsX4_of := goodIn_r _ [6, 7, 8, 9, 10, 11, 12, 13, 14, 15, 16, 17, 18, 19, 20, 21, 22, 23, 24, 25, 26, 27, 28, 29, 30, 31, 32, 33, 34, 35, 36] (by decide +kernel) (by decide +kernel)
set_option maxRecDepth 20000 in
theorem gX4_poorest_X4_of : GoodIn wsX4_poorest (wsV RX4 151 RX4 yX4_of wsX4_of) := goodIn_app (goodIn_of _ (by decide +kernel)) ggX4_poorest_X4_of
theorem dX4_poorest_0 : decode cX4_poorest 0 = .ok (.bipush (-4), 2) := by decide +kernel
theorem dX4_poorest_2 : decode cX4_poorest 2 = .ok (.istore_n 2, 1) := by decide +kernel
theorem dX4_poorest_3 : decode cX4_poorest 3 = .ok (.iconst 1, 1) := by decide +kernel
theorem dX4_poorest_4 : decode cX4_poorest 4 = .ok (.istore_n 3, 1) := by decide +kernel
theorem dX4_poorest_5 : decode cX4_poorest 5 = .ok (.iload_n 3, 1) := by decide +kernel
theorem dX4_poorest_6 : decode cX4_poorest 6 = .ok (.aload_n 0, 1) := by decide +kernel
theorem dX4_poorest_7 : decode cX4_poorest 7 = .ok (.getfield 67, 3) := by decide +kernel
theorem dX4_poorest_10 : decode cX4_poorest 10 = .ok (.if_icmp .ge 48, 3) := by decide +kernel
theorem dX4_poorest_13 : decode cX4_poorest 13 = .ok (.iload_n 1, 1) := by decide +kernel
theorem dX4_poorest_14 : decode cX4_poorest 14 = .ok (.iload_n 3, 1) := by decide +kernel
theorem dX4_poorest_15 : decode cX4_poorest 15 = .ok (.iadd, 1) := by decide +kernel
theorem dX4_poorest_16 : decode cX4_poorest 16 = .ok (.aload_n 0, 1) := by decide +kernel
theorem dX4_poorest_17 : decode cX4_poorest 17 = .ok (.getfield 67, 3) := by decide +kernel
theorem dX4_poorest_20 : decode cX4_poorest 20 = .ok (.irem, 1) := by decide +kernel
theorem dX4_poorest_21 : decode cX4_poorest 21 = .ok (.istore 4, 2) := by decide +kernel
theorem dX4_poorest_23 : decode cX4_poorest 23 = .ok (.iload_n 2, 1) := by decide +kernel
theorem dX4_poorest_24 : decode cX4_poorest 24 = .ok (.bipush (-4), 2) := by decide +kernel
theorem dX4_poorest_26 : decode cX4_poorest 26 = .ok (.if_icmp .eq 19, 3) := by decide +kernel
theorem dX4_poorest_29 : decode cX4_poorest 29 = .ok (.aload_n 0, 1) := by decide +kernel
theorem dX4_poorest_30 : decode cX4_poorest 30 = .ok (.iload 4, 2) := by decide +kernel
theorem dX4_poorest_32 : decode cX4_poorest 32 = .ok (.iconst 1, 1) := by decide +kernel
theorem dX4_poorest_33 : decode cX4_poorest 33 = .ok (.invokevirtual 151, 3) := by decide +kernel
theorem dX4_poorest_36 : decode cX4_poorest 36 = .ok (.aload_n 0, 1) := by decide +kernel
theorem dX4_poorest_37 : decode cX4_poorest 37 = .ok (.iload_n 2, 1) := by decide +kernel
theorem dX4_poorest_38 : decode cX4_poorest 38 = .ok (.iconst 1, 1) := by decide +kernel
theorem dX4_poorest_39 : decode cX4_poorest 39 = .ok (.invokevirtual 151, 3) := by decide +kernel
theorem dX4_poorest_42 : decode cX4_poorest 42 = .ok (.if_icmp .ge 8, 3) := by decide +kernel
theorem dX4_poorest_45 : decode cX4_poorest 45 = .ok (.iload 4, 2) := by decide +kernel
theorem dX4_poorest_47 : decode cX4_poorest 47 = .ok (.goto 4, 3) := by decide +kernel
theorem dX4_poorest_50 : decode cX4_poorest 50 = .ok (.iload_n 2, 1) := by decide +kernel
theorem dX4_poorest_51 : decode cX4_poorest 51 = .ok (.istore_n 2, 1) := by decide +kernel
theorem dX4_poorest_52 : decode cX4_poorest 52 = .ok (.iinc 3 1, 3) := by decide +kernel
theorem dX4_poorest_55 : decode cX4_poorest 55 = .ok (.goto (-50), 3) := by decide +kernel
theorem dX4_poorest_58 : decode cX4_poorest 58 = .ok (.iload_n 2, 1) := by decide +kernel
theorem dX4_poorest_59 : decode cX4_poorest 59 = .ok (.ireturn, 1) := by decide +kernel
set_option maxRecDepth 20000 in
theorem ggX4_quarterGoes_X4_giftsGo : GoodIn wsX4_quarterGoes wsX4_giftsGo := goodIn_r _ [9, 3, 10, 11, 12, 8, 13, 14, 15, 16, 17, 18, 19, 20, 40, 41, 42, 43, 44, 45, 46, 47, 48, 49, 50, 51, 52, 53, 54, 55, 56, 57, 58, 59, 60, 61, 62, 63, 64, 65, 66, 67, 68] (by decide +kernel) (by decide +kernel)
set_option maxRecDepth 20000 in
theorem gX4_quarterGoes_X4_giftsGo : GoodIn wsX4_quarterGoes (wsV RX4 171 RX4 yX4_giftsGo wsX4_giftsGo) := goodIn_app (goodIn_of _ (by decide +kernel)) ggX4_quarterGoes_X4_giftsGo
set_option maxRecDepth 20000 in
theorem ggX4_quarterGoes_X4_brings : GoodIn wsX4_quarterGoes wsX4_brings := goodIn_r _ [24, 3, 25, 26, 27, 8, 28, 10, 11, 12, 13, 29, 30, 31, 32, 1, 33, 34, 35, 40, 41, 42, 43, 44, 45, 46, 47, 48, 49, 50, 51, 52, 53, 54, 55, 56, 57, 58, 59, 60, 61, 62, 63, 64, 65, 66, 67, 68] (by decide +kernel) (by decide +kernel)
set_option maxRecDepth 20000 in
theorem gX4_quarterGoes_X4_brings : GoodIn wsX4_quarterGoes (wsV RX4 174 RX4 yX4_brings wsX4_brings) := goodIn_app (goodIn_of _ (by decide +kernel)) ggX4_quarterGoes_X4_brings
set_option maxRecDepth 20000 in
theorem ggX4_quarterGoes_X4_of : GoodIn wsX4_quarterGoes wsX4_of := goodIn_r _ [13, 3, 40, 41, 42, 43, 44, 45, 46, 47, 48, 49, 50, 51, 52, 53, 54, 55, 56, 57, 58, 59, 60, 61, 62, 63, 64, 65, 66, 67, 68] (by decide +kernel) (by decide +kernel)
set_option maxRecDepth 20000 in
theorem gX4_quarterGoes_X4_of : GoodIn wsX4_quarterGoes (wsV RX4 151 RX4 yX4_of wsX4_of) := goodIn_app (goodIn_of _ (by decide +kernel)) ggX4_quarterGoes_X4_of
set_option maxRecDepth 20000 in
theorem ggX4_quarterGoes_X4_within : GoodIn wsX4_quarterGoes wsX4_within := goodIn_r _ [20] (by decide +kernel) (by decide +kernel)
set_option maxRecDepth 20000 in
theorem gX4_quarterGoes_X4_within : GoodIn wsX4_quarterGoes (va_wsS RX4 168 yX4_within wsX4_within) := goodIn_app (goodIn_of _ (by decide +kernel)) ggX4_quarterGoes_X4_within
set_option maxRecDepth 20000 in
theorem ggX4_quarterGoes_X4_becomesOf : GoodIn wsX4_quarterGoes wsX4_becomesOf := goodIn_r _ [17, 3, 40, 41, 42, 43, 44, 45, 46, 47, 48, 49, 50, 51, 52, 53, 54, 55, 56, 57, 58, 59, 60, 61, 62, 63, 64, 65, 66, 67, 68] (by decide +kernel) (by decide +kernel)
set_option maxRecDepth 20000 in
theorem gX4_quarterGoes_X4_becomesOf : GoodIn wsX4_quarterGoes (wsV RX4 164 RX4 yX4_becomesOf wsX4_becomesOf) := goodIn_app (goodIn_of _ (by decide +kernel)) ggX4_quarterGoes_X4_becomesOf
set_option maxRecDepth 20000 in
theorem ggX4_quarterGoes_X4_poorest : GoodIn wsX4_quarterGoes wsX4_poorest := goodIn_r _ [39, 1, 10, 11, 12, 8, 13, 3, 40, 41, 42, 43, 44, 45, 46, 47, 48, 49, 50, 51, 52, 53, 54, 55, 56, 57, 58, 59, 60, 61, 62, 63, 64, 65, 66, 67, 68] (by decide +kernel) (by decide +kernel)
set_option maxRecDepth 20000 in
theorem gX4_quarterGoes_X4_poorest : GoodIn wsX4_quarterGoes (wsV RX4 177 RX4 yX4_poorest wsX4_poorest) := goodIn_app (goodIn_of _ (by decide +kernel)) ggX4_quarterGoes_X4_poorest
theorem dX4_quarterGoes_0 : decode cX4_quarterGoes 0 = .ok (.aload_n 0, 1) := by decide +kernel
theorem dX4_quarterGoes_1 : decode cX4_quarterGoes 1 = .ok (.invokevirtual 171, 3) := by decide +kernel
theorem dX4_quarterGoes_4 : decode cX4_quarterGoes 4 = .ok (.iconst 0, 1) := by decide +kernel
theorem dX4_quarterGoes_5 : decode cX4_quarterGoes 5 = .ok (.istore_n 1, 1) := by decide +kernel
theorem dX4_quarterGoes_6 : decode cX4_quarterGoes 6 = .ok (.iload_n 1, 1) := by decide +kernel
theorem dX4_quarterGoes_7 : decode cX4_quarterGoes 7 = .ok (.aload_n 0, 1) := by decide +kernel
theorem dX4_quarterGoes_8 : decode cX4_quarterGoes 8 = .ok (.getfield 67, 3) := by decide +kernel
theorem dX4_quarterGoes_11 : decode cX4_quarterGoes 11 = .ok (.if_icmp .ge 20, 3) := by decide +kernel
theorem dX4_quarterGoes_14 : decode cX4_quarterGoes 14 = .ok (.aload_n 0, 1) := by decide +kernel
theorem dX4_quarterGoes_15 : decode cX4_quarterGoes 15 = .ok (.getfield 26, 3) := by decide +kernel
theorem dX4_quarterGoes_18 : decode cX4_quarterGoes 18 = .ok (.iload_n 1, 1) := by decide +kernel
theorem dX4_quarterGoes_19 : decode cX4_quarterGoes 19 = .ok (.aload_n 0, 1) := by decide +kernel
theorem dX4_quarterGoes_20 : decode cX4_quarterGoes 20 = .ok (.iload_n 1, 1) := by decide +kernel
theorem dX4_quarterGoes_21 : decode cX4_quarterGoes 21 = .ok (.invokevirtual 174, 3) := by decide +kernel
theorem dX4_quarterGoes_24 : decode cX4_quarterGoes 24 = .ok (.iastore, 1) := by decide +kernel
theorem dX4_quarterGoes_25 : decode cX4_quarterGoes 25 = .ok (.iinc 1 1, 3) := by decide +kernel
theorem dX4_quarterGoes_28 : decode cX4_quarterGoes 28 = .ok (.goto (-22), 3) := by decide +kernel
theorem dX4_quarterGoes_31 : decode cX4_quarterGoes 31 = .ok (.iconst 0, 1) := by decide +kernel
theorem dX4_quarterGoes_32 : decode cX4_quarterGoes 32 = .ok (.istore_n 1, 1) := by decide +kernel
theorem dX4_quarterGoes_33 : decode cX4_quarterGoes 33 = .ok (.iload_n 1, 1) := by decide +kernel
theorem dX4_quarterGoes_34 : decode cX4_quarterGoes 34 = .ok (.aload_n 0, 1) := by decide +kernel
theorem dX4_quarterGoes_35 : decode cX4_quarterGoes 35 = .ok (.getfield 67, 3) := by decide +kernel
theorem dX4_quarterGoes_38 : decode cX4_quarterGoes 38 = .ok (.if_icmp .ge 31, 3) := by decide +kernel
theorem dX4_quarterGoes_41 : decode cX4_quarterGoes 41 = .ok (.aload_n 0, 1) := by decide +kernel
theorem dX4_quarterGoes_42 : decode cX4_quarterGoes 42 = .ok (.iload_n 1, 1) := by decide +kernel
theorem dX4_quarterGoes_43 : decode cX4_quarterGoes 43 = .ok (.iconst 1, 1) := by decide +kernel
theorem dX4_quarterGoes_44 : decode cX4_quarterGoes 44 = .ok (.aload_n 0, 1) := by decide +kernel
theorem dX4_quarterGoes_45 : decode cX4_quarterGoes 45 = .ok (.iload_n 1, 1) := by decide +kernel
theorem dX4_quarterGoes_46 : decode cX4_quarterGoes 46 = .ok (.iconst 1, 1) := by decide +kernel
theorem dX4_quarterGoes_47 : decode cX4_quarterGoes 47 = .ok (.invokevirtual 151, 3) := by decide +kernel
theorem dX4_quarterGoes_50 : decode cX4_quarterGoes 50 = .ok (.aload_n 0, 1) := by decide +kernel
theorem dX4_quarterGoes_51 : decode cX4_quarterGoes 51 = .ok (.getfield 26, 3) := by decide +kernel
theorem dX4_quarterGoes_54 : decode cX4_quarterGoes 54 = .ok (.iload_n 1, 1) := by decide +kernel
theorem dX4_quarterGoes_55 : decode cX4_quarterGoes 55 = .ok (.iaload, 1) := by decide +kernel
theorem dX4_quarterGoes_56 : decode cX4_quarterGoes 56 = .ok (.iadd, 1) := by decide +kernel
theorem dX4_quarterGoes_57 : decode cX4_quarterGoes 57 = .ok (.invokestatic 168, 3) := by decide +kernel
theorem dX4_quarterGoes_60 : decode cX4_quarterGoes 60 = .ok (.invokevirtual 164, 3) := by decide +kernel
theorem dX4_quarterGoes_63 : decode cX4_quarterGoes 63 = .ok (.iinc 1 1, 3) := by decide +kernel
theorem dX4_quarterGoes_66 : decode cX4_quarterGoes 66 = .ok (.goto (-33), 3) := by decide +kernel
theorem dX4_quarterGoes_69 : decode cX4_quarterGoes 69 = .ok (.aload_n 0, 1) := by decide +kernel
theorem dX4_quarterGoes_70 : decode cX4_quarterGoes 70 = .ok (.getfield 13, 3) := by decide +kernel
theorem dX4_quarterGoes_73 : decode cX4_quarterGoes 73 = .ok (.bipush 22, 2) := by decide +kernel
theorem dX4_quarterGoes_75 : decode cX4_quarterGoes 75 = .ok (.iaload, 1) := by decide +kernel
theorem dX4_quarterGoes_76 : decode cX4_quarterGoes 76 = .ok (.istore_n 1, 1) := by decide +kernel
theorem dX4_quarterGoes_77 : decode cX4_quarterGoes 77 = .ok (.iload_n 1, 1) := by decide +kernel
theorem dX4_quarterGoes_78 : decode cX4_quarterGoes 78 = .ok (.bipush (-4), 2) := by decide +kernel
theorem dX4_quarterGoes_80 : decode cX4_quarterGoes 80 = .ok (.if_icmp .eq 93, 3) := by decide +kernel
theorem dX4_quarterGoes_83 : decode cX4_quarterGoes 83 = .ok (.aload_n 0, 1) := by decide +kernel
theorem dX4_quarterGoes_84 : decode cX4_quarterGoes 84 = .ok (.getfield 67, 3) := by decide +kernel
theorem dX4_quarterGoes_87 : decode cX4_quarterGoes 87 = .ok (.iconst 1, 1) := by decide +kernel
theorem dX4_quarterGoes_88 : decode cX4_quarterGoes 88 = .ok (.if_icmp .le 40, 3) := by decide +kernel
theorem dX4_quarterGoes_91 : decode cX4_quarterGoes 91 = .ok (.aload_n 0, 1) := by decide +kernel
theorem dX4_quarterGoes_92 : decode cX4_quarterGoes 92 = .ok (.iload_n 1, 1) := by decide +kernel
theorem dX4_quarterGoes_93 : decode cX4_quarterGoes 93 = .ok (.iconst 0, 1) := by decide +kernel
theorem dX4_quarterGoes_94 : decode cX4_quarterGoes 94 = .ok (.invokevirtual 151, 3) := by decide +kernel
theorem dX4_quarterGoes_97 : decode cX4_quarterGoes 97 = .ok (.iconst 1, 1) := by decide +kernel
theorem dX4_quarterGoes_98 : decode cX4_quarterGoes 98 = .ok (.if_icmp .ne 15, 3) := by decide +kernel
theorem dX4_quarterGoes_101 : decode cX4_quarterGoes 101 = .ok (.aload_n 0, 1) := by decide +kernel
theorem dX4_quarterGoes_102 : decode cX4_quarterGoes 102 = .ok (.iload_n 1, 1) := by decide +kernel
theorem dX4_quarterGoes_103 : decode cX4_quarterGoes 103 = .ok (.iconst 1, 1) := by decide +kernel
theorem dX4_quarterGoes_104 : decode cX4_quarterGoes 104 = .ok (.invokevirtual 151, 3) := by decide +kernel
theorem dX4_quarterGoes_107 : decode cX4_quarterGoes 107 = .ok (.ifCond .ne 21, 3) := by decide +kernel
theorem dX4_quarterGoes_110 : decode cX4_quarterGoes 110 = .ok (.goto 14, 3) := by decide +kernel
theorem dX4_quarterGoes_113 : decode cX4_quarterGoes 113 = .ok (.aload_n 0, 1) := by decide +kernel
theorem dX4_quarterGoes_114 : decode cX4_quarterGoes 114 = .ok (.iload_n 1, 1) := by decide +kernel
theorem dX4_quarterGoes_115 : decode cX4_quarterGoes 115 = .ok (.iconst 1, 1) := by decide +kernel
theorem dX4_quarterGoes_116 : decode cX4_quarterGoes 116 = .ok (.invokevirtual 151, 3) := by decide +kernel
theorem dX4_quarterGoes_119 : decode cX4_quarterGoes 119 = .ok (.bipush 10, 2) := by decide +kernel
theorem dX4_quarterGoes_121 : decode cX4_quarterGoes 121 = .ok (.if_icmp .lt 7, 3) := by decide +kernel
theorem dX4_quarterGoes_124 : decode cX4_quarterGoes 124 = .ok (.iconst 1, 1) := by decide +kernel
theorem dX4_quarterGoes_125 : decode cX4_quarterGoes 125 = .ok (.goto 4, 3) := by decide +kernel
theorem dX4_quarterGoes_128 : decode cX4_quarterGoes 128 = .ok (.iconst 0, 1) := by decide +kernel
theorem dX4_quarterGoes_129 : decode cX4_quarterGoes 129 = .ok (.istore_n 2, 1) := by decide +kernel
theorem dX4_quarterGoes_130 : decode cX4_quarterGoes 130 = .ok (.iload_n 2, 1) := by decide +kernel
theorem dX4_quarterGoes_131 : decode cX4_quarterGoes 131 = .ok (.ifCond .eq 28, 3) := by decide +kernel
theorem dX4_quarterGoes_134 : decode cX4_quarterGoes 134 = .ok (.aload_n 0, 1) := by decide +kernel
theorem dX4_quarterGoes_135 : decode cX4_quarterGoes 135 = .ok (.getfield 13, 3) := by decide +kernel
theorem dX4_quarterGoes_138 : decode cX4_quarterGoes 138 = .ok (.bipush 22, 2) := by decide +kernel
theorem dX4_quarterGoes_140 : decode cX4_quarterGoes 140 = .ok (.aload_n 0, 1) := by decide +kernel
theorem dX4_quarterGoes_141 : decode cX4_quarterGoes 141 = .ok (.iload_n 1, 1) := by decide +kernel
theorem dX4_quarterGoes_142 : decode cX4_quarterGoes 142 = .ok (.invokevirtual 177, 3) := by decide +kernel
theorem dX4_quarterGoes_145 : decode cX4_quarterGoes 145 = .ok (.iastore, 1) := by decide +kernel
theorem dX4_quarterGoes_146 : decode cX4_quarterGoes 146 = .ok (.aload_n 0, 1) := by decide +kernel
theorem dX4_quarterGoes_147 : decode cX4_quarterGoes 147 = .ok (.dup, 1) := by decide +kernel
theorem dX4_quarterGoes_148 : decode cX4_quarterGoes 148 = .ok (.getfield 180, 3) := by decide +kernel
theorem dX4_quarterGoes_151 : decode cX4_quarterGoes 151 = .ok (.iconst 1, 1) := by decide +kernel
theorem dX4_quarterGoes_152 : decode cX4_quarterGoes 152 = .ok (.iadd, 1) := by decide +kernel
theorem dX4_quarterGoes_153 : decode cX4_quarterGoes 153 = .ok (.putfield 180, 3) := by decide +kernel
theorem dX4_quarterGoes_156 : decode cX4_quarterGoes 156 = .ok (.goto 17, 3) := by decide +kernel
theorem dX4_quarterGoes_159 : decode cX4_quarterGoes 159 = .ok (.aload_n 0, 1) := by decide +kernel
theorem dX4_quarterGoes_160 : decode cX4_quarterGoes 160 = .ok (.iload_n 1, 1) := by decide +kernel
theorem dX4_quarterGoes_161 : decode cX4_quarterGoes 161 = .ok (.iconst 3, 1) := by decide +kernel
theorem dX4_quarterGoes_162 : decode cX4_quarterGoes 162 = .ok (.aload_n 0, 1) := by decide +kernel
theorem dX4_quarterGoes_163 : decode cX4_quarterGoes 163 = .ok (.iload_n 1, 1) := by decide +kernel
theorem dX4_quarterGoes_164 : decode cX4_quarterGoes 164 = .ok (.iconst 3, 1) := by decide +kernel
theorem dX4_quarterGoes_165 : decode cX4_quarterGoes 165 = .ok (.invokevirtual 151, 3) := by decide +kernel
theorem dX4_quarterGoes_168 : decode cX4_quarterGoes 168 = .ok (.iconst 1, 1) := by decide +kernel
theorem dX4_quarterGoes_169 : decode cX4_quarterGoes 169 = .ok (.iadd, 1) := by decide +kernel
theorem dX4_quarterGoes_170 : decode cX4_quarterGoes 170 = .ok (.invokevirtual 164, 3) := by decide +kernel
theorem dX4_quarterGoes_173 : decode cX4_quarterGoes 173 = .ok (.aload_n 0, 1) := by decide +kernel
theorem dX4_quarterGoes_174 : decode cX4_quarterGoes 174 = .ok (.getfield 13, 3) := by decide +kernel
theorem dX4_quarterGoes_177 : decode cX4_quarterGoes 177 = .ok (.bipush 20, 2) := by decide +kernel
theorem dX4_quarterGoes_179 : decode cX4_quarterGoes 179 = .ok (.dup2, 1) := by decide +kernel
theorem dX4_quarterGoes_180 : decode cX4_quarterGoes 180 = .ok (.iaload, 1) := by decide +kernel
theorem dX4_quarterGoes_181 : decode cX4_quarterGoes 181 = .ok (.iconst 1, 1) := by decide +kernel
theorem dX4_quarterGoes_182 : decode cX4_quarterGoes 182 = .ok (.iadd, 1) := by decide +kernel
theorem dX4_quarterGoes_183 : decode cX4_quarterGoes 183 = .ok (.iastore, 1) := by decide +kernel
theorem dX4_quarterGoes_184 : decode cX4_quarterGoes 184 = .ok (.return_, 1) := by decide +kernel
set_option maxRecDepth 20000 in
theorem ggX4_quartersGo_X4_quarterGoes : GoodIn wsX4_quartersGo wsX4_quarterGoes := goodIn_r _ [6, 7, 8, 9, 1, 10, 11, 12, 5, 13, 14, 15, 16, 17, 18, 19, 20, 21, 22, 23, 24, 25, 26, 27, 28, 29, 30, 31, 32, 33, 34, 35, 36, 37, 38, 39, 40, 41, 42, 43, 44, 45, 46, 47, 48, 49, 50, 51, 52, 53, 54, 55, 56, 57, 58, 59, 60, 61, 62, 63, 64, 65, 66, 67, 68, 69, 70, 71, 72] (by decide +kernel) (by decide +kernel)
set_option maxRecDepth 20000 in
theorem gX4_quartersGo_X4_quarterGoes : GoodIn wsX4_quartersGo (wsV RX4 183 RX4 yX4_quarterGoes wsX4_quarterGoes) := goodIn_app (goodIn_of _ (by decide +kernel)) ggX4_quartersGo_X4_quarterGoes
theorem dX4_quartersGo_0 : decode cX4_quartersGo 0 = .ok (.aload_n 0, 1) := by decide +kernel
theorem dX4_quartersGo_1 : decode cX4_quartersGo 1 = .ok (.iconst 0, 1) := by decide +kernel
theorem dX4_quartersGo_2 : decode cX4_quartersGo 2 = .ok (.putfield 180, 3) := by decide +kernel
theorem dX4_quartersGo_5 : decode cX4_quartersGo 5 = .ok (.iconst 0, 1) := by decide +kernel
theorem dX4_quartersGo_6 : decode cX4_quartersGo 6 = .ok (.istore_n 2, 1) := by decide +kernel
theorem dX4_quartersGo_7 : decode cX4_quartersGo 7 = .ok (.iload_n 2, 1) := by decide +kernel
theorem dX4_quartersGo_8 : decode cX4_quartersGo 8 = .ok (.iload_n 1, 1) := by decide +kernel
theorem dX4_quartersGo_9 : decode cX4_quartersGo 9 = .ok (.if_icmp .ge 13, 3) := by decide +kernel
theorem dX4_quartersGo_12 : decode cX4_quartersGo 12 = .ok (.aload_n 0, 1) := by decide +kernel
theorem dX4_quartersGo_13 : decode cX4_quartersGo 13 = .ok (.invokevirtual 183, 3) := by decide +kernel
theorem dX4_quartersGo_16 : decode cX4_quartersGo 16 = .ok (.iinc 2 1, 3) := by decide +kernel
theorem dX4_quartersGo_19 : decode cX4_quartersGo 19 = .ok (.goto (-12), 3) := by decide +kernel
theorem dX4_quartersGo_22 : decode cX4_quartersGo 22 = .ok (.return_, 1) := by decide +kernel
set_option maxRecDepth 20000 in
theorem ggX4_ruined_X4_of : GoodIn wsX4_ruined wsX4_of := goodIn_r _ [6, 7, 11, 12, 13, 14, 15, 16, 17, 18, 19, 20, 21, 22, 23, 24, 25, 26, 27, 28, 29, 30, 31, 32, 33, 34, 35, 36, 37, 38, 39] (by decide +kernel) (by decide +kernel)
set_option maxRecDepth 20000 in
theorem gX4_ruined_X4_of : GoodIn wsX4_ruined (wsV RX4 151 RX4 yX4_of wsX4_of) := goodIn_app (goodIn_of _ (by decide +kernel)) ggX4_ruined_X4_of
set_option maxRecDepth 20000 in
theorem ggX4_ruined_X4_flag : GoodIn wsX4_ruined wsX4_flag := goodIn_r _ [10] (by decide +kernel) (by decide +kernel)
set_option maxRecDepth 20000 in
theorem gX4_ruined_X4_flag : GoodIn wsX4_ruined (va_wsS RX4 154 yX4_flag wsX4_flag) := goodIn_app (goodIn_of _ (by decide +kernel)) ggX4_ruined_X4_flag
theorem dX4_ruined_0 : decode cX4_ruined 0 = .ok (.iconst 0, 1) := by decide +kernel
theorem dX4_ruined_1 : decode cX4_ruined 1 = .ok (.istore_n 1, 1) := by decide +kernel
theorem dX4_ruined_2 : decode cX4_ruined 2 = .ok (.iconst 0, 1) := by decide +kernel
theorem dX4_ruined_3 : decode cX4_ruined 3 = .ok (.istore_n 2, 1) := by decide +kernel
theorem dX4_ruined_4 : decode cX4_ruined 4 = .ok (.iload_n 2, 1) := by decide +kernel
theorem dX4_ruined_5 : decode cX4_ruined 5 = .ok (.aload_n 0, 1) := by decide +kernel
theorem dX4_ruined_6 : decode cX4_ruined 6 = .ok (.getfield 67, 3) := by decide +kernel
theorem dX4_ruined_9 : decode cX4_ruined 9 = .ok (.if_icmp .ge 31, 3) := by decide +kernel
theorem dX4_ruined_12 : decode cX4_ruined 12 = .ok (.iload_n 1, 1) := by decide +kernel
theorem dX4_ruined_13 : decode cX4_ruined 13 = .ok (.aload_n 0, 1) := by decide +kernel
theorem dX4_ruined_14 : decode cX4_ruined 14 = .ok (.iload_n 2, 1) := by decide +kernel
theorem dX4_ruined_15 : decode cX4_ruined 15 = .ok (.iconst 1, 1) := by decide +kernel
theorem dX4_ruined_16 : decode cX4_ruined 16 = .ok (.invokevirtual 151, 3) := by decide +kernel
theorem dX4_ruined_19 : decode cX4_ruined 19 = .ok (.ifCond .ne 7, 3) := by decide +kernel
theorem dX4_ruined_22 : decode cX4_ruined 22 = .ok (.iconst 1, 1) := by decide +kernel
theorem dX4_ruined_23 : decode cX4_ruined 23 = .ok (.goto 4, 3) := by decide +kernel
theorem dX4_ruined_26 : decode cX4_ruined 26 = .ok (.iconst 0, 1) := by decide +kernel
theorem dX4_ruined_27 : decode cX4_ruined 27 = .ok (.invokestatic 154, 3) := by decide +kernel
theorem dX4_ruined_30 : decode cX4_ruined 30 = .ok (.iload_n 2, 1) := by decide +kernel
theorem dX4_ruined_31 : decode cX4_ruined 31 = .ok (.ishl, 1) := by decide +kernel
theorem dX4_ruined_32 : decode cX4_ruined 32 = .ok (.ior, 1) := by decide +kernel
theorem dX4_ruined_33 : decode cX4_ruined 33 = .ok (.istore_n 1, 1) := by decide +kernel
theorem dX4_ruined_34 : decode cX4_ruined 34 = .ok (.iinc 2 1, 3) := by decide +kernel
theorem dX4_ruined_37 : decode cX4_ruined 37 = .ok (.goto (-33), 3) := by decide +kernel
theorem dX4_ruined_40 : decode cX4_ruined 40 = .ok (.iload_n 1, 1) := by decide +kernel
theorem dX4_ruined_41 : decode cX4_ruined 41 = .ok (.ireturn, 1) := by decide +kernel
theorem dX4_bitsOf_0 : decode cX4_bitsOf 0 = .ok (.iconst 0, 1) := by decide +kernel
theorem dX4_bitsOf_1 : decode cX4_bitsOf 1 = .ok (.istore_n 1, 1) := by decide +kernel
theorem dX4_bitsOf_2 : decode cX4_bitsOf 2 = .ok (.iconst 0, 1) := by decide +kernel
theorem dX4_bitsOf_3 : decode cX4_bitsOf 3 = .ok (.istore_n 2, 1) := by decide +kernel
theorem dX4_bitsOf_4 : decode cX4_bitsOf 4 = .ok (.iload_n 2, 1) := by decide +kernel
theorem dX4_bitsOf_5 : decode cX4_bitsOf 5 = .ok (.iconst 5, 1) := by decide +kernel
theorem dX4_bitsOf_6 : decode cX4_bitsOf 6 = .ok (.if_icmp .ge 17, 3) := by decide +kernel
theorem dX4_bitsOf_9 : decode cX4_bitsOf 9 = .ok (.iload_n 1, 1) := by decide +kernel
theorem dX4_bitsOf_10 : decode cX4_bitsOf 10 = .ok (.iload_n 0, 1) := by decide +kernel
theorem dX4_bitsOf_11 : decode cX4_bitsOf 11 = .ok (.iload_n 2, 1) := by decide +kernel
theorem dX4_bitsOf_12 : decode cX4_bitsOf 12 = .ok (.ishr, 1) := by decide +kernel
theorem dX4_bitsOf_13 : decode cX4_bitsOf 13 = .ok (.iconst 1, 1) := by decide +kernel
theorem dX4_bitsOf_14 : decode cX4_bitsOf 14 = .ok (.iand, 1) := by decide +kernel
theorem dX4_bitsOf_15 : decode cX4_bitsOf 15 = .ok (.iadd, 1) := by decide +kernel
theorem dX4_bitsOf_16 : decode cX4_bitsOf 16 = .ok (.istore_n 1, 1) := by decide +kernel
theorem dX4_bitsOf_17 : decode cX4_bitsOf 17 = .ok (.iinc 2 1, 3) := by decide +kernel
theorem dX4_bitsOf_20 : decode cX4_bitsOf 20 = .ok (.goto (-16), 3) := by decide +kernel
theorem dX4_bitsOf_23 : decode cX4_bitsOf 23 = .ok (.iload_n 1, 1) := by decide +kernel
theorem dX4_bitsOf_24 : decode cX4_bitsOf 24 = .ok (.ireturn, 1) := by decide +kernel
set_option maxRecDepth 20000 in
theorem ggX4_allOf_X4_of : GoodIn wsX4_allOf wsX4_of := goodIn_r _ [6, 7, 8, 9, 10, 11, 12, 13, 14, 15, 16, 17, 18, 19, 20, 21, 22, 23, 24, 25, 26, 27, 28, 29, 30, 31, 32, 33, 34, 35, 36] (by decide +kernel) (by decide +kernel)
set_option maxRecDepth 20000 in
theorem gX4_allOf_X4_of : GoodIn wsX4_allOf (wsV RX4 151 RX4 yX4_of wsX4_of) := goodIn_app (goodIn_of _ (by decide +kernel)) ggX4_allOf_X4_of
theorem dX4_allOf_0 : decode cX4_allOf 0 = .ok (.iconst 0, 1) := by decide +kernel
theorem dX4_allOf_1 : decode cX4_allOf 1 = .ok (.istore_n 2, 1) := by decide +kernel
theorem dX4_allOf_2 : decode cX4_allOf 2 = .ok (.iconst 0, 1) := by decide +kernel
theorem dX4_allOf_3 : decode cX4_allOf 3 = .ok (.istore_n 3, 1) := by decide +kernel
theorem dX4_allOf_4 : decode cX4_allOf 4 = .ok (.iload_n 3, 1) := by decide +kernel
theorem dX4_allOf_5 : decode cX4_allOf 5 = .ok (.aload_n 0, 1) := by decide +kernel
theorem dX4_allOf_6 : decode cX4_allOf 6 = .ok (.getfield 67, 3) := by decide +kernel
theorem dX4_allOf_9 : decode cX4_allOf 9 = .ok (.if_icmp .ge 18, 3) := by decide +kernel
theorem dX4_allOf_12 : decode cX4_allOf 12 = .ok (.iload_n 2, 1) := by decide +kernel
theorem dX4_allOf_13 : decode cX4_allOf 13 = .ok (.aload_n 0, 1) := by decide +kernel
theorem dX4_allOf_14 : decode cX4_allOf 14 = .ok (.iload_n 3, 1) := by decide +kernel
theorem dX4_allOf_15 : decode cX4_allOf 15 = .ok (.iload_n 1, 1) := by decide +kernel
theorem dX4_allOf_16 : decode cX4_allOf 16 = .ok (.invokevirtual 151, 3) := by decide +kernel
theorem dX4_allOf_19 : decode cX4_allOf 19 = .ok (.iadd, 1) := by decide +kernel
theorem dX4_allOf_20 : decode cX4_allOf 20 = .ok (.istore_n 2, 1) := by decide +kernel
theorem dX4_allOf_21 : decode cX4_allOf 21 = .ok (.iinc 3 1, 3) := by decide +kernel
theorem dX4_allOf_24 : decode cX4_allOf 24 = .ok (.goto (-20), 3) := by decide +kernel
theorem dX4_allOf_27 : decode cX4_allOf 27 = .ok (.iload_n 2, 1) := by decide +kernel
theorem dX4_allOf_28 : decode cX4_allOf 28 = .ok (.ireturn, 1) := by decide +kernel
set_option maxRecDepth 20000 in
theorem ggX4_rule_X4_starts : GoodIn wsX4_rule wsX4_starts := goodIn_r _ [7, 8, 2, 24, 25, 26, 27, 28, 29, 30, 31, 32, 33, 34, 35, 36, 37, 38, 39, 40, 41, 42, 43, 44, 45, 46, 47, 48, 49, 50, 51, 52] (by decide +kernel) (by decide +kernel)
set_option maxRecDepth 20000 in
theorem gX4_rule_X4_starts : GoodIn wsX4_rule (wsV RX4 186 RX4 yX4_starts wsX4_starts) := goodIn_app (goodIn_of _ (by decide +kernel)) ggX4_rule_X4_starts
set_option maxRecDepth 20000 in
theorem ggX4_rule_X4_allOf : GoodIn wsX4_rule wsX4_allOf := goodIn_r _ [12, 1, 13, 14, 15, 6, 16, 8, 24, 25, 26, 27, 28, 29, 30, 31, 32, 33, 34, 35, 36, 37, 38, 39, 40, 41, 42, 43, 44, 45, 46, 47, 48, 49, 50, 51, 52] (by decide +kernel) (by decide +kernel)
set_option maxRecDepth 20000 in
theorem gX4_rule_X4_allOf : GoodIn wsX4_rule (wsV RX4 189 RX4 yX4_allOf wsX4_allOf) := goodIn_app (goodIn_of _ (by decide +kernel)) ggX4_rule_X4_allOf
set_option maxRecDepth 20000 in
theorem ggX4_rule_X4_ruined : GoodIn wsX4_rule wsX4_ruined := goodIn_r _ [20, 1, 13, 14, 15, 6, 16, 8, 21, 22, 23, 24, 25, 26, 27, 28, 29, 30, 31, 32, 33, 34, 35, 36, 37, 38, 39, 40, 41, 42, 43, 44, 45, 46, 47, 48, 49, 50, 51, 52] (by decide +kernel) (by decide +kernel)
set_option maxRecDepth 20000 in
theorem gX4_rule_X4_ruined : GoodIn wsX4_rule (wsV RX4 192 RX4 yX4_ruined wsX4_ruined) := goodIn_app (goodIn_of _ (by decide +kernel)) ggX4_rule_X4_ruined
theorem dX4_rule_0 : decode cX4_rule 0 = .ok (.aload_n 0, 1) := by decide +kernel
theorem dX4_rule_1 : decode cX4_rule 1 = .ok (.invokevirtual 186, 3) := by decide +kernel
theorem dX4_rule_4 : decode cX4_rule 4 = .ok (.iload_n 1, 1) := by decide +kernel
theorem dX4_rule_5 : decode cX4_rule 5 = .ok (.tableswitch 79 0 6 #[43, 48, 48, 48, 60, 66, 71], 43) := by decide +kernel
theorem dX4_rule_48 : decode cX4_rule 48 = .ok (.aload_n 0, 1) := by decide +kernel
theorem dX4_rule_49 : decode cX4_rule 49 = .ok (.getfield 67, 3) := by decide +kernel
theorem dX4_rule_52 : decode cX4_rule 52 = .ok (.ireturn, 1) := by decide +kernel
theorem dX4_rule_53 : decode cX4_rule 53 = .ok (.aload_n 0, 1) := by decide +kernel
theorem dX4_rule_54 : decode cX4_rule 54 = .ok (.getfield 7, 3) := by decide +kernel
theorem dX4_rule_57 : decode cX4_rule 57 = .ok (.bipush 20, 2) := by decide +kernel
theorem dX4_rule_59 : decode cX4_rule 59 = .ok (.iload_n 1, 1) := by decide +kernel
theorem dX4_rule_60 : decode cX4_rule 60 = .ok (.iadd, 1) := by decide +kernel
theorem dX4_rule_61 : decode cX4_rule 61 = .ok (.iconst 1, 1) := by decide +kernel
theorem dX4_rule_62 : decode cX4_rule 62 = .ok (.isub, 1) := by decide +kernel
theorem dX4_rule_63 : decode cX4_rule 63 = .ok (.iaload, 1) := by decide +kernel
theorem dX4_rule_64 : decode cX4_rule 64 = .ok (.ireturn, 1) := by decide +kernel
theorem dX4_rule_65 : decode cX4_rule 65 = .ok (.aload_n 0, 1) := by decide +kernel
theorem dX4_rule_66 : decode cX4_rule 66 = .ok (.iconst 1, 1) := by decide +kernel
theorem dX4_rule_67 : decode cX4_rule 67 = .ok (.invokevirtual 189, 3) := by decide +kernel
theorem dX4_rule_70 : decode cX4_rule 70 = .ok (.ireturn, 1) := by decide +kernel
theorem dX4_rule_71 : decode cX4_rule 71 = .ok (.aload_n 0, 1) := by decide +kernel
theorem dX4_rule_72 : decode cX4_rule 72 = .ok (.invokevirtual 192, 3) := by decide +kernel
theorem dX4_rule_75 : decode cX4_rule 75 = .ok (.ireturn, 1) := by decide +kernel
theorem dX4_rule_76 : decode cX4_rule 76 = .ok (.aload_n 0, 1) := by decide +kernel
theorem dX4_rule_77 : decode cX4_rule 77 = .ok (.getfield 7, 3) := by decide +kernel
theorem dX4_rule_80 : decode cX4_rule 80 = .ok (.bipush 23, 2) := by decide +kernel
theorem dX4_rule_82 : decode cX4_rule 82 = .ok (.iaload, 1) := by decide +kernel
theorem dX4_rule_83 : decode cX4_rule 83 = .ok (.ireturn, 1) := by decide +kernel
theorem dX4_rule_84 : decode cX4_rule 84 = .ok (.iconst (-1), 1) := by decide +kernel
theorem dX4_rule_85 : decode cX4_rule 85 = .ok (.ireturn, 1) := by decide +kernel
set_option maxRecDepth 20000 in
theorem ggX4_one_X4_isOne : GoodIn wsX4_one wsX4_isOne := goodIn_r _ [6, 7, 8, 9, 5, 10, 36, 37, 38, 39, 40, 41, 42, 43, 44, 45, 46, 47, 48, 49, 50, 51, 52, 53, 54, 55, 56, 57, 58, 59, 60, 61, 62, 63, 64] (by decide +kernel) (by decide +kernel)
set_option maxRecDepth 20000 in
theorem gX4_one_X4_isOne : GoodIn wsX4_one (wsV RX4 195 RX4 yX4_isOne wsX4_isOne) := goodIn_app (goodIn_of _ (by decide +kernel)) ggX4_one_X4_isOne
set_option maxRecDepth 20000 in
theorem ggX4_one_X4_in : GoodIn wsX4_one wsX4_in := goodIn_r _ [10] (by decide +kernel) (by decide +kernel)
set_option maxRecDepth 20000 in
theorem gX4_one_X4_in : GoodIn wsX4_one (va_wsS RX4 72 yX4_in wsX4_in) := goodIn_app (goodIn_of _ (by decide +kernel)) ggX4_one_X4_in
set_option maxRecDepth 20000 in
theorem ggX4_one_X4_starts : GoodIn wsX4_one wsX4_starts := goodIn_r _ [14, 15, 16, 36, 37, 38, 39, 40, 41, 42, 43, 44, 45, 46, 47, 48, 49, 50, 51, 52, 53, 54, 55, 56, 57, 58, 59, 60, 61, 62, 63, 64] (by decide +kernel) (by decide +kernel)
set_option maxRecDepth 20000 in
theorem gX4_one_X4_starts : GoodIn wsX4_one (wsV RX4 186 RX4 yX4_starts wsX4_starts) := goodIn_app (goodIn_of _ (by decide +kernel)) ggX4_one_X4_starts
set_option maxRecDepth 20000 in
theorem ggX4_one_X4_of : GoodIn wsX4_one wsX4_of := goodIn_r _ [20, 15, 36, 37, 38, 39, 40, 41, 42, 43, 44, 45, 46, 47, 48, 49, 50, 51, 52, 53, 54, 55, 56, 57, 58, 59, 60, 61, 62, 63, 64] (by decide +kernel) (by decide +kernel)
set_option maxRecDepth 20000 in
theorem gX4_one_X4_of : GoodIn wsX4_one (wsV RX4 151 RX4 yX4_of wsX4_of) := goodIn_app (goodIn_of _ (by decide +kernel)) ggX4_one_X4_of
set_option maxRecDepth 20000 in
theorem ggX4_one_X4_brings : GoodIn wsX4_one wsX4_brings := goodIn_r _ [24, 15, 25, 26, 27, 5, 28, 17, 18, 19, 20, 29, 30, 31, 32, 7, 33, 34, 35, 36, 37, 38, 39, 40, 41, 42, 43, 44, 45, 46, 47, 48, 49, 50, 51, 52, 53, 54, 55, 56, 57, 58, 59, 60, 61, 62, 63, 64] (by decide +kernel) (by decide +kernel)
set_option maxRecDepth 20000 in
theorem gX4_one_X4_brings : GoodIn wsX4_one (wsV RX4 174 RX4 yX4_brings wsX4_brings) := goodIn_app (goodIn_of _ (by decide +kernel)) ggX4_one_X4_brings
theorem dX4_one_0 : decode cX4_one 0 = .ok (.aload_n 0, 1) := by decide +kernel
theorem dX4_one_1 : decode cX4_one 1 = .ok (.iload_n 1, 1) := by decide +kernel
theorem dX4_one_2 : decode cX4_one 2 = .ok (.invokevirtual 195, 3) := by decide +kernel
theorem dX4_one_5 : decode cX4_one 5 = .ok (.ifCond .eq 15, 3) := by decide +kernel
theorem dX4_one_8 : decode cX4_one 8 = .ok (.iload_n 2, 1) := by decide +kernel
theorem dX4_one_9 : decode cX4_one 9 = .ok (.i2l, 1) := by decide +kernel
theorem dX4_one_10 : decode cX4_one 10 = .ok (.lconst 0, 1) := by decide +kernel
theorem dX4_one_11 : decode cX4_one 11 = .ok (.ldc2_w 199, 3) := by decide +kernel
theorem dX4_one_14 : decode cX4_one 14 = .ok (.invokestatic 72, 3) := by decide +kernel
theorem dX4_one_17 : decode cX4_one 17 = .ok (.ifCond .ne 5, 3) := by decide +kernel
theorem dX4_one_20 : decode cX4_one 20 = .ok (.iconst (-1), 1) := by decide +kernel
theorem dX4_one_21 : decode cX4_one 21 = .ok (.ireturn, 1) := by decide +kernel
theorem dX4_one_22 : decode cX4_one 22 = .ok (.aload_n 0, 1) := by decide +kernel
theorem dX4_one_23 : decode cX4_one 23 = .ok (.invokevirtual 186, 3) := by decide +kernel
theorem dX4_one_26 : decode cX4_one 26 = .ok (.iload_n 2, 1) := by decide +kernel
theorem dX4_one_27 : decode cX4_one 27 = .ok (.iconst 4, 1) := by decide +kernel
theorem dX4_one_28 : decode cX4_one 28 = .ok (.if_icmp .ge 12, 3) := by decide +kernel
theorem dX4_one_31 : decode cX4_one 31 = .ok (.aload_n 0, 1) := by decide +kernel
theorem dX4_one_32 : decode cX4_one 32 = .ok (.iload_n 1, 1) := by decide +kernel
theorem dX4_one_33 : decode cX4_one 33 = .ok (.iload_n 2, 1) := by decide +kernel
theorem dX4_one_34 : decode cX4_one 34 = .ok (.invokevirtual 151, 3) := by decide +kernel
theorem dX4_one_37 : decode cX4_one 37 = .ok (.goto 8, 3) := by decide +kernel
theorem dX4_one_40 : decode cX4_one 40 = .ok (.aload_n 0, 1) := by decide +kernel
theorem dX4_one_41 : decode cX4_one 41 = .ok (.iload_n 1, 1) := by decide +kernel
theorem dX4_one_42 : decode cX4_one 42 = .ok (.invokevirtual 174, 3) := by decide +kernel
theorem dX4_one_45 : decode cX4_one 45 = .ok (.ireturn, 1) := by decide +kernel
set_option maxRecDepth 20000 in
theorem ggX4_gift_X4_in : GoodIn wsX4_gift wsX4_in := goodIn_r _ [6] (by decide +kernel) (by decide +kernel)
set_option maxRecDepth 20000 in
theorem gX4_gift_X4_in : GoodIn wsX4_gift (va_wsS RX4 72 yX4_in wsX4_in) := goodIn_app (goodIn_of _ (by decide +kernel)) ggX4_gift_X4_in
theorem dX4_gift_0 : decode cX4_gift 0 = .ok (.iload_n 1, 1) := by decide +kernel
theorem dX4_gift_1 : decode cX4_gift 1 = .ok (.i2l, 1) := by decide +kernel
theorem dX4_gift_2 : decode cX4_gift 2 = .ok (.lconst 0, 1) := by decide +kernel
theorem dX4_gift_3 : decode cX4_gift 3 = .ok (.aload_n 0, 1) := by decide +kernel
theorem dX4_gift_4 : decode cX4_gift 4 = .ok (.getfield 7, 3) := by decide +kernel
theorem dX4_gift_7 : decode cX4_gift 7 = .ok (.bipush 23, 2) := by decide +kernel
theorem dX4_gift_9 : decode cX4_gift 9 = .ok (.iaload, 1) := by decide +kernel
theorem dX4_gift_10 : decode cX4_gift 10 = .ok (.iconst 1, 1) := by decide +kernel
theorem dX4_gift_11 : decode cX4_gift 11 = .ok (.isub, 1) := by decide +kernel
theorem dX4_gift_12 : decode cX4_gift 12 = .ok (.i2l, 1) := by decide +kernel
theorem dX4_gift_13 : decode cX4_gift 13 = .ok (.invokestatic 72, 3) := by decide +kernel
theorem dX4_gift_16 : decode cX4_gift 16 = .ok (.ifCond .eq 31, 3) := by decide +kernel
theorem dX4_gift_19 : decode cX4_gift 19 = .ok (.iload_n 2, 1) := by decide +kernel
theorem dX4_gift_20 : decode cX4_gift 20 = .ok (.i2l, 1) := by decide +kernel
theorem dX4_gift_21 : decode cX4_gift 21 = .ok (.lconst 0, 1) := by decide +kernel
theorem dX4_gift_22 : decode cX4_gift 22 = .ok (.ldc2_w 201, 3) := by decide +kernel
theorem dX4_gift_25 : decode cX4_gift 25 = .ok (.invokestatic 72, 3) := by decide +kernel
theorem dX4_gift_28 : decode cX4_gift 28 = .ok (.ifCond .eq 19, 3) := by decide +kernel
theorem dX4_gift_31 : decode cX4_gift 31 = .ok (.aload_n 0, 1) := by decide +kernel
theorem dX4_gift_32 : decode cX4_gift 32 = .ok (.getfield 7, 3) := by decide +kernel
theorem dX4_gift_35 : decode cX4_gift 35 = .ok (.bipush 24, 2) := by decide +kernel
theorem dX4_gift_37 : decode cX4_gift 37 = .ok (.iconst 4, 1) := by decide +kernel
theorem dX4_gift_38 : decode cX4_gift 38 = .ok (.iload_n 1, 1) := by decide +kernel
theorem dX4_gift_39 : decode cX4_gift 39 = .ok (.imul, 1) := by decide +kernel
theorem dX4_gift_40 : decode cX4_gift 40 = .ok (.iadd, 1) := by decide +kernel
theorem dX4_gift_41 : decode cX4_gift 41 = .ok (.iload_n 2, 1) := by decide +kernel
theorem dX4_gift_42 : decode cX4_gift 42 = .ok (.iadd, 1) := by decide +kernel
theorem dX4_gift_43 : decode cX4_gift 43 = .ok (.iaload, 1) := by decide +kernel
theorem dX4_gift_44 : decode cX4_gift 44 = .ok (.goto 4, 3) := by decide +kernel
theorem dX4_gift_47 : decode cX4_gift 47 = .ok (.iconst (-1), 1) := by decide +kernel
theorem dX4_gift_48 : decode cX4_gift 48 = .ok (.ireturn, 1) := by decide +kernel
theorem dX4_becomes_0 : decode cX4_becomes 0 = .ok (.aload_n 0, 1) := by decide +kernel
theorem dX4_becomes_1 : decode cX4_becomes 1 = .ok (.getfield 7, 3) := by decide +kernel
theorem dX4_becomes_4 : decode cX4_becomes 4 = .ok (.iload_n 1, 1) := by decide +kernel
theorem dX4_becomes_5 : decode cX4_becomes 5 = .ok (.iaload, 1) := by decide +kernel
theorem dX4_becomes_6 : decode cX4_becomes 6 = .ok (.istore_n 3, 1) := by decide +kernel
theorem dX4_becomes_7 : decode cX4_becomes 7 = .ok (.aload_n 0, 1) := by decide +kernel
theorem dX4_becomes_8 : decode cX4_becomes 8 = .ok (.getfield 7, 3) := by decide +kernel
theorem dX4_becomes_11 : decode cX4_becomes 11 = .ok (.iload_n 1, 1) := by decide +kernel
theorem dX4_becomes_12 : decode cX4_becomes 12 = .ok (.iload_n 2, 1) := by decide +kernel
theorem dX4_becomes_13 : decode cX4_becomes 13 = .ok (.iastore, 1) := by decide +kernel
theorem dX4_becomes_14 : decode cX4_becomes 14 = .ok (.iload_n 3, 1) := by decide +kernel
theorem dX4_becomes_15 : decode cX4_becomes 15 = .ok (.ireturn, 1) := by decide +kernel
set_option maxRecDepth 20000 in
theorem ggX4_alter_X4_in : GoodIn wsX4_alter wsX4_in := goodIn_r _ [7] (by decide +kernel) (by decide +kernel)
set_option maxRecDepth 20000 in
theorem gX4_alter_X4_in : GoodIn wsX4_alter (va_wsS RX4 72 yX4_in wsX4_in) := goodIn_app (goodIn_of _ (by decide +kernel)) ggX4_alter_X4_in
set_option maxRecDepth 20000 in
theorem ggX4_alter_X4_isOne : GoodIn wsX4_alter wsX4_isOne := goodIn_r _ [11, 12, 4, 5, 6, 7, 18, 19, 20, 21, 22, 23, 24, 25, 26, 27, 28, 29, 30, 31, 32, 33, 34, 35, 36, 37, 38, 39, 40, 41, 42, 43, 44, 45, 46] (by decide +kernel) (by decide +kernel)
set_option maxRecDepth 20000 in
theorem gX4_alter_X4_isOne : GoodIn wsX4_alter (wsV RX4 195 RX4 yX4_isOne wsX4_isOne) := goodIn_app (goodIn_of _ (by decide +kernel)) ggX4_alter_X4_isOne
set_option maxRecDepth 20000 in
theorem ggX4_alter_X4_becomes : GoodIn wsX4_alter wsX4_becomes := goodIn_r _ [16, 17, 18, 19, 20, 21, 22, 23, 24, 25, 26, 27, 28, 29, 30, 31, 32, 33, 34, 35, 36, 37, 38, 39, 40, 41, 42, 43, 44, 45, 46] (by decide +kernel) (by decide +kernel)
set_option maxRecDepth 20000 in
theorem gX4_alter_X4_becomes : GoodIn wsX4_alter (wsV RX4 207 RX4 yX4_becomes wsX4_becomes) := goodIn_app (goodIn_of _ (by decide +kernel)) ggX4_alter_X4_becomes
theorem dX4_alter_0 : decode cX4_alter 0 = .ok (.iload_n 2, 1) := by decide +kernel
theorem dX4_alter_1 : decode cX4_alter 1 = .ok (.ifCond .ne 15, 3) := by decide +kernel
theorem dX4_alter_4 : decode cX4_alter 4 = .ok (.iload_n 3, 1) := by decide +kernel
theorem dX4_alter_5 : decode cX4_alter 5 = .ok (.i2l, 1) := by decide +kernel
theorem dX4_alter_6 : decode cX4_alter 6 = .ok (.lconst 0, 1) := by decide +kernel
theorem dX4_alter_7 : decode cX4_alter 7 = .ok (.ldc2_w 201, 3) := by decide +kernel
theorem dX4_alter_10 : decode cX4_alter 10 = .ok (.invokestatic 72, 3) := by decide +kernel
theorem dX4_alter_13 : decode cX4_alter 13 = .ok (.goto 42, 3) := by decide +kernel
theorem dX4_alter_16 : decode cX4_alter 16 = .ok (.iload_n 2, 1) := by decide +kernel
theorem dX4_alter_17 : decode cX4_alter 17 = .ok (.iconst 1, 1) := by decide +kernel
theorem dX4_alter_18 : decode cX4_alter 18 = .ok (.if_icmp .ne 15, 3) := by decide +kernel
theorem dX4_alter_21 : decode cX4_alter 21 = .ok (.iload_n 3, 1) := by decide +kernel
theorem dX4_alter_22 : decode cX4_alter 22 = .ok (.i2l, 1) := by decide +kernel
theorem dX4_alter_23 : decode cX4_alter 23 = .ok (.lconst 0, 1) := by decide +kernel
theorem dX4_alter_24 : decode cX4_alter 24 = .ok (.ldc2_w 203, 3) := by decide +kernel
theorem dX4_alter_27 : decode cX4_alter 27 = .ok (.invokestatic 72, 3) := by decide +kernel
theorem dX4_alter_30 : decode cX4_alter 30 = .ok (.goto 25, 3) := by decide +kernel
theorem dX4_alter_33 : decode cX4_alter 33 = .ok (.iload_n 2, 1) := by decide +kernel
theorem dX4_alter_34 : decode cX4_alter 34 = .ok (.iconst 2, 1) := by decide +kernel
theorem dX4_alter_35 : decode cX4_alter 35 = .ok (.if_icmp .ne 19, 3) := by decide +kernel
theorem dX4_alter_38 : decode cX4_alter 38 = .ok (.iload_n 3, 1) := by decide +kernel
theorem dX4_alter_39 : decode cX4_alter 39 = .ok (.i2l, 1) := by decide +kernel
theorem dX4_alter_40 : decode cX4_alter 40 = .ok (.lconst 0, 1) := by decide +kernel
theorem dX4_alter_41 : decode cX4_alter 41 = .ok (.ldc2_w 205, 3) := by decide +kernel
theorem dX4_alter_44 : decode cX4_alter 44 = .ok (.invokestatic 72, 3) := by decide +kernel
theorem dX4_alter_47 : decode cX4_alter 47 = .ok (.ifCond .eq 7, 3) := by decide +kernel
theorem dX4_alter_50 : decode cX4_alter 50 = .ok (.iconst 1, 1) := by decide +kernel
theorem dX4_alter_51 : decode cX4_alter 51 = .ok (.goto 4, 3) := by decide +kernel
theorem dX4_alter_54 : decode cX4_alter 54 = .ok (.iconst 0, 1) := by decide +kernel
theorem dX4_alter_55 : decode cX4_alter 55 = .ok (.istore 4, 2) := by decide +kernel
theorem dX4_alter_57 : decode cX4_alter 57 = .ok (.aload_n 0, 1) := by decide +kernel
theorem dX4_alter_58 : decode cX4_alter 58 = .ok (.iload_n 1, 1) := by decide +kernel
theorem dX4_alter_59 : decode cX4_alter 59 = .ok (.invokevirtual 195, 3) := by decide +kernel
theorem dX4_alter_62 : decode cX4_alter 62 = .ok (.ifCond .eq 21, 3) := by decide +kernel
theorem dX4_alter_65 : decode cX4_alter 65 = .ok (.iload 4, 2) := by decide +kernel
theorem dX4_alter_67 : decode cX4_alter 67 = .ok (.ifCond .eq 16, 3) := by decide +kernel
theorem dX4_alter_70 : decode cX4_alter 70 = .ok (.aload_n 0, 1) := by decide +kernel
theorem dX4_alter_71 : decode cX4_alter 71 = .ok (.iconst 4, 1) := by decide +kernel
theorem dX4_alter_72 : decode cX4_alter 72 = .ok (.iload_n 1, 1) := by decide +kernel
theorem dX4_alter_73 : decode cX4_alter 73 = .ok (.imul, 1) := by decide +kernel
theorem dX4_alter_74 : decode cX4_alter 74 = .ok (.iload_n 2, 1) := by decide +kernel
theorem dX4_alter_75 : decode cX4_alter 75 = .ok (.iadd, 1) := by decide +kernel
theorem dX4_alter_76 : decode cX4_alter 76 = .ok (.iload_n 3, 1) := by decide +kernel
theorem dX4_alter_77 : decode cX4_alter 77 = .ok (.invokevirtual 207, 3) := by decide +kernel
theorem dX4_alter_80 : decode cX4_alter 80 = .ok (.goto 4, 3) := by decide +kernel
theorem dX4_alter_83 : decode cX4_alter 83 = .ok (.iconst (-1), 1) := by decide +kernel
theorem dX4_alter_84 : decode cX4_alter 84 = .ok (.ireturn, 1) := by decide +kernel
set_option maxRecDepth 20000 in
theorem ggX4_slump_X4_in : GoodIn wsX4_slump wsX4_in := goodIn_r _ [5] (by decide +kernel) (by decide +kernel)
set_option maxRecDepth 20000 in
theorem gX4_slump_X4_in : GoodIn wsX4_slump (va_wsS RX4 72 yX4_in wsX4_in) := goodIn_app (goodIn_of _ (by decide +kernel)) ggX4_slump_X4_in
set_option maxRecDepth 20000 in
theorem ggX4_slump_X4_becomes : GoodIn wsX4_slump wsX4_becomes := goodIn_r _ [9, 10, 11, 12, 13, 14, 15, 16, 17, 18, 19, 20, 21, 22, 23, 24, 25, 26, 27, 28, 29, 30, 31, 32, 33, 34, 35, 36, 37, 38, 39] (by decide +kernel) (by decide +kernel)
set_option maxRecDepth 20000 in
theorem gX4_slump_X4_becomes : GoodIn wsX4_slump (wsV RX4 207 RX4 yX4_becomes wsX4_becomes) := goodIn_app (goodIn_of _ (by decide +kernel)) ggX4_slump_X4_becomes
theorem dX4_slump_0 : decode cX4_slump 0 = .ok (.iload_n 1, 1) := by decide +kernel
theorem dX4_slump_1 : decode cX4_slump 1 = .ok (.i2l, 1) := by decide +kernel
theorem dX4_slump_2 : decode cX4_slump 2 = .ok (.lconst 0, 1) := by decide +kernel
theorem dX4_slump_3 : decode cX4_slump 3 = .ok (.ldc2_w 210, 3) := by decide +kernel
theorem dX4_slump_6 : decode cX4_slump 6 = .ok (.invokestatic 72, 3) := by decide +kernel
theorem dX4_slump_9 : decode cX4_slump 9 = .ok (.ifCond .eq 13, 3) := by decide +kernel
theorem dX4_slump_12 : decode cX4_slump 12 = .ok (.aload_n 0, 1) := by decide +kernel
theorem dX4_slump_13 : decode cX4_slump 13 = .ok (.bipush 21, 2) := by decide +kernel
theorem dX4_slump_15 : decode cX4_slump 15 = .ok (.iload_n 1, 1) := by decide +kernel
theorem dX4_slump_16 : decode cX4_slump 16 = .ok (.invokevirtual 207, 3) := by decide +kernel
theorem dX4_slump_19 : decode cX4_slump 19 = .ok (.goto 4, 3) := by decide +kernel
theorem dX4_slump_22 : decode cX4_slump 22 = .ok (.iconst (-1), 1) := by decide +kernel
theorem dX4_slump_23 : decode cX4_slump 23 = .ok (.ireturn, 1) := by decide +kernel
set_option maxRecDepth 20000 in
theorem ggX4_hand_X4_isOne : GoodIn wsX4_hand wsX4_isOne := goodIn_r _ [5, 6, 7, 8, 4, 9, 15, 16, 17, 18, 19, 20, 21, 22, 23, 24, 25, 26, 27, 28, 29, 30, 31, 32, 33, 34, 35, 36, 37, 38, 39, 40, 41, 42, 43] (by decide +kernel) (by decide +kernel)
set_option maxRecDepth 20000 in
theorem gX4_hand_X4_isOne : GoodIn wsX4_hand (wsV RX4 195 RX4 yX4_isOne wsX4_isOne) := goodIn_app (goodIn_of _ (by decide +kernel)) ggX4_hand_X4_isOne
set_option maxRecDepth 20000 in
theorem ggX4_hand_X4_becomes : GoodIn wsX4_hand wsX4_becomes := goodIn_r _ [13, 14, 15, 16, 17, 18, 19, 20, 21, 22, 23, 24, 25, 26, 27, 28, 29, 30, 31, 32, 33, 34, 35, 36, 37, 38, 39, 40, 41, 42, 43] (by decide +kernel) (by decide +kernel)
set_option maxRecDepth 20000 in
theorem gX4_hand_X4_becomes : GoodIn wsX4_hand (wsV RX4 207 RX4 yX4_becomes wsX4_becomes) := goodIn_app (goodIn_of _ (by decide +kernel)) ggX4_hand_X4_becomes
theorem dX4_hand_0 : decode cX4_hand 0 = .ok (.aload_n 0, 1) := by decide +kernel
theorem dX4_hand_1 : decode cX4_hand 1 = .ok (.iload_n 1, 1) := by decide +kernel
theorem dX4_hand_2 : decode cX4_hand 2 = .ok (.invokevirtual 195, 3) := by decide +kernel
theorem dX4_hand_5 : decode cX4_hand 5 = .ok (.ifCond .eq 13, 3) := by decide +kernel
theorem dX4_hand_8 : decode cX4_hand 8 = .ok (.aload_n 0, 1) := by decide +kernel
theorem dX4_hand_9 : decode cX4_hand 9 = .ok (.bipush 22, 2) := by decide +kernel
theorem dX4_hand_11 : decode cX4_hand 11 = .ok (.iload_n 1, 1) := by decide +kernel
theorem dX4_hand_12 : decode cX4_hand 12 = .ok (.invokevirtual 207, 3) := by decide +kernel
theorem dX4_hand_15 : decode cX4_hand 15 = .ok (.goto 4, 3) := by decide +kernel
theorem dX4_hand_18 : decode cX4_hand 18 = .ok (.iconst (-1), 1) := by decide +kernel
theorem dX4_hand_19 : decode cX4_hand 19 = .ok (.ireturn, 1) := by decide +kernel
set_option maxRecDepth 20000 in
theorem ggX4_give_X4_in : GoodIn wsX4_give wsX4_in := goodIn_r _ [6] (by decide +kernel) (by decide +kernel)
set_option maxRecDepth 20000 in
theorem gX4_give_X4_in : GoodIn wsX4_give (va_wsS RX4 72 yX4_in wsX4_in) := goodIn_app (goodIn_of _ (by decide +kernel)) ggX4_give_X4_in
set_option maxRecDepth 20000 in
theorem ggX4_give_X4_isOne : GoodIn wsX4_give wsX4_isOne := goodIn_r _ [10, 11, 3, 4, 5, 6, 12, 13, 14, 15, 16, 17, 18, 19, 20, 21, 22, 23, 24, 25, 26, 27, 28, 29, 30, 31, 32, 33, 34, 35, 36, 37, 38, 39, 40] (by decide +kernel) (by decide +kernel)
set_option maxRecDepth 20000 in
theorem gX4_give_X4_isOne : GoodIn wsX4_give (wsV RX4 195 RX4 yX4_isOne wsX4_isOne) := goodIn_app (goodIn_of _ (by decide +kernel)) ggX4_give_X4_isOne
theorem dX4_give_0 : decode cX4_give 0 = .ok (.iload_n 1, 1) := by decide +kernel
theorem dX4_give_1 : decode cX4_give 1 = .ok (.i2l, 1) := by decide +kernel
theorem dX4_give_2 : decode cX4_give 2 = .ok (.lconst 0, 1) := by decide +kernel
theorem dX4_give_3 : decode cX4_give 3 = .ok (.ldc2_w 205, 3) := by decide +kernel
theorem dX4_give_6 : decode cX4_give 6 = .ok (.invokestatic 72, 3) := by decide +kernel
theorem dX4_give_9 : decode cX4_give 9 = .ok (.ifCond .eq 37, 3) := by decide +kernel
theorem dX4_give_12 : decode cX4_give 12 = .ok (.aload_n 0, 1) := by decide +kernel
theorem dX4_give_13 : decode cX4_give 13 = .ok (.iload_n 2, 1) := by decide +kernel
theorem dX4_give_14 : decode cX4_give 14 = .ok (.invokevirtual 195, 3) := by decide +kernel
theorem dX4_give_17 : decode cX4_give 17 = .ok (.ifCond .eq 29, 3) := by decide +kernel
theorem dX4_give_20 : decode cX4_give 20 = .ok (.aload_n 0, 1) := by decide +kernel
theorem dX4_give_21 : decode cX4_give 21 = .ok (.iload_n 3, 1) := by decide +kernel
theorem dX4_give_22 : decode cX4_give 22 = .ok (.invokevirtual 195, 3) := by decide +kernel
theorem dX4_give_25 : decode cX4_give 25 = .ok (.ifCond .eq 21, 3) := by decide +kernel
theorem dX4_give_28 : decode cX4_give 28 = .ok (.iload_n 2, 1) := by decide +kernel
theorem dX4_give_29 : decode cX4_give 29 = .ok (.iload_n 3, 1) := by decide +kernel
theorem dX4_give_30 : decode cX4_give 30 = .ok (.if_icmp .eq 16, 3) := by decide +kernel
theorem dX4_give_33 : decode cX4_give 33 = .ok (.iload 4, 2) := by decide +kernel
theorem dX4_give_35 : decode cX4_give 35 = .ok (.i2l, 1) := by decide +kernel
theorem dX4_give_36 : decode cX4_give 36 = .ok (.lconst 1, 1) := by decide +kernel
theorem dX4_give_37 : decode cX4_give 37 = .ok (.ldc2_w 205, 3) := by decide +kernel
theorem dX4_give_40 : decode cX4_give 40 = .ok (.invokestatic 72, 3) := by decide +kernel
theorem dX4_give_43 : decode cX4_give 43 = .ok (.ifCond .ne 5, 3) := by decide +kernel
theorem dX4_give_46 : decode cX4_give 46 = .ok (.iconst (-1), 1) := by decide +kernel
theorem dX4_give_47 : decode cX4_give 47 = .ok (.ireturn, 1) := by decide +kernel
theorem dX4_give_48 : decode cX4_give 48 = .ok (.aload_n 0, 1) := by decide +kernel
theorem dX4_give_49 : decode cX4_give 49 = .ok (.getfield 7, 3) := by decide +kernel
theorem dX4_give_52 : decode cX4_give 52 = .ok (.bipush 23, 2) := by decide +kernel
theorem dX4_give_54 : decode cX4_give 54 = .ok (.iaload, 1) := by decide +kernel
theorem dX4_give_55 : decode cX4_give 55 = .ok (.iconst 4, 1) := by decide +kernel
theorem dX4_give_56 : decode cX4_give 56 = .ok (.if_icmp .ne 6, 3) := by decide +kernel
theorem dX4_give_59 : decode cX4_give 59 = .ok (.bipush (-3), 2) := by decide +kernel
theorem dX4_give_61 : decode cX4_give 61 = .ok (.ireturn, 1) := by decide +kernel
theorem dX4_give_62 : decode cX4_give 62 = .ok (.bipush 24, 2) := by decide +kernel
theorem dX4_give_64 : decode cX4_give 64 = .ok (.iconst 4, 1) := by decide +kernel
theorem dX4_give_65 : decode cX4_give 65 = .ok (.aload_n 0, 1) := by decide +kernel
theorem dX4_give_66 : decode cX4_give 66 = .ok (.getfield 7, 3) := by decide +kernel
theorem dX4_give_69 : decode cX4_give 69 = .ok (.bipush 23, 2) := by decide +kernel
theorem dX4_give_71 : decode cX4_give 71 = .ok (.iaload, 1) := by decide +kernel
theorem dX4_give_72 : decode cX4_give 72 = .ok (.imul, 1) := by decide +kernel
theorem dX4_give_73 : decode cX4_give 73 = .ok (.iadd, 1) := by decide +kernel
theorem dX4_give_74 : decode cX4_give 74 = .ok (.istore 5, 2) := by decide +kernel
theorem dX4_give_76 : decode cX4_give 76 = .ok (.aload_n 0, 1) := by decide +kernel
theorem dX4_give_77 : decode cX4_give 77 = .ok (.getfield 7, 3) := by decide +kernel
theorem dX4_give_80 : decode cX4_give 80 = .ok (.iload 5, 2) := by decide +kernel
theorem dX4_give_82 : decode cX4_give 82 = .ok (.iload_n 1, 1) := by decide +kernel
theorem dX4_give_83 : decode cX4_give 83 = .ok (.iastore, 1) := by decide +kernel
theorem dX4_give_84 : decode cX4_give 84 = .ok (.aload_n 0, 1) := by decide +kernel
theorem dX4_give_85 : decode cX4_give 85 = .ok (.getfield 7, 3) := by decide +kernel
theorem dX4_give_88 : decode cX4_give 88 = .ok (.iload 5, 2) := by decide +kernel
theorem dX4_give_90 : decode cX4_give 90 = .ok (.iconst 1, 1) := by decide +kernel
theorem dX4_give_91 : decode cX4_give 91 = .ok (.iadd, 1) := by decide +kernel
theorem dX4_give_92 : decode cX4_give 92 = .ok (.iload_n 2, 1) := by decide +kernel
theorem dX4_give_93 : decode cX4_give 93 = .ok (.iastore, 1) := by decide +kernel
theorem dX4_give_94 : decode cX4_give 94 = .ok (.aload_n 0, 1) := by decide +kernel
theorem dX4_give_95 : decode cX4_give 95 = .ok (.getfield 7, 3) := by decide +kernel
theorem dX4_give_98 : decode cX4_give 98 = .ok (.iload 5, 2) := by decide +kernel
theorem dX4_give_100 : decode cX4_give 100 = .ok (.iconst 2, 1) := by decide +kernel
theorem dX4_give_101 : decode cX4_give 101 = .ok (.iadd, 1) := by decide +kernel
theorem dX4_give_102 : decode cX4_give 102 = .ok (.iload_n 3, 1) := by decide +kernel
theorem dX4_give_103 : decode cX4_give 103 = .ok (.iastore, 1) := by decide +kernel
theorem dX4_give_104 : decode cX4_give 104 = .ok (.aload_n 0, 1) := by decide +kernel
theorem dX4_give_105 : decode cX4_give 105 = .ok (.getfield 7, 3) := by decide +kernel
theorem dX4_give_108 : decode cX4_give 108 = .ok (.iload 5, 2) := by decide +kernel
theorem dX4_give_110 : decode cX4_give 110 = .ok (.iconst 3, 1) := by decide +kernel
theorem dX4_give_111 : decode cX4_give 111 = .ok (.iadd, 1) := by decide +kernel
theorem dX4_give_112 : decode cX4_give 112 = .ok (.iload 4, 2) := by decide +kernel
theorem dX4_give_114 : decode cX4_give 114 = .ok (.iastore, 1) := by decide +kernel
theorem dX4_give_115 : decode cX4_give 115 = .ok (.aload_n 0, 1) := by decide +kernel
theorem dX4_give_116 : decode cX4_give 116 = .ok (.getfield 7, 3) := by decide +kernel
theorem dX4_give_119 : decode cX4_give 119 = .ok (.bipush 23, 2) := by decide +kernel
theorem dX4_give_121 : decode cX4_give 121 = .ok (.dup2, 1) := by decide +kernel
theorem dX4_give_122 : decode cX4_give 122 = .ok (.iaload, 1) := by decide +kernel
theorem dX4_give_123 : decode cX4_give 123 = .ok (.iconst 1, 1) := by decide +kernel
theorem dX4_give_124 : decode cX4_give 124 = .ok (.iadd, 1) := by decide +kernel
theorem dX4_give_125 : decode cX4_give 125 = .ok (.iastore, 1) := by decide +kernel
theorem dX4_give_126 : decode cX4_give 126 = .ok (.aload_n 0, 1) := by decide +kernel
theorem dX4_give_127 : decode cX4_give 127 = .ok (.getfield 7, 3) := by decide +kernel
theorem dX4_give_130 : decode cX4_give 130 = .ok (.bipush 23, 2) := by decide +kernel
theorem dX4_give_132 : decode cX4_give 132 = .ok (.iaload, 1) := by decide +kernel
theorem dX4_give_133 : decode cX4_give 133 = .ok (.ireturn, 1) := by decide +kernel
set_option maxRecDepth 20000 in
theorem ggX4_drop_X4_in : GoodIn wsX4_drop wsX4_in := goodIn_r _ [5] (by decide +kernel) (by decide +kernel)
set_option maxRecDepth 20000 in
theorem gX4_drop_X4_in : GoodIn wsX4_drop (va_wsS RX4 72 yX4_in wsX4_in) := goodIn_app (goodIn_of _ (by decide +kernel)) ggX4_drop_X4_in
set_option maxRecDepth 20000 in
theorem ggX4_drop_X4_becomes : GoodIn wsX4_drop wsX4_becomes := goodIn_r _ [9, 1, 10, 11, 12, 13, 14, 15, 16, 17, 18, 19, 20, 21, 22, 23, 24, 25, 26, 27, 28, 29, 30, 31, 32, 33, 34, 35, 36, 37, 38] (by decide +kernel) (by decide +kernel)
set_option maxRecDepth 20000 in
theorem gX4_drop_X4_becomes : GoodIn wsX4_drop (wsV RX4 207 RX4 yX4_becomes wsX4_becomes) := goodIn_app (goodIn_of _ (by decide +kernel)) ggX4_drop_X4_becomes
theorem dX4_drop_0 : decode cX4_drop 0 = .ok (.iload_n 1, 1) := by decide +kernel
theorem dX4_drop_1 : decode cX4_drop 1 = .ok (.i2l, 1) := by decide +kernel
theorem dX4_drop_2 : decode cX4_drop 2 = .ok (.lconst 0, 1) := by decide +kernel
theorem dX4_drop_3 : decode cX4_drop 3 = .ok (.aload_n 0, 1) := by decide +kernel
theorem dX4_drop_4 : decode cX4_drop 4 = .ok (.getfield 7, 3) := by decide +kernel
theorem dX4_drop_7 : decode cX4_drop 7 = .ok (.bipush 23, 2) := by decide +kernel
theorem dX4_drop_9 : decode cX4_drop 9 = .ok (.iaload, 1) := by decide +kernel
theorem dX4_drop_10 : decode cX4_drop 10 = .ok (.i2l, 1) := by decide +kernel
theorem dX4_drop_11 : decode cX4_drop 11 = .ok (.invokestatic 72, 3) := by decide +kernel
theorem dX4_drop_14 : decode cX4_drop 14 = .ok (.ifCond .eq 13, 3) := by decide +kernel
theorem dX4_drop_17 : decode cX4_drop 17 = .ok (.aload_n 0, 1) := by decide +kernel
theorem dX4_drop_18 : decode cX4_drop 18 = .ok (.bipush 23, 2) := by decide +kernel
theorem dX4_drop_20 : decode cX4_drop 20 = .ok (.iload_n 1, 1) := by decide +kernel
theorem dX4_drop_21 : decode cX4_drop 21 = .ok (.invokevirtual 207, 3) := by decide +kernel
theorem dX4_drop_24 : decode cX4_drop 24 = .ok (.goto 4, 3) := by decide +kernel
theorem dX4_drop_27 : decode cX4_drop 27 = .ok (.iconst (-1), 1) := by decide +kernel
theorem dX4_drop_28 : decode cX4_drop 28 = .ok (.ireturn, 1) := by decide +kernel
set_option maxRecDepth 20000 in
theorem ggX4_quarters_X4_in : GoodIn wsX4_quarters wsX4_in := goodIn_r _ [6] (by decide +kernel) (by decide +kernel)
set_option maxRecDepth 20000 in
theorem gX4_quarters_X4_in : GoodIn wsX4_quarters (va_wsS RX4 72 yX4_in wsX4_in) := goodIn_app (goodIn_of _ (by decide +kernel)) ggX4_quarters_X4_in
set_option maxRecDepth 20000 in
theorem ggX4_quarters_X4_starts : GoodIn wsX4_quarters wsX4_starts := goodIn_r _ [10, 11, 2, 61, 62, 63, 64, 65, 66, 67, 68, 69, 70, 71, 72, 73, 74, 75, 76, 77, 78, 79, 80, 81, 82, 83, 84, 85, 86, 87, 88, 89] (by decide +kernel) (by decide +kernel)
set_option maxRecDepth 20000 in
theorem gX4_quarters_X4_starts : GoodIn wsX4_quarters (wsV RX4 186 RX4 yX4_starts wsX4_starts) := goodIn_app (goodIn_of _ (by decide +kernel)) ggX4_quarters_X4_starts
set_option maxRecDepth 20000 in
theorem ggX4_quarters_X4_quartersGo : GoodIn wsX4_quarters wsX4_quartersGo := goodIn_r _ [15, 16, 17, 18, 19, 5, 20, 21, 22, 11, 23, 24, 25, 26, 27, 28, 29, 30, 31, 32, 33, 34, 35, 36, 37, 38, 39, 40, 41, 42, 43, 44, 45, 46, 47, 48, 49, 50, 51, 52, 53, 54, 55, 56, 61, 62, 63, 64, 65, 66, 67, 68, 69, 70, 71, 72, 73, 74, 75, 76, 77, 78, 79, 80, 81, 82, 83, 84, 85, 86, 87, 88, 89] (by decide +kernel) (by decide +kernel)
