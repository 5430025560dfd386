theorem dX4_trades_31 : decode cX4_trades 31 = .ok (.iload_n 3, 1) := by decide +kernel
theorem dX4_trades_32 : decode cX4_trades 32 = .ok (.ishl, 1) := by decide +kernel
theorem dX4_trades_33 : decode cX4_trades 33 = .ok (.ior, 1) := by decide +kernel
theorem dX4_trades_34 : decode cX4_trades 34 = .ok (.istore_n 2, 1) := by decide +kernel
theorem dX4_trades_35 : decode cX4_trades 35 = .ok (.iinc 3 1, 3) := by decide +kernel
theorem dX4_trades_38 : decode cX4_trades 38 = .ok (.goto (-24), 3) := by decide +kernel
theorem dX4_trades_41 : decode cX4_trades 41 = .ok (.iload_n 2, 1) := by decide +kernel
theorem dX4_trades_42 : decode cX4_trades 42 = .ok (.ireturn, 1) := by decide +kernel
set_option maxRecDepth 20000 in
theorem ggX4_ask_X4_isOne : GoodIn wsX4_ask wsX4_isOne := goodIn_r _ [7, 8, 9, 10, 6, 11, 65, 66, 67, 68, 69, 70, 71, 72, 73, 74, 75, 76, 77, 78, 79, 80, 81, 82, 83, 84, 85, 86, 87, 88, 89, 90, 91, 92, 93] (by decide +kernel) (by decide +kernel)
set_option maxRecDepth 20000 in
theorem gX4_ask_X4_isOne : GoodIn wsX4_ask (wsV RX4 195 RX4 yX4_isOne wsX4_isOne) := goodIn_app (goodIn_of _ (by decide +kernel)) ggX4_ask_X4_isOne
set_option maxRecDepth 20000 in
theorem ggX4_ask_X4_isPart : GoodIn wsX4_ask wsX4_isPart := goodIn_r _ [14, 9, 10, 6, 11] (by decide +kernel) (by decide +kernel)
set_option maxRecDepth 20000 in
theorem gX4_ask_X4_isPart : GoodIn wsX4_ask (va_wsS RX4 225 yX4_isPart wsX4_isPart) := goodIn_app (goodIn_of _ (by decide +kernel)) ggX4_ask_X4_isPart
set_option maxRecDepth 20000 in
theorem ggX4_ask_X4_isSoWith : GoodIn wsX4_ask wsX4_isSoWith := goodIn_r _ [18, 2, 19, 20, 21, 22, 23, 6, 24, 25, 26, 27, 28, 29, 30, 31, 32, 8, 33, 34, 35, 36, 37, 38, 39, 40, 41, 42, 43, 44, 45, 46, 47, 48, 49, 50, 51, 52, 53, 54, 55, 56, 57, 58, 59, 60, 61, 62, 63, 64, 65, 66, 67, 68, 69, 70, 71, 72, 73, 74, 75, 76, 77, 78, 79, 80, 81, 82, 83, 84, 85, 86, 87, 88, 89, 90, 91, 92, 93] (by decide +kernel) (by decide +kernel)
set_option maxRecDepth 20000 in
theorem gX4_ask_X4_isSoWith : GoodIn wsX4_ask (wsV RX4 268 RX4 yX4_isSoWith wsX4_isSoWith) := goodIn_app (goodIn_of _ (by decide +kernel)) ggX4_ask_X4_isSoWith
theorem dX4_ask_0 : decode cX4_ask 0 = .ok (.aload_n 0, 1) := by decide +kernel
theorem dX4_ask_1 : decode cX4_ask 1 = .ok (.iload_n 1, 1) := by decide +kernel
theorem dX4_ask_2 : decode cX4_ask 2 = .ok (.invokevirtual 195, 3) := by decide +kernel
theorem dX4_ask_5 : decode cX4_ask 5 = .ok (.ifCond .eq 10, 3) := by decide +kernel
theorem dX4_ask_8 : decode cX4_ask 8 = .ok (.iload_n 2, 1) := by decide +kernel
theorem dX4_ask_9 : decode cX4_ask 9 = .ok (.invokestatic 225, 3) := by decide +kernel
theorem dX4_ask_12 : decode cX4_ask 12 = .ok (.ifCond .ne 5, 3) := by decide +kernel
theorem dX4_ask_15 : decode cX4_ask 15 = .ok (.iconst (-1), 1) := by decide +kernel
theorem dX4_ask_16 : decode cX4_ask 16 = .ok (.ireturn, 1) := by decide +kernel
theorem dX4_ask_17 : decode cX4_ask 17 = .ok (.iconst 0, 1) := by decide +kernel
theorem dX4_ask_18 : decode cX4_ask 18 = .ok (.istore_n 3, 1) := by decide +kernel
theorem dX4_ask_19 : decode cX4_ask 19 = .ok (.bipush (-4), 2) := by decide +kernel
theorem dX4_ask_21 : decode cX4_ask 21 = .ok (.istore 4, 2) := by decide +kernel
theorem dX4_ask_23 : decode cX4_ask 23 = .ok (.iconst 0, 1) := by decide +kernel
theorem dX4_ask_24 : decode cX4_ask 24 = .ok (.istore 5, 2) := by decide +kernel
theorem dX4_ask_26 : decode cX4_ask 26 = .ok (.iload 5, 2) := by decide +kernel
theorem dX4_ask_28 : decode cX4_ask 28 = .ok (.bipush 105, 2) := by decide +kernel
theorem dX4_ask_30 : decode cX4_ask 30 = .ok (.if_icmp .ge 17, 3) := by decide +kernel
theorem dX4_ask_33 : decode cX4_ask 33 = .ok (.aload_n 0, 1) := by decide +kernel
theorem dX4_ask_34 : decode cX4_ask 34 = .ok (.getfield 32, 3) := by decide +kernel
theorem dX4_ask_37 : decode cX4_ask 37 = .ok (.iload 5, 2) := by decide +kernel
theorem dX4_ask_39 : decode cX4_ask 39 = .ok (.iconst 0, 1) := by decide +kernel
theorem dX4_ask_40 : decode cX4_ask 40 = .ok (.iastore, 1) := by decide +kernel
theorem dX4_ask_41 : decode cX4_ask 41 = .ok (.iinc 5 1, 3) := by decide +kernel
theorem dX4_ask_44 : decode cX4_ask 44 = .ok (.goto (-18), 3) := by decide +kernel
theorem dX4_ask_47 : decode cX4_ask 47 = .ok (.iconst 0, 1) := by decide +kernel
theorem dX4_ask_48 : decode cX4_ask 48 = .ok (.istore 5, 2) := by decide +kernel
theorem dX4_ask_50 : decode cX4_ask 50 = .ok (.iload 5, 2) := by decide +kernel
theorem dX4_ask_52 : decode cX4_ask 52 = .ok (.bipush 20, 2) := by decide +kernel
theorem dX4_ask_54 : decode cX4_ask 54 = .ok (.if_icmp .gt 60, 3) := by decide +kernel
theorem dX4_ask_57 : decode cX4_ask 57 = .ok (.aload_n 0, 1) := by decide +kernel
theorem dX4_ask_58 : decode cX4_ask 58 = .ok (.iload_n 1, 1) := by decide +kernel
theorem dX4_ask_59 : decode cX4_ask 59 = .ok (.iconst 2, 1) := by decide +kernel
theorem dX4_ask_60 : decode cX4_ask 60 = .ok (.iload 5, 2) := by decide +kernel
theorem dX4_ask_62 : decode cX4_ask 62 = .ok (.invokevirtual 268, 3) := by decide +kernel
theorem dX4_ask_65 : decode cX4_ask 65 = .ok (.ifCond .eq 43, 3) := by decide +kernel
theorem dX4_ask_68 : decode cX4_ask 68 = .ok (.iinc 3 1, 3) := by decide +kernel
theorem dX4_ask_71 : decode cX4_ask 71 = .ok (.iconst 0, 1) := by decide +kernel
theorem dX4_ask_72 : decode cX4_ask 72 = .ok (.istore 6, 2) := by decide +kernel
theorem dX4_ask_74 : decode cX4_ask 74 = .ok (.iload 6, 2) := by decide +kernel
theorem dX4_ask_76 : decode cX4_ask 76 = .ok (.bipush 20, 2) := by decide +kernel
theorem dX4_ask_78 : decode cX4_ask 78 = .ok (.if_icmp .gt 30, 3) := by decide +kernel
theorem dX4_ask_81 : decode cX4_ask 81 = .ok (.aload_n 0, 1) := by decide +kernel
theorem dX4_ask_82 : decode cX4_ask 82 = .ok (.getfield 32, 3) := by decide +kernel
theorem dX4_ask_85 : decode cX4_ask 85 = .ok (.iconst 5, 1) := by decide +kernel
theorem dX4_ask_86 : decode cX4_ask 86 = .ok (.iload 6, 2) := by decide +kernel
theorem dX4_ask_88 : decode cX4_ask 88 = .ok (.imul, 1) := by decide +kernel
theorem dX4_ask_89 : decode cX4_ask 89 = .ok (.aload_n 0, 1) := by decide +kernel
theorem dX4_ask_90 : decode cX4_ask 90 = .ok (.getfield 29, 3) := by decide +kernel
theorem dX4_ask_93 : decode cX4_ask 93 = .ok (.iload 6, 2) := by decide +kernel
theorem dX4_ask_95 : decode cX4_ask 95 = .ok (.iaload, 1) := by decide +kernel
theorem dX4_ask_96 : decode cX4_ask 96 = .ok (.iadd, 1) := by decide +kernel
theorem dX4_ask_97 : decode cX4_ask 97 = .ok (.dup2, 1) := by decide +kernel
theorem dX4_ask_98 : decode cX4_ask 98 = .ok (.iaload, 1) := by decide +kernel
theorem dX4_ask_99 : decode cX4_ask 99 = .ok (.iconst 1, 1) := by decide +kernel
theorem dX4_ask_100 : decode cX4_ask 100 = .ok (.iadd, 1) := by decide +kernel
theorem dX4_ask_101 : decode cX4_ask 101 = .ok (.iastore, 1) := by decide +kernel
theorem dX4_ask_102 : decode cX4_ask 102 = .ok (.iinc 6 1, 3) := by decide +kernel
theorem dX4_ask_105 : decode cX4_ask 105 = .ok (.goto (-31), 3) := by decide +kernel
theorem dX4_ask_108 : decode cX4_ask 108 = .ok (.iinc 5 1, 3) := by decide +kernel
theorem dX4_ask_111 : decode cX4_ask 111 = .ok (.goto (-61), 3) := by decide +kernel
theorem dX4_ask_114 : decode cX4_ask 114 = .ok (.iconst 0, 1) := by decide +kernel
theorem dX4_ask_115 : decode cX4_ask 115 = .ok (.istore 5, 2) := by decide +kernel
theorem dX4_ask_117 : decode cX4_ask 117 = .ok (.iload 5, 2) := by decide +kernel
theorem dX4_ask_119 : decode cX4_ask 119 = .ok (.bipush 20, 2) := by decide +kernel
theorem dX4_ask_121 : decode cX4_ask 121 = .ok (.if_icmp .gt 91, 3) := by decide +kernel
theorem dX4_ask_124 : decode cX4_ask 124 = .ok (.iconst 0, 1) := by decide +kernel
theorem dX4_ask_125 : decode cX4_ask 125 = .ok (.istore 6, 2) := by decide +kernel
theorem dX4_ask_127 : decode cX4_ask 127 = .ok (.iconst 0, 1) := by decide +kernel
theorem dX4_ask_128 : decode cX4_ask 128 = .ok (.istore 7, 2) := by decide +kernel
theorem dX4_ask_130 : decode cX4_ask 130 = .ok (.iload 7, 2) := by decide +kernel
theorem dX4_ask_132 : decode cX4_ask 132 = .ok (.iconst 5, 1) := by decide +kernel
theorem dX4_ask_133 : decode cX4_ask 133 = .ok (.if_icmp .ge 45, 3) := by decide +kernel
theorem dX4_ask_136 : decode cX4_ask 136 = .ok (.aload_n 0, 1) := by decide +kernel
theorem dX4_ask_137 : decode cX4_ask 137 = .ok (.getfield 32, 3) := by decide +kernel
theorem dX4_ask_140 : decode cX4_ask 140 = .ok (.iconst 5, 1) := by decide +kernel
theorem dX4_ask_141 : decode cX4_ask 141 = .ok (.iload 5, 2) := by decide +kernel
theorem dX4_ask_143 : decode cX4_ask 143 = .ok (.imul, 1) := by decide +kernel
theorem dX4_ask_144 : decode cX4_ask 144 = .ok (.iload 7, 2) := by decide +kernel
theorem dX4_ask_146 : decode cX4_ask 146 = .ok (.iadd, 1) := by decide +kernel
theorem dX4_ask_147 : decode cX4_ask 147 = .ok (.iaload, 1) := by decide +kernel
theorem dX4_ask_148 : decode cX4_ask 148 = .ok (.iload 6, 2) := by decide +kernel
theorem dX4_ask_150 : decode cX4_ask 150 = .ok (.if_icmp .le 18, 3) := by decide +kernel
theorem dX4_ask_153 : decode cX4_ask 153 = .ok (.aload_n 0, 1) := by decide +kernel
theorem dX4_ask_154 : decode cX4_ask 154 = .ok (.getfield 32, 3) := by decide +kernel
theorem dX4_ask_157 : decode cX4_ask 157 = .ok (.iconst 5, 1) := by decide +kernel
theorem dX4_ask_158 : decode cX4_ask 158 = .ok (.iload 5, 2) := by decide +kernel
theorem dX4_ask_160 : decode cX4_ask 160 = .ok (.imul, 1) := by decide +kernel
theorem dX4_ask_161 : decode cX4_ask 161 = .ok (.iload 7, 2) := by decide +kernel
theorem dX4_ask_163 : decode cX4_ask 163 = .ok (.iadd, 1) := by decide +kernel
theorem dX4_ask_164 : decode cX4_ask 164 = .ok (.iaload, 1) := by decide +kernel
theorem dX4_ask_165 : decode cX4_ask 165 = .ok (.goto 5, 3) := by decide +kernel
theorem dX4_ask_168 : decode cX4_ask 168 = .ok (.iload 6, 2) := by decide +kernel
theorem dX4_ask_170 : decode cX4_ask 170 = .ok (.istore 6, 2) := by decide +kernel
theorem dX4_ask_172 : decode cX4_ask 172 = .ok (.iinc 7 1, 3) := by decide +kernel
theorem dX4_ask_175 : decode cX4_ask 175 = .ok (.goto (-45), 3) := by decide +kernel
theorem dX4_ask_178 : decode cX4_ask 178 = .ok (.iload 6, 2) := by decide +kernel
theorem dX4_ask_180 : decode cX4_ask 180 = .ok (.iload_n 3, 1) := by decide +kernel
theorem dX4_ask_181 : decode cX4_ask 181 = .ok (.if_icmp .ge 8, 3) := by decide +kernel
theorem dX4_ask_184 : decode cX4_ask 184 = .ok (.iload 5, 2) := by decide +kernel
theorem dX4_ask_186 : decode cX4_ask 186 = .ok (.goto 5, 3) := by decide +kernel
theorem dX4_ask_189 : decode cX4_ask 189 = .ok (.iload 4, 2) := by decide +kernel
theorem dX4_ask_191 : decode cX4_ask 191 = .ok (.istore 4, 2) := by decide +kernel
theorem dX4_ask_193 : decode cX4_ask 193 = .ok (.iload 6, 2) := by decide +kernel
theorem dX4_ask_195 : decode cX4_ask 195 = .ok (.iload_n 3, 1) := by decide +kernel
theorem dX4_ask_196 : decode cX4_ask 196 = .ok (.if_icmp .ge 8, 3) := by decide +kernel
theorem dX4_ask_199 : decode cX4_ask 199 = .ok (.iload 6, 2) := by decide +kernel
theorem dX4_ask_201 : decode cX4_ask 201 = .ok (.goto 4, 3) := by decide +kernel
theorem dX4_ask_204 : decode cX4_ask 204 = .ok (.iload_n 3, 1) := by decide +kernel
theorem dX4_ask_205 : decode cX4_ask 205 = .ok (.istore_n 3, 1) := by decide +kernel
theorem dX4_ask_206 : decode cX4_ask 206 = .ok (.iinc 5 1, 3) := by decide +kernel
theorem dX4_ask_209 : decode cX4_ask 209 = .ok (.goto (-92), 3) := by decide +kernel
theorem dX4_ask_212 : decode cX4_ask 212 = .ok (.iload 4, 2) := by decide +kernel
theorem dX4_ask_214 : decode cX4_ask 214 = .ok (.bipush (-4), 2) := by decide +kernel
theorem dX4_ask_216 : decode cX4_ask 216 = .ok (.if_icmp .ne 8, 3) := by decide +kernel
theorem dX4_ask_219 : decode cX4_ask 219 = .ok (.bipush (-4), 2) := by decide +kernel
theorem dX4_ask_221 : decode cX4_ask 221 = .ok (.goto 13, 3) := by decide +kernel
theorem dX4_ask_224 : decode cX4_ask 224 = .ok (.iload_n 2, 1) := by decide +kernel
theorem dX4_ask_225 : decode cX4_ask 225 = .ok (.ifCond .ne 8, 3) := by decide +kernel
theorem dX4_ask_228 : decode cX4_ask 228 = .ok (.iload 4, 2) := by decide +kernel
theorem dX4_ask_230 : decode cX4_ask 230 = .ok (.goto 4, 3) := by decide +kernel
theorem dX4_ask_233 : decode cX4_ask 233 = .ok (.iload_n 3, 1) := by decide +kernel
theorem dX4_ask_234 : decode cX4_ask 234 = .ok (.ireturn, 1) := by decide +kernel
set_option maxRecDepth 20000 in
theorem ggX4_drift_X4_in : GoodIn wsX4_drift wsX4_in := goodIn_r _ [8] (by decide +kernel) (by decide +kernel)
set_option maxRecDepth 20000 in
theorem gX4_drift_X4_in : GoodIn wsX4_drift (va_wsS RX4 72 yX4_in wsX4_in) := goodIn_app (goodIn_of _ (by decide +kernel)) ggX4_drift_X4_in
set_option maxRecDepth 20000 in
theorem ggX4_drift_X4_isPart : GoodIn wsX4_drift wsX4_isPart := goodIn_r _ [11, 5, 6, 7, 8] (by decide +kernel) (by decide +kernel)
set_option maxRecDepth 20000 in
theorem gX4_drift_X4_isPart : GoodIn wsX4_drift (va_wsS RX4 225 yX4_isPart wsX4_isPart) := goodIn_app (goodIn_of _ (by decide +kernel)) ggX4_drift_X4_isPart
set_option maxRecDepth 20000 in
theorem ggX4_drift_X4_starts : GoodIn wsX4_drift wsX4_starts := goodIn_r _ [15, 4, 16, 61, 62, 63, 64, 65, 66, 67, 68, 69, 70, 71, 72, 73, 74, 75, 76, 77, 78, 79, 80, 81, 82, 83, 84, 85, 86, 87, 88, 89] (by decide +kernel) (by decide +kernel)
set_option maxRecDepth 20000 in
theorem gX4_drift_X4_starts : GoodIn wsX4_drift (wsV RX4 186 RX4 yX4_starts wsX4_starts) := goodIn_app (goodIn_of _ (by decide +kernel)) ggX4_drift_X4_starts
set_option maxRecDepth 20000 in
theorem ggX4_drift_X4_quarterGoes : GoodIn wsX4_drift wsX4_quarterGoes := goodIn_r _ [20, 2, 21, 4, 22, 23, 24, 25, 7, 26, 27, 28, 29, 30, 31, 32, 33, 34, 35, 36, 37, 38, 39, 40, 41, 42, 43, 44, 45, 46, 47, 48, 49, 50, 51, 52, 53, 54, 55, 56, 61, 62, 63, 64, 65, 66, 67, 68, 69, 70, 71, 72, 73, 74, 75, 76, 77, 78, 79, 80, 81, 82, 83, 84, 85, 86, 87, 88, 89] (by decide +kernel) (by decide +kernel)
set_option maxRecDepth 20000 in
theorem gX4_drift_X4_quarterGoes : GoodIn wsX4_drift (wsV RX4 183 RX4 yX4_quarterGoes wsX4_quarterGoes) := goodIn_app (goodIn_of _ (by decide +kernel)) ggX4_drift_X4_quarterGoes
set_option maxRecDepth 20000 in
theorem ggX4_drift_X4_allOf : GoodIn wsX4_drift wsX4_allOf := goodIn_r _ [60, 2, 27, 28, 29, 7, 30, 4, 61, 62, 63, 64, 65, 66, 67, 68, 69, 70, 71, 72, 73, 74, 75, 76, 77, 78, 79, 80, 81, 82, 83, 84, 85, 86, 87, 88, 89] (by decide +kernel) (by decide +kernel)
set_option maxRecDepth 20000 in
theorem gX4_drift_X4_allOf : GoodIn wsX4_drift (wsV RX4 189 RX4 yX4_allOf wsX4_allOf) := goodIn_app (goodIn_of _ (by decide +kernel)) ggX4_drift_X4_allOf
theorem dX4_drift_0 : decode cX4_drift 0 = .ok (.iload_n 2, 1) := by decide +kernel
theorem dX4_drift_1 : decode cX4_drift 1 = .ok (.i2l, 1) := by decide +kernel
theorem dX4_drift_2 : decode cX4_drift 2 = .ok (.lconst 1, 1) := by decide +kernel
theorem dX4_drift_3 : decode cX4_drift 3 = .ok (.ldc2_w 220, 3) := by decide +kernel
theorem dX4_drift_6 : decode cX4_drift 6 = .ok (.invokestatic 72, 3) := by decide +kernel
theorem dX4_drift_9 : decode cX4_drift 9 = .ok (.ifCond .eq 10, 3) := by decide +kernel
theorem dX4_drift_12 : decode cX4_drift 12 = .ok (.iload_n 3, 1) := by decide +kernel
theorem dX4_drift_13 : decode cX4_drift 13 = .ok (.invokestatic 225, 3) := by decide +kernel
theorem dX4_drift_16 : decode cX4_drift 16 = .ok (.ifCond .ne 5, 3) := by decide +kernel
theorem dX4_drift_19 : decode cX4_drift 19 = .ok (.iconst (-1), 1) := by decide +kernel
theorem dX4_drift_20 : decode cX4_drift 20 = .ok (.ireturn, 1) := by decide +kernel
theorem dX4_drift_21 : decode cX4_drift 21 = .ok (.aload_n 0, 1) := by decide +kernel
theorem dX4_drift_22 : decode cX4_drift 22 = .ok (.getfield 67, 3) := by decide +kernel
theorem dX4_drift_25 : decode cX4_drift 25 = .ok (.ifCond .ne 6, 3) := by decide +kernel
theorem dX4_drift_28 : decode cX4_drift 28 = .ok (.bipush (-2), 2) := by decide +kernel
theorem dX4_drift_30 : decode cX4_drift 30 = .ok (.ireturn, 1) := by decide +kernel
theorem dX4_drift_31 : decode cX4_drift 31 = .ok (.iload_n 1, 1) := by decide +kernel
theorem dX4_drift_32 : decode cX4_drift 32 = .ok (.istore 4, 2) := by decide +kernel
theorem dX4_drift_34 : decode cX4_drift 34 = .ok (.aload_n 0, 1) := by decide +kernel
theorem dX4_drift_35 : decode cX4_drift 35 = .ok (.invokevirtual 186, 3) := by decide +kernel
theorem dX4_drift_38 : decode cX4_drift 38 = .ok (.iconst 0, 1) := by decide +kernel
theorem dX4_drift_39 : decode cX4_drift 39 = .ok (.istore 5, 2) := by decide +kernel
theorem dX4_drift_41 : decode cX4_drift 41 = .ok (.iload 5, 2) := by decide +kernel
theorem dX4_drift_43 : decode cX4_drift 43 = .ok (.iload_n 2, 1) := by decide +kernel
theorem dX4_drift_44 : decode cX4_drift 44 = .ok (.if_icmp .ge 44, 3) := by decide +kernel
theorem dX4_drift_47 : decode cX4_drift 47 = .ok (.iload 4, 2) := by decide +kernel
theorem dX4_drift_49 : decode cX4_drift 49 = .ok (.ldc_w 271, 3) := by decide +kernel
theorem dX4_drift_52 : decode cX4_drift 52 = .ok (.imul, 1) := by decide +kernel
theorem dX4_drift_53 : decode cX4_drift 53 = .ok (.sipush 12345, 3) := by decide +kernel
theorem dX4_drift_56 : decode cX4_drift 56 = .ok (.iadd, 1) := by decide +kernel
theorem dX4_drift_57 : decode cX4_drift 57 = .ok (.istore 4, 2) := by decide +kernel
theorem dX4_drift_59 : decode cX4_drift 59 = .ok (.aload_n 0, 1) := by decide +kernel
theorem dX4_drift_60 : decode cX4_drift 60 = .ok (.getfield 13, 3) := by decide +kernel
theorem dX4_drift_63 : decode cX4_drift 63 = .ok (.bipush 21, 2) := by decide +kernel
theorem dX4_drift_65 : decode cX4_drift 65 = .ok (.iload 4, 2) := by decide +kernel
theorem dX4_drift_67 : decode cX4_drift 67 = .ok (.bipush 16, 2) := by decide +kernel
theorem dX4_drift_69 : decode cX4_drift 69 = .ok (.ishr, 1) := by decide +kernel
theorem dX4_drift_70 : decode cX4_drift 70 = .ok (.sipush 32767, 3) := by decide +kernel
theorem dX4_drift_73 : decode cX4_drift 73 = .ok (.iand, 1) := by decide +kernel
theorem dX4_drift_74 : decode cX4_drift 74 = .ok (.bipush 10, 2) := by decide +kernel
theorem dX4_drift_76 : decode cX4_drift 76 = .ok (.irem, 1) := by decide +kernel
theorem dX4_drift_77 : decode cX4_drift 77 = .ok (.iastore, 1) := by decide +kernel
theorem dX4_drift_78 : decode cX4_drift 78 = .ok (.aload_n 0, 1) := by decide +kernel
theorem dX4_drift_79 : decode cX4_drift 79 = .ok (.invokevirtual 183, 3) := by decide +kernel
theorem dX4_drift_82 : decode cX4_drift 82 = .ok (.iinc 5 1, 3) := by decide +kernel
theorem dX4_drift_85 : decode cX4_drift 85 = .ok (.goto (-44), 3) := by decide +kernel
theorem dX4_drift_88 : decode cX4_drift 88 = .ok (.iload_n 3, 1) := by decide +kernel
theorem dX4_drift_89 : decode cX4_drift 89 = .ok (.ifCond .ne 11, 3) := by decide +kernel
theorem dX4_drift_92 : decode cX4_drift 92 = .ok (.aload_n 0, 1) := by decide +kernel
theorem dX4_drift_93 : decode cX4_drift 93 = .ok (.iconst 1, 1) := by decide +kernel
theorem dX4_drift_94 : decode cX4_drift 94 = .ok (.invokevirtual 189, 3) := by decide +kernel
theorem dX4_drift_97 : decode cX4_drift 97 = .ok (.goto 10, 3) := by decide +kernel
theorem dX4_drift_100 : decode cX4_drift 100 = .ok (.aload_n 0, 1) := by decide +kernel
theorem dX4_drift_101 : decode cX4_drift 101 = .ok (.getfield 13, 3) := by decide +kernel
theorem dX4_drift_104 : decode cX4_drift 104 = .ok (.bipush 22, 2) := by decide +kernel
theorem dX4_drift_106 : decode cX4_drift 106 = .ok (.iaload, 1) := by decide +kernel
theorem dX4_drift_107 : decode cX4_drift 107 = .ok (.ireturn, 1) := by decide +kernel
theorem dX4_copies_0 : decode cX4_copies 0 = .ok (.iconst 0, 1) := by decide +kernel
theorem dX4_copies_1 : decode cX4_copies 1 = .ok (.istore_n 3, 1) := by decide +kernel
theorem dX4_copies_2 : decode cX4_copies 2 = .ok (.iload_n 3, 1) := by decide +kernel
theorem dX4_copies_3 : decode cX4_copies 3 = .ok (.bipush 57, 2) := by decide +kernel
theorem dX4_copies_5 : decode cX4_copies 5 = .ok (.if_icmp .ge 25, 3) := by decide +kernel
theorem dX4_copies_8 : decode cX4_copies 8 = .ok (.aload_n 0, 1) := by decide +kernel
theorem dX4_copies_9 : decode cX4_copies 9 = .ok (.getfield 7, 3) := by decide +kernel
theorem dX4_copies_12 : decode cX4_copies 12 = .ok (.iload_n 1, 1) := by decide +kernel
theorem dX4_copies_13 : decode cX4_copies 13 = .ok (.iload_n 3, 1) := by decide +kernel
theorem dX4_copies_14 : decode cX4_copies 14 = .ok (.iadd, 1) := by decide +kernel
theorem dX4_copies_15 : decode cX4_copies 15 = .ok (.aload_n 0, 1) := by decide +kernel
theorem dX4_copies_16 : decode cX4_copies 16 = .ok (.getfield 7, 3) := by decide +kernel
theorem dX4_copies_19 : decode cX4_copies 19 = .ok (.iload_n 2, 1) := by decide +kernel
theorem dX4_copies_20 : decode cX4_copies 20 = .ok (.iload_n 3, 1) := by decide +kernel
theorem dX4_copies_21 : decode cX4_copies 21 = .ok (.iadd, 1) := by decide +kernel
theorem dX4_copies_22 : decode cX4_copies 22 = .ok (.iaload, 1) := by decide +kernel
theorem dX4_copies_23 : decode cX4_copies 23 = .ok (.iastore, 1) := by decide +kernel
theorem dX4_copies_24 : decode cX4_copies 24 = .ok (.iinc 3 1, 3) := by decide +kernel
theorem dX4_copies_27 : decode cX4_copies 27 = .ok (.goto (-25), 3) := by decide +kernel
theorem dX4_copies_30 : decode cX4_copies 30 = .ok (.return_, 1) := by decide +kernel
set_option maxRecDepth 20000 in
theorem ggX4_keep_X4_in : GoodIn wsX4_keep wsX4_in := goodIn_r _ [5] (by decide +kernel) (by decide +kernel)
set_option maxRecDepth 20000 in
theorem gX4_keep_X4_in : GoodIn wsX4_keep (va_wsS RX4 72 yX4_in wsX4_in) := goodIn_app (goodIn_of _ (by decide +kernel)) ggX4_keep_X4_in
set_option maxRecDepth 20000 in
theorem ggX4_keep_X4_flag : GoodIn wsX4_keep wsX4_flag := goodIn_r _ [8] (by decide +kernel) (by decide +kernel)
set_option maxRecDepth 20000 in
theorem gX4_keep_X4_flag : GoodIn wsX4_keep (va_wsS RX4 154 yX4_flag wsX4_flag) := goodIn_app (goodIn_of _ (by decide +kernel)) ggX4_keep_X4_flag
set_option maxRecDepth 20000 in
theorem ggX4_keep_X4_copies : GoodIn wsX4_keep wsX4_copies := goodIn_r _ [12, 13, 14, 15, 16, 17, 18, 19, 20, 21, 22, 23, 24, 25, 26, 27, 28, 29, 30, 31, 32, 33, 34, 35, 36, 37, 38, 39, 40, 41, 42] (by decide +kernel) (by decide +kernel)
set_option maxRecDepth 20000 in
theorem gX4_keep_X4_copies : GoodIn wsX4_keep (wsV RX4 272 RX4 yX4_copies wsX4_copies) := goodIn_app (goodIn_of _ (by decide +kernel)) ggX4_keep_X4_copies
theorem dX4_keep_0 : decode cX4_keep 0 = .ok (.iload_n 1, 1) := by decide +kernel
theorem dX4_keep_1 : decode cX4_keep 1 = .ok (.i2l, 1) := by decide +kernel
theorem dX4_keep_2 : decode cX4_keep 2 = .ok (.lconst 0, 1) := by decide +kernel
theorem dX4_keep_3 : decode cX4_keep 3 = .ok (.lconst 1, 1) := by decide +kernel
theorem dX4_keep_4 : decode cX4_keep 4 = .ok (.invokestatic 72, 3) := by decide +kernel
theorem dX4_keep_7 : decode cX4_keep 7 = .ok (.ifCond .ne 5, 3) := by decide +kernel
theorem dX4_keep_10 : decode cX4_keep 10 = .ok (.iconst (-1), 1) := by decide +kernel
theorem dX4_keep_11 : decode cX4_keep 11 = .ok (.ireturn, 1) := by decide +kernel
theorem dX4_keep_12 : decode cX4_keep 12 = .ok (.aload_n 0, 1) := by decide +kernel
theorem dX4_keep_13 : decode cX4_keep 13 = .ok (.getfield 16, 3) := by decide +kernel
theorem dX4_keep_16 : decode cX4_keep 16 = .ok (.iload_n 1, 1) := by decide +kernel
theorem dX4_keep_17 : decode cX4_keep 17 = .ok (.baload, 1) := by decide +kernel
theorem dX4_keep_18 : decode cX4_keep 18 = .ok (.invokestatic 154, 3) := by decide +kernel
theorem dX4_keep_21 : decode cX4_keep 21 = .ok (.istore_n 2, 1) := by decide +kernel
theorem dX4_keep_22 : decode cX4_keep 22 = .ok (.aload_n 0, 1) := by decide +kernel
theorem dX4_keep_23 : decode cX4_keep 23 = .ok (.getfield 16, 3) := by decide +kernel
theorem dX4_keep_26 : decode cX4_keep 26 = .ok (.iload_n 1, 1) := by decide +kernel
theorem dX4_keep_27 : decode cX4_keep 27 = .ok (.iconst 1, 1) := by decide +kernel
theorem dX4_keep_28 : decode cX4_keep 28 = .ok (.bastore, 1) := by decide +kernel
theorem dX4_keep_29 : decode cX4_keep 29 = .ok (.aload_n 0, 1) := by decide +kernel
theorem dX4_keep_30 : decode cX4_keep 30 = .ok (.bipush 57, 2) := by decide +kernel
theorem dX4_keep_32 : decode cX4_keep 32 = .ok (.iload_n 1, 1) := by decide +kernel
theorem dX4_keep_33 : decode cX4_keep 33 = .ok (.iconst 1, 1) := by decide +kernel
theorem dX4_keep_34 : decode cX4_keep 34 = .ok (.iadd, 1) := by decide +kernel
theorem dX4_keep_35 : decode cX4_keep 35 = .ok (.imul, 1) := by decide +kernel
theorem dX4_keep_36 : decode cX4_keep 36 = .ok (.iconst 0, 1) := by decide +kernel
theorem dX4_keep_37 : decode cX4_keep 37 = .ok (.invokevirtual 272, 3) := by decide +kernel
theorem dX4_keep_40 : decode cX4_keep 40 = .ok (.iload_n 2, 1) := by decide +kernel
theorem dX4_keep_41 : decode cX4_keep 41 = .ok (.ireturn, 1) := by decide +kernel
set_option maxRecDepth 20000 in
theorem ggX4_back_X4_in : GoodIn wsX4_back wsX4_in := goodIn_r _ [6] (by decide +kernel) (by decide +kernel)
set_option maxRecDepth 20000 in
theorem gX4_back_X4_in : GoodIn wsX4_back (va_wsS RX4 72 yX4_in wsX4_in) := goodIn_app (goodIn_of _ (by decide +kernel)) ggX4_back_X4_in
set_option maxRecDepth 20000 in
theorem ggX4_back_X4_copies : GoodIn wsX4_back wsX4_copies := goodIn_r _ [10, 2, 11, 12, 13, 14, 15, 16, 17, 18, 19, 20, 21, 22, 23, 24, 25, 26, 27, 28, 29, 30, 31, 32, 33, 34, 35, 36, 37, 38, 39] (by decide +kernel) (by decide +kernel)
set_option maxRecDepth 20000 in
theorem gX4_back_X4_copies : GoodIn wsX4_back (wsV RX4 272 RX4 yX4_copies wsX4_copies) := goodIn_app (goodIn_of _ (by decide +kernel)) ggX4_back_X4_copies
theorem dX4_back_0 : decode cX4_back 0 = .ok (.iload_n 1, 1) := by decide +kernel
theorem dX4_back_1 : decode cX4_back 1 = .ok (.i2l, 1) := by decide +kernel
theorem dX4_back_2 : decode cX4_back 2 = .ok (.lconst 0, 1) := by decide +kernel
theorem dX4_back_3 : decode cX4_back 3 = .ok (.lconst 1, 1) := by decide +kernel
theorem dX4_back_4 : decode cX4_back 4 = .ok (.invokestatic 72, 3) := by decide +kernel
theorem dX4_back_7 : decode cX4_back 7 = .ok (.ifCond .ne 5, 3) := by decide +kernel
theorem dX4_back_10 : decode cX4_back 10 = .ok (.iconst (-1), 1) := by decide +kernel
theorem dX4_back_11 : decode cX4_back 11 = .ok (.ireturn, 1) := by decide +kernel
theorem dX4_back_12 : decode cX4_back 12 = .ok (.aload_n 0, 1) := by decide +kernel
theorem dX4_back_13 : decode cX4_back 13 = .ok (.getfield 16, 3) := by decide +kernel
theorem dX4_back_16 : decode cX4_back 16 = .ok (.iload_n 1, 1) := by decide +kernel
theorem dX4_back_17 : decode cX4_back 17 = .ok (.baload, 1) := by decide +kernel
theorem dX4_back_18 : decode cX4_back 18 = .ok (.ifCond .ne 6, 3) := by decide +kernel
theorem dX4_back_21 : decode cX4_back 21 = .ok (.bipush (-2), 2) := by decide +kernel
theorem dX4_back_23 : decode cX4_back 23 = .ok (.ireturn, 1) := by decide +kernel
theorem dX4_back_24 : decode cX4_back 24 = .ok (.aload_n 0, 1) := by decide +kernel
theorem dX4_back_25 : decode cX4_back 25 = .ok (.iconst 0, 1) := by decide +kernel
theorem dX4_back_26 : decode cX4_back 26 = .ok (.bipush 57, 2) := by decide +kernel
theorem dX4_back_28 : decode cX4_back 28 = .ok (.iload_n 1, 1) := by decide +kernel
theorem dX4_back_29 : decode cX4_back 29 = .ok (.iconst 1, 1) := by decide +kernel
theorem dX4_back_30 : decode cX4_back 30 = .ok (.iadd, 1) := by decide +kernel
theorem dX4_back_31 : decode cX4_back 31 = .ok (.imul, 1) := by decide +kernel
theorem dX4_back_32 : decode cX4_back 32 = .ok (.invokevirtual 272, 3) := by decide +kernel
theorem dX4_back_35 : decode cX4_back 35 = .ok (.aload_n 0, 1) := by decide +kernel
theorem dX4_back_36 : decode cX4_back 36 = .ok (.getfield 7, 3) := by decide +kernel
theorem dX4_back_39 : decode cX4_back 39 = .ok (.bipush 20, 2) := by decide +kernel
theorem dX4_back_41 : decode cX4_back 41 = .ok (.iaload, 1) := by decide +kernel
theorem dX4_back_42 : decode cX4_back 42 = .ok (.ireturn, 1) := by decide +kernel
set_option maxRecDepth 20000 in
theorem ggX4_isSheet_X4_in : GoodIn wsX4_isSheet wsX4_in := goodIn_r _ [6] (by decide +kernel) (by decide +kernel)
set_option maxRecDepth 20000 in
theorem gX4_isSheet_X4_in : GoodIn wsX4_isSheet (va_wsS RX4 72 yX4_in wsX4_in) := goodIn_app (goodIn_of _ (by decide +kernel)) ggX4_isSheet_X4_in
theorem dX4_isSheet_0 : decode cX4_isSheet 0 = .ok (.iload_n 0, 1) := by decide +kernel
theorem dX4_isSheet_1 : decode cX4_isSheet 1 = .ok (.i2l, 1) := by decide +kernel
theorem dX4_isSheet_2 : decode cX4_isSheet 2 = .ok (.lconst 0, 1) := by decide +kernel
theorem dX4_isSheet_3 : decode cX4_isSheet 3 = .ok (.ldc2_w 201, 3) := by decide +kernel
theorem dX4_isSheet_6 : decode cX4_isSheet 6 = .ok (.invokestatic 72, 3) := by decide +kernel
theorem dX4_isSheet_9 : decode cX4_isSheet 9 = .ok (.ifCond .eq 19, 3) := by decide +kernel
theorem dX4_isSheet_12 : decode cX4_isSheet 12 = .ok (.iload_n 1, 1) := by decide +kernel
theorem dX4_isSheet_13 : decode cX4_isSheet 13 = .ok (.i2l, 1) := by decide +kernel
theorem dX4_isSheet_14 : decode cX4_isSheet 14 = .ok (.lconst 0, 1) := by decide +kernel
theorem dX4_isSheet_15 : decode cX4_isSheet 15 = .ok (.ldc2_w 276, 3) := by decide +kernel
theorem dX4_isSheet_18 : decode cX4_isSheet 18 = .ok (.invokestatic 72, 3) := by decide +kernel
theorem dX4_isSheet_21 : decode cX4_isSheet 21 = .ok (.ifCond .eq 7, 3) := by decide +kernel
theorem dX4_isSheet_24 : decode cX4_isSheet 24 = .ok (.iconst 1, 1) := by decide +kernel
theorem dX4_isSheet_25 : decode cX4_isSheet 25 = .ok (.goto 4, 3) := by decide +kernel
theorem dX4_isSheet_28 : decode cX4_isSheet 28 = .ok (.iconst 0, 1) := by decide +kernel
theorem dX4_isSheet_29 : decode cX4_isSheet 29 = .ok (.ireturn, 1) := by decide +kernel
set_option maxRecDepth 20000 in
theorem ggX4_sheet_X4_isSheet : GoodIn wsX4_sheet wsX4_isSheet := goodIn_r _ [7, 8, 9, 10, 11, 6, 12] (by decide +kernel) (by decide +kernel)
set_option maxRecDepth 20000 in
theorem gX4_sheet_X4_isSheet : GoodIn wsX4_sheet (va_wsS RX4 278 yX4_isSheet wsX4_isSheet) := goodIn_app (goodIn_of _ (by decide +kernel)) ggX4_sheet_X4_isSheet
theorem dX4_sheet_0 : decode cX4_sheet 0 = .ok (.iload_n 1, 1) := by decide +kernel
theorem dX4_sheet_1 : decode cX4_sheet 1 = .ok (.iload_n 2, 1) := by decide +kernel
theorem dX4_sheet_2 : decode cX4_sheet 2 = .ok (.invokestatic 278, 3) := by decide +kernel
theorem dX4_sheet_5 : decode cX4_sheet 5 = .ok (.ifCond .eq 9, 3) := by decide +kernel
theorem dX4_sheet_8 : decode cX4_sheet 8 = .ok (.iload_n 3, 1) := by decide +kernel
theorem dX4_sheet_9 : decode cX4_sheet 9 = .ok (.bipush 40, 2) := by decide +kernel
theorem dX4_sheet_11 : decode cX4_sheet 11 = .ok (.if_icmp .le 5, 3) := by decide +kernel
theorem dX4_sheet_14 : decode cX4_sheet 14 = .ok (.iconst (-1), 1) := by decide +kernel
theorem dX4_sheet_15 : decode cX4_sheet 15 = .ok (.ireturn, 1) := by decide +kernel
theorem dX4_sheet_16 : decode cX4_sheet 16 = .ok (.iload_n 3, 1) := by decide +kernel
theorem dX4_sheet_17 : decode cX4_sheet 17 = .ok (.ifCond .ge 6, 3) := by decide +kernel
theorem dX4_sheet_20 : decode cX4_sheet 20 = .ok (.bipush (-14), 2) := by decide +kernel
theorem dX4_sheet_22 : decode cX4_sheet 22 = .ok (.ireturn, 1) := by decide +kernel
theorem dX4_sheet_23 : decode cX4_sheet 23 = .ok (.aload_n 0, 1) := by decide +kernel
theorem dX4_sheet_24 : decode cX4_sheet 24 = .ok (.getfield 35, 3) := by decide +kernel
theorem dX4_sheet_27 : decode cX4_sheet 27 = .ok (.iload_n 1, 1) := by decide +kernel
theorem dX4_sheet_28 : decode cX4_sheet 28 = .ok (.iload_n 2, 1) := by decide +kernel
theorem dX4_sheet_29 : decode cX4_sheet 29 = .ok (.iastore, 1) := by decide +kernel
theorem dX4_sheet_30 : decode cX4_sheet 30 = .ok (.aload_n 0, 1) := by decide +kernel
theorem dX4_sheet_31 : decode cX4_sheet 31 = .ok (.getfield 38, 3) := by decide +kernel
theorem dX4_sheet_34 : decode cX4_sheet 34 = .ok (.iload_n 1, 1) := by decide +kernel
theorem dX4_sheet_35 : decode cX4_sheet 35 = .ok (.iload_n 3, 1) := by decide +kernel
theorem dX4_sheet_36 : decode cX4_sheet 36 = .ok (.iastore, 1) := by decide +kernel
theorem dX4_sheet_37 : decode cX4_sheet 37 = .ok (.iconst 0, 1) := by decide +kernel
theorem dX4_sheet_38 : decode cX4_sheet 38 = .ok (.istore 4, 2) := by decide +kernel
theorem dX4_sheet_40 : decode cX4_sheet 40 = .ok (.iload 4, 2) := by decide +kernel
theorem dX4_sheet_42 : decode cX4_sheet 42 = .ok (.bipush 40, 2) := by decide +kernel
theorem dX4_sheet_44 : decode cX4_sheet 44 = .ok (.if_icmp .ge 22, 3) := by decide +kernel
theorem dX4_sheet_47 : decode cX4_sheet 47 = .ok (.aload_n 0, 1) := by decide +kernel
theorem dX4_sheet_48 : decode cX4_sheet 48 = .ok (.getfield 41, 3) := by decide +kernel
theorem dX4_sheet_51 : decode cX4_sheet 51 = .ok (.bipush 40, 2) := by decide +kernel
theorem dX4_sheet_53 : decode cX4_sheet 53 = .ok (.iload_n 1, 1) := by decide +kernel
theorem dX4_sheet_54 : decode cX4_sheet 54 = .ok (.imul, 1) := by decide +kernel
theorem dX4_sheet_55 : decode cX4_sheet 55 = .ok (.iload 4, 2) := by decide +kernel
theorem dX4_sheet_57 : decode cX4_sheet 57 = .ok (.iadd, 1) := by decide +kernel
theorem dX4_sheet_58 : decode cX4_sheet 58 = .ok (.iconst 0, 1) := by decide +kernel
theorem dX4_sheet_59 : decode cX4_sheet 59 = .ok (.iastore, 1) := by decide +kernel
theorem dX4_sheet_60 : decode cX4_sheet 60 = .ok (.iinc 4 1, 3) := by decide +kernel
theorem dX4_sheet_63 : decode cX4_sheet 63 = .ok (.goto (-23), 3) := by decide +kernel
theorem dX4_sheet_66 : decode cX4_sheet 66 = .ok (.iconst 1, 1) := by decide +kernel
theorem dX4_sheet_67 : decode cX4_sheet 67 = .ok (.ireturn, 1) := by decide +kernel
set_option maxRecDepth 20000 in
theorem ggX4_lay_X4_isSheet : GoodIn wsX4_lay wsX4_isSheet := goodIn_r _ [7, 8, 9, 10, 11, 6, 12] (by decide +kernel) (by decide +kernel)
set_option maxRecDepth 20000 in
theorem gX4_lay_X4_isSheet : GoodIn wsX4_lay (va_wsS RX4 278 yX4_isSheet wsX4_isSheet) := goodIn_app (goodIn_of _ (by decide +kernel)) ggX4_lay_X4_isSheet
set_option maxRecDepth 20000 in
theorem ggX4_lay_X4_in : GoodIn wsX4_lay wsX4_in := goodIn_r _ [12] (by decide +kernel) (by decide +kernel)
set_option maxRecDepth 20000 in
theorem gX4_lay_X4_in : GoodIn wsX4_lay (va_wsS RX4 72 yX4_in wsX4_in) := goodIn_app (goodIn_of _ (by decide +kernel)) ggX4_lay_X4_in
theorem dX4_lay_0 : decode cX4_lay 0 = .ok (.iload_n 1, 1) := by decide +kernel
theorem dX4_lay_1 : decode cX4_lay 1 = .ok (.iconst 0, 1) := by decide +kernel
theorem dX4_lay_2 : decode cX4_lay 2 = .ok (.invokestatic 278, 3) := by decide +kernel
theorem dX4_lay_5 : decode cX4_lay 5 = .ok (.ifCond .ne 5, 3) := by decide +kernel
theorem dX4_lay_8 : decode cX4_lay 8 = .ok (.iconst (-1), 1) := by decide +kernel
theorem dX4_lay_9 : decode cX4_lay 9 = .ok (.ireturn, 1) := by decide +kernel
theorem dX4_lay_10 : decode cX4_lay 10 = .ok (.aload_n 0, 1) := by decide +kernel
theorem dX4_lay_11 : decode cX4_lay 11 = .ok (.getfield 35, 3) := by decide +kernel
theorem dX4_lay_14 : decode cX4_lay 14 = .ok (.iload_n 1, 1) := by decide +kernel
theorem dX4_lay_15 : decode cX4_lay 15 = .ok (.iaload, 1) := by decide +kernel
theorem dX4_lay_16 : decode cX4_lay 16 = .ok (.bipush (-4), 2) := by decide +kernel
theorem dX4_lay_18 : decode cX4_lay 18 = .ok (.if_icmp .ne 6, 3) := by decide +kernel
theorem dX4_lay_21 : decode cX4_lay 21 = .ok (.bipush (-11), 2) := by decide +kernel
theorem dX4_lay_23 : decode cX4_lay 23 = .ok (.ireturn, 1) := by decide +kernel
theorem dX4_lay_24 : decode cX4_lay 24 = .ok (.iload_n 2, 1) := by decide +kernel
theorem dX4_lay_25 : decode cX4_lay 25 = .ok (.i2l, 1) := by decide +kernel
theorem dX4_lay_26 : decode cX4_lay 26 = .ok (.lconst 0, 1) := by decide +kernel
theorem dX4_lay_27 : decode cX4_lay 27 = .ok (.aload_n 0, 1) := by decide +kernel
theorem dX4_lay_28 : decode cX4_lay 28 = .ok (.getfield 38, 3) := by decide +kernel
theorem dX4_lay_31 : decode cX4_lay 31 = .ok (.iload_n 1, 1) := by decide +kernel
theorem dX4_lay_32 : decode cX4_lay 32 = .ok (.iaload, 1) := by decide +kernel
theorem dX4_lay_33 : decode cX4_lay 33 = .ok (.iconst 1, 1) := by decide +kernel
theorem dX4_lay_34 : decode cX4_lay 34 = .ok (.isub, 1) := by decide +kernel
theorem dX4_lay_35 : decode cX4_lay 35 = .ok (.i2l, 1) := by decide +kernel
theorem dX4_lay_36 : decode cX4_lay 36 = .ok (.invokestatic 72, 3) := by decide +kernel
theorem dX4_lay_39 : decode cX4_lay 39 = .ok (.ifCond .ne 6, 3) := by decide +kernel
theorem dX4_lay_42 : decode cX4_lay 42 = .ok (.bipush (-12), 2) := by decide +kernel
theorem dX4_lay_44 : decode cX4_lay 44 = .ok (.ireturn, 1) := by decide +kernel
theorem dX4_lay_45 : decode cX4_lay 45 = .ok (.aload_n 0, 1) := by decide +kernel
theorem dX4_lay_46 : decode cX4_lay 46 = .ok (.getfield 41, 3) := by decide +kernel
theorem dX4_lay_49 : decode cX4_lay 49 = .ok (.bipush 40, 2) := by decide +kernel
theorem dX4_lay_51 : decode cX4_lay 51 = .ok (.iload_n 1, 1) := by decide +kernel
theorem dX4_lay_52 : decode cX4_lay 52 = .ok (.imul, 1) := by decide +kernel
theorem dX4_lay_53 : decode cX4_lay 53 = .ok (.iload_n 2, 1) := by decide +kernel
theorem dX4_lay_54 : decode cX4_lay 54 = .ok (.iadd, 1) := by decide +kernel
theorem dX4_lay_55 : decode cX4_lay 55 = .ok (.aload_n 0, 1) := by decide +kernel
theorem dX4_lay_56 : decode cX4_lay 56 = .ok (.getfield 35, 3) := by decide +kernel
theorem dX4_lay_59 : decode cX4_lay 59 = .ok (.iload_n 1, 1) := by decide +kernel
theorem dX4_lay_60 : decode cX4_lay 60 = .ok (.iaload, 1) := by decide +kernel
theorem dX4_lay_61 : decode cX4_lay 61 = .ok (.ifCond .ne 8, 3) := by decide +kernel
theorem dX4_lay_64 : decode cX4_lay 64 = .ok (.iload_n 3, 1) := by decide +kernel
theorem dX4_lay_65 : decode cX4_lay 65 = .ok (.i2b, 1) := by decide +kernel
theorem dX4_lay_66 : decode cX4_lay 66 = .ok (.goto 19, 3) := by decide +kernel
theorem dX4_lay_69 : decode cX4_lay 69 = .ok (.aload_n 0, 1) := by decide +kernel
theorem dX4_lay_70 : decode cX4_lay 70 = .ok (.getfield 35, 3) := by decide +kernel
theorem dX4_lay_73 : decode cX4_lay 73 = .ok (.iload_n 1, 1) := by decide +kernel
theorem dX4_lay_74 : decode cX4_lay 74 = .ok (.iaload, 1) := by decide +kernel
theorem dX4_lay_75 : decode cX4_lay 75 = .ok (.iconst 1, 1) := by decide +kernel
theorem dX4_lay_76 : decode cX4_lay 76 = .ok (.if_icmp .ne 8, 3) := by decide +kernel
theorem dX4_lay_79 : decode cX4_lay 79 = .ok (.iload_n 3, 1) := by decide +kernel
theorem dX4_lay_80 : decode cX4_lay 80 = .ok (.i2s, 1) := by decide +kernel
theorem dX4_lay_81 : decode cX4_lay 81 = .ok (.goto 4, 3) := by decide +kernel
theorem dX4_lay_84 : decode cX4_lay 84 = .ok (.iload_n 3, 1) := by decide +kernel
theorem dX4_lay_85 : decode cX4_lay 85 = .ok (.iastore, 1) := by decide +kernel
theorem dX4_lay_86 : decode cX4_lay 86 = .ok (.iconst 1, 1) := by decide +kernel
theorem dX4_lay_87 : decode cX4_lay 87 = .ok (.ireturn, 1) := by decide +kernel
set_option maxRecDepth 20000 in
theorem ggX4_read_X4_isSheet : GoodIn wsX4_read wsX4_isSheet := goodIn_r _ [11, 12, 13, 14, 15, 10, 16] (by decide +kernel) (by decide +kernel)
set_option maxRecDepth 20000 in
theorem gX4_read_X4_isSheet : GoodIn wsX4_read (va_wsS RX4 278 yX4_isSheet wsX4_isSheet) := goodIn_app (goodIn_of _ (by decide +kernel)) ggX4_read_X4_isSheet
set_option maxRecDepth 20000 in
theorem ggX4_read_X4_in : GoodIn wsX4_read wsX4_in := goodIn_r _ [16] (by decide +kernel) (by decide +kernel)
set_option maxRecDepth 20000 in
theorem gX4_read_X4_in : GoodIn wsX4_read (va_wsS RX4 72 yX4_in wsX4_in) := goodIn_app (goodIn_of _ (by decide +kernel)) ggX4_read_X4_in
set_option maxRecDepth 20000 in
theorem ggX4_read_X4_alter : GoodIn wsX4_read wsX4_alter := goodIn_r _ [20, 12, 21, 1, 14, 15, 10, 16, 22, 23, 24, 25, 26, 27, 28, 29, 30, 3, 89, 90, 91, 92, 93, 94, 95, 96, 97, 98, 99, 100, 101, 102, 103, 104, 105, 106, 107, 108, 109, 110, 111, 112, 113, 114, 115, 116, 117] (by decide +kernel) (by decide +kernel)
set_option maxRecDepth 20000 in
theorem gX4_read_X4_alter : GoodIn wsX4_read (wsV RX4 282 RX4 yX4_alter wsX4_alter) := goodIn_app (goodIn_of _ (by decide +kernel)) ggX4_read_X4_alter
set_option maxRecDepth 20000 in
theorem ggX4_read_X4_quarters : GoodIn wsX4_read wsX4_quarters := goodIn_r _ [34, 35, 3, 14, 15, 10, 16, 36, 37, 38, 39, 40, 41, 42, 43, 44, 45, 46, 47, 48, 49, 26, 50, 51, 52, 53, 54, 55, 56, 57, 58, 59, 60, 61, 62, 63, 64, 65, 66, 67, 68, 69, 70, 71, 72, 73, 74, 75, 76, 77, 78, 79, 80, 81, 82, 83, 84, 85, 86, 87, 88, 89, 90, 91, 92, 93, 94, 95, 96, 97, 98, 99, 100, 101, 102, 103, 104, 105, 106, 107, 108, 109, 110, 111, 112, 113, 114, 115, 116, 117] (by decide +kernel) (by decide +kernel)
set_option maxRecDepth 20000 in
theorem gX4_read_X4_quarters : GoodIn wsX4_read (wsV RX4 286 RX4 yX4_quarters wsX4_quarters) := goodIn_app (goodIn_of _ (by decide +kernel)) ggX4_read_X4_quarters
theorem dX4_read_0 : decode cX4_read 0 = .ok (.iload_n 1, 1) := by decide +kernel
theorem dX4_read_1 : decode cX4_read 1 = .ok (.iload_n 2, 1) := by decide +kernel
theorem dX4_read_2 : decode cX4_read 2 = .ok (.invokestatic 278, 3) := by decide +kernel
theorem dX4_read_5 : decode cX4_read 5 = .ok (.ifCond .eq 16, 3) := by decide +kernel
theorem dX4_read_8 : decode cX4_read 8 = .ok (.iload 4, 2) := by decide +kernel
theorem dX4_read_10 : decode cX4_read 10 = .ok (.i2l, 1) := by decide +kernel
theorem dX4_read_11 : decode cX4_read 11 = .ok (.lconst 0, 1) := by decide +kernel
theorem dX4_read_12 : decode cX4_read 12 = .ok (.ldc2_w 205, 3) := by decide +kernel
theorem dX4_read_15 : decode cX4_read 15 = .ok (.invokestatic 72, 3) := by decide +kernel
theorem dX4_read_18 : decode cX4_read 18 = .ok (.ifCond .ne 5, 3) := by decide +kernel
theorem dX4_read_21 : decode cX4_read 21 = .ok (.iconst (-1), 1) := by decide +kernel
theorem dX4_read_22 : decode cX4_read 22 = .ok (.ireturn, 1) := by decide +kernel
theorem dX4_read_23 : decode cX4_read 23 = .ok (.iconst 0, 1) := by decide +kernel
theorem dX4_read_24 : decode cX4_read 24 = .ok (.istore 5, 2) := by decide +kernel
theorem dX4_read_26 : decode cX4_read 26 = .ok (.iload 5, 2) := by decide +kernel
theorem dX4_read_28 : decode cX4_read 28 = .ok (.bipush 57, 2) := by decide +kernel
theorem dX4_read_30 : decode cX4_read 30 = .ok (.if_icmp .ge 23, 3) := by decide +kernel
theorem dX4_read_33 : decode cX4_read 33 = .ok (.aload_n 0, 1) := by decide +kernel
theorem dX4_read_34 : decode cX4_read 34 = .ok (.getfield 44, 3) := by decide +kernel
theorem dX4_read_37 : decode cX4_read 37 = .ok (.iload 5, 2) := by decide +kernel
theorem dX4_read_39 : decode cX4_read 39 = .ok (.aload_n 0, 1) := by decide +kernel
theorem dX4_read_40 : decode cX4_read 40 = .ok (.getfield 7, 3) := by decide +kernel
theorem dX4_read_43 : decode cX4_read 43 = .ok (.iload 5, 2) := by decide +kernel
theorem dX4_read_45 : decode cX4_read 45 = .ok (.iaload, 1) := by decide +kernel
theorem dX4_read_46 : decode cX4_read 46 = .ok (.iastore, 1) := by decide +kernel
theorem dX4_read_47 : decode cX4_read 47 = .ok (.iinc 5 1, 3) := by decide +kernel
theorem dX4_read_50 : decode cX4_read 50 = .ok (.goto (-24), 3) := by decide +kernel
theorem dX4_read_53 : decode cX4_read 53 = .ok (.iconst 0, 1) := by decide +kernel
theorem dX4_read_54 : decode cX4_read 54 = .ok (.istore 5, 2) := by decide +kernel
theorem dX4_read_56 : decode cX4_read 56 = .ok (.iconst 0, 1) := by decide +kernel
theorem dX4_read_57 : decode cX4_read 57 = .ok (.istore 6, 2) := by decide +kernel
theorem dX4_read_59 : decode cX4_read 59 = .ok (.iconst 0, 1) := by decide +kernel
theorem dX4_read_60 : decode cX4_read 60 = .ok (.istore 7, 2) := by decide +kernel
theorem dX4_read_62 : decode cX4_read 62 = .ok (.iload 7, 2) := by decide +kernel
theorem dX4_read_64 : decode cX4_read 64 = .ok (.iload 4, 2) := by decide +kernel
theorem dX4_read_66 : decode cX4_read 66 = .ok (.if_icmp .ge 205, 3) := by decide +kernel
theorem dX4_read_69 : decode cX4_read 69 = .ok (.iload 5, 2) := by decide +kernel
theorem dX4_read_71 : decode cX4_read 71 = .ok (.ifCond .ne 200, 3) := by decide +kernel
theorem dX4_read_74 : decode cX4_read 74 = .ok (.iconst 0, 1) := by decide +kernel
theorem dX4_read_75 : decode cX4_read 75 = .ok (.istore 8, 2) := by decide +kernel
theorem dX4_read_77 : decode cX4_read 77 = .ok (.iload 8, 2) := by decide +kernel
theorem dX4_read_79 : decode cX4_read 79 = .ok (.iconst 2, 1) := by decide +kernel
theorem dX4_read_80 : decode cX4_read 80 = .ok (.if_icmp .ge 84, 3) := by decide +kernel
theorem dX4_read_83 : decode cX4_read 83 = .ok (.iload 5, 2) := by decide +kernel
theorem dX4_read_85 : decode cX4_read 85 = .ok (.ifCond .ne 79, 3) := by decide +kernel
theorem dX4_read_88 : decode cX4_read 88 = .ok (.iload_n 3, 1) := by decide +kernel
theorem dX4_read_89 : decode cX4_read 89 = .ok (.i2l, 1) := by decide +kernel
theorem dX4_read_90 : decode cX4_read 90 = .ok (.iconst 2, 1) := by decide +kernel
theorem dX4_read_91 : decode cX4_read 91 = .ok (.iload 7, 2) := by decide +kernel
theorem dX4_read_93 : decode cX4_read 93 = .ok (.imul, 1) := by decide +kernel
theorem dX4_read_94 : decode cX4_read 94 = .ok (.i2l, 1) := by decide +kernel
theorem dX4_read_95 : decode cX4_read 95 = .ok (.ladd, 1) := by decide +kernel
theorem dX4_read_96 : decode cX4_read 96 = .ok (.iload 8, 2) := by decide +kernel
theorem dX4_read_98 : decode cX4_read 98 = .ok (.i2l, 1) := by decide +kernel
theorem dX4_read_99 : decode cX4_read 99 = .ok (.ladd, 1) := by decide +kernel
theorem dX4_read_100 : decode cX4_read 100 = .ok (.lstore 9, 2) := by decide +kernel
theorem dX4_read_102 : decode cX4_read 102 = .ok (.aload_n 0, 1) := by decide +kernel
theorem dX4_read_103 : decode cX4_read 103 = .ok (.getfield 35, 3) := by decide +kernel
theorem dX4_read_106 : decode cX4_read 106 = .ok (.iload_n 1, 1) := by decide +kernel
theorem dX4_read_107 : decode cX4_read 107 = .ok (.iaload, 1) := by decide +kernel
theorem dX4_read_108 : decode cX4_read 108 = .ok (.bipush (-4), 2) := by decide +kernel
theorem dX4_read_110 : decode cX4_read 110 = .ok (.if_icmp .ne 7, 3) := by decide +kernel
theorem dX4_read_113 : decode cX4_read 113 = .ok (.iconst 1, 1) := by decide +kernel
theorem dX4_read_114 : decode cX4_read 114 = .ok (.goto 42, 3) := by decide +kernel
theorem dX4_read_117 : decode cX4_read 117 = .ok (.aload_n 0, 1) := by decide +kernel
theorem dX4_read_118 : decode cX4_read 118 = .ok (.getfield 35, 3) := by decide +kernel
theorem dX4_read_121 : decode cX4_read 121 = .ok (.iload_n 1, 1) := by decide +kernel
theorem dX4_read_122 : decode cX4_read 122 = .ok (.iaload, 1) := by decide +kernel
theorem dX4_read_123 : decode cX4_read 123 = .ok (.iload_n 2, 1) := by decide +kernel
theorem dX4_read_124 : decode cX4_read 124 = .ok (.if_icmp .eq 7, 3) := by decide +kernel
theorem dX4_read_127 : decode cX4_read 127 = .ok (.iconst 3, 1) := by decide +kernel
theorem dX4_read_128 : decode cX4_read 128 = .ok (.goto 28, 3) := by decide +kernel
theorem dX4_read_131 : decode cX4_read 131 = .ok (.lload 9, 2) := by decide +kernel
theorem dX4_read_133 : decode cX4_read 133 = .ok (.lconst 0, 1) := by decide +kernel
theorem dX4_read_134 : decode cX4_read 134 = .ok (.lcmp, 1) := by decide +kernel
theorem dX4_read_135 : decode cX4_read 135 = .ok (.ifCond .lt 16, 3) := by decide +kernel
theorem dX4_read_138 : decode cX4_read 138 = .ok (.lload 9, 2) := by decide +kernel
theorem dX4_read_140 : decode cX4_read 140 = .ok (.aload_n 0, 1) := by decide +kernel
theorem dX4_read_141 : decode cX4_read 141 = .ok (.getfield 38, 3) := by decide +kernel
theorem dX4_read_144 : decode cX4_read 144 = .ok (.iload_n 1, 1) := by decide +kernel
theorem dX4_read_145 : decode cX4_read 145 = .ok (.iaload, 1) := by decide +kernel
theorem dX4_read_146 : decode cX4_read 146 = .ok (.i2l, 1) := by decide +kernel
theorem dX4_read_147 : decode cX4_read 147 = .ok (.lcmp, 1) := by decide +kernel
theorem dX4_read_148 : decode cX4_read 148 = .ok (.ifCond .lt 7, 3) := by decide +kernel
theorem dX4_read_151 : decode cX4_read 151 = .ok (.iconst 2, 1) := by decide +kernel
theorem dX4_read_152 : decode cX4_read 152 = .ok (.goto 4, 3) := by decide +kernel
theorem dX4_read_155 : decode cX4_read 155 = .ok (.iconst 0, 1) := by decide +kernel
theorem dX4_read_156 : decode cX4_read 156 = .ok (.istore 5, 2) := by decide +kernel
theorem dX4_read_158 : decode cX4_read 158 = .ok (.iinc 8 1, 3) := by decide +kernel
theorem dX4_read_161 : decode cX4_read 161 = .ok (.goto (-84), 3) := by decide +kernel
theorem dX4_read_164 : decode cX4_read 164 = .ok (.iload 5, 2) := by decide +kernel
theorem dX4_read_166 : decode cX4_read 166 = .ok (.ifCond .ne 99, 3) := by decide +kernel
theorem dX4_read_169 : decode cX4_read 169 = .ok (.bipush 40, 2) := by decide +kernel
theorem dX4_read_171 : decode cX4_read 171 = .ok (.iload_n 1, 1) := by decide +kernel
theorem dX4_read_172 : decode cX4_read 172 = .ok (.imul, 1) := by decide +kernel
theorem dX4_read_173 : decode cX4_read 173 = .ok (.iload_n 3, 1) := by decide +kernel
theorem dX4_read_174 : decode cX4_read 174 = .ok (.iadd, 1) := by decide +kernel
theorem dX4_read_175 : decode cX4_read 175 = .ok (.iconst 2, 1) := by decide +kernel
theorem dX4_read_176 : decode cX4_read 176 = .ok (.iload 7, 2) := by decide +kernel
theorem dX4_read_178 : decode cX4_read 178 = .ok (.imul, 1) := by decide +kernel
theorem dX4_read_179 : decode cX4_read 179 = .ok (.iadd, 1) := by decide +kernel
theorem dX4_read_180 : decode cX4_read 180 = .ok (.istore 8, 2) := by decide +kernel
theorem dX4_read_182 : decode cX4_read 182 = .ok (.aload_n 0, 1) := by decide +kernel
theorem dX4_read_183 : decode cX4_read 183 = .ok (.aload_n 0, 1) := by decide +kernel
theorem dX4_read_184 : decode cX4_read 184 = .ok (.getfield 41, 3) := by decide +kernel
theorem dX4_read_187 : decode cX4_read 187 = .ok (.iload 8, 2) := by decide +kernel
theorem dX4_read_189 : decode cX4_read 189 = .ok (.iaload, 1) := by decide +kernel
theorem dX4_read_190 : decode cX4_read 190 = .ok (.iconst 1, 1) := by decide +kernel
theorem dX4_read_191 : decode cX4_read 191 = .ok (.aload_n 0, 1) := by decide +kernel
theorem dX4_read_192 : decode cX4_read 192 = .ok (.getfield 41, 3) := by decide +kernel
theorem dX4_read_195 : decode cX4_read 195 = .ok (.iload 8, 2) := by decide +kernel
theorem dX4_read_197 : decode cX4_read 197 = .ok (.iconst 1, 1) := by decide +kernel
theorem dX4_read_198 : decode cX4_read 198 = .ok (.iadd, 1) := by decide +kernel
theorem dX4_read_199 : decode cX4_read 199 = .ok (.iaload, 1) := by decide +kernel
theorem dX4_read_200 : decode cX4_read 200 = .ok (.invokevirtual 282, 3) := by decide +kernel
theorem dX4_read_203 : decode cX4_read 203 = .ok (.iconst (-1), 1) := by decide +kernel
theorem dX4_read_204 : decode cX4_read 204 = .ok (.if_icmp .eq 16, 3) := by decide +kernel
theorem dX4_read_207 : decode cX4_read 207 = .ok (.aload_n 0, 1) := by decide +kernel
theorem dX4_read_208 : decode cX4_read 208 = .ok (.getfield 7, 3) := by decide +kernel
theorem dX4_read_211 : decode cX4_read 211 = .ok (.bipush 20, 2) := by decide +kernel
theorem dX4_read_213 : decode cX4_read 213 = .ok (.iaload, 1) := by decide +kernel
theorem dX4_read_214 : decode cX4_read 214 = .ok (.sipush 999, 3) := by decide +kernel
theorem dX4_read_217 : decode cX4_read 217 = .ok (.if_icmp .ne 39, 3) := by decide +kernel
theorem dX4_read_220 : decode cX4_read 220 = .ok (.iconst 0, 1) := by decide +kernel
theorem dX4_read_221 : decode cX4_read 221 = .ok (.istore 9, 2) := by decide +kernel
theorem dX4_read_223 : decode cX4_read 223 = .ok (.iload 9, 2) := by decide +kernel
theorem dX4_read_225 : decode cX4_read 225 = .ok (.bipush 57, 2) := by decide +kernel
theorem dX4_read_227 : decode cX4_read 227 = .ok (.if_icmp .ge 23, 3) := by decide +kernel
theorem dX4_read_230 : decode cX4_read 230 = .ok (.aload_n 0, 1) := by decide +kernel
theorem dX4_read_231 : decode cX4_read 231 = .ok (.getfield 7, 3) := by decide +kernel
theorem dX4_read_234 : decode cX4_read 234 = .ok (.iload 9, 2) := by decide +kernel
theorem dX4_read_236 : decode cX4_read 236 = .ok (.aload_n 0, 1) := by decide +kernel
theorem dX4_read_237 : decode cX4_read 237 = .ok (.getfield 44, 3) := by decide +kernel
theorem dX4_read_240 : decode cX4_read 240 = .ok (.iload 9, 2) := by decide +kernel
theorem dX4_read_242 : decode cX4_read 242 = .ok (.iaload, 1) := by decide +kernel
theorem dX4_read_243 : decode cX4_read 243 = .ok (.iastore, 1) := by decide +kernel
theorem dX4_read_244 : decode cX4_read 244 = .ok (.iinc 9 1, 3) := by decide +kernel
theorem dX4_read_247 : decode cX4_read 247 = .ok (.goto (-24), 3) := by decide +kernel
theorem dX4_read_250 : decode cX4_read 250 = .ok (.bipush (-20), 2) := by decide +kernel
theorem dX4_read_252 : decode cX4_read 252 = .ok (.iload 7, 2) := by decide +kernel
theorem dX4_read_254 : decode cX4_read 254 = .ok (.isub, 1) := by decide +kernel
theorem dX4_read_255 : decode cX4_read 255 = .ok (.ireturn, 1) := by decide +kernel
theorem dX4_read_256 : decode cX4_read 256 = .ok (.aload_n 0, 1) := by decide +kernel
theorem dX4_read_257 : decode cX4_read 257 = .ok (.iconst 1, 1) := by decide +kernel
theorem dX4_read_258 : decode cX4_read 258 = .ok (.invokevirtual 286, 3) := by decide +kernel
theorem dX4_read_261 : decode cX4_read 261 = .ok (.pop, 1) := by decide +kernel
theorem dX4_read_262 : decode cX4_read 262 = .ok (.iinc 6 1, 3) := by decide +kernel
theorem dX4_read_265 : decode cX4_read 265 = .ok (.iinc 7 1, 3) := by decide +kernel
theorem dX4_read_268 : decode cX4_read 268 = .ok (.goto (-206), 3) := by decide +kernel
theorem dX4_read_271 : decode cX4_read 271 = .ok (.aload_n 0, 1) := by decide +kernel
theorem dX4_read_272 : decode cX4_read 272 = .ok (.iload 5, 2) := by decide +kernel
theorem dX4_read_274 : decode cX4_read 274 = .ok (.putfield 289, 3) := by decide +kernel
theorem dX4_read_277 : decode cX4_read 277 = .ok (.iload 6, 2) := by decide +kernel
theorem dX4_read_279 : decode cX4_read 279 = .ok (.ireturn, 1) := by decide +kernel
theorem dX4_torn_0 : decode cX4_torn 0 = .ok (.aload_n 0, 1) := by decide +kernel
theorem dX4_torn_1 : decode cX4_torn 1 = .ok (.getfield 289, 3) := by decide +kernel
theorem dX4_torn_4 : decode cX4_torn 4 = .ok (.ireturn, 1) := by decide +kernel
set_option maxRecDepth 20000 in
theorem ggX4_count_X4_starts : GoodIn wsX4_count wsX4_starts := goodIn_r _ [10, 11, 1, 24, 25, 26, 27, 28, 29, 30, 31, 32, 33, 34, 35, 36, 37, 38, 39, 40, 41, 42, 43, 44, 45, 46, 47, 48, 49, 50, 51, 52] (by decide +kernel) (by decide +kernel)
set_option maxRecDepth 20000 in
theorem gX4_count_X4_starts : GoodIn wsX4_count (wsV RX4 186 RX4 yX4_starts wsX4_starts) := goodIn_app (goodIn_of _ (by decide +kernel)) ggX4_count_X4_starts
set_option maxRecDepth 20000 in
theorem ggX4_count_X4_flag : GoodIn wsX4_count wsX4_flag := goodIn_r _ [14] (by decide +kernel) (by decide +kernel)
set_option maxRecDepth 20000 in
theorem gX4_count_X4_flag : GoodIn wsX4_count (va_wsS RX4 154 yX4_flag wsX4_flag) := goodIn_app (goodIn_of _ (by decide +kernel)) ggX4_count_X4_flag
set_option maxRecDepth 20000 in
theorem ggX4_count_X4_allOf : GoodIn wsX4_count wsX4_allOf := goodIn_r _ [18, 19, 20, 21, 22, 9, 23, 11, 24, 25, 26, 27, 28, 29, 30, 31, 32, 33, 34, 35, 36, 37, 38, 39, 40, 41, 42, 43, 44, 45, 46, 47, 48, 49, 50, 51, 52] (by decide +kernel) (by decide +kernel)
set_option maxRecDepth 20000 in
theorem gX4_count_X4_allOf : GoodIn wsX4_count (wsV RX4 189 RX4 yX4_allOf wsX4_allOf) := goodIn_app (goodIn_of _ (by decide +kernel)) ggX4_count_X4_allOf
theorem dX4_count_0 : decode cX4_count 0 = .ok (.aload_n 0, 1) := by decide +kernel
theorem dX4_count_1 : decode cX4_count 1 = .ok (.invokevirtual 186, 3) := by decide +kernel
theorem dX4_count_4 : decode cX4_count 4 = .ok (.iload_n 1, 1) := by decide +kernel
theorem dX4_count_5 : decode cX4_count 5 = .ok (.tableswitch 97 0 4 #[35, 43, 63, 68, 91], 35) := by decide +kernel
theorem dX4_count_40 : decode cX4_count 40 = .ok (.aload_n 0, 1) := by decide +kernel
theorem dX4_count_41 : decode cX4_count 41 = .ok (.getfield 7, 3) := by decide +kernel
theorem dX4_count_44 : decode cX4_count 44 = .ok (.bipush 44, 2) := by decide +kernel
theorem dX4_count_46 : decode cX4_count 46 = .ok (.iaload, 1) := by decide +kernel
theorem dX4_count_47 : decode cX4_count 47 = .ok (.ireturn, 1) := by decide +kernel
theorem dX4_count_48 : decode cX4_count 48 = .ok (.aload_n 0, 1) := by decide +kernel
theorem dX4_count_49 : decode cX4_count 49 = .ok (.getfield 16, 3) := by decide +kernel
theorem dX4_count_52 : decode cX4_count 52 = .ok (.iconst 0, 1) := by decide +kernel
theorem dX4_count_53 : decode cX4_count 53 = .ok (.baload, 1) := by decide +kernel
theorem dX4_count_54 : decode cX4_count 54 = .ok (.invokestatic 154, 3) := by decide +kernel
theorem dX4_count_57 : decode cX4_count 57 = .ok (.aload_n 0, 1) := by decide +kernel
theorem dX4_count_58 : decode cX4_count 58 = .ok (.getfield 16, 3) := by decide +kernel
theorem dX4_count_61 : decode cX4_count 61 = .ok (.iconst 1, 1) := by decide +kernel
theorem dX4_count_62 : decode cX4_count 62 = .ok (.baload, 1) := by decide +kernel
theorem dX4_count_63 : decode cX4_count 63 = .ok (.invokestatic 154, 3) := by decide +kernel
theorem dX4_count_66 : decode cX4_count 66 = .ok (.iadd, 1) := by decide +kernel
theorem dX4_count_67 : decode cX4_count 67 = .ok (.ireturn, 1) := by decide +kernel
theorem dX4_count_68 : decode cX4_count 68 = .ok (.aload_n 0, 1) := by decide +kernel
theorem dX4_count_69 : decode cX4_count 69 = .ok (.getfield 76, 3) := by decide +kernel
theorem dX4_count_72 : decode cX4_count 72 = .ok (.ireturn, 1) := by decide +kernel
theorem dX4_count_73 : decode cX4_count 73 = .ok (.aload_n 0, 1) := by decide +kernel
theorem dX4_count_74 : decode cX4_count 74 = .ok (.getfield 35, 3) := by decide +kernel
theorem dX4_count_77 : decode cX4_count 77 = .ok (.iconst 0, 1) := by decide +kernel
theorem dX4_count_78 : decode cX4_count 78 = .ok (.iaload, 1) := by decide +kernel
theorem dX4_count_79 : decode cX4_count 79 = .ok (.bipush (-4), 2) := by decide +kernel
theorem dX4_count_81 : decode cX4_count 81 = .ok (.if_icmp .ne 8, 3) := by decide +kernel
theorem dX4_count_84 : decode cX4_count 84 = .ok (.bipush (-4), 2) := by decide +kernel
theorem dX4_count_86 : decode cX4_count 86 = .ok (.goto 9, 3) := by decide +kernel
theorem dX4_count_89 : decode cX4_count 89 = .ok (.aload_n 0, 1) := by decide +kernel
theorem dX4_count_90 : decode cX4_count 90 = .ok (.getfield 38, 3) := by decide +kernel
theorem dX4_count_93 : decode cX4_count 93 = .ok (.iconst 0, 1) := by decide +kernel
theorem dX4_count_94 : decode cX4_count 94 = .ok (.iaload, 1) := by decide +kernel
theorem dX4_count_95 : decode cX4_count 95 = .ok (.ireturn, 1) := by decide +kernel
theorem dX4_count_96 : decode cX4_count 96 = .ok (.aload_n 0, 1) := by decide +kernel
theorem dX4_count_97 : decode cX4_count 97 = .ok (.iconst 3, 1) := by decide +kernel
theorem dX4_count_98 : decode cX4_count 98 = .ok (.invokevirtual 189, 3) := by decide +kernel
theorem dX4_count_101 : decode cX4_count 101 = .ok (.ireturn, 1) := by decide +kernel
theorem dX4_count_102 : decode cX4_count 102 = .ok (.iconst (-1), 1) := by decide +kernel
theorem dX4_count_103 : decode cX4_count 103 = .ok (.ireturn, 1) := by decide +kernel
theorem dJ9_max_7cf53_0 : decode cJ9_max_7cf53 0 = .ok (.iload_n 0, 1) := by decide +kernel
theorem dJ9_max_7cf53_1 : decode cJ9_max_7cf53 1 = .ok (.iload_n 1, 1) := by decide +kernel
theorem dJ9_max_7cf53_2 : decode cJ9_max_7cf53 2 = .ok (.if_icmp .lt 7, 3) := by decide +kernel
theorem dJ9_max_7cf53_5 : decode cJ9_max_7cf53 5 = .ok (.iload_n 0, 1) := by decide +kernel
theorem dJ9_max_7cf53_6 : decode cJ9_max_7cf53 6 = .ok (.goto 4, 3) := by decide +kernel
theorem dJ9_max_7cf53_9 : decode cJ9_max_7cf53 9 = .ok (.iload_n 1, 1) := by decide +kernel
theorem dJ9_max_7cf53_10 : decode cJ9_max_7cf53 10 = .ok (.ireturn, 1) := by decide +kernel
theorem dJ9_min_7cf53_0 : decode cJ9_min_7cf53 0 = .ok (.iload_n 0, 1) := by decide +kernel
theorem dJ9_min_7cf53_1 : decode cJ9_min_7cf53 1 = .ok (.iload_n 1, 1) := by decide +kernel
theorem dJ9_min_7cf53_2 : decode cJ9_min_7cf53 2 = .ok (.if_icmp .gt 7, 3) := by decide +kernel
theorem dJ9_min_7cf53_5 : decode cJ9_min_7cf53 5 = .ok (.iload_n 0, 1) := by decide +kernel
theorem dJ9_min_7cf53_6 : decode cJ9_min_7cf53 6 = .ok (.goto 4, 3) := by decide +kernel
theorem dJ9_min_7cf53_9 : decode cJ9_min_7cf53 9 = .ok (.iload_n 1, 1) := by decide +kernel
theorem dJ9_min_7cf53_10 : decode cJ9_min_7cf53 10 = .ok (.ireturn, 1) := by decide +kernel
set_option maxRecDepth 20000 in
theorem ggJ0_length_8abf5_J0_coder_7d493 : GoodIn wsJ0_length_8abf5 wsJ0_coder_7d493 := goodIn_r _ [6, 7, 8] (by decide +kernel) (by decide +kernel)
set_option maxRecDepth 20000 in
theorem gJ0_length_8abf5_J0_coder_7d493 : GoodIn wsJ0_length_8abf5 (wsV RJ0 335 RJ0 yJ0_coder_7d493 wsJ0_coder_7d493) := goodIn_app (goodIn_of _ (by decide +kernel)) ggJ0_length_8abf5_J0_coder_7d493
theorem dJ0_length_8abf5_0 : decode cJ0_length_8abf5 0 = .ok (.aload_n 0, 1) := by decide +kernel
theorem dJ0_length_8abf5_1 : decode cJ0_length_8abf5 1 = .ok (.getfield 9, 3) := by decide +kernel
theorem dJ0_length_8abf5_4 : decode cJ0_length_8abf5 4 = .ok (.arraylength, 1) := by decide +kernel
theorem dJ0_length_8abf5_5 : decode cJ0_length_8abf5 5 = .ok (.aload_n 0, 1) := by decide +kernel
theorem dJ0_length_8abf5_6 : decode cJ0_length_8abf5 6 = .ok (.invokevirtual 335, 3) := by decide +kernel
theorem dJ0_length_8abf5_9 : decode cJ0_length_8abf5 9 = .ok (.ishr, 1) := by decide +kernel
theorem dJ0_length_8abf5_10 : decode cJ0_length_8abf5 10 = .ok (.ireturn, 1) := by decide +kernel
set_option maxRecDepth 20000 in
theorem ggJ0_charAt_5068e_J0_isLatin1_aae02 : GoodIn wsJ0_charAt_5068e wsJ0_isLatin1_aae02 := goodIn_r _ [6, 7, 8] (by decide +kernel) (by decide +kernel)
set_option maxRecDepth 20000 in
theorem gJ0_charAt_5068e_J0_isLatin1_aae02 : GoodIn wsJ0_charAt_5068e (wsV RJ0 492 RJ0 yJ0_isLatin1_aae02 wsJ0_isLatin1_aae02) := goodIn_app (goodIn_of _ (by decide +kernel)) ggJ0_charAt_5068e_J0_isLatin1_aae02
set_option maxRecDepth 20000 in
theorem ggJ0_charAt_5068e_J1_charAt_3b067 : GoodIn wsJ0_charAt_5068e wsJ1_charAt_3b067 := goodIn_r _ [12, 13, 14, 5, 15, 16, 17, 18, 19, 20] (by decide +kernel) (by decide +kernel)
set_option maxRecDepth 20000 in
theorem gJ0_charAt_5068e_J1_charAt_3b067 : GoodIn wsJ0_charAt_5068e (va_wsS RJ0 495 yJ1_charAt_3b067 wsJ1_charAt_3b067) := goodIn_app (goodIn_of _ (by decide +kernel)) ggJ0_charAt_5068e_J1_charAt_3b067
set_option maxRecDepth 20000 in
theorem ggJ0_charAt_5068e_J2_charAt_3b067 : GoodIn wsJ0_charAt_5068e wsJ2_charAt_3b067 := goodIn_r _ [24, 25, 26, 23, 27, 28, 29, 30, 31, 14, 5, 15, 16, 17, 18, 19, 20, 32, 33, 34, 35, 36, 37] (by decide +kernel) (by decide +kernel)
set_option maxRecDepth 20000 in
theorem gJ0_charAt_5068e_J2_charAt_3b067 : GoodIn wsJ0_charAt_5068e (va_wsS RJ0 498 yJ2_charAt_3b067 wsJ2_charAt_3b067) := goodIn_app (goodIn_of _ (by decide +kernel)) ggJ0_charAt_5068e_J2_charAt_3b067
theorem dJ0_charAt_5068e_0 : decode cJ0_charAt_5068e 0 = .ok (.aload_n 0, 1) := by decide +kernel
theorem dJ0_charAt_5068e_1 : decode cJ0_charAt_5068e 1 = .ok (.invokevirtual 492, 3) := by decide +kernel
theorem dJ0_charAt_5068e_4 : decode cJ0_charAt_5068e 4 = .ok (.ifCond .eq 12, 3) := by decide +kernel
theorem dJ0_charAt_5068e_7 : decode cJ0_charAt_5068e 7 = .ok (.aload_n 0, 1) := by decide +kernel
theorem dJ0_charAt_5068e_8 : decode cJ0_charAt_5068e 8 = .ok (.getfield 9, 3) := by decide +kernel
theorem dJ0_charAt_5068e_11 : decode cJ0_charAt_5068e 11 = .ok (.iload_n 1, 1) := by decide +kernel
theorem dJ0_charAt_5068e_12 : decode cJ0_charAt_5068e 12 = .ok (.invokestatic 495, 3) := by decide +kernel
theorem dJ0_charAt_5068e_15 : decode cJ0_charAt_5068e 15 = .ok (.ireturn, 1) := by decide +kernel
theorem dJ0_charAt_5068e_16 : decode cJ0_charAt_5068e 16 = .ok (.aload_n 0, 1) := by decide +kernel
theorem dJ0_charAt_5068e_17 : decode cJ0_charAt_5068e 17 = .ok (.getfield 9, 3) := by decide +kernel
theorem dJ0_charAt_5068e_20 : decode cJ0_charAt_5068e 20 = .ok (.iload_n 1, 1) := by decide +kernel
theorem dJ0_charAt_5068e_21 : decode cJ0_charAt_5068e 21 = .ok (.invokestatic 498, 3) := by decide +kernel
theorem dJ0_charAt_5068e_24 : decode cJ0_charAt_5068e 24 = .ok (.ireturn, 1) := by decide +kernel
theorem dJ0_coder_7d493_0 : decode cJ0_coder_7d493 0 = .ok (.getstatic 38, 3) := by decide +kernel
theorem dJ0_coder_7d493_3 : decode cJ0_coder_7d493 3 = .ok (.ifCond .eq 10, 3) := by decide +kernel
theorem dJ0_coder_7d493_6 : decode cJ0_coder_7d493 6 = .ok (.aload_n 0, 1) := by decide +kernel
theorem dJ0_coder_7d493_7 : decode cJ0_coder_7d493 7 = .ok (.getfield 15, 3) := by decide +kernel
theorem dJ0_coder_7d493_10 : decode cJ0_coder_7d493 10 = .ok (.goto 4, 3) := by decide +kernel
theorem dJ0_coder_7d493_13 : decode cJ0_coder_7d493 13 = .ok (.iconst 1, 1) := by decide +kernel
theorem dJ0_coder_7d493_14 : decode cJ0_coder_7d493 14 = .ok (.ireturn, 1) := by decide +kernel
theorem dJ0_isLatin1_aae02_0 : decode cJ0_isLatin1_aae02 0 = .ok (.getstatic 38, 3) := by decide +kernel
theorem dJ0_isLatin1_aae02_3 : decode cJ0_isLatin1_aae02 3 = .ok (.ifCond .eq 14, 3) := by decide +kernel
theorem dJ0_isLatin1_aae02_6 : decode cJ0_isLatin1_aae02 6 = .ok (.aload_n 0, 1) := by decide +kernel
theorem dJ0_isLatin1_aae02_7 : decode cJ0_isLatin1_aae02 7 = .ok (.getfield 15, 3) := by decide +kernel
theorem dJ0_isLatin1_aae02_10 : decode cJ0_isLatin1_aae02 10 = .ok (.ifCond .ne 7, 3) := by decide +kernel
theorem dJ0_isLatin1_aae02_13 : decode cJ0_isLatin1_aae02 13 = .ok (.iconst 1, 1) := by decide +kernel
theorem dJ0_isLatin1_aae02_14 : decode cJ0_isLatin1_aae02 14 = .ok (.goto 4, 3) := by decide +kernel
theorem dJ0_isLatin1_aae02_17 : decode cJ0_isLatin1_aae02 17 = .ok (.iconst 0, 1) := by decide +kernel
theorem dJ0_isLatin1_aae02_18 : decode cJ0_isLatin1_aae02 18 = .ok (.ireturn, 1) := by decide +kernel
set_option maxRecDepth 20000 in
theorem ggJ0_checkIndex_df160_J3_checkIndex_8e157 : GoodIn wsJ0_checkIndex_df160 wsJ3_checkIndex_8e157 := goodIn_r _ [5] (by decide +kernel) (by decide +kernel)
set_option maxRecDepth 20000 in
theorem gJ0_checkIndex_df160_J3_checkIndex_8e157 : GoodIn wsJ0_checkIndex_df160 (va_wsS RJ0 1059 yJ3_checkIndex_8e157 wsJ3_checkIndex_8e157) := goodIn_app (goodIn_of _ (by decide +kernel)) ggJ0_checkIndex_df160_J3_checkIndex_8e157
theorem dJ0_checkIndex_df160_0 : decode cJ0_checkIndex_df160 0 = .ok (.iload_n 0, 1) := by decide +kernel
theorem dJ0_checkIndex_df160_1 : decode cJ0_checkIndex_df160 1 = .ok (.iload_n 1, 1) := by decide +kernel
theorem dJ0_checkIndex_df160_2 : decode cJ0_checkIndex_df160 2 = .ok (.getstatic 1053, 3) := by decide +kernel
theorem dJ0_checkIndex_df160_5 : decode cJ0_checkIndex_df160 5 = .ok (.invokestatic 1059, 3) := by decide +kernel
theorem dJ0_checkIndex_df160_8 : decode cJ0_checkIndex_df160 8 = .ok (.pop, 1) := by decide +kernel
theorem dJ0_checkIndex_df160_9 : decode cJ0_checkIndex_df160 9 = .ok (.return_, 1) := by decide +kernel
set_option maxRecDepth 20000 in
theorem ggJ1_charAt_3b067_J0_checkIndex_df160 : GoodIn wsJ1_charAt_3b067 wsJ0_checkIndex_df160 := goodIn_r _ [4, 5, 6, 7, 8, 9] (by decide +kernel) (by decide +kernel)
set_option maxRecDepth 20000 in
theorem gJ1_charAt_3b067_J0_checkIndex_df160 : GoodIn wsJ1_charAt_3b067 (va_wsS RJ1 9 yJ0_checkIndex_df160 wsJ0_checkIndex_df160) := goodIn_app (goodIn_of _ (by decide +kernel)) ggJ1_charAt_3b067_J0_checkIndex_df160
theorem dJ1_charAt_3b067_0 : decode cJ1_charAt_3b067 0 = .ok (.iload_n 1, 1) := by decide +kernel
theorem dJ1_charAt_3b067_1 : decode cJ1_charAt_3b067 1 = .ok (.aload_n 0, 1) := by decide +kernel
theorem dJ1_charAt_3b067_2 : decode cJ1_charAt_3b067 2 = .ok (.arraylength, 1) := by decide +kernel
theorem dJ1_charAt_3b067_3 : decode cJ1_charAt_3b067 3 = .ok (.invokestatic 9, 3) := by decide +kernel
theorem dJ1_charAt_3b067_6 : decode cJ1_charAt_3b067 6 = .ok (.aload_n 0, 1) := by decide +kernel
theorem dJ1_charAt_3b067_7 : decode cJ1_charAt_3b067 7 = .ok (.iload_n 1, 1) := by decide +kernel
theorem dJ1_charAt_3b067_8 : decode cJ1_charAt_3b067 8 = .ok (.baload, 1) := by decide +kernel
theorem dJ1_charAt_3b067_9 : decode cJ1_charAt_3b067 9 = .ok (.sipush 255, 3) := by decide +kernel
theorem dJ1_charAt_3b067_12 : decode cJ1_charAt_3b067 12 = .ok (.iand, 1) := by decide +kernel
theorem dJ1_charAt_3b067_13 : decode cJ1_charAt_3b067 13 = .ok (.i2c, 1) := by decide +kernel
theorem dJ1_charAt_3b067_14 : decode cJ1_charAt_3b067 14 = .ok (.ireturn, 1) := by decide +kernel
set_option maxRecDepth 20000 in
theorem ggJ2_getChar_3b067_J2_length_9d52b : GoodIn wsJ2_getChar_3b067 wsJ2_length_9d52b := goodIn_r _ [7] (by decide +kernel) (by decide +kernel)
set_option maxRecDepth 20000 in
theorem gJ2_getChar_3b067_J2_length_9d52b : GoodIn wsJ2_getChar_3b067 (va_wsS RJ2 48 yJ2_length_9d52b wsJ2_length_9d52b) := goodIn_app (goodIn_of _ (by decide +kernel)) ggJ2_getChar_3b067_J2_length_9d52b
theorem dJ2_getChar_3b067_0 : decode cJ2_getChar_3b067 0 = .ok (.getstatic 44, 3) := by decide +kernel
theorem dJ2_getChar_3b067_3 : decode cJ2_getChar_3b067 3 = .ok (.ifCond .ne 25, 3) := by decide +kernel
theorem dJ2_getChar_3b067_6 : decode cJ2_getChar_3b067 6 = .ok (.iload_n 1, 1) := by decide +kernel
theorem dJ2_getChar_3b067_7 : decode cJ2_getChar_3b067 7 = .ok (.ifCond .lt 11, 3) := by decide +kernel
theorem dJ2_getChar_3b067_10 : decode cJ2_getChar_3b067 10 = .ok (.iload_n 1, 1) := by decide +kernel
theorem dJ2_getChar_3b067_11 : decode cJ2_getChar_3b067 11 = .ok (.aload_n 0, 1) := by decide +kernel
theorem dJ2_getChar_3b067_12 : decode cJ2_getChar_3b067 12 = .ok (.invokestatic 48, 3) := by decide +kernel
theorem dJ2_getChar_3b067_15 : decode cJ2_getChar_3b067 15 = .ok (.if_icmp .lt 13, 3) := by decide +kernel
theorem dJ2_getChar_3b067_18 : decode cJ2_getChar_3b067 18 = .ok (.new 52, 3) := by decide +kernel
theorem dJ2_getChar_3b067_21 : decode cJ2_getChar_3b067 21 = .ok (.dup, 1) := by decide +kernel
theorem dJ2_getChar_3b067_22 : decode cJ2_getChar_3b067 22 = .ok (.ldc 54, 2) := by decide +kernel
theorem dJ2_getChar_3b067_24 : decode cJ2_getChar_3b067 24 = .ok (.invokespecial 56, 3) := by decide +kernel
theorem dJ2_getChar_3b067_27 : decode cJ2_getChar_3b067 27 = .ok (.athrow, 1) := by decide +kernel
theorem dJ2_getChar_3b067_28 : decode cJ2_getChar_3b067 28 = .ok (.iload_n 1, 1) := by decide +kernel
theorem dJ2_getChar_3b067_29 : decode cJ2_getChar_3b067 29 = .ok (.iconst 1, 1) := by decide +kernel
theorem dJ2_getChar_3b067_30 : decode cJ2_getChar_3b067 30 = .ok (.ishl, 1) := by decide +kernel
theorem dJ2_getChar_3b067_31 : decode cJ2_getChar_3b067 31 = .ok (.istore_n 1, 1) := by decide +kernel
theorem dJ2_getChar_3b067_32 : decode cJ2_getChar_3b067 32 = .ok (.aload_n 0, 1) := by decide +kernel
theorem dJ2_getChar_3b067_33 : decode cJ2_getChar_3b067 33 = .ok (.iload_n 1, 1) := by decide +kernel
theorem dJ2_getChar_3b067_34 : decode cJ2_getChar_3b067 34 = .ok (.iinc 1 1, 3) := by decide +kernel
theorem dJ2_getChar_3b067_37 : decode cJ2_getChar_3b067 37 = .ok (.baload, 1) := by decide +kernel
theorem dJ2_getChar_3b067_38 : decode cJ2_getChar_3b067 38 = .ok (.sipush 255, 3) := by decide +kernel
theorem dJ2_getChar_3b067_41 : decode cJ2_getChar_3b067 41 = .ok (.iand, 1) := by decide +kernel
theorem dJ2_getChar_3b067_42 : decode cJ2_getChar_3b067 42 = .ok (.getstatic 59, 3) := by decide +kernel
theorem dJ2_getChar_3b067_45 : decode cJ2_getChar_3b067 45 = .ok (.ishl, 1) := by decide +kernel
theorem dJ2_getChar_3b067_46 : decode cJ2_getChar_3b067 46 = .ok (.aload_n 0, 1) := by decide +kernel
theorem dJ2_getChar_3b067_47 : decode cJ2_getChar_3b067 47 = .ok (.iload_n 1, 1) := by decide +kernel
theorem dJ2_getChar_3b067_48 : decode cJ2_getChar_3b067 48 = .ok (.baload, 1) := by decide +kernel
theorem dJ2_getChar_3b067_49 : decode cJ2_getChar_3b067 49 = .ok (.sipush 255, 3) := by decide +kernel
theorem dJ2_getChar_3b067_52 : decode cJ2_getChar_3b067 52 = .ok (.iand, 1) := by decide +kernel
theorem dJ2_getChar_3b067_53 : decode cJ2_getChar_3b067 53 = .ok (.getstatic 63, 3) := by decide +kernel
theorem dJ2_getChar_3b067_56 : decode cJ2_getChar_3b067 56 = .ok (.ishl, 1) := by decide +kernel
theorem dJ2_getChar_3b067_57 : decode cJ2_getChar_3b067 57 = .ok (.ior, 1) := by decide +kernel
theorem dJ2_getChar_3b067_58 : decode cJ2_getChar_3b067 58 = .ok (.i2c, 1) := by decide +kernel
theorem dJ2_getChar_3b067_59 : decode cJ2_getChar_3b067 59 = .ok (.ireturn, 1) := by decide +kernel
theorem dJ2_length_9d52b_0 : decode cJ2_length_9d52b 0 = .ok (.aload_n 0, 1) := by decide +kernel
theorem dJ2_length_9d52b_1 : decode cJ2_length_9d52b 1 = .ok (.arraylength, 1) := by decide +kernel
theorem dJ2_length_9d52b_2 : decode cJ2_length_9d52b 2 = .ok (.iconst 1, 1) := by decide +kernel
theorem dJ2_length_9d52b_3 : decode cJ2_length_9d52b 3 = .ok (.ishr, 1) := by decide +kernel
theorem dJ2_length_9d52b_4 : decode cJ2_length_9d52b 4 = .ok (.ireturn, 1) := by decide +kernel
set_option maxRecDepth 20000 in
theorem ggJ2_charAt_3b067_J2_checkIndex_2214a : GoodIn wsJ2_charAt_3b067 wsJ2_checkIndex_2214a := goodIn_r _ [4, 5, 6, 3, 7, 8, 9, 10, 11, 12, 13, 14, 15, 16] (by decide +kernel) (by decide +kernel)
set_option maxRecDepth 20000 in
theorem gJ2_charAt_3b067_J2_checkIndex_2214a : GoodIn wsJ2_charAt_3b067 (va_wsS RJ2 67 yJ2_checkIndex_2214a wsJ2_checkIndex_2214a) := goodIn_app (goodIn_of _ (by decide +kernel)) ggJ2_charAt_3b067_J2_checkIndex_2214a
set_option maxRecDepth 20000 in
theorem ggJ2_charAt_3b067_J2_getChar_3b067 : GoodIn wsJ2_charAt_3b067 wsJ2_getChar_3b067 := goodIn_r _ [19, 20, 21, 22, 5, 6, 3, 7] (by decide +kernel) (by decide +kernel)
set_option maxRecDepth 20000 in
theorem gJ2_charAt_3b067_J2_getChar_3b067 : GoodIn wsJ2_charAt_3b067 (va_wsS RJ2 71 yJ2_getChar_3b067 wsJ2_getChar_3b067) := goodIn_app (goodIn_of _ (by decide +kernel)) ggJ2_charAt_3b067_J2_getChar_3b067
theorem dJ2_charAt_3b067_0 : decode cJ2_charAt_3b067 0 = .ok (.iload_n 1, 1) := by decide +kernel
theorem dJ2_charAt_3b067_1 : decode cJ2_charAt_3b067 1 = .ok (.aload_n 0, 1) := by decide +kernel
theorem dJ2_charAt_3b067_2 : decode cJ2_charAt_3b067 2 = .ok (.invokestatic 67, 3) := by decide +kernel
theorem dJ2_charAt_3b067_5 : decode cJ2_charAt_3b067 5 = .ok (.aload_n 0, 1) := by decide +kernel
theorem dJ2_charAt_3b067_6 : decode cJ2_charAt_3b067 6 = .ok (.iload_n 1, 1) := by decide +kernel
theorem dJ2_charAt_3b067_7 : decode cJ2_charAt_3b067 7 = .ok (.invokestatic 71, 3) := by decide +kernel
theorem dJ2_charAt_3b067_10 : decode cJ2_charAt_3b067 10 = .ok (.ireturn, 1) := by decide +kernel
set_option maxRecDepth 20000 in
theorem ggJ2_checkIndex_2214a_J2_length_9d52b : GoodIn wsJ2_checkIndex_2214a wsJ2_length_9d52b := goodIn_r _ [4] (by decide +kernel) (by decide +kernel)
set_option maxRecDepth 20000 in
theorem gJ2_checkIndex_2214a_J2_length_9d52b : GoodIn wsJ2_checkIndex_2214a (va_wsS RJ2 48 yJ2_length_9d52b wsJ2_length_9d52b) := goodIn_app (goodIn_of _ (by decide +kernel)) ggJ2_checkIndex_2214a_J2_length_9d52b
set_option maxRecDepth 20000 in
theorem ggJ2_checkIndex_2214a_J0_checkIndex_df160 : GoodIn wsJ2_checkIndex_2214a wsJ0_checkIndex_df160 := goodIn_r _ [8, 9, 10, 11, 12, 13] (by decide +kernel) (by decide +kernel)
set_option maxRecDepth 20000 in
theorem gJ2_checkIndex_2214a_J0_checkIndex_df160 : GoodIn wsJ2_checkIndex_2214a (va_wsS RJ2 414 yJ0_checkIndex_df160 wsJ0_checkIndex_df160) := goodIn_app (goodIn_of _ (by decide +kernel)) ggJ2_checkIndex_2214a_J0_checkIndex_df160
theorem dJ2_checkIndex_2214a_0 : decode cJ2_checkIndex_2214a 0 = .ok (.iload_n 0, 1) := by decide +kernel
theorem dJ2_checkIndex_2214a_1 : decode cJ2_checkIndex_2214a 1 = .ok (.aload_n 1, 1) := by decide +kernel
theorem dJ2_checkIndex_2214a_2 : decode cJ2_checkIndex_2214a 2 = .ok (.invokestatic 48, 3) := by decide +kernel
theorem dJ2_checkIndex_2214a_5 : decode cJ2_checkIndex_2214a 5 = .ok (.invokestatic 414, 3) := by decide +kernel
theorem dJ2_checkIndex_2214a_8 : decode cJ2_checkIndex_2214a 8 = .ok (.return_, 1) := by decide +kernel
theorem dJ3_checkIndex_8e157_0 : decode cJ3_checkIndex_8e157 0 = .ok (.iload_n 0, 1) := by decide +kernel
theorem dJ3_checkIndex_8e157_1 : decode cJ3_checkIndex_8e157 1 = .ok (.ifCond .lt 8, 3) := by decide +kernel
theorem dJ3_checkIndex_8e157_4 : decode cJ3_checkIndex_8e157 4 = .ok (.iload_n 0, 1) := by decide +kernel
theorem dJ3_checkIndex_8e157_5 : decode cJ3_checkIndex_8e157 5 = .ok (.iload_n 1, 1) := by decide +kernel
theorem dJ3_checkIndex_8e157_6 : decode cJ3_checkIndex_8e157 6 = .ok (.if_icmp .lt 10, 3) := by decide +kernel
theorem dJ3_checkIndex_8e157_9 : decode cJ3_checkIndex_8e157 9 = .ok (.aload_n 2, 1) := by decide +kernel
theorem dJ3_checkIndex_8e157_10 : decode cJ3_checkIndex_8e157 10 = .ok (.iload_n 0, 1) := by decide +kernel
theorem dJ3_checkIndex_8e157_11 : decode cJ3_checkIndex_8e157 11 = .ok (.iload_n 1, 1) := by decide +kernel
theorem dJ3_checkIndex_8e157_12 : decode cJ3_checkIndex_8e157 12 = .ok (.invokestatic 95, 3) := by decide +kernel
theorem dJ3_checkIndex_8e157_15 : decode cJ3_checkIndex_8e157 15 = .ok (.athrow, 1) := by decide +kernel
theorem dJ3_checkIndex_8e157_16 : decode cJ3_checkIndex_8e157 16 = .ok (.iload_n 0, 1) := by decide +kernel
theorem dJ3_checkIndex_8e157_17 : decode cJ3_checkIndex_8e157 17 = .ok (.ireturn, 1) := by decide +kernel

