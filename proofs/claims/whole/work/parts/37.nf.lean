set_option maxRecDepth 20000 in
theorem gX4_quarters_X4_quartersGo : GoodIn wsX4_quarters (wsV RX4 214 RX4 yX4_quartersGo wsX4_quartersGo) := goodIn_app (goodIn_of _ (by decide +kernel)) ggX4_quarters_X4_quartersGo
set_option maxRecDepth 20000 in
theorem ggX4_quarters_X4_settles : GoodIn wsX4_quarters wsX4_settles := goodIn_r _ [60, 2, 11, 61, 62, 63, 64, 65, 66, 67, 68, 69, 70, 71, 72, 73, 74, 75, 76, 77, 78, 79, 80, 81, 82, 83, 84, 85, 86, 87, 88, 89] (by decide +kernel) (by decide +kernel)
set_option maxRecDepth 20000 in
theorem gX4_quarters_X4_settles : GoodIn wsX4_quarters (wsV RX4 217 RX4 yX4_settles wsX4_settles) := goodIn_app (goodIn_of _ (by decide +kernel)) ggX4_quarters_X4_settles
theorem dX4_quarters_0 : decode cX4_quarters 0 = .ok (.iload_n 1, 1) := by decide +kernel
theorem dX4_quarters_1 : decode cX4_quarters 1 = .ok (.i2l, 1) := by decide +kernel
theorem dX4_quarters_2 : decode cX4_quarters 2 = .ok (.lconst 0, 1) := by decide +kernel
theorem dX4_quarters_3 : decode cX4_quarters 3 = .ok (.ldc2_w 212, 3) := by decide +kernel
theorem dX4_quarters_6 : decode cX4_quarters 6 = .ok (.invokestatic 72, 3) := by decide +kernel
theorem dX4_quarters_9 : decode cX4_quarters 9 = .ok (.ifCond .ne 5, 3) := by decide +kernel
theorem dX4_quarters_12 : decode cX4_quarters 12 = .ok (.iconst (-1), 1) := by decide +kernel
theorem dX4_quarters_13 : decode cX4_quarters 13 = .ok (.ireturn, 1) := by decide +kernel
theorem dX4_quarters_14 : decode cX4_quarters 14 = .ok (.aload_n 0, 1) := by decide +kernel
theorem dX4_quarters_15 : decode cX4_quarters 15 = .ok (.getfield 7, 3) := by decide +kernel
theorem dX4_quarters_18 : decode cX4_quarters 18 = .ok (.bipush 20, 2) := by decide +kernel
theorem dX4_quarters_20 : decode cX4_quarters 20 = .ok (.iaload, 1) := by decide +kernel
theorem dX4_quarters_21 : decode cX4_quarters 21 = .ok (.iload_n 1, 1) := by decide +kernel
theorem dX4_quarters_22 : decode cX4_quarters 22 = .ok (.iadd, 1) := by decide +kernel
theorem dX4_quarters_23 : decode cX4_quarters 23 = .ok (.sipush 999, 3) := by decide +kernel
theorem dX4_quarters_26 : decode cX4_quarters 26 = .ok (.if_icmp .le 6, 3) := by decide +kernel
theorem dX4_quarters_29 : decode cX4_quarters 29 = .ok (.bipush (-3), 2) := by decide +kernel
theorem dX4_quarters_31 : decode cX4_quarters 31 = .ok (.ireturn, 1) := by decide +kernel
theorem dX4_quarters_32 : decode cX4_quarters 32 = .ok (.aload_n 0, 1) := by decide +kernel
theorem dX4_quarters_33 : decode cX4_quarters 33 = .ok (.invokevirtual 186, 3) := by decide +kernel
theorem dX4_quarters_36 : decode cX4_quarters 36 = .ok (.aload_n 0, 1) := by decide +kernel
theorem dX4_quarters_37 : decode cX4_quarters 37 = .ok (.iload_n 1, 1) := by decide +kernel
theorem dX4_quarters_38 : decode cX4_quarters 38 = .ok (.invokevirtual 214, 3) := by decide +kernel
theorem dX4_quarters_41 : decode cX4_quarters 41 = .ok (.aload_n 0, 1) := by decide +kernel
theorem dX4_quarters_42 : decode cX4_quarters 42 = .ok (.invokevirtual 217, 3) := by decide +kernel
theorem dX4_quarters_45 : decode cX4_quarters 45 = .ok (.aload_n 0, 1) := by decide +kernel
theorem dX4_quarters_46 : decode cX4_quarters 46 = .ok (.getfield 7, 3) := by decide +kernel
theorem dX4_quarters_49 : decode cX4_quarters 49 = .ok (.bipush 22, 2) := by decide +kernel
theorem dX4_quarters_51 : decode cX4_quarters 51 = .ok (.iaload, 1) := by decide +kernel
theorem dX4_quarters_52 : decode cX4_quarters 52 = .ok (.ireturn, 1) := by decide +kernel
set_option maxRecDepth 20000 in
theorem ggX4_isFar_X4_in : GoodIn wsX4_isFar wsX4_in := goodIn_r _ [5] (by decide +kernel) (by decide +kernel)
set_option maxRecDepth 20000 in
theorem gX4_isFar_X4_in : GoodIn wsX4_isFar (va_wsS RX4 72 yX4_in wsX4_in) := goodIn_app (goodIn_of _ (by decide +kernel)) ggX4_isFar_X4_in
theorem dX4_isFar_0 : decode cX4_isFar 0 = .ok (.iload_n 0, 1) := by decide +kernel
theorem dX4_isFar_1 : decode cX4_isFar 1 = .ok (.i2l, 1) := by decide +kernel
theorem dX4_isFar_2 : decode cX4_isFar 2 = .ok (.lconst 0, 1) := by decide +kernel
theorem dX4_isFar_3 : decode cX4_isFar 3 = .ok (.ldc2_w 220, 3) := by decide +kernel
theorem dX4_isFar_6 : decode cX4_isFar 6 = .ok (.invokestatic 72, 3) := by decide +kernel
theorem dX4_isFar_9 : decode cX4_isFar 9 = .ok (.ireturn, 1) := by decide +kernel
set_option maxRecDepth 20000 in
theorem ggX4_runs_X4_isFar : GoodIn wsX4_runs wsX4_isFar := goodIn_r _ [7, 8, 9, 10, 6, 11] (by decide +kernel) (by decide +kernel)
set_option maxRecDepth 20000 in
theorem gX4_runs_X4_isFar : GoodIn wsX4_runs (va_wsS RX4 222 yX4_isFar wsX4_isFar) := goodIn_app (goodIn_of _ (by decide +kernel)) ggX4_runs_X4_isFar
set_option maxRecDepth 20000 in
theorem ggX4_runs_X4_in : GoodIn wsX4_runs wsX4_in := goodIn_r _ [11] (by decide +kernel) (by decide +kernel)
set_option maxRecDepth 20000 in
theorem gX4_runs_X4_in : GoodIn wsX4_runs (va_wsS RX4 72 yX4_in wsX4_in) := goodIn_app (goodIn_of _ (by decide +kernel)) ggX4_runs_X4_in
set_option maxRecDepth 20000 in
theorem ggX4_runs_X4_starts : GoodIn wsX4_runs wsX4_starts := goodIn_r _ [15, 3, 16, 65, 66, 67, 68, 69, 70, 71, 72, 73, 74, 75, 76, 77, 78, 79, 80, 81, 82, 83, 84, 85, 86, 87, 88, 89, 90, 91, 92, 93] (by decide +kernel) (by decide +kernel)
set_option maxRecDepth 20000 in
theorem gX4_runs_X4_starts : GoodIn wsX4_runs (wsV RX4 186 RX4 yX4_starts wsX4_starts) := goodIn_app (goodIn_of _ (by decide +kernel)) ggX4_runs_X4_starts
set_option maxRecDepth 20000 in
theorem ggX4_runs_X4_quarterGoes : GoodIn wsX4_runs wsX4_quarterGoes := goodIn_r _ [20, 21, 22, 3, 2, 23, 24, 25, 6, 26, 27, 28, 29, 30, 31, 32, 33, 34, 35, 36, 37, 38, 39, 40, 41, 42, 43, 44, 45, 46, 47, 48, 49, 50, 51, 52, 53, 54, 55, 56, 65, 66, 67, 68, 69, 70, 71, 72, 73, 74, 75, 76, 77, 78, 79, 80, 81, 82, 83, 84, 85, 86, 87, 88, 89, 90, 91, 92, 93] (by decide +kernel) (by decide +kernel)
set_option maxRecDepth 20000 in
theorem gX4_runs_X4_quarterGoes : GoodIn wsX4_runs (wsV RX4 183 RX4 yX4_quarterGoes wsX4_quarterGoes) := goodIn_app (goodIn_of _ (by decide +kernel)) ggX4_runs_X4_quarterGoes
set_option maxRecDepth 20000 in
theorem ggX4_runs_X4_ruined : GoodIn wsX4_runs wsX4_ruined := goodIn_r _ [60, 21, 27, 28, 29, 6, 30, 3, 50, 51, 52, 65, 66, 67, 68, 69, 70, 71, 72, 73, 74, 75, 76, 77, 78, 79, 80, 81, 82, 83, 84, 85, 86, 87, 88, 89, 90, 91, 92, 93] (by decide +kernel) (by decide +kernel)
set_option maxRecDepth 20000 in
theorem gX4_runs_X4_ruined : GoodIn wsX4_runs (wsV RX4 192 RX4 yX4_ruined wsX4_ruined) := goodIn_app (goodIn_of _ (by decide +kernel)) ggX4_runs_X4_ruined
set_option maxRecDepth 20000 in
theorem ggX4_runs_X4_allOf : GoodIn wsX4_runs wsX4_allOf := goodIn_r _ [64, 21, 27, 28, 29, 6, 30, 3, 65, 66, 67, 68, 69, 70, 71, 72, 73, 74, 75, 76, 77, 78, 79, 80, 81, 82, 83, 84, 85, 86, 87, 88, 89, 90, 91, 92, 93] (by decide +kernel) (by decide +kernel)
set_option maxRecDepth 20000 in
theorem gX4_runs_X4_allOf : GoodIn wsX4_runs (wsV RX4 189 RX4 yX4_allOf wsX4_allOf) := goodIn_app (goodIn_of _ (by decide +kernel)) ggX4_runs_X4_allOf
theorem dX4_runs_0 : decode cX4_runs 0 = .ok (.iload_n 1, 1) := by decide +kernel
theorem dX4_runs_1 : decode cX4_runs 1 = .ok (.invokestatic 222, 3) := by decide +kernel
theorem dX4_runs_4 : decode cX4_runs 4 = .ok (.ifCond .eq 15, 3) := by decide +kernel
theorem dX4_runs_7 : decode cX4_runs 7 = .ok (.iload_n 2, 1) := by decide +kernel
theorem dX4_runs_8 : decode cX4_runs 8 = .ok (.i2l, 1) := by decide +kernel
theorem dX4_runs_9 : decode cX4_runs 9 = .ok (.lconst 0, 1) := by decide +kernel
theorem dX4_runs_10 : decode cX4_runs 10 = .ok (.ldc2_w 199, 3) := by decide +kernel
theorem dX4_runs_13 : decode cX4_runs 13 = .ok (.invokestatic 72, 3) := by decide +kernel
theorem dX4_runs_16 : decode cX4_runs 16 = .ok (.ifCond .ne 5, 3) := by decide +kernel
theorem dX4_runs_19 : decode cX4_runs 19 = .ok (.iconst (-1), 1) := by decide +kernel
theorem dX4_runs_20 : decode cX4_runs 20 = .ok (.ireturn, 1) := by decide +kernel
theorem dX4_runs_21 : decode cX4_runs 21 = .ok (.bipush (-4), 2) := by decide +kernel
theorem dX4_runs_23 : decode cX4_runs 23 = .ok (.istore_n 3, 1) := by decide +kernel
theorem dX4_runs_24 : decode cX4_runs 24 = .ok (.aload_n 0, 1) := by decide +kernel
theorem dX4_runs_25 : decode cX4_runs 25 = .ok (.invokevirtual 186, 3) := by decide +kernel
theorem dX4_runs_28 : decode cX4_runs 28 = .ok (.aload_n 0, 1) := by decide +kernel
theorem dX4_runs_29 : decode cX4_runs 29 = .ok (.iconst 0, 1) := by decide +kernel
theorem dX4_runs_30 : decode cX4_runs 30 = .ok (.putfield 180, 3) := by decide +kernel
theorem dX4_runs_33 : decode cX4_runs 33 = .ok (.iconst 1, 1) := by decide +kernel
theorem dX4_runs_34 : decode cX4_runs 34 = .ok (.istore 4, 2) := by decide +kernel
theorem dX4_runs_36 : decode cX4_runs 36 = .ok (.iload 4, 2) := by decide +kernel
theorem dX4_runs_38 : decode cX4_runs 38 = .ok (.iload_n 1, 1) := by decide +kernel
theorem dX4_runs_39 : decode cX4_runs 39 = .ok (.if_icmp .gt 33, 3) := by decide +kernel
theorem dX4_runs_42 : decode cX4_runs 42 = .ok (.aload_n 0, 1) := by decide +kernel
theorem dX4_runs_43 : decode cX4_runs 43 = .ok (.invokevirtual 183, 3) := by decide +kernel
theorem dX4_runs_46 : decode cX4_runs 46 = .ok (.iload_n 3, 1) := by decide +kernel
theorem dX4_runs_47 : decode cX4_runs 47 = .ok (.bipush (-4), 2) := by decide +kernel
theorem dX4_runs_49 : decode cX4_runs 49 = .ok (.if_icmp .ne 15, 3) := by decide +kernel
theorem dX4_runs_52 : decode cX4_runs 52 = .ok (.aload_n 0, 1) := by decide +kernel
theorem dX4_runs_53 : decode cX4_runs 53 = .ok (.invokevirtual 192, 3) := by decide +kernel
theorem dX4_runs_56 : decode cX4_runs 56 = .ok (.ifCond .eq 8, 3) := by decide +kernel
theorem dX4_runs_59 : decode cX4_runs 59 = .ok (.iload 4, 2) := by decide +kernel
theorem dX4_runs_61 : decode cX4_runs 61 = .ok (.goto 4, 3) := by decide +kernel
theorem dX4_runs_64 : decode cX4_runs 64 = .ok (.iload_n 3, 1) := by decide +kernel
theorem dX4_runs_65 : decode cX4_runs 65 = .ok (.istore_n 3, 1) := by decide +kernel
theorem dX4_runs_66 : decode cX4_runs 66 = .ok (.iinc 4 1, 3) := by decide +kernel
theorem dX4_runs_69 : decode cX4_runs 69 = .ok (.goto (-33), 3) := by decide +kernel
theorem dX4_runs_72 : decode cX4_runs 72 = .ok (.iload_n 2, 1) := by decide +kernel
theorem dX4_runs_73 : decode cX4_runs 73 = .ok (.tableswitch 49 0 3 #[31, 37, 42, 47], 31) := by decide +kernel
theorem dX4_runs_104 : decode cX4_runs 104 = .ok (.aload_n 0, 1) := by decide +kernel
theorem dX4_runs_105 : decode cX4_runs 105 = .ok (.iconst 1, 1) := by decide +kernel
theorem dX4_runs_106 : decode cX4_runs 106 = .ok (.invokevirtual 189, 3) := by decide +kernel
theorem dX4_runs_109 : decode cX4_runs 109 = .ok (.ireturn, 1) := by decide +kernel
theorem dX4_runs_110 : decode cX4_runs 110 = .ok (.aload_n 0, 1) := by decide +kernel
theorem dX4_runs_111 : decode cX4_runs 111 = .ok (.invokevirtual 192, 3) := by decide +kernel
theorem dX4_runs_114 : decode cX4_runs 114 = .ok (.ireturn, 1) := by decide +kernel
theorem dX4_runs_115 : decode cX4_runs 115 = .ok (.aload_n 0, 1) := by decide +kernel
theorem dX4_runs_116 : decode cX4_runs 116 = .ok (.getfield 180, 3) := by decide +kernel
theorem dX4_runs_119 : decode cX4_runs 119 = .ok (.ireturn, 1) := by decide +kernel
theorem dX4_runs_120 : decode cX4_runs 120 = .ok (.iload_n 3, 1) := by decide +kernel
theorem dX4_runs_121 : decode cX4_runs 121 = .ok (.ireturn, 1) := by decide +kernel
theorem dX4_runs_122 : decode cX4_runs 122 = .ok (.aload_n 0, 1) := by decide +kernel
theorem dX4_runs_123 : decode cX4_runs 123 = .ok (.getfield 13, 3) := by decide +kernel
theorem dX4_runs_126 : decode cX4_runs 126 = .ok (.bipush 22, 2) := by decide +kernel
theorem dX4_runs_128 : decode cX4_runs 128 = .ok (.iaload, 1) := by decide +kernel
theorem dX4_runs_129 : decode cX4_runs 129 = .ok (.ireturn, 1) := by decide +kernel
set_option maxRecDepth 20000 in
theorem ggX4_ahead_X4_isOne : GoodIn wsX4_ahead wsX4_isOne := goodIn_r _ [5, 6, 7, 8, 4, 9, 63, 64, 65, 66, 67, 68, 69, 70, 71, 72, 73, 74, 75, 76, 77, 78, 79, 80, 81, 82, 83, 84, 85, 86, 87, 88, 89, 90, 91] (by decide +kernel) (by decide +kernel)
set_option maxRecDepth 20000 in
theorem gX4_ahead_X4_isOne : GoodIn wsX4_ahead (wsV RX4 195 RX4 yX4_isOne wsX4_isOne) := goodIn_app (goodIn_of _ (by decide +kernel)) ggX4_ahead_X4_isOne
set_option maxRecDepth 20000 in
theorem ggX4_ahead_X4_isFar : GoodIn wsX4_ahead wsX4_isFar := goodIn_r _ [12, 13, 7, 8, 4, 9] (by decide +kernel) (by decide +kernel)
set_option maxRecDepth 20000 in
theorem gX4_ahead_X4_isFar : GoodIn wsX4_ahead (va_wsS RX4 222 yX4_isFar wsX4_isFar) := goodIn_app (goodIn_of _ (by decide +kernel)) ggX4_ahead_X4_isFar
set_option maxRecDepth 20000 in
theorem ggX4_ahead_X4_isPart : GoodIn wsX4_ahead wsX4_isPart := goodIn_r _ [16, 7, 8, 4, 9] (by decide +kernel) (by decide +kernel)
set_option maxRecDepth 20000 in
theorem gX4_ahead_X4_isPart : GoodIn wsX4_ahead (va_wsS RX4 225 yX4_isPart wsX4_isPart) := goodIn_app (goodIn_of _ (by decide +kernel)) ggX4_ahead_X4_isPart
set_option maxRecDepth 20000 in
theorem ggX4_ahead_X4_starts : GoodIn wsX4_ahead wsX4_starts := goodIn_r _ [20, 21, 22, 63, 64, 65, 66, 67, 68, 69, 70, 71, 72, 73, 74, 75, 76, 77, 78, 79, 80, 81, 82, 83, 84, 85, 86, 87, 88, 89, 90, 91] (by decide +kernel) (by decide +kernel)
set_option maxRecDepth 20000 in
theorem gX4_ahead_X4_starts : GoodIn wsX4_ahead (wsV RX4 186 RX4 yX4_starts wsX4_starts) := goodIn_app (goodIn_of _ (by decide +kernel)) ggX4_ahead_X4_starts
set_option maxRecDepth 20000 in
theorem ggX4_ahead_X4_quarterGoes : GoodIn wsX4_ahead wsX4_quarterGoes := goodIn_r _ [26, 6, 27, 21, 28, 29, 30, 31, 4, 32, 33, 34, 35, 36, 37, 38, 39, 40, 41, 42, 43, 44, 45, 46, 47, 48, 49, 50, 51, 52, 53, 54, 55, 56, 57, 58, 59, 60, 61, 62, 63, 64, 65, 66, 67, 68, 69, 70, 71, 72, 73, 74, 75, 76, 77, 78, 79, 80, 81, 82, 83, 84, 85, 86, 87, 88, 89, 90, 91] (by decide +kernel) (by decide +kernel)
set_option maxRecDepth 20000 in
theorem gX4_ahead_X4_quarterGoes : GoodIn wsX4_ahead (wsV RX4 183 RX4 yX4_quarterGoes wsX4_quarterGoes) := goodIn_app (goodIn_of _ (by decide +kernel)) ggX4_ahead_X4_quarterGoes
set_option maxRecDepth 20000 in
theorem ggX4_ahead_X4_of : GoodIn wsX4_ahead wsX4_of := goodIn_r _ [36, 21, 63, 64, 65, 66, 67, 68, 69, 70, 71, 72, 73, 74, 75, 76, 77, 78, 79, 80, 81, 82, 83, 84, 85, 86, 87, 88, 89, 90, 91] (by decide +kernel) (by decide +kernel)
set_option maxRecDepth 20000 in
theorem gX4_ahead_X4_of : GoodIn wsX4_ahead (wsV RX4 151 RX4 yX4_of wsX4_of) := goodIn_app (goodIn_of _ (by decide +kernel)) ggX4_ahead_X4_of
set_option maxRecDepth 20000 in
theorem ggX4_ahead_X4_flag : GoodIn wsX4_ahead wsX4_flag := goodIn_r _ [58] (by decide +kernel) (by decide +kernel)
set_option maxRecDepth 20000 in
theorem gX4_ahead_X4_flag : GoodIn wsX4_ahead (va_wsS RX4 154 yX4_flag wsX4_flag) := goodIn_app (goodIn_of _ (by decide +kernel)) ggX4_ahead_X4_flag
theorem dX4_ahead_0 : decode cX4_ahead 0 = .ok (.aload_n 0, 1) := by decide +kernel
theorem dX4_ahead_1 : decode cX4_ahead 1 = .ok (.iload_n 1, 1) := by decide +kernel
theorem dX4_ahead_2 : decode cX4_ahead 2 = .ok (.invokevirtual 195, 3) := by decide +kernel
theorem dX4_ahead_5 : decode cX4_ahead 5 = .ok (.ifCond .eq 17, 3) := by decide +kernel
theorem dX4_ahead_8 : decode cX4_ahead 8 = .ok (.iload_n 2, 1) := by decide +kernel
theorem dX4_ahead_9 : decode cX4_ahead 9 = .ok (.invokestatic 222, 3) := by decide +kernel
theorem dX4_ahead_12 : decode cX4_ahead 12 = .ok (.ifCond .eq 10, 3) := by decide +kernel
theorem dX4_ahead_15 : decode cX4_ahead 15 = .ok (.iload_n 3, 1) := by decide +kernel
theorem dX4_ahead_16 : decode cX4_ahead 16 = .ok (.invokestatic 225, 3) := by decide +kernel
theorem dX4_ahead_19 : decode cX4_ahead 19 = .ok (.ifCond .ne 5, 3) := by decide +kernel
theorem dX4_ahead_22 : decode cX4_ahead 22 = .ok (.iconst (-1), 1) := by decide +kernel
theorem dX4_ahead_23 : decode cX4_ahead 23 = .ok (.ireturn, 1) := by decide +kernel
theorem dX4_ahead_24 : decode cX4_ahead 24 = .ok (.iconst 0, 1) := by decide +kernel
theorem dX4_ahead_25 : decode cX4_ahead 25 = .ok (.istore 4, 2) := by decide +kernel
theorem dX4_ahead_27 : decode cX4_ahead 27 = .ok (.aload_n 0, 1) := by decide +kernel
theorem dX4_ahead_28 : decode cX4_ahead 28 = .ok (.invokevirtual 186, 3) := by decide +kernel
theorem dX4_ahead_31 : decode cX4_ahead 31 = .ok (.iconst 0, 1) := by decide +kernel
theorem dX4_ahead_32 : decode cX4_ahead 32 = .ok (.istore 5, 2) := by decide +kernel
theorem dX4_ahead_34 : decode cX4_ahead 34 = .ok (.iload 5, 2) := by decide +kernel
theorem dX4_ahead_36 : decode cX4_ahead 36 = .ok (.iload_n 2, 1) := by decide +kernel
theorem dX4_ahead_37 : decode cX4_ahead 37 = .ok (.if_icmp .ge 35, 3) := by decide +kernel
theorem dX4_ahead_40 : decode cX4_ahead 40 = .ok (.aload_n 0, 1) := by decide +kernel
theorem dX4_ahead_41 : decode cX4_ahead 41 = .ok (.invokevirtual 183, 3) := by decide +kernel
theorem dX4_ahead_44 : decode cX4_ahead 44 = .ok (.iload 4, 2) := by decide +kernel
theorem dX4_ahead_46 : decode cX4_ahead 46 = .ok (.aload_n 0, 1) := by decide +kernel
theorem dX4_ahead_47 : decode cX4_ahead 47 = .ok (.iload_n 1, 1) := by decide +kernel
theorem dX4_ahead_48 : decode cX4_ahead 48 = .ok (.iconst 1, 1) := by decide +kernel
theorem dX4_ahead_49 : decode cX4_ahead 49 = .ok (.invokevirtual 151, 3) := by decide +kernel
theorem dX4_ahead_52 : decode cX4_ahead 52 = .ok (.ifCond .ne 7, 3) := by decide +kernel
theorem dX4_ahead_55 : decode cX4_ahead 55 = .ok (.iconst 1, 1) := by decide +kernel
theorem dX4_ahead_56 : decode cX4_ahead 56 = .ok (.goto 4, 3) := by decide +kernel
theorem dX4_ahead_59 : decode cX4_ahead 59 = .ok (.iconst 0, 1) := by decide +kernel
theorem dX4_ahead_60 : decode cX4_ahead 60 = .ok (.invokestatic 154, 3) := by decide +kernel
theorem dX4_ahead_63 : decode cX4_ahead 63 = .ok (.iadd, 1) := by decide +kernel
theorem dX4_ahead_64 : decode cX4_ahead 64 = .ok (.istore 4, 2) := by decide +kernel
theorem dX4_ahead_66 : decode cX4_ahead 66 = .ok (.iinc 5 1, 3) := by decide +kernel
theorem dX4_ahead_69 : decode cX4_ahead 69 = .ok (.goto (-35), 3) := by decide +kernel
theorem dX4_ahead_72 : decode cX4_ahead 72 = .ok (.iload_n 3, 1) := by decide +kernel
theorem dX4_ahead_73 : decode cX4_ahead 73 = .ok (.ifCond .ne 12, 3) := by decide +kernel
theorem dX4_ahead_76 : decode cX4_ahead 76 = .ok (.aload_n 0, 1) := by decide +kernel
theorem dX4_ahead_77 : decode cX4_ahead 77 = .ok (.iload_n 1, 1) := by decide +kernel
theorem dX4_ahead_78 : decode cX4_ahead 78 = .ok (.iconst 1, 1) := by decide +kernel
theorem dX4_ahead_79 : decode cX4_ahead 79 = .ok (.invokevirtual 151, 3) := by decide +kernel
theorem dX4_ahead_82 : decode cX4_ahead 82 = .ok (.goto 5, 3) := by decide +kernel
theorem dX4_ahead_85 : decode cX4_ahead 85 = .ok (.iload 4, 2) := by decide +kernel
theorem dX4_ahead_87 : decode cX4_ahead 87 = .ok (.ireturn, 1) := by decide +kernel
set_option maxRecDepth 20000 in
theorem ggX4_quartersTo_X4_quarterGoes : GoodIn wsX4_quartersTo wsX4_quarterGoes := goodIn_r _ [6, 7, 8, 1, 9, 10, 11, 12, 5, 13, 14, 15, 16, 17, 18, 19, 20, 21, 22, 23, 24, 25, 26, 27, 28, 29, 30, 31, 32, 33, 34, 35, 36, 37, 38, 39, 40, 41, 42, 43, 44, 45, 46, 47, 48, 49, 50, 51, 52, 53, 54, 55, 56, 57, 58, 59, 60, 61, 62, 63, 64, 65, 66, 67, 68, 69, 70, 71, 72] (by decide +kernel) (by decide +kernel)
set_option maxRecDepth 20000 in
theorem gX4_quartersTo_X4_quarterGoes : GoodIn wsX4_quartersTo (wsV RX4 183 RX4 yX4_quarterGoes wsX4_quarterGoes) := goodIn_app (goodIn_of _ (by decide +kernel)) ggX4_quartersTo_X4_quarterGoes
theorem dX4_quartersTo_0 : decode cX4_quartersTo 0 = .ok (.iconst 0, 1) := by decide +kernel
theorem dX4_quartersTo_1 : decode cX4_quartersTo 1 = .ok (.istore_n 2, 1) := by decide +kernel
theorem dX4_quartersTo_2 : decode cX4_quartersTo 2 = .ok (.iload_n 2, 1) := by decide +kernel
theorem dX4_quartersTo_3 : decode cX4_quartersTo 3 = .ok (.bipush 60, 2) := by decide +kernel
theorem dX4_quartersTo_5 : decode cX4_quartersTo 5 = .ok (.if_icmp .gt 26, 3) := by decide +kernel
theorem dX4_quartersTo_8 : decode cX4_quartersTo 8 = .ok (.aload_n 0, 1) := by decide +kernel
theorem dX4_quartersTo_9 : decode cX4_quartersTo 9 = .ok (.getfield 13, 3) := by decide +kernel
theorem dX4_quartersTo_12 : decode cX4_quartersTo 12 = .ok (.bipush 22, 2) := by decide +kernel
theorem dX4_quartersTo_14 : decode cX4_quartersTo 14 = .ok (.iaload, 1) := by decide +kernel
theorem dX4_quartersTo_15 : decode cX4_quartersTo 15 = .ok (.iload_n 1, 1) := by decide +kernel
theorem dX4_quartersTo_16 : decode cX4_quartersTo 16 = .ok (.if_icmp .ne 5, 3) := by decide +kernel
theorem dX4_quartersTo_19 : decode cX4_quartersTo 19 = .ok (.iload_n 2, 1) := by decide +kernel
theorem dX4_quartersTo_20 : decode cX4_quartersTo 20 = .ok (.ireturn, 1) := by decide +kernel
theorem dX4_quartersTo_21 : decode cX4_quartersTo 21 = .ok (.aload_n 0, 1) := by decide +kernel
theorem dX4_quartersTo_22 : decode cX4_quartersTo 22 = .ok (.invokevirtual 183, 3) := by decide +kernel
theorem dX4_quartersTo_25 : decode cX4_quartersTo 25 = .ok (.iinc 2 1, 3) := by decide +kernel
theorem dX4_quartersTo_28 : decode cX4_quartersTo 28 = .ok (.goto (-26), 3) := by decide +kernel
theorem dX4_quartersTo_31 : decode cX4_quartersTo 31 = .ok (.bipush (-4), 2) := by decide +kernel
theorem dX4_quartersTo_33 : decode cX4_quartersTo 33 = .ok (.ireturn, 1) := by decide +kernel
set_option maxRecDepth 20000 in
theorem ggX4_soonest_X4_isOne : GoodIn wsX4_soonest wsX4_isOne := goodIn_r _ [5, 6, 7, 8, 4, 9, 60, 61, 62, 63, 64, 65, 66, 67, 68, 69, 70, 71, 72, 73, 74, 75, 76, 77, 78, 79, 80, 81, 82, 83, 84, 85, 86, 87, 88] (by decide +kernel) (by decide +kernel)
set_option maxRecDepth 20000 in
theorem gX4_soonest_X4_isOne : GoodIn wsX4_soonest (wsV RX4 195 RX4 yX4_isOne wsX4_isOne) := goodIn_app (goodIn_of _ (by decide +kernel)) ggX4_soonest_X4_isOne
set_option maxRecDepth 20000 in
theorem ggX4_soonest_X4_starts : GoodIn wsX4_soonest wsX4_starts := goodIn_r _ [13, 14, 15, 60, 61, 62, 63, 64, 65, 66, 67, 68, 69, 70, 71, 72, 73, 74, 75, 76, 77, 78, 79, 80, 81, 82, 83, 84, 85, 86, 87, 88] (by decide +kernel) (by decide +kernel)
set_option maxRecDepth 20000 in
theorem gX4_soonest_X4_starts : GoodIn wsX4_soonest (wsV RX4 186 RX4 yX4_starts wsX4_starts) := goodIn_app (goodIn_of _ (by decide +kernel)) ggX4_soonest_X4_starts
set_option maxRecDepth 20000 in
theorem ggX4_soonest_X4_quartersTo : GoodIn wsX4_soonest wsX4_quartersTo := goodIn_r _ [19, 14, 20, 21, 22, 4, 23, 6, 24, 25, 26, 27, 28, 29, 30, 31, 32, 33, 34, 35, 36, 37, 38, 39, 40, 41, 42, 43, 44, 45, 46, 47, 48, 49, 50, 51, 52, 53, 54, 55, 56, 57, 58, 59, 60, 61, 62, 63, 64, 65, 66, 67, 68, 69, 70, 71, 72, 73, 74, 75, 76, 77, 78, 79, 80, 81, 82, 83, 84, 85, 86, 87, 88] (by decide +kernel) (by decide +kernel)
set_option maxRecDepth 20000 in
theorem gX4_soonest_X4_quartersTo : GoodIn wsX4_soonest (wsV RX4 228 RX4 yX4_quartersTo wsX4_quartersTo) := goodIn_app (goodIn_of _ (by decide +kernel)) ggX4_soonest_X4_quartersTo
theorem dX4_soonest_0 : decode cX4_soonest 0 = .ok (.aload_n 0, 1) := by decide +kernel
theorem dX4_soonest_1 : decode cX4_soonest 1 = .ok (.iload_n 1, 1) := by decide +kernel
theorem dX4_soonest_2 : decode cX4_soonest 2 = .ok (.invokevirtual 195, 3) := by decide +kernel
theorem dX4_soonest_5 : decode cX4_soonest 5 = .ok (.ifCond .ne 5, 3) := by decide +kernel
theorem dX4_soonest_8 : decode cX4_soonest 8 = .ok (.iconst (-1), 1) := by decide +kernel
theorem dX4_soonest_9 : decode cX4_soonest 9 = .ok (.ireturn, 1) := by decide +kernel
theorem dX4_soonest_10 : decode cX4_soonest 10 = .ok (.aload_n 0, 1) := by decide +kernel
theorem dX4_soonest_11 : decode cX4_soonest 11 = .ok (.invokevirtual 186, 3) := by decide +kernel
theorem dX4_soonest_14 : decode cX4_soonest 14 = .ok (.aload_n 0, 1) := by decide +kernel
theorem dX4_soonest_15 : decode cX4_soonest 15 = .ok (.iload_n 1, 1) := by decide +kernel
theorem dX4_soonest_16 : decode cX4_soonest 16 = .ok (.invokevirtual 228, 3) := by decide +kernel
theorem dX4_soonest_19 : decode cX4_soonest 19 = .ok (.ireturn, 1) := by decide +kernel
theorem dX4_common_0 : decode cX4_common 0 = .ok (.lload_n 0, 1) := by decide +kernel
theorem dX4_common_1 : decode cX4_common 1 = .ok (.lstore 4, 2) := by decide +kernel
theorem dX4_common_3 : decode cX4_common 3 = .ok (.lload_n 2, 1) := by decide +kernel
theorem dX4_common_4 : decode cX4_common 4 = .ok (.lstore 6, 2) := by decide +kernel
theorem dX4_common_6 : decode cX4_common 6 = .ok (.lload 6, 2) := by decide +kernel
theorem dX4_common_8 : decode cX4_common 8 = .ok (.lconst 0, 1) := by decide +kernel
theorem dX4_common_9 : decode cX4_common 9 = .ok (.lcmp, 1) := by decide +kernel
theorem dX4_common_10 : decode cX4_common 10 = .ok (.ifCond .eq 21, 3) := by decide +kernel
theorem dX4_common_13 : decode cX4_common 13 = .ok (.lload 4, 2) := by decide +kernel
theorem dX4_common_15 : decode cX4_common 15 = .ok (.lload 6, 2) := by decide +kernel
theorem dX4_common_17 : decode cX4_common 17 = .ok (.lrem, 1) := by decide +kernel
theorem dX4_common_18 : decode cX4_common 18 = .ok (.lstore 8, 2) := by decide +kernel
theorem dX4_common_20 : decode cX4_common 20 = .ok (.lload 6, 2) := by decide +kernel
theorem dX4_common_22 : decode cX4_common 22 = .ok (.lstore 4, 2) := by decide +kernel
theorem dX4_common_24 : decode cX4_common 24 = .ok (.lload 8, 2) := by decide +kernel
theorem dX4_common_26 : decode cX4_common 26 = .ok (.lstore 6, 2) := by decide +kernel
theorem dX4_common_28 : decode cX4_common 28 = .ok (.goto (-22), 3) := by decide +kernel
theorem dX4_common_31 : decode cX4_common 31 = .ok (.lload 4, 2) := by decide +kernel
theorem dX4_common_33 : decode cX4_common 33 = .ok (.lreturn, 1) := by decide +kernel
set_option maxRecDepth 20000 in
theorem ggX4_told_X4_common : GoodIn wsX4_told wsX4_common := goodIn_r _ [4] (by decide +kernel) (by decide +kernel)
set_option maxRecDepth 20000 in
theorem gX4_told_X4_common : GoodIn wsX4_told (va_wsS RX4 231 yX4_common wsX4_common) := goodIn_app (goodIn_of _ (by decide +kernel)) ggX4_told_X4_common
theorem dX4_told_0 : decode cX4_told 0 = .ok (.lload_n 2, 1) := by decide +kernel
theorem dX4_told_1 : decode cX4_told 1 = .ok (.lload_n 0, 1) := by decide +kernel
theorem dX4_told_2 : decode cX4_told 2 = .ok (.invokestatic 231, 3) := by decide +kernel
theorem dX4_told_5 : decode cX4_told 5 = .ok (.lstore 5, 2) := by decide +kernel
theorem dX4_told_7 : decode cX4_told 7 = .ok (.iload 4, 2) := by decide +kernel
theorem dX4_told_9 : decode cX4_told 9 = .ok (.ifCond .ne 10, 3) := by decide +kernel
theorem dX4_told_12 : decode cX4_told 12 = .ok (.lload_n 0, 1) := by decide +kernel
theorem dX4_told_13 : decode cX4_told 13 = .ok (.lload 5, 2) := by decide +kernel
theorem dX4_told_15 : decode cX4_told 15 = .ok (.ldiv, 1) := by decide +kernel
theorem dX4_told_16 : decode cX4_told 16 = .ok (.goto 7, 3) := by decide +kernel
theorem dX4_told_19 : decode cX4_told 19 = .ok (.lload_n 2, 1) := by decide +kernel
theorem dX4_told_20 : decode cX4_told 20 = .ok (.lload 5, 2) := by decide +kernel
theorem dX4_told_22 : decode cX4_told 22 = .ok (.ldiv, 1) := by decide +kernel
theorem dX4_told_23 : decode cX4_told 23 = .ok (.lreturn, 1) := by decide +kernel
set_option maxRecDepth 20000 in
theorem ggX4_share_X4_isOne : GoodIn wsX4_share wsX4_isOne := goodIn_r _ [8, 9, 10, 11, 7, 12, 67, 68, 69, 70, 71, 72, 73, 74, 75, 76, 77, 78, 79, 80, 81, 82, 83, 84, 85, 86, 87, 88, 89, 90, 91, 92, 93, 94, 95] (by decide +kernel) (by decide +kernel)
set_option maxRecDepth 20000 in
theorem gX4_share_X4_isOne : GoodIn wsX4_share (wsV RX4 195 RX4 yX4_isOne wsX4_isOne) := goodIn_app (goodIn_of _ (by decide +kernel)) ggX4_share_X4_isOne
set_option maxRecDepth 20000 in
theorem ggX4_share_X4_in : GoodIn wsX4_share wsX4_in := goodIn_r _ [12] (by decide +kernel) (by decide +kernel)
set_option maxRecDepth 20000 in
theorem gX4_share_X4_in : GoodIn wsX4_share (va_wsS RX4 72 yX4_in wsX4_in) := goodIn_app (goodIn_of _ (by decide +kernel)) ggX4_share_X4_in
set_option maxRecDepth 20000 in
theorem ggX4_share_X4_isPart : GoodIn wsX4_share wsX4_isPart := goodIn_r _ [15, 10, 11, 7, 12] (by decide +kernel) (by decide +kernel)
set_option maxRecDepth 20000 in
theorem gX4_share_X4_isPart : GoodIn wsX4_share (va_wsS RX4 225 yX4_isPart wsX4_isPart) := goodIn_app (goodIn_of _ (by decide +kernel)) ggX4_share_X4_isPart
set_option maxRecDepth 20000 in
theorem ggX4_share_X4_starts : GoodIn wsX4_share wsX4_starts := goodIn_r _ [19, 3, 20, 67, 68, 69, 70, 71, 72, 73, 74, 75, 76, 77, 78, 79, 80, 81, 82, 83, 84, 85, 86, 87, 88, 89, 90, 91, 92, 93, 94, 95] (by decide +kernel) (by decide +kernel)
set_option maxRecDepth 20000 in
theorem gX4_share_X4_starts : GoodIn wsX4_share (wsV RX4 186 RX4 yX4_starts wsX4_starts) := goodIn_app (goodIn_of _ (by decide +kernel)) ggX4_share_X4_starts
set_option maxRecDepth 20000 in
theorem ggX4_share_X4_quarterGoes : GoodIn wsX4_share wsX4_quarterGoes := goodIn_r _ [24, 9, 25, 3, 26, 27, 28, 29, 7, 30, 31, 32, 33, 34, 35, 36, 37, 38, 39, 40, 41, 42, 43, 44, 45, 46, 47, 48, 49, 50, 51, 52, 53, 54, 55, 56, 57, 58, 59, 60, 67, 68, 69, 70, 71, 72, 73, 74, 75, 76, 77, 78, 79, 80, 81, 82, 83, 84, 85, 86, 87, 88, 89, 90, 91, 92, 93, 94, 95] (by decide +kernel) (by decide +kernel)
set_option maxRecDepth 20000 in
theorem gX4_share_X4_quarterGoes : GoodIn wsX4_share (wsV RX4 183 RX4 yX4_quarterGoes wsX4_quarterGoes) := goodIn_app (goodIn_of _ (by decide +kernel)) ggX4_share_X4_quarterGoes
set_option maxRecDepth 20000 in
theorem ggX4_share_X4_flag : GoodIn wsX4_share wsX4_flag := goodIn_r _ [56] (by decide +kernel) (by decide +kernel)
set_option maxRecDepth 20000 in
theorem gX4_share_X4_flag : GoodIn wsX4_share (va_wsS RX4 154 yX4_flag wsX4_flag) := goodIn_app (goodIn_of _ (by decide +kernel)) ggX4_share_X4_flag
set_option maxRecDepth 20000 in
theorem ggX4_share_X4_told : GoodIn wsX4_share wsX4_told := goodIn_r _ [63, 64, 65, 7, 66] (by decide +kernel) (by decide +kernel)
set_option maxRecDepth 20000 in
theorem gX4_share_X4_told : GoodIn wsX4_share (va_wsS RX4 237 yX4_told wsX4_told) := goodIn_app (goodIn_of _ (by decide +kernel)) ggX4_share_X4_told
theorem dX4_share_0 : decode cX4_share 0 = .ok (.aload_n 0, 1) := by decide +kernel
theorem dX4_share_1 : decode cX4_share 1 = .ok (.iload_n 1, 1) := by decide +kernel
theorem dX4_share_2 : decode cX4_share 2 = .ok (.invokevirtual 195, 3) := by decide +kernel
theorem dX4_share_5 : decode cX4_share 5 = .ok (.ifCond .eq 22, 3) := by decide +kernel
theorem dX4_share_8 : decode cX4_share 8 = .ok (.iload_n 2, 1) := by decide +kernel
theorem dX4_share_9 : decode cX4_share 9 = .ok (.i2l, 1) := by decide +kernel
theorem dX4_share_10 : decode cX4_share 10 = .ok (.lconst 1, 1) := by decide +kernel
theorem dX4_share_11 : decode cX4_share 11 = .ok (.ldc2_w 220, 3) := by decide +kernel
theorem dX4_share_14 : decode cX4_share 14 = .ok (.invokestatic 72, 3) := by decide +kernel
theorem dX4_share_17 : decode cX4_share 17 = .ok (.ifCond .eq 10, 3) := by decide +kernel
theorem dX4_share_20 : decode cX4_share 20 = .ok (.iload_n 3, 1) := by decide +kernel
theorem dX4_share_21 : decode cX4_share 21 = .ok (.invokestatic 225, 3) := by decide +kernel
theorem dX4_share_24 : decode cX4_share 24 = .ok (.ifCond .ne 7, 3) := by decide +kernel
theorem dX4_share_27 : decode cX4_share 27 = .ok (.ldc2_w 235, 3) := by decide +kernel
theorem dX4_share_30 : decode cX4_share 30 = .ok (.lreturn, 1) := by decide +kernel
theorem dX4_share_31 : decode cX4_share 31 = .ok (.iconst 0, 1) := by decide +kernel
theorem dX4_share_32 : decode cX4_share 32 = .ok (.istore 4, 2) := by decide +kernel
theorem dX4_share_34 : decode cX4_share 34 = .ok (.aload_n 0, 1) := by decide +kernel
theorem dX4_share_35 : decode cX4_share 35 = .ok (.invokevirtual 186, 3) := by decide +kernel
theorem dX4_share_38 : decode cX4_share 38 = .ok (.iconst 0, 1) := by decide +kernel
theorem dX4_share_39 : decode cX4_share 39 = .ok (.istore 5, 2) := by decide +kernel
theorem dX4_share_41 : decode cX4_share 41 = .ok (.iload 5, 2) := by decide +kernel
theorem dX4_share_43 : decode cX4_share 43 = .ok (.iload_n 2, 1) := by decide +kernel
theorem dX4_share_44 : decode cX4_share 44 = .ok (.if_icmp .ge 37, 3) := by decide +kernel
theorem dX4_share_47 : decode cX4_share 47 = .ok (.aload_n 0, 1) := by decide +kernel
theorem dX4_share_48 : decode cX4_share 48 = .ok (.invokevirtual 183, 3) := by decide +kernel
theorem dX4_share_51 : decode cX4_share 51 = .ok (.iload 4, 2) := by decide +kernel
theorem dX4_share_53 : decode cX4_share 53 = .ok (.aload_n 0, 1) := by decide +kernel
theorem dX4_share_54 : decode cX4_share 54 = .ok (.getfield 13, 3) := by decide +kernel
theorem dX4_share_57 : decode cX4_share 57 = .ok (.bipush 22, 2) := by decide +kernel
theorem dX4_share_59 : decode cX4_share 59 = .ok (.iaload, 1) := by decide +kernel
theorem dX4_share_60 : decode cX4_share 60 = .ok (.iload_n 1, 1) := by decide +kernel
theorem dX4_share_61 : decode cX4_share 61 = .ok (.if_icmp .ne 7, 3) := by decide +kernel
theorem dX4_share_64 : decode cX4_share 64 = .ok (.iconst 1, 1) := by decide +kernel
theorem dX4_share_65 : decode cX4_share 65 = .ok (.goto 4, 3) := by decide +kernel
theorem dX4_share_68 : decode cX4_share 68 = .ok (.iconst 0, 1) := by decide +kernel
theorem dX4_share_69 : decode cX4_share 69 = .ok (.invokestatic 154, 3) := by decide +kernel
theorem dX4_share_72 : decode cX4_share 72 = .ok (.iadd, 1) := by decide +kernel
theorem dX4_share_73 : decode cX4_share 73 = .ok (.istore 4, 2) := by decide +kernel
theorem dX4_share_75 : decode cX4_share 75 = .ok (.iinc 5 1, 3) := by decide +kernel
theorem dX4_share_78 : decode cX4_share 78 = .ok (.goto (-37), 3) := by decide +kernel
theorem dX4_share_81 : decode cX4_share 81 = .ok (.iload 4, 2) := by decide +kernel
theorem dX4_share_83 : decode cX4_share 83 = .ok (.i2l, 1) := by decide +kernel
theorem dX4_share_84 : decode cX4_share 84 = .ok (.iload_n 2, 1) := by decide +kernel
theorem dX4_share_85 : decode cX4_share 85 = .ok (.i2l, 1) := by decide +kernel
theorem dX4_share_86 : decode cX4_share 86 = .ok (.iload_n 3, 1) := by decide +kernel
theorem dX4_share_87 : decode cX4_share 87 = .ok (.invokestatic 237, 3) := by decide +kernel
theorem dX4_share_90 : decode cX4_share 90 = .ok (.lreturn, 1) := by decide +kernel
set_option maxRecDepth 20000 in
theorem ggX4_round_X4_starts : GoodIn wsX4_round wsX4_starts := goodIn_r _ [7, 2, 8, 49, 50, 51, 52, 53, 54, 55, 56, 57, 58, 59, 60, 61, 62, 63, 64, 65, 66, 67, 68, 69, 70, 71, 72, 73, 74, 75, 76, 77] (by decide +kernel) (by decide +kernel)
set_option maxRecDepth 20000 in
theorem gX4_round_X4_starts : GoodIn wsX4_round (wsV RX4 186 RX4 yX4_starts wsX4_starts) := goodIn_app (goodIn_of _ (by decide +kernel)) ggX4_round_X4_starts
set_option maxRecDepth 20000 in
theorem ggX4_round_X4_quarterGoes : GoodIn wsX4_round wsX4_quarterGoes := goodIn_r _ [12, 1, 13, 2, 14, 15, 16, 17, 6, 18, 19, 20, 21, 22, 23, 24, 25, 26, 27, 28, 29, 30, 31, 32, 33, 34, 35, 36, 37, 38, 39, 40, 41, 42, 43, 44, 45, 46, 47, 48, 49, 50, 51, 52, 53, 54, 55, 56, 57, 58, 59, 60, 61, 62, 63, 64, 65, 66, 67, 68, 69, 70, 71, 72, 73, 74, 75, 76, 77] (by decide +kernel) (by decide +kernel)
set_option maxRecDepth 20000 in
theorem gX4_round_X4_quarterGoes : GoodIn wsX4_round (wsV RX4 183 RX4 yX4_quarterGoes wsX4_quarterGoes) := goodIn_app (goodIn_of _ (by decide +kernel)) ggX4_round_X4_quarterGoes
theorem dX4_round_0 : decode cX4_round 0 = .ok (.aload_n 0, 1) := by decide +kernel
theorem dX4_round_1 : decode cX4_round 1 = .ok (.getfield 67, 3) := by decide +kernel
theorem dX4_round_4 : decode cX4_round 4 = .ok (.ifCond .ne 6, 3) := by decide +kernel
theorem dX4_round_7 : decode cX4_round 7 = .ok (.bipush (-4), 2) := by decide +kernel
theorem dX4_round_9 : decode cX4_round 9 = .ok (.ireturn, 1) := by decide +kernel
theorem dX4_round_10 : decode cX4_round 10 = .ok (.aload_n 0, 1) := by decide +kernel
theorem dX4_round_11 : decode cX4_round 11 = .ok (.invokevirtual 186, 3) := by decide +kernel
theorem dX4_round_14 : decode cX4_round 14 = .ok (.iconst 1, 1) := by decide +kernel
theorem dX4_round_15 : decode cX4_round 15 = .ok (.aload_n 0, 1) := by decide +kernel
theorem dX4_round_16 : decode cX4_round 16 = .ok (.getfield 13, 3) := by decide +kernel
theorem dX4_round_19 : decode cX4_round 19 = .ok (.bipush 22, 2) := by decide +kernel
theorem dX4_round_21 : decode cX4_round 21 = .ok (.iaload, 1) := by decide +kernel
theorem dX4_round_22 : decode cX4_round 22 = .ok (.ishl, 1) := by decide +kernel
theorem dX4_round_23 : decode cX4_round 23 = .ok (.istore_n 1, 1) := by decide +kernel
theorem dX4_round_24 : decode cX4_round 24 = .ok (.iconst 1, 1) := by decide +kernel
theorem dX4_round_25 : decode cX4_round 25 = .ok (.istore_n 2, 1) := by decide +kernel
theorem dX4_round_26 : decode cX4_round 26 = .ok (.iload_n 2, 1) := by decide +kernel
theorem dX4_round_27 : decode cX4_round 27 = .ok (.bipush 60, 2) := by decide +kernel
theorem dX4_round_29 : decode cX4_round 29 = .ok (.if_icmp .gt 39, 3) := by decide +kernel
theorem dX4_round_32 : decode cX4_round 32 = .ok (.aload_n 0, 1) := by decide +kernel
theorem dX4_round_33 : decode cX4_round 33 = .ok (.invokevirtual 183, 3) := by decide +kernel
theorem dX4_round_36 : decode cX4_round 36 = .ok (.iload_n 1, 1) := by decide +kernel
theorem dX4_round_37 : decode cX4_round 37 = .ok (.iconst 1, 1) := by decide +kernel
theorem dX4_round_38 : decode cX4_round 38 = .ok (.aload_n 0, 1) := by decide +kernel
theorem dX4_round_39 : decode cX4_round 39 = .ok (.getfield 13, 3) := by decide +kernel
theorem dX4_round_42 : decode cX4_round 42 = .ok (.bipush 22, 2) := by decide +kernel
theorem dX4_round_44 : decode cX4_round 44 = .ok (.iaload, 1) := by decide +kernel
theorem dX4_round_45 : decode cX4_round 45 = .ok (.ishl, 1) := by decide +kernel
theorem dX4_round_46 : decode cX4_round 46 = .ok (.ior, 1) := by decide +kernel
theorem dX4_round_47 : decode cX4_round 47 = .ok (.istore_n 1, 1) := by decide +kernel
theorem dX4_round_48 : decode cX4_round 48 = .ok (.iload_n 1, 1) := by decide +kernel
theorem dX4_round_49 : decode cX4_round 49 = .ok (.iconst 1, 1) := by decide +kernel
theorem dX4_round_50 : decode cX4_round 50 = .ok (.aload_n 0, 1) := by decide +kernel
theorem dX4_round_51 : decode cX4_round 51 = .ok (.getfield 67, 3) := by decide +kernel
theorem dX4_round_54 : decode cX4_round 54 = .ok (.ishl, 1) := by decide +kernel
theorem dX4_round_55 : decode cX4_round 55 = .ok (.iconst 1, 1) := by decide +kernel
theorem dX4_round_56 : decode cX4_round 56 = .ok (.isub, 1) := by decide +kernel
theorem dX4_round_57 : decode cX4_round 57 = .ok (.if_icmp .ne 5, 3) := by decide +kernel
theorem dX4_round_60 : decode cX4_round 60 = .ok (.iload_n 2, 1) := by decide +kernel
theorem dX4_round_61 : decode cX4_round 61 = .ok (.ireturn, 1) := by decide +kernel
theorem dX4_round_62 : decode cX4_round 62 = .ok (.iinc 2 1, 3) := by decide +kernel
theorem dX4_round_65 : decode cX4_round 65 = .ok (.goto (-39), 3) := by decide +kernel
theorem dX4_round_68 : decode cX4_round 68 = .ok (.bipush (-4), 2) := by decide +kernel
theorem dX4_round_70 : decode cX4_round 70 = .ok (.ireturn, 1) := by decide +kernel
set_option maxRecDepth 20000 in
theorem ggX4_trade_X4_isOne : GoodIn wsX4_trade wsX4_isOne := goodIn_r _ [5, 6, 7, 8, 4, 9, 63, 64, 65, 66, 67, 68, 69, 70, 71, 72, 73, 74, 75, 76, 77, 78, 79, 80, 81, 82, 83, 84, 85, 86, 87, 88, 89, 90, 91] (by decide +kernel) (by decide +kernel)
set_option maxRecDepth 20000 in
theorem gX4_trade_X4_isOne : GoodIn wsX4_trade (wsV RX4 195 RX4 yX4_isOne wsX4_isOne) := goodIn_app (goodIn_of _ (by decide +kernel)) ggX4_trade_X4_isOne
set_option maxRecDepth 20000 in
theorem ggX4_trade_X4_isPart : GoodIn wsX4_trade wsX4_isPart := goodIn_r _ [12, 7, 8, 4, 9] (by decide +kernel) (by decide +kernel)
set_option maxRecDepth 20000 in
theorem gX4_trade_X4_isPart : GoodIn wsX4_trade (va_wsS RX4 225 yX4_isPart wsX4_isPart) := goodIn_app (goodIn_of _ (by decide +kernel)) ggX4_trade_X4_isPart
set_option maxRecDepth 20000 in
theorem ggX4_trade_X4_starts : GoodIn wsX4_trade wsX4_starts := goodIn_r _ [16, 17, 18, 63, 64, 65, 66, 67, 68, 69, 70, 71, 72, 73, 74, 75, 76, 77, 78, 79, 80, 81, 82, 83, 84, 85, 86, 87, 88, 89, 90, 91] (by decide +kernel) (by decide +kernel)
set_option maxRecDepth 20000 in
theorem gX4_trade_X4_starts : GoodIn wsX4_trade (wsV RX4 186 RX4 yX4_starts wsX4_starts) := goodIn_app (goodIn_of _ (by decide +kernel)) ggX4_trade_X4_starts
set_option maxRecDepth 20000 in
theorem ggX4_trade_X4_becomesOf : GoodIn wsX4_trade wsX4_becomesOf := goodIn_r _ [22, 17, 63, 64, 65, 66, 67, 68, 69, 70, 71, 72, 73, 74, 75, 76, 77, 78, 79, 80, 81, 82, 83, 84, 85, 86, 87, 88, 89, 90, 91] (by decide +kernel) (by decide +kernel)
set_option maxRecDepth 20000 in
theorem gX4_trade_X4_becomesOf : GoodIn wsX4_trade (wsV RX4 164 RX4 yX4_becomesOf wsX4_becomesOf) := goodIn_app (goodIn_of _ (by decide +kernel)) ggX4_trade_X4_becomesOf
set_option maxRecDepth 20000 in
theorem ggX4_trade_X4_quartersTo : GoodIn wsX4_trade wsX4_quartersTo := goodIn_r _ [26, 17, 27, 28, 29, 4, 30, 6, 31, 32, 33, 34, 35, 36, 37, 38, 39, 40, 19, 20, 21, 22, 41, 42, 43, 44, 45, 46, 47, 48, 49, 50, 51, 52, 53, 54, 55, 56, 57, 58, 59, 60, 61, 62, 63, 64, 65, 66, 67, 68, 69, 70, 71, 72, 73, 74, 75, 76, 77, 78, 79, 80, 81, 82, 83, 84, 85, 86, 87, 88, 89, 90, 91] (by decide +kernel) (by decide +kernel)
set_option maxRecDepth 20000 in
theorem gX4_trade_X4_quartersTo : GoodIn wsX4_trade (wsV RX4 228 RX4 yX4_quartersTo wsX4_quartersTo) := goodIn_app (goodIn_of _ (by decide +kernel)) ggX4_trade_X4_quartersTo
theorem dX4_trade_0 : decode cX4_trade 0 = .ok (.aload_n 0, 1) := by decide +kernel
theorem dX4_trade_1 : decode cX4_trade 1 = .ok (.iload_n 1, 1) := by decide +kernel
theorem dX4_trade_2 : decode cX4_trade 2 = .ok (.invokevirtual 195, 3) := by decide +kernel
theorem dX4_trade_5 : decode cX4_trade 5 = .ok (.ifCond .eq 10, 3) := by decide +kernel
theorem dX4_trade_8 : decode cX4_trade 8 = .ok (.iload_n 2, 1) := by decide +kernel
theorem dX4_trade_9 : decode cX4_trade 9 = .ok (.invokestatic 225, 3) := by decide +kernel
theorem dX4_trade_12 : decode cX4_trade 12 = .ok (.ifCond .ne 5, 3) := by decide +kernel
theorem dX4_trade_15 : decode cX4_trade 15 = .ok (.iconst (-1), 1) := by decide +kernel
theorem dX4_trade_16 : decode cX4_trade 16 = .ok (.ireturn, 1) := by decide +kernel
theorem dX4_trade_17 : decode cX4_trade 17 = .ok (.bipush 61, 2) := by decide +kernel
theorem dX4_trade_19 : decode cX4_trade 19 = .ok (.istore_n 3, 1) := by decide +kernel
theorem dX4_trade_20 : decode cX4_trade 20 = .ok (.bipush (-4), 2) := by decide +kernel
theorem dX4_trade_22 : decode cX4_trade 22 = .ok (.istore 4, 2) := by decide +kernel
theorem dX4_trade_24 : decode cX4_trade 24 = .ok (.iconst 0, 1) := by decide +kernel
theorem dX4_trade_25 : decode cX4_trade 25 = .ok (.istore 5, 2) := by decide +kernel
theorem dX4_trade_27 : decode cX4_trade 27 = .ok (.iload 5, 2) := by decide +kernel
theorem dX4_trade_29 : decode cX4_trade 29 = .ok (.bipush 20, 2) := by decide +kernel
theorem dX4_trade_31 : decode cX4_trade 31 = .ok (.if_icmp .gt 74, 3) := by decide +kernel
theorem dX4_trade_34 : decode cX4_trade 34 = .ok (.aload_n 0, 1) := by decide +kernel
theorem dX4_trade_35 : decode cX4_trade 35 = .ok (.invokevirtual 186, 3) := by decide +kernel
theorem dX4_trade_38 : decode cX4_trade 38 = .ok (.aload_n 0, 1) := by decide +kernel
theorem dX4_trade_39 : decode cX4_trade 39 = .ok (.iload_n 1, 1) := by decide +kernel
theorem dX4_trade_40 : decode cX4_trade 40 = .ok (.iconst 2, 1) := by decide +kernel
theorem dX4_trade_41 : decode cX4_trade 41 = .ok (.iload 5, 2) := by decide +kernel
theorem dX4_trade_43 : decode cX4_trade 43 = .ok (.invokevirtual 164, 3) := by decide +kernel
theorem dX4_trade_46 : decode cX4_trade 46 = .ok (.aload_n 0, 1) := by decide +kernel
theorem dX4_trade_47 : decode cX4_trade 47 = .ok (.iload_n 1, 1) := by decide +kernel
theorem dX4_trade_48 : decode cX4_trade 48 = .ok (.invokevirtual 228, 3) := by decide +kernel
theorem dX4_trade_51 : decode cX4_trade 51 = .ok (.istore 6, 2) := by decide +kernel
theorem dX4_trade_53 : decode cX4_trade 53 = .ok (.iload 6, 2) := by decide +kernel
theorem dX4_trade_55 : decode cX4_trade 55 = .ok (.bipush (-4), 2) := by decide +kernel
theorem dX4_trade_57 : decode cX4_trade 57 = .ok (.if_icmp .eq 13, 3) := by decide +kernel
theorem dX4_trade_60 : decode cX4_trade 60 = .ok (.iload 6, 2) := by decide +kernel
theorem dX4_trade_62 : decode cX4_trade 62 = .ok (.iload_n 3, 1) := by decide +kernel
theorem dX4_trade_63 : decode cX4_trade 63 = .ok (.if_icmp .ge 7, 3) := by decide +kernel
theorem dX4_trade_66 : decode cX4_trade 66 = .ok (.iconst 1, 1) := by decide +kernel
theorem dX4_trade_67 : decode cX4_trade 67 = .ok (.goto 4, 3) := by decide +kernel
theorem dX4_trade_70 : decode cX4_trade 70 = .ok (.iconst 0, 1) := by decide +kernel
theorem dX4_trade_71 : decode cX4_trade 71 = .ok (.istore 7, 2) := by decide +kernel
theorem dX4_trade_73 : decode cX4_trade 73 = .ok (.iload 7, 2) := by decide +kernel
theorem dX4_trade_75 : decode cX4_trade 75 = .ok (.ifCond .eq 8, 3) := by decide +kernel
theorem dX4_trade_78 : decode cX4_trade 78 = .ok (.iload 5, 2) := by decide +kernel
theorem dX4_trade_80 : decode cX4_trade 80 = .ok (.goto 5, 3) := by decide +kernel
theorem dX4_trade_83 : decode cX4_trade 83 = .ok (.iload 4, 2) := by decide +kernel
theorem dX4_trade_85 : decode cX4_trade 85 = .ok (.istore 4, 2) := by decide +kernel
theorem dX4_trade_87 : decode cX4_trade 87 = .ok (.iload 7, 2) := by decide +kernel
theorem dX4_trade_89 : decode cX4_trade 89 = .ok (.ifCond .eq 8, 3) := by decide +kernel
theorem dX4_trade_92 : decode cX4_trade 92 = .ok (.iload 6, 2) := by decide +kernel
theorem dX4_trade_94 : decode cX4_trade 94 = .ok (.goto 4, 3) := by decide +kernel
theorem dX4_trade_97 : decode cX4_trade 97 = .ok (.iload_n 3, 1) := by decide +kernel
theorem dX4_trade_98 : decode cX4_trade 98 = .ok (.istore_n 3, 1) := by decide +kernel
theorem dX4_trade_99 : decode cX4_trade 99 = .ok (.iinc 5 1, 3) := by decide +kernel
theorem dX4_trade_102 : decode cX4_trade 102 = .ok (.goto (-75), 3) := by decide +kernel
theorem dX4_trade_105 : decode cX4_trade 105 = .ok (.iload 4, 2) := by decide +kernel
theorem dX4_trade_107 : decode cX4_trade 107 = .ok (.bipush (-4), 2) := by decide +kernel
theorem dX4_trade_109 : decode cX4_trade 109 = .ok (.if_icmp .ne 8, 3) := by decide +kernel
theorem dX4_trade_112 : decode cX4_trade 112 = .ok (.bipush (-4), 2) := by decide +kernel
theorem dX4_trade_114 : decode cX4_trade 114 = .ok (.goto 13, 3) := by decide +kernel
theorem dX4_trade_117 : decode cX4_trade 117 = .ok (.iload_n 2, 1) := by decide +kernel
theorem dX4_trade_118 : decode cX4_trade 118 = .ok (.ifCond .ne 8, 3) := by decide +kernel
theorem dX4_trade_121 : decode cX4_trade 121 = .ok (.iload 4, 2) := by decide +kernel
theorem dX4_trade_123 : decode cX4_trade 123 = .ok (.goto 4, 3) := by decide +kernel
theorem dX4_trade_126 : decode cX4_trade 126 = .ok (.iload_n 3, 1) := by decide +kernel
theorem dX4_trade_127 : decode cX4_trade 127 = .ok (.ireturn, 1) := by decide +kernel
set_option maxRecDepth 20000 in
theorem ggX4_keeper_X4_isFar : GoodIn wsX4_keeper wsX4_isFar := goodIn_r _ [6, 7, 8, 9, 5, 10] (by decide +kernel) (by decide +kernel)
set_option maxRecDepth 20000 in
theorem gX4_keeper_X4_isFar : GoodIn wsX4_keeper (va_wsS RX4 222 yX4_isFar wsX4_isFar) := goodIn_app (goodIn_of _ (by decide +kernel)) ggX4_keeper_X4_isFar
set_option maxRecDepth 20000 in
theorem ggX4_keeper_X4_isPart : GoodIn wsX4_keeper wsX4_isPart := goodIn_r _ [13, 8, 9, 5, 10] (by decide +kernel) (by decide +kernel)
set_option maxRecDepth 20000 in
theorem gX4_keeper_X4_isPart : GoodIn wsX4_keeper (va_wsS RX4 225 yX4_isPart wsX4_isPart) := goodIn_app (goodIn_of _ (by decide +kernel)) ggX4_keeper_X4_isPart
set_option maxRecDepth 20000 in
theorem ggX4_keeper_X4_starts : GoodIn wsX4_keeper wsX4_starts := goodIn_r _ [17, 2, 18, 67, 68, 69, 70, 71, 72, 73, 74, 75, 76, 77, 78, 79, 80, 81, 82, 83, 84, 85, 86, 87, 88, 89, 90, 91, 92, 93, 94, 95] (by decide +kernel) (by decide +kernel)
set_option maxRecDepth 20000 in
theorem gX4_keeper_X4_starts : GoodIn wsX4_keeper (wsV RX4 186 RX4 yX4_starts wsX4_starts) := goodIn_app (goodIn_of _ (by decide +kernel)) ggX4_keeper_X4_starts
set_option maxRecDepth 20000 in
theorem ggX4_keeper_X4_quartersGo : GoodIn wsX4_keeper wsX4_quartersGo := goodIn_r _ [22, 23, 24, 25, 26, 5, 27, 1, 28, 2, 29, 30, 31, 32, 33, 34, 35, 36, 37, 38, 39, 40, 41, 42, 43, 44, 45, 46, 47, 48, 49, 50, 51, 52, 53, 54, 55, 56, 57, 58, 59, 60, 61, 62, 67, 68, 69, 70, 71, 72, 73, 74, 75, 76, 77, 78, 79, 80, 81, 82, 83, 84, 85, 86, 87, 88, 89, 90, 91, 92, 93, 94, 95] (by decide +kernel) (by decide +kernel)
set_option maxRecDepth 20000 in
theorem gX4_keeper_X4_quartersGo : GoodIn wsX4_keeper (wsV RX4 214 RX4 yX4_quartersGo wsX4_quartersGo) := goodIn_app (goodIn_of _ (by decide +kernel)) ggX4_keeper_X4_quartersGo
set_option maxRecDepth 20000 in
theorem ggX4_keeper_X4_allOf : GoodIn wsX4_keeper wsX4_allOf := goodIn_r _ [66, 1, 33, 34, 35, 5, 36, 2, 67, 68, 69, 70, 71, 72, 73, 74, 75, 76, 77, 78, 79, 80, 81, 82, 83, 84, 85, 86, 87, 88, 89, 90, 91, 92, 93, 94, 95] (by decide +kernel) (by decide +kernel)
set_option maxRecDepth 20000 in
theorem gX4_keeper_X4_allOf : GoodIn wsX4_keeper (wsV RX4 189 RX4 yX4_allOf wsX4_allOf) := goodIn_app (goodIn_of _ (by decide +kernel)) ggX4_keeper_X4_allOf
theorem dX4_keeper_0 : decode cX4_keeper 0 = .ok (.iload_n 1, 1) := by decide +kernel
theorem dX4_keeper_1 : decode cX4_keeper 1 = .ok (.invokestatic 222, 3) := by decide +kernel
theorem dX4_keeper_4 : decode cX4_keeper 4 = .ok (.ifCond .eq 10, 3) := by decide +kernel
theorem dX4_keeper_7 : decode cX4_keeper 7 = .ok (.iload_n 2, 1) := by decide +kernel
theorem dX4_keeper_8 : decode cX4_keeper 8 = .ok (.invokestatic 225, 3) := by decide +kernel
theorem dX4_keeper_11 : decode cX4_keeper 11 = .ok (.ifCond .ne 5, 3) := by decide +kernel
theorem dX4_keeper_14 : decode cX4_keeper 14 = .ok (.iconst (-1), 1) := by decide +kernel
theorem dX4_keeper_15 : decode cX4_keeper 15 = .ok (.ireturn, 1) := by decide +kernel
theorem dX4_keeper_16 : decode cX4_keeper 16 = .ok (.iconst (-1), 1) := by decide +kernel
theorem dX4_keeper_17 : decode cX4_keeper 17 = .ok (.istore_n 3, 1) := by decide +kernel
theorem dX4_keeper_18 : decode cX4_keeper 18 = .ok (.bipush (-4), 2) := by decide +kernel
theorem dX4_keeper_20 : decode cX4_keeper 20 = .ok (.istore 4, 2) := by decide +kernel
theorem dX4_keeper_22 : decode cX4_keeper 22 = .ok (.iconst 0, 1) := by decide +kernel
theorem dX4_keeper_23 : decode cX4_keeper 23 = .ok (.istore 5, 2) := by decide +kernel
theorem dX4_keeper_25 : decode cX4_keeper 25 = .ok (.iload 5, 2) := by decide +kernel
theorem dX4_keeper_27 : decode cX4_keeper 27 = .ok (.aload_n 0, 1) := by decide +kernel
theorem dX4_keeper_28 : decode cX4_keeper 28 = .ok (.getfield 67, 3) := by decide +kernel
theorem dX4_keeper_31 : decode cX4_keeper 31 = .ok (.if_icmp .ge 62, 3) := by decide +kernel
theorem dX4_keeper_34 : decode cX4_keeper 34 = .ok (.aload_n 0, 1) := by decide +kernel
theorem dX4_keeper_35 : decode cX4_keeper 35 = .ok (.invokevirtual 186, 3) := by decide +kernel
theorem dX4_keeper_38 : decode cX4_keeper 38 = .ok (.aload_n 0, 1) := by decide +kernel
theorem dX4_keeper_39 : decode cX4_keeper 39 = .ok (.getfield 13, 3) := by decide +kernel
theorem dX4_keeper_42 : decode cX4_keeper 42 = .ok (.bipush 22, 2) := by decide +kernel
theorem dX4_keeper_44 : decode cX4_keeper 44 = .ok (.iload 5, 2) := by decide +kernel
theorem dX4_keeper_46 : decode cX4_keeper 46 = .ok (.iastore, 1) := by decide +kernel
theorem dX4_keeper_47 : decode cX4_keeper 47 = .ok (.aload_n 0, 1) := by decide +kernel
theorem dX4_keeper_48 : decode cX4_keeper 48 = .ok (.iload_n 1, 1) := by decide +kernel
theorem dX4_keeper_49 : decode cX4_keeper 49 = .ok (.invokevirtual 214, 3) := by decide +kernel
theorem dX4_keeper_52 : decode cX4_keeper 52 = .ok (.aload_n 0, 1) := by decide +kernel
theorem dX4_keeper_53 : decode cX4_keeper 53 = .ok (.iconst 1, 1) := by decide +kernel
theorem dX4_keeper_54 : decode cX4_keeper 54 = .ok (.invokevirtual 189, 3) := by decide +kernel
theorem dX4_keeper_57 : decode cX4_keeper 57 = .ok (.istore 6, 2) := by decide +kernel
theorem dX4_keeper_59 : decode cX4_keeper 59 = .ok (.iload 6, 2) := by decide +kernel
theorem dX4_keeper_61 : decode cX4_keeper 61 = .ok (.iload_n 3, 1) := by decide +kernel
theorem dX4_keeper_62 : decode cX4_keeper 62 = .ok (.if_icmp .le 8, 3) := by decide +kernel
theorem dX4_keeper_65 : decode cX4_keeper 65 = .ok (.iload 5, 2) := by decide +kernel
theorem dX4_keeper_67 : decode cX4_keeper 67 = .ok (.goto 5, 3) := by decide +kernel
theorem dX4_keeper_70 : decode cX4_keeper 70 = .ok (.iload 4, 2) := by decide +kernel
theorem dX4_keeper_72 : decode cX4_keeper 72 = .ok (.istore 4, 2) := by decide +kernel
theorem dX4_keeper_74 : decode cX4_keeper 74 = .ok (.iload 6, 2) := by decide +kernel
theorem dX4_keeper_76 : decode cX4_keeper 76 = .ok (.iload_n 3, 1) := by decide +kernel
theorem dX4_keeper_77 : decode cX4_keeper 77 = .ok (.if_icmp .le 8, 3) := by decide +kernel
theorem dX4_keeper_80 : decode cX4_keeper 80 = .ok (.iload 6, 2) := by decide +kernel
theorem dX4_keeper_82 : decode cX4_keeper 82 = .ok (.goto 4, 3) := by decide +kernel
theorem dX4_keeper_85 : decode cX4_keeper 85 = .ok (.iload_n 3, 1) := by decide +kernel
theorem dX4_keeper_86 : decode cX4_keeper 86 = .ok (.istore_n 3, 1) := by decide +kernel
theorem dX4_keeper_87 : decode cX4_keeper 87 = .ok (.iinc 5 1, 3) := by decide +kernel
theorem dX4_keeper_90 : decode cX4_keeper 90 = .ok (.goto (-65), 3) := by decide +kernel
theorem dX4_keeper_93 : decode cX4_keeper 93 = .ok (.iload 4, 2) := by decide +kernel
theorem dX4_keeper_95 : decode cX4_keeper 95 = .ok (.bipush (-4), 2) := by decide +kernel
theorem dX4_keeper_97 : decode cX4_keeper 97 = .ok (.if_icmp .ne 8, 3) := by decide +kernel
theorem dX4_keeper_100 : decode cX4_keeper 100 = .ok (.bipush (-4), 2) := by decide +kernel
theorem dX4_keeper_102 : decode cX4_keeper 102 = .ok (.goto 13, 3) := by decide +kernel
theorem dX4_keeper_105 : decode cX4_keeper 105 = .ok (.iload_n 2, 1) := by decide +kernel
theorem dX4_keeper_106 : decode cX4_keeper 106 = .ok (.ifCond .ne 8, 3) := by decide +kernel
theorem dX4_keeper_109 : decode cX4_keeper 109 = .ok (.iload 4, 2) := by decide +kernel
theorem dX4_keeper_111 : decode cX4_keeper 111 = .ok (.goto 4, 3) := by decide +kernel
theorem dX4_keeper_114 : decode cX4_keeper 114 = .ok (.iload_n 3, 1) := by decide +kernel
theorem dX4_keeper_115 : decode cX4_keeper 115 = .ok (.ireturn, 1) := by decide +kernel
set_option maxRecDepth 20000 in
theorem ggX4_kind_X4_isOne : GoodIn wsX4_kind wsX4_isOne := goodIn_r _ [5, 6, 7, 8, 4, 9, 67, 68, 69, 70, 71, 72, 73, 74, 75, 76, 77, 78, 79, 80, 81, 82, 83, 84, 85, 86, 87, 88, 89, 90, 91, 92, 93, 94, 95] (by decide +kernel) (by decide +kernel)
set_option maxRecDepth 20000 in
theorem gX4_kind_X4_isOne : GoodIn wsX4_kind (wsV RX4 195 RX4 yX4_isOne wsX4_isOne) := goodIn_app (goodIn_of _ (by decide +kernel)) ggX4_kind_X4_isOne
set_option maxRecDepth 20000 in
theorem ggX4_kind_X4_isFar : GoodIn wsX4_kind wsX4_isFar := goodIn_r _ [12, 13, 7, 8, 4, 9] (by decide +kernel) (by decide +kernel)
set_option maxRecDepth 20000 in
theorem gX4_kind_X4_isFar : GoodIn wsX4_kind (va_wsS RX4 222 yX4_isFar wsX4_isFar) := goodIn_app (goodIn_of _ (by decide +kernel)) ggX4_kind_X4_isFar
set_option maxRecDepth 20000 in
theorem ggX4_kind_X4_isPart : GoodIn wsX4_kind wsX4_isPart := goodIn_r _ [16, 7, 8, 4, 9] (by decide +kernel) (by decide +kernel)
set_option maxRecDepth 20000 in
theorem gX4_kind_X4_isPart : GoodIn wsX4_kind (va_wsS RX4 225 yX4_isPart wsX4_isPart) := goodIn_app (goodIn_of _ (by decide +kernel)) ggX4_kind_X4_isPart
set_option maxRecDepth 20000 in
theorem ggX4_kind_X4_starts : GoodIn wsX4_kind wsX4_starts := goodIn_r _ [20, 21, 22, 67, 68, 69, 70, 71, 72, 73, 74, 75, 76, 77, 78, 79, 80, 81, 82, 83, 84, 85, 86, 87, 88, 89, 90, 91, 92, 93, 94, 95] (by decide +kernel) (by decide +kernel)
set_option maxRecDepth 20000 in
theorem gX4_kind_X4_starts : GoodIn wsX4_kind (wsV RX4 186 RX4 yX4_starts wsX4_starts) := goodIn_app (goodIn_of _ (by decide +kernel)) ggX4_kind_X4_starts
set_option maxRecDepth 20000 in
theorem ggX4_kind_X4_becomesOf : GoodIn wsX4_kind wsX4_becomesOf := goodIn_r _ [26, 21, 67, 68, 69, 70, 71, 72, 73, 74, 75, 76, 77, 78, 79, 80, 81, 82, 83, 84, 85, 86, 87, 88, 89, 90, 91, 92, 93, 94, 95] (by decide +kernel) (by decide +kernel)
set_option maxRecDepth 20000 in
theorem gX4_kind_X4_becomesOf : GoodIn wsX4_kind (wsV RX4 164 RX4 yX4_becomesOf wsX4_becomesOf) := goodIn_app (goodIn_of _ (by decide +kernel)) ggX4_kind_X4_becomesOf
set_option maxRecDepth 20000 in
theorem ggX4_kind_X4_quartersGo : GoodIn wsX4_kind wsX4_quartersGo := goodIn_r _ [30, 31, 32, 33, 34, 4, 35, 6, 36, 21, 37, 38, 39, 40, 41, 42, 43, 44, 23, 24, 25, 26, 45, 46, 47, 48, 49, 50, 51, 52, 53, 54, 55, 56, 57, 58, 59, 60, 61, 62, 63, 64, 65, 66, 67, 68, 69, 70, 71, 72, 73, 74, 75, 76, 77, 78, 79, 80, 81, 82, 83, 84, 85, 86, 87, 88, 89, 90, 91, 92, 93, 94, 95] (by decide +kernel) (by decide +kernel)
set_option maxRecDepth 20000 in
theorem gX4_kind_X4_quartersGo : GoodIn wsX4_kind (wsV RX4 214 RX4 yX4_quartersGo wsX4_quartersGo) := goodIn_app (goodIn_of _ (by decide +kernel)) ggX4_kind_X4_quartersGo
set_option maxRecDepth 20000 in
theorem ggX4_kind_X4_of : GoodIn wsX4_kind wsX4_of := goodIn_r _ [44, 21, 67, 68, 69, 70, 71, 72, 73, 74, 75, 76, 77, 78, 79, 80, 81, 82, 83, 84, 85, 86, 87, 88, 89, 90, 91, 92, 93, 94, 95] (by decide +kernel) (by decide +kernel)
set_option maxRecDepth 20000 in
theorem gX4_kind_X4_of : GoodIn wsX4_kind (wsV RX4 151 RX4 yX4_of wsX4_of) := goodIn_app (goodIn_of _ (by decide +kernel)) ggX4_kind_X4_of
theorem dX4_kind_0 : decode cX4_kind 0 = .ok (.aload_n 0, 1) := by decide +kernel
theorem dX4_kind_1 : decode cX4_kind 1 = .ok (.iload_n 1, 1) := by decide +kernel
theorem dX4_kind_2 : decode cX4_kind 2 = .ok (.invokevirtual 195, 3) := by decide +kernel
theorem dX4_kind_5 : decode cX4_kind 5 = .ok (.ifCond .eq 17, 3) := by decide +kernel
theorem dX4_kind_8 : decode cX4_kind 8 = .ok (.iload_n 2, 1) := by decide +kernel
theorem dX4_kind_9 : decode cX4_kind 9 = .ok (.invokestatic 222, 3) := by decide +kernel
theorem dX4_kind_12 : decode cX4_kind 12 = .ok (.ifCond .eq 10, 3) := by decide +kernel
theorem dX4_kind_15 : decode cX4_kind 15 = .ok (.iload_n 3, 1) := by decide +kernel
theorem dX4_kind_16 : decode cX4_kind 16 = .ok (.invokestatic 225, 3) := by decide +kernel
theorem dX4_kind_19 : decode cX4_kind 19 = .ok (.ifCond .ne 5, 3) := by decide +kernel
theorem dX4_kind_22 : decode cX4_kind 22 = .ok (.iconst (-1), 1) := by decide +kernel
theorem dX4_kind_23 : decode cX4_kind 23 = .ok (.ireturn, 1) := by decide +kernel
theorem dX4_kind_24 : decode cX4_kind 24 = .ok (.iconst (-1), 1) := by decide +kernel
theorem dX4_kind_25 : decode cX4_kind 25 = .ok (.istore 4, 2) := by decide +kernel
theorem dX4_kind_27 : decode cX4_kind 27 = .ok (.iconst 0, 1) := by decide +kernel
theorem dX4_kind_28 : decode cX4_kind 28 = .ok (.istore 5, 2) := by decide +kernel
theorem dX4_kind_30 : decode cX4_kind 30 = .ok (.iconst 0, 1) := by decide +kernel
theorem dX4_kind_31 : decode cX4_kind 31 = .ok (.istore 6, 2) := by decide +kernel
theorem dX4_kind_33 : decode cX4_kind 33 = .ok (.iload 6, 2) := by decide +kernel
theorem dX4_kind_35 : decode cX4_kind 35 = .ok (.iconst 4, 1) := by decide +kernel
theorem dX4_kind_36 : decode cX4_kind 36 = .ok (.if_icmp .ge 70, 3) := by decide +kernel
theorem dX4_kind_39 : decode cX4_kind 39 = .ok (.aload_n 0, 1) := by decide +kernel
theorem dX4_kind_40 : decode cX4_kind 40 = .ok (.invokevirtual 186, 3) := by decide +kernel
theorem dX4_kind_43 : decode cX4_kind 43 = .ok (.aload_n 0, 1) := by decide +kernel
theorem dX4_kind_44 : decode cX4_kind 44 = .ok (.iload_n 1, 1) := by decide +kernel
theorem dX4_kind_45 : decode cX4_kind 45 = .ok (.iconst 0, 1) := by decide +kernel
theorem dX4_kind_46 : decode cX4_kind 46 = .ok (.iload 6, 2) := by decide +kernel
theorem dX4_kind_48 : decode cX4_kind 48 = .ok (.invokevirtual 164, 3) := by decide +kernel
theorem dX4_kind_51 : decode cX4_kind 51 = .ok (.aload_n 0, 1) := by decide +kernel
theorem dX4_kind_52 : decode cX4_kind 52 = .ok (.iload_n 2, 1) := by decide +kernel
theorem dX4_kind_53 : decode cX4_kind 53 = .ok (.invokevirtual 214, 3) := by decide +kernel
theorem dX4_kind_56 : decode cX4_kind 56 = .ok (.aload_n 0, 1) := by decide +kernel
theorem dX4_kind_57 : decode cX4_kind 57 = .ok (.iload_n 1, 1) := by decide +kernel
theorem dX4_kind_58 : decode cX4_kind 58 = .ok (.iconst 1, 1) := by decide +kernel
theorem dX4_kind_59 : decode cX4_kind 59 = .ok (.invokevirtual 151, 3) := by decide +kernel
theorem dX4_kind_62 : decode cX4_kind 62 = .ok (.iload 4, 2) := by decide +kernel
theorem dX4_kind_64 : decode cX4_kind 64 = .ok (.if_icmp .le 8, 3) := by decide +kernel
theorem dX4_kind_67 : decode cX4_kind 67 = .ok (.iload 6, 2) := by decide +kernel
theorem dX4_kind_69 : decode cX4_kind 69 = .ok (.goto 5, 3) := by decide +kernel
theorem dX4_kind_72 : decode cX4_kind 72 = .ok (.iload 5, 2) := by decide +kernel
theorem dX4_kind_74 : decode cX4_kind 74 = .ok (.istore 5, 2) := by decide +kernel
theorem dX4_kind_76 : decode cX4_kind 76 = .ok (.aload_n 0, 1) := by decide +kernel
theorem dX4_kind_77 : decode cX4_kind 77 = .ok (.iload_n 1, 1) := by decide +kernel
theorem dX4_kind_78 : decode cX4_kind 78 = .ok (.iconst 1, 1) := by decide +kernel
theorem dX4_kind_79 : decode cX4_kind 79 = .ok (.invokevirtual 151, 3) := by decide +kernel
theorem dX4_kind_82 : decode cX4_kind 82 = .ok (.iload 4, 2) := by decide +kernel
theorem dX4_kind_84 : decode cX4_kind 84 = .ok (.if_icmp .le 12, 3) := by decide +kernel
theorem dX4_kind_87 : decode cX4_kind 87 = .ok (.aload_n 0, 1) := by decide +kernel
theorem dX4_kind_88 : decode cX4_kind 88 = .ok (.iload_n 1, 1) := by decide +kernel
theorem dX4_kind_89 : decode cX4_kind 89 = .ok (.iconst 1, 1) := by decide +kernel
theorem dX4_kind_90 : decode cX4_kind 90 = .ok (.invokevirtual 151, 3) := by decide +kernel
theorem dX4_kind_93 : decode cX4_kind 93 = .ok (.goto 5, 3) := by decide +kernel
theorem dX4_kind_96 : decode cX4_kind 96 = .ok (.iload 4, 2) := by decide +kernel
theorem dX4_kind_98 : decode cX4_kind 98 = .ok (.istore 4, 2) := by decide +kernel
theorem dX4_kind_100 : decode cX4_kind 100 = .ok (.iinc 6 1, 3) := by decide +kernel
theorem dX4_kind_103 : decode cX4_kind 103 = .ok (.goto (-70), 3) := by decide +kernel
theorem dX4_kind_106 : decode cX4_kind 106 = .ok (.iload_n 3, 1) := by decide +kernel
theorem dX4_kind_107 : decode cX4_kind 107 = .ok (.ifCond .ne 8, 3) := by decide +kernel
theorem dX4_kind_110 : decode cX4_kind 110 = .ok (.iload 5, 2) := by decide +kernel
theorem dX4_kind_112 : decode cX4_kind 112 = .ok (.goto 5, 3) := by decide +kernel
theorem dX4_kind_115 : decode cX4_kind 115 = .ok (.iload 4, 2) := by decide +kernel
theorem dX4_kind_117 : decode cX4_kind 117 = .ok (.ireturn, 1) := by decide +kernel
set_option maxRecDepth 20000 in
theorem ggX4_alms_X4_isOne : GoodIn wsX4_alms wsX4_isOne := goodIn_r _ [5, 6, 7, 8, 4, 9, 60, 61, 62, 63, 64, 65, 66, 67, 68, 69, 70, 71, 72, 73, 74, 75, 76, 77, 78, 79, 80, 81, 82, 83, 84, 85, 86, 87, 88] (by decide +kernel) (by decide +kernel)
set_option maxRecDepth 20000 in
theorem gX4_alms_X4_isOne : GoodIn wsX4_alms (wsV RX4 195 RX4 yX4_isOne wsX4_isOne) := goodIn_app (goodIn_of _ (by decide +kernel)) ggX4_alms_X4_isOne
set_option maxRecDepth 20000 in
theorem ggX4_alms_X4_isFar : GoodIn wsX4_alms wsX4_isFar := goodIn_r _ [12, 13, 7, 8, 4, 9] (by decide +kernel) (by decide +kernel)
set_option maxRecDepth 20000 in
theorem gX4_alms_X4_isFar : GoodIn wsX4_alms (va_wsS RX4 222 yX4_isFar wsX4_isFar) := goodIn_app (goodIn_of _ (by decide +kernel)) ggX4_alms_X4_isFar
set_option maxRecDepth 20000 in
theorem ggX4_alms_X4_starts : GoodIn wsX4_alms wsX4_starts := goodIn_r _ [17, 18, 19, 60, 61, 62, 63, 64, 65, 66, 67, 68, 69, 70, 71, 72, 73, 74, 75, 76, 77, 78, 79, 80, 81, 82, 83, 84, 85, 86, 87, 88] (by decide +kernel) (by decide +kernel)
set_option maxRecDepth 20000 in
theorem gX4_alms_X4_starts : GoodIn wsX4_alms (wsV RX4 186 RX4 yX4_starts wsX4_starts) := goodIn_app (goodIn_of _ (by decide +kernel)) ggX4_alms_X4_starts
set_option maxRecDepth 20000 in
theorem ggX4_alms_X4_of : GoodIn wsX4_alms wsX4_of := goodIn_r _ [23, 18, 60, 61, 62, 63, 64, 65, 66, 67, 68, 69, 70, 71, 72, 73, 74, 75, 76, 77, 78, 79, 80, 81, 82, 83, 84, 85, 86, 87, 88] (by decide +kernel) (by decide +kernel)
set_option maxRecDepth 20000 in
theorem gX4_alms_X4_of : GoodIn wsX4_alms (wsV RX4 151 RX4 yX4_of wsX4_of) := goodIn_app (goodIn_of _ (by decide +kernel)) ggX4_alms_X4_of
set_option maxRecDepth 20000 in
theorem ggX4_alms_X4_within : GoodIn wsX4_alms wsX4_within := goodIn_r _ [26] (by decide +kernel) (by decide +kernel)
set_option maxRecDepth 20000 in
theorem gX4_alms_X4_within : GoodIn wsX4_alms (va_wsS RX4 168 yX4_within wsX4_within) := goodIn_app (goodIn_of _ (by decide +kernel)) ggX4_alms_X4_within
set_option maxRecDepth 20000 in
theorem ggX4_alms_X4_becomesOf : GoodIn wsX4_alms wsX4_becomesOf := goodIn_r _ [30, 18, 60, 61, 62, 63, 64, 65, 66, 67, 68, 69, 70, 71, 72, 73, 74, 75, 76, 77, 78, 79, 80, 81, 82, 83, 84, 85, 86, 87, 88] (by decide +kernel) (by decide +kernel)
set_option maxRecDepth 20000 in
theorem gX4_alms_X4_becomesOf : GoodIn wsX4_alms (wsV RX4 164 RX4 yX4_becomesOf wsX4_becomesOf) := goodIn_app (goodIn_of _ (by decide +kernel)) ggX4_alms_X4_becomesOf
set_option maxRecDepth 20000 in
theorem ggX4_alms_X4_quarterGoes : GoodIn wsX4_alms wsX4_quarterGoes := goodIn_r _ [34, 6, 35, 18, 36, 37, 38, 39, 4, 40, 20, 21, 22, 23, 27, 28, 29, 30, 24, 25, 26, 41, 42, 43, 44, 45, 46, 47, 48, 49, 50, 51, 52, 53, 54, 55, 56, 57, 58, 59, 60, 61, 62, 63, 64, 65, 66, 67, 68, 69, 70, 71, 72, 73, 74, 75, 76, 77, 78, 79, 80, 81, 82, 83, 84, 85, 86, 87, 88] (by decide +kernel) (by decide +kernel)
set_option maxRecDepth 20000 in
theorem gX4_alms_X4_quarterGoes : GoodIn wsX4_alms (wsV RX4 183 RX4 yX4_quarterGoes wsX4_quarterGoes) := goodIn_app (goodIn_of _ (by decide +kernel)) ggX4_alms_X4_quarterGoes
theorem dX4_alms_0 : decode cX4_alms 0 = .ok (.aload_n 0, 1) := by decide +kernel
theorem dX4_alms_1 : decode cX4_alms 1 = .ok (.iload_n 1, 1) := by decide +kernel
theorem dX4_alms_2 : decode cX4_alms 2 = .ok (.invokevirtual 195, 3) := by decide +kernel
theorem dX4_alms_5 : decode cX4_alms 5 = .ok (.ifCond .eq 10, 3) := by decide +kernel
theorem dX4_alms_8 : decode cX4_alms 8 = .ok (.iload_n 2, 1) := by decide +kernel
theorem dX4_alms_9 : decode cX4_alms 9 = .ok (.invokestatic 222, 3) := by decide +kernel
theorem dX4_alms_12 : decode cX4_alms 12 = .ok (.ifCond .ne 5, 3) := by decide +kernel
theorem dX4_alms_15 : decode cX4_alms 15 = .ok (.iconst (-1), 1) := by decide +kernel
theorem dX4_alms_16 : decode cX4_alms 16 = .ok (.ireturn, 1) := by decide +kernel
theorem dX4_alms_17 : decode cX4_alms 17 = .ok (.iconst 0, 1) := by decide +kernel
theorem dX4_alms_18 : decode cX4_alms 18 = .ok (.istore_n 3, 1) := by decide +kernel
theorem dX4_alms_19 : decode cX4_alms 19 = .ok (.iload_n 3, 1) := by decide +kernel
theorem dX4_alms_20 : decode cX4_alms 20 = .ok (.bipush 99, 2) := by decide +kernel
theorem dX4_alms_22 : decode cX4_alms 22 = .ok (.if_icmp .gt 80, 3) := by decide +kernel
theorem dX4_alms_25 : decode cX4_alms 25 = .ok (.iconst 0, 1) := by decide +kernel
theorem dX4_alms_26 : decode cX4_alms 26 = .ok (.istore 4, 2) := by decide +kernel
theorem dX4_alms_28 : decode cX4_alms 28 = .ok (.aload_n 0, 1) := by decide +kernel
theorem dX4_alms_29 : decode cX4_alms 29 = .ok (.invokevirtual 186, 3) := by decide +kernel
theorem dX4_alms_32 : decode cX4_alms 32 = .ok (.aload_n 0, 1) := by decide +kernel
theorem dX4_alms_33 : decode cX4_alms 33 = .ok (.iload_n 1, 1) := by decide +kernel
theorem dX4_alms_34 : decode cX4_alms 34 = .ok (.iconst 1, 1) := by decide +kernel
theorem dX4_alms_35 : decode cX4_alms 35 = .ok (.aload_n 0, 1) := by decide +kernel
theorem dX4_alms_36 : decode cX4_alms 36 = .ok (.iload_n 1, 1) := by decide +kernel
theorem dX4_alms_37 : decode cX4_alms 37 = .ok (.iconst 1, 1) := by decide +kernel
theorem dX4_alms_38 : decode cX4_alms 38 = .ok (.invokevirtual 151, 3) := by decide +kernel
theorem dX4_alms_41 : decode cX4_alms 41 = .ok (.iload_n 3, 1) := by decide +kernel
theorem dX4_alms_42 : decode cX4_alms 42 = .ok (.iadd, 1) := by decide +kernel
theorem dX4_alms_43 : decode cX4_alms 43 = .ok (.invokestatic 168, 3) := by decide +kernel
theorem dX4_alms_46 : decode cX4_alms 46 = .ok (.invokevirtual 164, 3) := by decide +kernel
theorem dX4_alms_49 : decode cX4_alms 49 = .ok (.iconst 0, 1) := by decide +kernel
theorem dX4_alms_50 : decode cX4_alms 50 = .ok (.istore 5, 2) := by decide +kernel
theorem dX4_alms_52 : decode cX4_alms 52 = .ok (.iload 5, 2) := by decide +kernel
theorem dX4_alms_54 : decode cX4_alms 54 = .ok (.iload_n 2, 1) := by decide +kernel
theorem dX4_alms_55 : decode cX4_alms 55 = .ok (.if_icmp .ge 34, 3) := by decide +kernel
theorem dX4_alms_58 : decode cX4_alms 58 = .ok (.aload_n 0, 1) := by decide +kernel
theorem dX4_alms_59 : decode cX4_alms 59 = .ok (.invokevirtual 183, 3) := by decide +kernel
theorem dX4_alms_62 : decode cX4_alms 62 = .ok (.iload 4, 2) := by decide +kernel
theorem dX4_alms_64 : decode cX4_alms 64 = .ok (.ifCond .ne 12, 3) := by decide +kernel
theorem dX4_alms_67 : decode cX4_alms 67 = .ok (.aload_n 0, 1) := by decide +kernel
theorem dX4_alms_68 : decode cX4_alms 68 = .ok (.iload_n 1, 1) := by decide +kernel
theorem dX4_alms_69 : decode cX4_alms 69 = .ok (.iconst 1, 1) := by decide +kernel
theorem dX4_alms_70 : decode cX4_alms 70 = .ok (.invokevirtual 151, 3) := by decide +kernel
theorem dX4_alms_73 : decode cX4_alms 73 = .ok (.ifCond .ne 7, 3) := by decide +kernel
theorem dX4_alms_76 : decode cX4_alms 76 = .ok (.iconst 1, 1) := by decide +kernel
theorem dX4_alms_77 : decode cX4_alms 77 = .ok (.goto 4, 3) := by decide +kernel
theorem dX4_alms_80 : decode cX4_alms 80 = .ok (.iconst 0, 1) := by decide +kernel
theorem dX4_alms_81 : decode cX4_alms 81 = .ok (.istore 4, 2) := by decide +kernel
theorem dX4_alms_83 : decode cX4_alms 83 = .ok (.iinc 5 1, 3) := by decide +kernel
theorem dX4_alms_86 : decode cX4_alms 86 = .ok (.goto (-34), 3) := by decide +kernel
theorem dX4_alms_89 : decode cX4_alms 89 = .ok (.iload 4, 2) := by decide +kernel
theorem dX4_alms_91 : decode cX4_alms 91 = .ok (.ifCond .ne 5, 3) := by decide +kernel
theorem dX4_alms_94 : decode cX4_alms 94 = .ok (.iload_n 3, 1) := by decide +kernel
theorem dX4_alms_95 : decode cX4_alms 95 = .ok (.ireturn, 1) := by decide +kernel
theorem dX4_alms_96 : decode cX4_alms 96 = .ok (.iinc 3 1, 3) := by decide +kernel
theorem dX4_alms_99 : decode cX4_alms 99 = .ok (.goto (-80), 3) := by decide +kernel
theorem dX4_alms_102 : decode cX4_alms 102 = .ok (.bipush (-4), 2) := by decide +kernel
theorem dX4_alms_104 : decode cX4_alms 104 = .ok (.ireturn, 1) := by decide +kernel
set_option maxRecDepth 20000 in
theorem ggX4_ruinedBehind_X4_quartersGo : GoodIn wsX4_ruinedBehind wsX4_quartersGo := goodIn_r _ [5, 6, 7, 8, 9, 4, 10, 11, 12, 13, 14, 15, 16, 17, 18, 19, 20, 21, 22, 23, 24, 25, 26, 27, 28, 29, 30, 31, 32, 33, 34, 35, 36, 37, 38, 39, 40, 41, 42, 43, 44, 45, 46, 47, 55, 56, 57, 58, 59, 60, 61, 62, 63, 64, 65, 66, 67, 68, 69, 70, 71, 72, 73, 74, 75, 76, 77, 78, 79, 80, 81, 82, 83] (by decide +kernel) (by decide +kernel)
set_option maxRecDepth 20000 in
theorem gX4_ruinedBehind_X4_quartersGo : GoodIn wsX4_ruinedBehind (wsV RX4 214 RX4 yX4_quartersGo wsX4_quartersGo) := goodIn_app (goodIn_of _ (by decide +kernel)) ggX4_ruinedBehind_X4_quartersGo
set_option maxRecDepth 20000 in
theorem ggX4_ruinedBehind_X4_ruined : GoodIn wsX4_ruinedBehind wsX4_ruined := goodIn_r _ [51, 11, 18, 19, 20, 4, 21, 13, 41, 42, 43, 55, 56, 57, 58, 59, 60, 61, 62, 63, 64, 65, 66, 67, 68, 69, 70, 71, 72, 73, 74, 75, 76, 77, 78, 79, 80, 81, 82, 83] (by decide +kernel) (by decide +kernel)
set_option maxRecDepth 20000 in
theorem gX4_ruinedBehind_X4_ruined : GoodIn wsX4_ruinedBehind (wsV RX4 192 RX4 yX4_ruined wsX4_ruined) := goodIn_app (goodIn_of _ (by decide +kernel)) ggX4_ruinedBehind_X4_ruined
set_option maxRecDepth 20000 in
theorem ggX4_ruinedBehind_X4_bitsOf : GoodIn wsX4_ruinedBehind wsX4_bitsOf := goodIn_r _ [54] (by decide +kernel) (by decide +kernel)
set_option maxRecDepth 20000 in
theorem gX4_ruinedBehind_X4_bitsOf : GoodIn wsX4_ruinedBehind (va_wsS RX4 241 yX4_bitsOf wsX4_bitsOf) := goodIn_app (goodIn_of _ (by decide +kernel)) ggX4_ruinedBehind_X4_bitsOf
theorem dX4_ruinedBehind_0 : decode cX4_ruinedBehind 0 = .ok (.aload_n 0, 1) := by decide +kernel
theorem dX4_ruinedBehind_1 : decode cX4_ruinedBehind 1 = .ok (.iload_n 1, 1) := by decide +kernel
theorem dX4_ruinedBehind_2 : decode cX4_ruinedBehind 2 = .ok (.invokevirtual 214, 3) := by decide +kernel
theorem dX4_ruinedBehind_5 : decode cX4_ruinedBehind 5 = .ok (.aload_n 0, 1) := by decide +kernel
theorem dX4_ruinedBehind_6 : decode cX4_ruinedBehind 6 = .ok (.invokevirtual 192, 3) := by decide +kernel
theorem dX4_ruinedBehind_9 : decode cX4_ruinedBehind 9 = .ok (.invokestatic 241, 3) := by decide +kernel
theorem dX4_ruinedBehind_12 : decode cX4_ruinedBehind 12 = .ok (.ireturn, 1) := by decide +kernel
set_option maxRecDepth 20000 in
theorem ggX4_help_X4_in : GoodIn wsX4_help wsX4_in := goodIn_r _ [8] (by decide +kernel) (by decide +kernel)
set_option maxRecDepth 20000 in
theorem gX4_help_X4_in : GoodIn wsX4_help (va_wsS RX4 72 yX4_in wsX4_in) := goodIn_app (goodIn_of _ (by decide +kernel)) ggX4_help_X4_in
set_option maxRecDepth 20000 in
theorem ggX4_help_X4_isPart : GoodIn wsX4_help wsX4_isPart := goodIn_r _ [11, 5, 6, 7, 8] (by decide +kernel) (by decide +kernel)
set_option maxRecDepth 20000 in
theorem gX4_help_X4_isPart : GoodIn wsX4_help (va_wsS RX4 225 yX4_isPart wsX4_isPart) := goodIn_app (goodIn_of _ (by decide +kernel)) ggX4_help_X4_isPart
set_option maxRecDepth 20000 in
theorem ggX4_help_X4_starts : GoodIn wsX4_help wsX4_starts := goodIn_r _ [15, 4, 2, 71, 72, 73, 74, 75, 76, 77, 78, 79, 80, 81, 82, 83, 84, 85, 86, 87, 88, 89, 90, 91, 92, 93, 94, 95, 96, 97, 98, 99] (by decide +kernel) (by decide +kernel)
set_option maxRecDepth 20000 in
theorem gX4_help_X4_starts : GoodIn wsX4_help (wsV RX4 186 RX4 yX4_starts wsX4_starts) := goodIn_app (goodIn_of _ (by decide +kernel)) ggX4_help_X4_starts
set_option maxRecDepth 20000 in
theorem ggX4_help_X4_ruinedBehind : GoodIn wsX4_help wsX4_ruinedBehind := goodIn_r _ [19, 20, 21, 22, 7, 23, 24, 25, 26, 27, 28, 3, 29, 4, 30, 31, 32, 33, 34, 35, 36, 37, 38, 39, 40, 41, 42, 43, 44, 45, 46, 47, 48, 49, 50, 51, 52, 53, 54, 55, 56, 57, 58, 59, 60, 61, 62, 63, 64, 65, 66, 67, 68, 69, 70, 71, 72, 73, 74, 75, 76, 77, 78, 79, 80, 81, 82, 83, 84, 85, 86, 87, 88, 89, 90, 91, 92, 93, 94, 95, 96, 97, 98, 99] (by decide +kernel) (by decide +kernel)
set_option maxRecDepth 20000 in
theorem gX4_help_X4_ruinedBehind : GoodIn wsX4_help (wsV RX4 244 RX4 yX4_ruinedBehind wsX4_ruinedBehind) := goodIn_app (goodIn_of _ (by decide +kernel)) ggX4_help_X4_ruinedBehind
theorem dX4_help_0 : decode cX4_help 0 = .ok (.iload_n 1, 1) := by decide +kernel
theorem dX4_help_1 : decode cX4_help 1 = .ok (.i2l, 1) := by decide +kernel
theorem dX4_help_2 : decode cX4_help 2 = .ok (.lconst 0, 1) := by decide +kernel
theorem dX4_help_3 : decode cX4_help 3 = .ok (.ldc2_w 205, 3) := by decide +kernel
theorem dX4_help_6 : decode cX4_help 6 = .ok (.invokestatic 72, 3) := by decide +kernel
theorem dX4_help_9 : decode cX4_help 9 = .ok (.ifCond .eq 10, 3) := by decide +kernel
theorem dX4_help_12 : decode cX4_help 12 = .ok (.iload_n 2, 1) := by decide +kernel
theorem dX4_help_13 : decode cX4_help 13 = .ok (.invokestatic 225, 3) := by decide +kernel
theorem dX4_help_16 : decode cX4_help 16 = .ok (.ifCond .ne 5, 3) := by decide +kernel
theorem dX4_help_19 : decode cX4_help 19 = .ok (.iconst (-1), 1) := by decide +kernel
theorem dX4_help_20 : decode cX4_help 20 = .ok (.ireturn, 1) := by decide +kernel
theorem dX4_help_21 : decode cX4_help 21 = .ok (.aload_n 0, 1) := by decide +kernel
theorem dX4_help_22 : decode cX4_help 22 = .ok (.getfield 7, 3) := by decide +kernel
theorem dX4_help_25 : decode cX4_help 25 = .ok (.bipush 23, 2) := by decide +kernel
theorem dX4_help_27 : decode cX4_help 27 = .ok (.iaload, 1) := by decide +kernel
theorem dX4_help_28 : decode cX4_help 28 = .ok (.iconst 4, 1) := by decide +kernel
theorem dX4_help_29 : decode cX4_help 29 = .ok (.if_icmp .ne 6, 3) := by decide +kernel
theorem dX4_help_32 : decode cX4_help 32 = .ok (.bipush (-3), 2) := by decide +kernel
theorem dX4_help_34 : decode cX4_help 34 = .ok (.ireturn, 1) := by decide +kernel
theorem dX4_help_35 : decode cX4_help 35 = .ok (.aload_n 0, 1) := by decide +kernel
theorem dX4_help_36 : decode cX4_help 36 = .ok (.invokevirtual 186, 3) := by decide +kernel
theorem dX4_help_39 : decode cX4_help 39 = .ok (.aload_n 0, 1) := by decide +kernel
theorem dX4_help_40 : decode cX4_help 40 = .ok (.iload_n 1, 1) := by decide +kernel
theorem dX4_help_41 : decode cX4_help 41 = .ok (.invokevirtual 244, 3) := by decide +kernel
theorem dX4_help_44 : decode cX4_help 44 = .ok (.istore_n 3, 1) := by decide +kernel
theorem dX4_help_45 : decode cX4_help 45 = .ok (.bipush (-4), 2) := by decide +kernel
theorem dX4_help_47 : decode cX4_help 47 = .ok (.istore 4, 2) := by decide +kernel
theorem dX4_help_49 : decode cX4_help 49 = .ok (.iconst 0, 1) := by decide +kernel
theorem dX4_help_50 : decode cX4_help 50 = .ok (.istore 5, 2) := by decide +kernel
theorem dX4_help_52 : decode cX4_help 52 = .ok (.iload 5, 2) := by decide +kernel
theorem dX4_help_54 : decode cX4_help 54 = .ok (.aload_n 0, 1) := by decide +kernel
theorem dX4_help_55 : decode cX4_help 55 = .ok (.getfield 67, 3) := by decide +kernel
theorem dX4_help_58 : decode cX4_help 58 = .ok (.aload_n 0, 1) := by decide +kernel
theorem dX4_help_59 : decode cX4_help 59 = .ok (.getfield 67, 3) := by decide +kernel
theorem dX4_help_62 : decode cX4_help 62 = .ok (.imul, 1) := by decide +kernel
theorem dX4_help_63 : decode cX4_help 63 = .ok (.bipush 20, 2) := by decide +kernel
theorem dX4_help_65 : decode cX4_help 65 = .ok (.imul, 1) := by decide +kernel
theorem dX4_help_66 : decode cX4_help 66 = .ok (.if_icmp .ge 173, 3) := by decide +kernel
theorem dX4_help_69 : decode cX4_help 69 = .ok (.iload 5, 2) := by decide +kernel
theorem dX4_help_71 : decode cX4_help 71 = .ok (.aload_n 0, 1) := by decide +kernel
theorem dX4_help_72 : decode cX4_help 72 = .ok (.getfield 67, 3) := by decide +kernel
theorem dX4_help_75 : decode cX4_help 75 = .ok (.bipush 20, 2) := by decide +kernel
theorem dX4_help_77 : decode cX4_help 77 = .ok (.imul, 1) := by decide +kernel
theorem dX4_help_78 : decode cX4_help 78 = .ok (.idiv, 1) := by decide +kernel
theorem dX4_help_79 : decode cX4_help 79 = .ok (.istore 6, 2) := by decide +kernel
theorem dX4_help_81 : decode cX4_help 81 = .ok (.iload 5, 2) := by decide +kernel
theorem dX4_help_83 : decode cX4_help 83 = .ok (.bipush 20, 2) := by decide +kernel
theorem dX4_help_85 : decode cX4_help 85 = .ok (.idiv, 1) := by decide +kernel
theorem dX4_help_86 : decode cX4_help 86 = .ok (.aload_n 0, 1) := by decide +kernel
theorem dX4_help_87 : decode cX4_help 87 = .ok (.getfield 67, 3) := by decide +kernel
theorem dX4_help_90 : decode cX4_help 90 = .ok (.irem, 1) := by decide +kernel
theorem dX4_help_91 : decode cX4_help 91 = .ok (.istore 7, 2) := by decide +kernel
theorem dX4_help_93 : decode cX4_help 93 = .ok (.iconst 1, 1) := by decide +kernel
theorem dX4_help_94 : decode cX4_help 94 = .ok (.iload 5, 2) := by decide +kernel
theorem dX4_help_96 : decode cX4_help 96 = .ok (.bipush 20, 2) := by decide +kernel
theorem dX4_help_98 : decode cX4_help 98 = .ok (.irem, 1) := by decide +kernel
theorem dX4_help_99 : decode cX4_help 99 = .ok (.iadd, 1) := by decide +kernel
theorem dX4_help_100 : decode cX4_help 100 = .ok (.istore 8, 2) := by decide +kernel
theorem dX4_help_102 : decode cX4_help 102 = .ok (.iload 6, 2) := by decide +kernel
theorem dX4_help_104 : decode cX4_help 104 = .ok (.iload 7, 2) := by decide +kernel
theorem dX4_help_106 : decode cX4_help 106 = .ok (.if_icmp .eq 127, 3) := by decide +kernel
theorem dX4_help_109 : decode cX4_help 109 = .ok (.aload_n 0, 1) := by decide +kernel
theorem dX4_help_110 : decode cX4_help 110 = .ok (.invokevirtual 186, 3) := by decide +kernel
theorem dX4_help_113 : decode cX4_help 113 = .ok (.bipush 24, 2) := by decide +kernel
theorem dX4_help_115 : decode cX4_help 115 = .ok (.iconst 4, 1) := by decide +kernel
theorem dX4_help_116 : decode cX4_help 116 = .ok (.aload_n 0, 1) := by decide +kernel
theorem dX4_help_117 : decode cX4_help 117 = .ok (.getfield 13, 3) := by decide +kernel
theorem dX4_help_120 : decode cX4_help 120 = .ok (.bipush 23, 2) := by decide +kernel
theorem dX4_help_122 : decode cX4_help 122 = .ok (.iaload, 1) := by decide +kernel
theorem dX4_help_123 : decode cX4_help 123 = .ok (.imul, 1) := by decide +kernel
theorem dX4_help_124 : decode cX4_help 124 = .ok (.iadd, 1) := by decide +kernel
theorem dX4_help_125 : decode cX4_help 125 = .ok (.istore 9, 2) := by decide +kernel
theorem dX4_help_127 : decode cX4_help 127 = .ok (.aload_n 0, 1) := by decide +kernel
theorem dX4_help_128 : decode cX4_help 128 = .ok (.getfield 13, 3) := by decide +kernel
theorem dX4_help_131 : decode cX4_help 131 = .ok (.iload 9, 2) := by decide +kernel
theorem dX4_help_133 : decode cX4_help 133 = .ok (.aload_n 0, 1) := by decide +kernel
theorem dX4_help_134 : decode cX4_help 134 = .ok (.getfield 13, 3) := by decide +kernel
theorem dX4_help_137 : decode cX4_help 137 = .ok (.bipush 20, 2) := by decide +kernel
theorem dX4_help_139 : decode cX4_help 139 = .ok (.iaload, 1) := by decide +kernel
theorem dX4_help_140 : decode cX4_help 140 = .ok (.iastore, 1) := by decide +kernel
theorem dX4_help_141 : decode cX4_help 141 = .ok (.aload_n 0, 1) := by decide +kernel
theorem dX4_help_142 : decode cX4_help 142 = .ok (.getfield 13, 3) := by decide +kernel
theorem dX4_help_145 : decode cX4_help 145 = .ok (.iload 9, 2) := by decide +kernel
theorem dX4_help_147 : decode cX4_help 147 = .ok (.iconst 1, 1) := by decide +kernel
theorem dX4_help_148 : decode cX4_help 148 = .ok (.iadd, 1) := by decide +kernel
theorem dX4_help_149 : decode cX4_help 149 = .ok (.iload 6, 2) := by decide +kernel
theorem dX4_help_151 : decode cX4_help 151 = .ok (.iastore, 1) := by decide +kernel
theorem dX4_help_152 : decode cX4_help 152 = .ok (.aload_n 0, 1) := by decide +kernel
theorem dX4_help_153 : decode cX4_help 153 = .ok (.getfield 13, 3) := by decide +kernel
theorem dX4_help_156 : decode cX4_help 156 = .ok (.iload 9, 2) := by decide +kernel
theorem dX4_help_158 : decode cX4_help 158 = .ok (.iconst 2, 1) := by decide +kernel
theorem dX4_help_159 : decode cX4_help 159 = .ok (.iadd, 1) := by decide +kernel
theorem dX4_help_160 : decode cX4_help 160 = .ok (.iload 7, 2) := by decide +kernel
theorem dX4_help_162 : decode cX4_help 162 = .ok (.iastore, 1) := by decide +kernel
theorem dX4_help_163 : decode cX4_help 163 = .ok (.aload_n 0, 1) := by decide +kernel
theorem dX4_help_164 : decode cX4_help 164 = .ok (.getfield 13, 3) := by decide +kernel
theorem dX4_help_167 : decode cX4_help 167 = .ok (.iload 9, 2) := by decide +kernel
theorem dX4_help_169 : decode cX4_help 169 = .ok (.iconst 3, 1) := by decide +kernel
theorem dX4_help_170 : decode cX4_help 170 = .ok (.iadd, 1) := by decide +kernel
theorem dX4_help_171 : decode cX4_help 171 = .ok (.iload 8, 2) := by decide +kernel
theorem dX4_help_173 : decode cX4_help 173 = .ok (.iastore, 1) := by decide +kernel
theorem dX4_help_174 : decode cX4_help 174 = .ok (.aload_n 0, 1) := by decide +kernel
theorem dX4_help_175 : decode cX4_help 175 = .ok (.getfield 13, 3) := by decide +kernel
theorem dX4_help_178 : decode cX4_help 178 = .ok (.bipush 23, 2) := by decide +kernel
theorem dX4_help_180 : decode cX4_help 180 = .ok (.dup2, 1) := by decide +kernel
theorem dX4_help_181 : decode cX4_help 181 = .ok (.iaload, 1) := by decide +kernel
theorem dX4_help_182 : decode cX4_help 182 = .ok (.iconst 1, 1) := by decide +kernel
theorem dX4_help_183 : decode cX4_help 183 = .ok (.iadd, 1) := by decide +kernel
theorem dX4_help_184 : decode cX4_help 184 = .ok (.iastore, 1) := by decide +kernel
theorem dX4_help_185 : decode cX4_help 185 = .ok (.aload_n 0, 1) := by decide +kernel
theorem dX4_help_186 : decode cX4_help 186 = .ok (.iload_n 1, 1) := by decide +kernel
theorem dX4_help_187 : decode cX4_help 187 = .ok (.invokevirtual 244, 3) := by decide +kernel
theorem dX4_help_190 : decode cX4_help 190 = .ok (.istore 10, 2) := by decide +kernel
theorem dX4_help_192 : decode cX4_help 192 = .ok (.iload 10, 2) := by decide +kernel
theorem dX4_help_194 : decode cX4_help 194 = .ok (.iload_n 3, 1) := by decide +kernel
theorem dX4_help_195 : decode cX4_help 195 = .ok (.if_icmp .ge 21, 3) := by decide +kernel
theorem dX4_help_198 : decode cX4_help 198 = .ok (.sipush 1000, 3) := by decide +kernel
theorem dX4_help_201 : decode cX4_help 201 = .ok (.iload 6, 2) := by decide +kernel
theorem dX4_help_203 : decode cX4_help 203 = .ok (.imul, 1) := by decide +kernel
theorem dX4_help_204 : decode cX4_help 204 = .ok (.bipush 100, 2) := by decide +kernel
theorem dX4_help_206 : decode cX4_help 206 = .ok (.iload 7, 2) := by decide +kernel
theorem dX4_help_208 : decode cX4_help 208 = .ok (.imul, 1) := by decide +kernel
theorem dX4_help_209 : decode cX4_help 209 = .ok (.iadd, 1) := by decide +kernel
theorem dX4_help_210 : decode cX4_help 210 = .ok (.iload 8, 2) := by decide +kernel
theorem dX4_help_212 : decode cX4_help 212 = .ok (.iadd, 1) := by decide +kernel
theorem dX4_help_213 : decode cX4_help 213 = .ok (.goto 5, 3) := by decide +kernel
theorem dX4_help_216 : decode cX4_help 216 = .ok (.iload 4, 2) := by decide +kernel
theorem dX4_help_218 : decode cX4_help 218 = .ok (.istore 4, 2) := by decide +kernel
theorem dX4_help_220 : decode cX4_help 220 = .ok (.iload 10, 2) := by decide +kernel
theorem dX4_help_222 : decode cX4_help 222 = .ok (.iload_n 3, 1) := by decide +kernel
theorem dX4_help_223 : decode cX4_help 223 = .ok (.if_icmp .ge 8, 3) := by decide +kernel
theorem dX4_help_226 : decode cX4_help 226 = .ok (.iload 10, 2) := by decide +kernel
theorem dX4_help_228 : decode cX4_help 228 = .ok (.goto 4, 3) := by decide +kernel
theorem dX4_help_231 : decode cX4_help 231 = .ok (.iload_n 3, 1) := by decide +kernel
theorem dX4_help_232 : decode cX4_help 232 = .ok (.istore_n 3, 1) := by decide +kernel
theorem dX4_help_233 : decode cX4_help 233 = .ok (.iinc 5 1, 3) := by decide +kernel
theorem dX4_help_236 : decode cX4_help 236 = .ok (.goto (-184), 3) := by decide +kernel
theorem dX4_help_239 : decode cX4_help 239 = .ok (.iload 4, 2) := by decide +kernel
theorem dX4_help_241 : decode cX4_help 241 = .ok (.bipush (-4), 2) := by decide +kernel
theorem dX4_help_243 : decode cX4_help 243 = .ok (.if_icmp .ne 8, 3) := by decide +kernel
theorem dX4_help_246 : decode cX4_help 246 = .ok (.bipush (-4), 2) := by decide +kernel
theorem dX4_help_248 : decode cX4_help 248 = .ok (.goto 13, 3) := by decide +kernel
theorem dX4_help_251 : decode cX4_help 251 = .ok (.iload_n 2, 1) := by decide +kernel
theorem dX4_help_252 : decode cX4_help 252 = .ok (.ifCond .ne 8, 3) := by decide +kernel
theorem dX4_help_255 : decode cX4_help 255 = .ok (.iload 4, 2) := by decide +kernel
theorem dX4_help_257 : decode cX4_help 257 = .ok (.goto 4, 3) := by decide +kernel
theorem dX4_help_260 : decode cX4_help 260 = .ok (.iload_n 3, 1) := by decide +kernel
theorem dX4_help_261 : decode cX4_help 261 = .ok (.ireturn, 1) := by decide +kernel
set_option maxRecDepth 20000 in
theorem ggX4_swap_X4_isFar : GoodIn wsX4_swap wsX4_isFar := goodIn_r _ [5, 6, 7, 8, 4, 9] (by decide +kernel) (by decide +kernel)
set_option maxRecDepth 20000 in
theorem gX4_swap_X4_isFar : GoodIn wsX4_swap (va_wsS RX4 222 yX4_isFar wsX4_isFar) := goodIn_app (goodIn_of _ (by decide +kernel)) ggX4_swap_X4_isFar
set_option maxRecDepth 20000 in
theorem ggX4_swap_X4_isPart : GoodIn wsX4_swap wsX4_isPart := goodIn_r _ [12, 7, 8, 4, 9] (by decide +kernel) (by decide +kernel)
set_option maxRecDepth 20000 in
theorem gX4_swap_X4_isPart : GoodIn wsX4_swap (va_wsS RX4 225 yX4_isPart wsX4_isPart) := goodIn_app (goodIn_of _ (by decide +kernel)) ggX4_swap_X4_isPart
set_option maxRecDepth 20000 in
theorem ggX4_swap_X4_starts : GoodIn wsX4_swap wsX4_starts := goodIn_r _ [16, 17, 18, 74, 75, 76, 77, 78, 79, 80, 81, 82, 83, 84, 85, 86, 87, 88, 89, 90, 91, 92, 93, 94, 95, 96, 97, 98, 99, 100, 101, 102] (by decide +kernel) (by decide +kernel)
set_option maxRecDepth 20000 in
theorem gX4_swap_X4_starts : GoodIn wsX4_swap (wsV RX4 186 RX4 yX4_starts wsX4_starts) := goodIn_app (goodIn_of _ (by decide +kernel)) ggX4_swap_X4_starts
set_option maxRecDepth 20000 in
theorem ggX4_swap_X4_ruinedBehind : GoodIn wsX4_swap wsX4_ruinedBehind := goodIn_r _ [22, 23, 24, 25, 4, 26, 27, 28, 29, 30, 31, 1, 32, 17, 33, 34, 35, 36, 37, 38, 39, 40, 41, 42, 43, 44, 45, 46, 47, 48, 49, 50, 51, 52, 53, 54, 55, 56, 57, 58, 59, 60, 61, 62, 63, 64, 65, 66, 67, 68, 69, 70, 71, 72, 73, 74, 75, 76, 77, 78, 79, 80, 81, 82, 83, 84, 85, 86, 87, 88, 89, 90, 91, 92, 93, 94, 95, 96, 97, 98, 99, 100, 101, 102] (by decide +kernel) (by decide +kernel)
set_option maxRecDepth 20000 in
theorem gX4_swap_X4_ruinedBehind : GoodIn wsX4_swap (wsV RX4 244 RX4 yX4_ruinedBehind wsX4_ruinedBehind) := goodIn_app (goodIn_of _ (by decide +kernel)) ggX4_swap_X4_ruinedBehind
set_option maxRecDepth 20000 in
theorem ggX4_swap_X4_of : GoodIn wsX4_swap wsX4_of := goodIn_r _ [40, 17, 74, 75, 76, 77, 78, 79, 80, 81, 82, 83, 84, 85, 86, 87, 88, 89, 90, 91, 92, 93, 94, 95, 96, 97, 98, 99, 100, 101, 102] (by decide +kernel) (by decide +kernel)
set_option maxRecDepth 20000 in
theorem gX4_swap_X4_of : GoodIn wsX4_swap (wsV RX4 151 RX4 yX4_of wsX4_of) := goodIn_app (goodIn_of _ (by decide +kernel)) ggX4_swap_X4_of
set_option maxRecDepth 20000 in
theorem ggX4_swap_X4_becomesOf : GoodIn wsX4_swap wsX4_becomesOf := goodIn_r _ [44, 17, 74, 75, 76, 77, 78, 79, 80, 81, 82, 83, 84, 85, 86, 87, 88, 89, 90, 91, 92, 93, 94, 95, 96, 97, 98, 99, 100, 101, 102] (by decide +kernel) (by decide +kernel)
set_option maxRecDepth 20000 in
theorem gX4_swap_X4_becomesOf : GoodIn wsX4_swap (wsV RX4 164 RX4 yX4_becomesOf wsX4_becomesOf) := goodIn_app (goodIn_of _ (by decide +kernel)) ggX4_swap_X4_becomesOf
theorem dX4_swap_0 : decode cX4_swap 0 = .ok (.iload_n 1, 1) := by decide +kernel
theorem dX4_swap_1 : decode cX4_swap 1 = .ok (.invokestatic 222, 3) := by decide +kernel
theorem dX4_swap_4 : decode cX4_swap 4 = .ok (.ifCond .eq 10, 3) := by decide +kernel
theorem dX4_swap_7 : decode cX4_swap 7 = .ok (.iload_n 2, 1) := by decide +kernel
theorem dX4_swap_8 : decode cX4_swap 8 = .ok (.invokestatic 225, 3) := by decide +kernel
theorem dX4_swap_11 : decode cX4_swap 11 = .ok (.ifCond .ne 5, 3) := by decide +kernel
theorem dX4_swap_14 : decode cX4_swap 14 = .ok (.iconst (-1), 1) := by decide +kernel
theorem dX4_swap_15 : decode cX4_swap 15 = .ok (.ireturn, 1) := by decide +kernel
theorem dX4_swap_16 : decode cX4_swap 16 = .ok (.aload_n 0, 1) := by decide +kernel
theorem dX4_swap_17 : decode cX4_swap 17 = .ok (.invokevirtual 186, 3) := by decide +kernel
theorem dX4_swap_20 : decode cX4_swap 20 = .ok (.aload_n 0, 1) := by decide +kernel
theorem dX4_swap_21 : decode cX4_swap 21 = .ok (.iload_n 1, 1) := by decide +kernel
theorem dX4_swap_22 : decode cX4_swap 22 = .ok (.invokevirtual 244, 3) := by decide +kernel
theorem dX4_swap_25 : decode cX4_swap 25 = .ok (.istore_n 3, 1) := by decide +kernel
theorem dX4_swap_26 : decode cX4_swap 26 = .ok (.bipush (-4), 2) := by decide +kernel
theorem dX4_swap_28 : decode cX4_swap 28 = .ok (.istore 4, 2) := by decide +kernel
theorem dX4_swap_30 : decode cX4_swap 30 = .ok (.iconst 0, 1) := by decide +kernel
theorem dX4_swap_31 : decode cX4_swap 31 = .ok (.istore 5, 2) := by decide +kernel
theorem dX4_swap_33 : decode cX4_swap 33 = .ok (.iload 5, 2) := by decide +kernel
theorem dX4_swap_35 : decode cX4_swap 35 = .ok (.aload_n 0, 1) := by decide +kernel
theorem dX4_swap_36 : decode cX4_swap 36 = .ok (.getfield 67, 3) := by decide +kernel
theorem dX4_swap_39 : decode cX4_swap 39 = .ok (.if_icmp .ge 107, 3) := by decide +kernel
theorem dX4_swap_42 : decode cX4_swap 42 = .ok (.iload 5, 2) := by decide +kernel
theorem dX4_swap_44 : decode cX4_swap 44 = .ok (.iconst 1, 1) := by decide +kernel
theorem dX4_swap_45 : decode cX4_swap 45 = .ok (.iadd, 1) := by decide +kernel
theorem dX4_swap_46 : decode cX4_swap 46 = .ok (.istore 6, 2) := by decide +kernel
theorem dX4_swap_48 : decode cX4_swap 48 = .ok (.iload 6, 2) := by decide +kernel
theorem dX4_swap_50 : decode cX4_swap 50 = .ok (.aload_n 0, 1) := by decide +kernel
theorem dX4_swap_51 : decode cX4_swap 51 = .ok (.getfield 67, 3) := by decide +kernel
theorem dX4_swap_54 : decode cX4_swap 54 = .ok (.if_icmp .ge 86, 3) := by decide +kernel
theorem dX4_swap_57 : decode cX4_swap 57 = .ok (.aload_n 0, 1) := by decide +kernel
theorem dX4_swap_58 : decode cX4_swap 58 = .ok (.invokevirtual 186, 3) := by decide +kernel
theorem dX4_swap_61 : decode cX4_swap 61 = .ok (.aload_n 0, 1) := by decide +kernel
theorem dX4_swap_62 : decode cX4_swap 62 = .ok (.iload 5, 2) := by decide +kernel
theorem dX4_swap_64 : decode cX4_swap 64 = .ok (.iconst 2, 1) := by decide +kernel
theorem dX4_swap_65 : decode cX4_swap 65 = .ok (.invokevirtual 151, 3) := by decide +kernel
theorem dX4_swap_68 : decode cX4_swap 68 = .ok (.istore 7, 2) := by decide +kernel
theorem dX4_swap_70 : decode cX4_swap 70 = .ok (.aload_n 0, 1) := by decide +kernel
theorem dX4_swap_71 : decode cX4_swap 71 = .ok (.iload 5, 2) := by decide +kernel
theorem dX4_swap_73 : decode cX4_swap 73 = .ok (.iconst 2, 1) := by decide +kernel
theorem dX4_swap_74 : decode cX4_swap 74 = .ok (.aload_n 0, 1) := by decide +kernel
theorem dX4_swap_75 : decode cX4_swap 75 = .ok (.iload 6, 2) := by decide +kernel
theorem dX4_swap_77 : decode cX4_swap 77 = .ok (.iconst 2, 1) := by decide +kernel
theorem dX4_swap_78 : decode cX4_swap 78 = .ok (.invokevirtual 151, 3) := by decide +kernel
theorem dX4_swap_81 : decode cX4_swap 81 = .ok (.invokevirtual 164, 3) := by decide +kernel
theorem dX4_swap_84 : decode cX4_swap 84 = .ok (.aload_n 0, 1) := by decide +kernel
theorem dX4_swap_85 : decode cX4_swap 85 = .ok (.iload 6, 2) := by decide +kernel
theorem dX4_swap_87 : decode cX4_swap 87 = .ok (.iconst 2, 1) := by decide +kernel
theorem dX4_swap_88 : decode cX4_swap 88 = .ok (.iload 7, 2) := by decide +kernel
theorem dX4_swap_90 : decode cX4_swap 90 = .ok (.invokevirtual 164, 3) := by decide +kernel
theorem dX4_swap_93 : decode cX4_swap 93 = .ok (.aload_n 0, 1) := by decide +kernel
theorem dX4_swap_94 : decode cX4_swap 94 = .ok (.iload_n 1, 1) := by decide +kernel
theorem dX4_swap_95 : decode cX4_swap 95 = .ok (.invokevirtual 244, 3) := by decide +kernel
theorem dX4_swap_98 : decode cX4_swap 98 = .ok (.istore 8, 2) := by decide +kernel
theorem dX4_swap_100 : decode cX4_swap 100 = .ok (.iload 8, 2) := by decide +kernel
theorem dX4_swap_102 : decode cX4_swap 102 = .ok (.iload_n 3, 1) := by decide +kernel
theorem dX4_swap_103 : decode cX4_swap 103 = .ok (.if_icmp .ge 14, 3) := by decide +kernel
theorem dX4_swap_106 : decode cX4_swap 106 = .ok (.bipush 10, 2) := by decide +kernel
theorem dX4_swap_108 : decode cX4_swap 108 = .ok (.iload 5, 2) := by decide +kernel
theorem dX4_swap_110 : decode cX4_swap 110 = .ok (.imul, 1) := by decide +kernel
theorem dX4_swap_111 : decode cX4_swap 111 = .ok (.iload 6, 2) := by decide +kernel
theorem dX4_swap_113 : decode cX4_swap 113 = .ok (.iadd, 1) := by decide +kernel
theorem dX4_swap_114 : decode cX4_swap 114 = .ok (.goto 5, 3) := by decide +kernel
theorem dX4_swap_117 : decode cX4_swap 117 = .ok (.iload 4, 2) := by decide +kernel
theorem dX4_swap_119 : decode cX4_swap 119 = .ok (.istore 4, 2) := by decide +kernel
theorem dX4_swap_121 : decode cX4_swap 121 = .ok (.iload 8, 2) := by decide +kernel
theorem dX4_swap_123 : decode cX4_swap 123 = .ok (.iload_n 3, 1) := by decide +kernel
theorem dX4_swap_124 : decode cX4_swap 124 = .ok (.if_icmp .ge 8, 3) := by decide +kernel
theorem dX4_swap_127 : decode cX4_swap 127 = .ok (.iload 8, 2) := by decide +kernel
theorem dX4_swap_129 : decode cX4_swap 129 = .ok (.goto 4, 3) := by decide +kernel
theorem dX4_swap_132 : decode cX4_swap 132 = .ok (.iload_n 3, 1) := by decide +kernel
theorem dX4_swap_133 : decode cX4_swap 133 = .ok (.istore_n 3, 1) := by decide +kernel
theorem dX4_swap_134 : decode cX4_swap 134 = .ok (.iinc 6 1, 3) := by decide +kernel
theorem dX4_swap_137 : decode cX4_swap 137 = .ok (.goto (-89), 3) := by decide +kernel
theorem dX4_swap_140 : decode cX4_swap 140 = .ok (.iinc 5 1, 3) := by decide +kernel
theorem dX4_swap_143 : decode cX4_swap 143 = .ok (.goto (-110), 3) := by decide +kernel
theorem dX4_swap_146 : decode cX4_swap 146 = .ok (.iload 4, 2) := by decide +kernel
theorem dX4_swap_148 : decode cX4_swap 148 = .ok (.bipush (-4), 2) := by decide +kernel
theorem dX4_swap_150 : decode cX4_swap 150 = .ok (.if_icmp .ne 8, 3) := by decide +kernel
theorem dX4_swap_153 : decode cX4_swap 153 = .ok (.bipush (-4), 2) := by decide +kernel
theorem dX4_swap_155 : decode cX4_swap 155 = .ok (.goto 13, 3) := by decide +kernel
theorem dX4_swap_158 : decode cX4_swap 158 = .ok (.iload_n 2, 1) := by decide +kernel
theorem dX4_swap_159 : decode cX4_swap 159 = .ok (.ifCond .ne 8, 3) := by decide +kernel
theorem dX4_swap_162 : decode cX4_swap 162 = .ok (.iload 4, 2) := by decide +kernel
theorem dX4_swap_164 : decode cX4_swap 164 = .ok (.goto 4, 3) := by decide +kernel
theorem dX4_swap_167 : decode cX4_swap 167 = .ok (.iload_n 3, 1) := by decide +kernel
theorem dX4_swap_168 : decode cX4_swap 168 = .ok (.ireturn, 1) := by decide +kernel
set_option maxRecDepth 20000 in
theorem ggX4_findOdds_X4_starts : GoodIn wsX4_findOdds wsX4_starts := goodIn_r _ [11, 5, 6, 53, 54, 55, 56, 57, 58, 59, 60, 61, 62, 63, 64, 65, 66, 67, 68, 69, 70, 71, 72, 73, 74, 75, 76, 77, 78, 79, 80, 81] (by decide +kernel) (by decide +kernel)
set_option maxRecDepth 20000 in
theorem gX4_findOdds_X4_starts : GoodIn wsX4_findOdds (wsV RX4 186 RX4 yX4_starts wsX4_starts) := goodIn_app (goodIn_of _ (by decide +kernel)) ggX4_findOdds_X4_starts
set_option maxRecDepth 20000 in
theorem ggX4_findOdds_X4_quarterGoes : GoodIn wsX4_findOdds wsX4_quarterGoes := goodIn_r _ [15, 16, 17, 5, 18, 19, 20, 21, 10, 22, 23, 24, 25, 26, 27, 28, 29, 30, 31, 32, 33, 34, 35, 36, 37, 38, 39, 40, 41, 42, 43, 44, 45, 46, 47, 48, 49, 50, 51, 52, 53, 54, 55, 56, 57, 58, 59, 60, 61, 62, 63, 64, 65, 66, 67, 68, 69, 70, 71, 72, 73, 74, 75, 76, 77, 78, 79, 80, 81] (by decide +kernel) (by decide +kernel)
set_option maxRecDepth 20000 in
theorem gX4_findOdds_X4_quarterGoes : GoodIn wsX4_findOdds (wsV RX4 183 RX4 yX4_quarterGoes wsX4_quarterGoes) := goodIn_app (goodIn_of _ (by decide +kernel)) ggX4_findOdds_X4_quarterGoes
set_option maxRecDepth 20000 in
theorem ggX4_findOdds_X4_of : GoodIn wsX4_findOdds wsX4_of := goodIn_r _ [26, 5, 53, 54, 55, 56, 57, 58, 59, 60, 61, 62, 63, 64, 65, 66, 67, 68, 69, 70, 71, 72, 73, 74, 75, 76, 77, 78, 79, 80, 81] (by decide +kernel) (by decide +kernel)
set_option maxRecDepth 20000 in
theorem gX4_findOdds_X4_of : GoodIn wsX4_findOdds (wsV RX4 151 RX4 yX4_of wsX4_of) := goodIn_app (goodIn_of _ (by decide +kernel)) ggX4_findOdds_X4_of
theorem dX4_findOdds_0 : decode cX4_findOdds 0 = .ok (.aload_n 0, 1) := by decide +kernel
theorem dX4_findOdds_1 : decode cX4_findOdds 1 = .ok (.lconst 0, 1) := by decide +kernel
theorem dX4_findOdds_2 : decode cX4_findOdds 2 = .ok (.putfield 247, 3) := by decide +kernel
theorem dX4_findOdds_5 : decode cX4_findOdds 5 = .ok (.aload_n 0, 1) := by decide +kernel
theorem dX4_findOdds_6 : decode cX4_findOdds 6 = .ok (.lconst 0, 1) := by decide +kernel
theorem dX4_findOdds_7 : decode cX4_findOdds 7 = .ok (.putfield 251, 3) := by decide +kernel
theorem dX4_findOdds_10 : decode cX4_findOdds 10 = .ok (.aload_n 0, 1) := by decide +kernel
theorem dX4_findOdds_11 : decode cX4_findOdds 11 = .ok (.lconst 1, 1) := by decide +kernel
theorem dX4_findOdds_12 : decode cX4_findOdds 12 = .ok (.putfield 254, 3) := by decide +kernel
theorem dX4_findOdds_15 : decode cX4_findOdds 15 = .ok (.iconst 0, 1) := by decide +kernel
theorem dX4_findOdds_16 : decode cX4_findOdds 16 = .ok (.istore 4, 2) := by decide +kernel
theorem dX4_findOdds_18 : decode cX4_findOdds 18 = .ok (.iload 4, 2) := by decide +kernel
theorem dX4_findOdds_20 : decode cX4_findOdds 20 = .ok (.iload_n 3, 1) := by decide +kernel
theorem dX4_findOdds_21 : decode cX4_findOdds 21 = .ok (.if_icmp .ge 21, 3) := by decide +kernel
theorem dX4_findOdds_24 : decode cX4_findOdds 24 = .ok (.aload_n 0, 1) := by decide +kernel
theorem dX4_findOdds_25 : decode cX4_findOdds 25 = .ok (.dup, 1) := by decide +kernel
theorem dX4_findOdds_26 : decode cX4_findOdds 26 = .ok (.getfield 254, 3) := by decide +kernel
theorem dX4_findOdds_29 : decode cX4_findOdds 29 = .ok (.ldc2_w 257, 3) := by decide +kernel
theorem dX4_findOdds_32 : decode cX4_findOdds 32 = .ok (.lmul, 1) := by decide +kernel
theorem dX4_findOdds_33 : decode cX4_findOdds 33 = .ok (.putfield 254, 3) := by decide +kernel
theorem dX4_findOdds_36 : decode cX4_findOdds 36 = .ok (.iinc 4 1, 3) := by decide +kernel
theorem dX4_findOdds_39 : decode cX4_findOdds 39 = .ok (.goto (-21), 3) := by decide +kernel
theorem dX4_findOdds_42 : decode cX4_findOdds 42 = .ok (.iconst 0, 1) := by decide +kernel
theorem dX4_findOdds_43 : decode cX4_findOdds 43 = .ok (.istore 4, 2) := by decide +kernel
theorem dX4_findOdds_45 : decode cX4_findOdds 45 = .ok (.iload 4, 2) := by decide +kernel
theorem dX4_findOdds_47 : decode cX4_findOdds 47 = .ok (.iconst 1, 1) := by decide +kernel
theorem dX4_findOdds_48 : decode cX4_findOdds 48 = .ok (.iload_n 3, 1) := by decide +kernel
theorem dX4_findOdds_49 : decode cX4_findOdds 49 = .ok (.ishl, 1) := by decide +kernel
theorem dX4_findOdds_50 : decode cX4_findOdds 50 = .ok (.if_icmp .ge 142, 3) := by decide +kernel
theorem dX4_findOdds_53 : decode cX4_findOdds 53 = .ok (.lconst 1, 1) := by decide +kernel
theorem dX4_findOdds_54 : decode cX4_findOdds 54 = .ok (.lstore 5, 2) := by decide +kernel
theorem dX4_findOdds_56 : decode cX4_findOdds 56 = .ok (.aload_n 0, 1) := by decide +kernel
theorem dX4_findOdds_57 : decode cX4_findOdds 57 = .ok (.invokevirtual 186, 3) := by decide +kernel
theorem dX4_findOdds_60 : decode cX4_findOdds 60 = .ok (.iconst 0, 1) := by decide +kernel
theorem dX4_findOdds_61 : decode cX4_findOdds 61 = .ok (.istore 7, 2) := by decide +kernel
theorem dX4_findOdds_63 : decode cX4_findOdds 63 = .ok (.iload 7, 2) := by decide +kernel
theorem dX4_findOdds_65 : decode cX4_findOdds 65 = .ok (.iload_n 3, 1) := by decide +kernel
theorem dX4_findOdds_66 : decode cX4_findOdds 66 = .ok (.if_icmp .ge 75, 3) := by decide +kernel
theorem dX4_findOdds_69 : decode cX4_findOdds 69 = .ok (.iload 4, 2) := by decide +kernel
theorem dX4_findOdds_71 : decode cX4_findOdds 71 = .ok (.iload 7, 2) := by decide +kernel
theorem dX4_findOdds_73 : decode cX4_findOdds 73 = .ok (.ishr, 1) := by decide +kernel
theorem dX4_findOdds_74 : decode cX4_findOdds 74 = .ok (.iconst 1, 1) := by decide +kernel
theorem dX4_findOdds_75 : decode cX4_findOdds 75 = .ok (.iand, 1) := by decide +kernel
theorem dX4_findOdds_76 : decode cX4_findOdds 76 = .ok (.iconst 1, 1) := by decide +kernel
theorem dX4_findOdds_77 : decode cX4_findOdds 77 = .ok (.if_icmp .ne 7, 3) := by decide +kernel
theorem dX4_findOdds_80 : decode cX4_findOdds 80 = .ok (.iconst 1, 1) := by decide +kernel
theorem dX4_findOdds_81 : decode cX4_findOdds 81 = .ok (.goto 4, 3) := by decide +kernel
theorem dX4_findOdds_84 : decode cX4_findOdds 84 = .ok (.iconst 0, 1) := by decide +kernel
theorem dX4_findOdds_85 : decode cX4_findOdds 85 = .ok (.istore 8, 2) := by decide +kernel
theorem dX4_findOdds_87 : decode cX4_findOdds 87 = .ok (.lload 5, 2) := by decide +kernel
theorem dX4_findOdds_89 : decode cX4_findOdds 89 = .ok (.iload 8, 2) := by decide +kernel
theorem dX4_findOdds_91 : decode cX4_findOdds 91 = .ok (.ifCond .eq 8, 3) := by decide +kernel
theorem dX4_findOdds_94 : decode cX4_findOdds 94 = .ok (.iload_n 1, 1) := by decide +kernel
theorem dX4_findOdds_95 : decode cX4_findOdds 95 = .ok (.i2l, 1) := by decide +kernel
theorem dX4_findOdds_96 : decode cX4_findOdds 96 = .ok (.goto 8, 3) := by decide +kernel
theorem dX4_findOdds_99 : decode cX4_findOdds 99 = .ok (.bipush 10, 2) := by decide +kernel
theorem dX4_findOdds_101 : decode cX4_findOdds 101 = .ok (.iload_n 1, 1) := by decide +kernel
theorem dX4_findOdds_102 : decode cX4_findOdds 102 = .ok (.isub, 1) := by decide +kernel
theorem dX4_findOdds_103 : decode cX4_findOdds 103 = .ok (.i2l, 1) := by decide +kernel
theorem dX4_findOdds_104 : decode cX4_findOdds 104 = .ok (.lmul, 1) := by decide +kernel
theorem dX4_findOdds_105 : decode cX4_findOdds 105 = .ok (.lstore 5, 2) := by decide +kernel
theorem dX4_findOdds_107 : decode cX4_findOdds 107 = .ok (.aload_n 0, 1) := by decide +kernel
theorem dX4_findOdds_108 : decode cX4_findOdds 108 = .ok (.getfield 13, 3) := by decide +kernel
theorem dX4_findOdds_111 : decode cX4_findOdds 111 = .ok (.bipush 21, 2) := by decide +kernel
theorem dX4_findOdds_113 : decode cX4_findOdds 113 = .ok (.iload 8, 2) := by decide +kernel
theorem dX4_findOdds_115 : decode cX4_findOdds 115 = .ok (.ifCond .eq 8, 3) := by decide +kernel
theorem dX4_findOdds_118 : decode cX4_findOdds 118 = .ok (.bipush 9, 2) := by decide +kernel
theorem dX4_findOdds_120 : decode cX4_findOdds 120 = .ok (.goto 10, 3) := by decide +kernel
theorem dX4_findOdds_123 : decode cX4_findOdds 123 = .ok (.aload_n 0, 1) := by decide +kernel
theorem dX4_findOdds_124 : decode cX4_findOdds 124 = .ok (.getfield 7, 3) := by decide +kernel
theorem dX4_findOdds_127 : decode cX4_findOdds 127 = .ok (.bipush 21, 2) := by decide +kernel
theorem dX4_findOdds_129 : decode cX4_findOdds 129 = .ok (.iaload, 1) := by decide +kernel
theorem dX4_findOdds_130 : decode cX4_findOdds 130 = .ok (.iastore, 1) := by decide +kernel
theorem dX4_findOdds_131 : decode cX4_findOdds 131 = .ok (.aload_n 0, 1) := by decide +kernel
theorem dX4_findOdds_132 : decode cX4_findOdds 132 = .ok (.invokevirtual 183, 3) := by decide +kernel
theorem dX4_findOdds_135 : decode cX4_findOdds 135 = .ok (.iinc 7 1, 3) := by decide +kernel
theorem dX4_findOdds_138 : decode cX4_findOdds 138 = .ok (.goto (-75), 3) := by decide +kernel
theorem dX4_findOdds_141 : decode cX4_findOdds 141 = .ok (.aload_n 0, 1) := by decide +kernel
theorem dX4_findOdds_142 : decode cX4_findOdds 142 = .ok (.dup, 1) := by decide +kernel
theorem dX4_findOdds_143 : decode cX4_findOdds 143 = .ok (.getfield 247, 3) := by decide +kernel
theorem dX4_findOdds_146 : decode cX4_findOdds 146 = .ok (.aload_n 0, 1) := by decide +kernel
theorem dX4_findOdds_147 : decode cX4_findOdds 147 = .ok (.getfield 13, 3) := by decide +kernel
theorem dX4_findOdds_150 : decode cX4_findOdds 150 = .ok (.bipush 22, 2) := by decide +kernel
theorem dX4_findOdds_152 : decode cX4_findOdds 152 = .ok (.iaload, 1) := by decide +kernel
theorem dX4_findOdds_153 : decode cX4_findOdds 153 = .ok (.iload_n 2, 1) := by decide +kernel
theorem dX4_findOdds_154 : decode cX4_findOdds 154 = .ok (.if_icmp .ne 8, 3) := by decide +kernel
theorem dX4_findOdds_157 : decode cX4_findOdds 157 = .ok (.lload 5, 2) := by decide +kernel
theorem dX4_findOdds_159 : decode cX4_findOdds 159 = .ok (.goto 4, 3) := by decide +kernel
theorem dX4_findOdds_162 : decode cX4_findOdds 162 = .ok (.lconst 0, 1) := by decide +kernel
theorem dX4_findOdds_163 : decode cX4_findOdds 163 = .ok (.ladd, 1) := by decide +kernel
theorem dX4_findOdds_164 : decode cX4_findOdds 164 = .ok (.putfield 247, 3) := by decide +kernel
theorem dX4_findOdds_167 : decode cX4_findOdds 167 = .ok (.aload_n 0, 1) := by decide +kernel
theorem dX4_findOdds_168 : decode cX4_findOdds 168 = .ok (.dup, 1) := by decide +kernel
theorem dX4_findOdds_169 : decode cX4_findOdds 169 = .ok (.getfield 251, 3) := by decide +kernel
theorem dX4_findOdds_172 : decode cX4_findOdds 172 = .ok (.lload 5, 2) := by decide +kernel
theorem dX4_findOdds_174 : decode cX4_findOdds 174 = .ok (.aload_n 0, 1) := by decide +kernel
theorem dX4_findOdds_175 : decode cX4_findOdds 175 = .ok (.iload_n 2, 1) := by decide +kernel
theorem dX4_findOdds_176 : decode cX4_findOdds 176 = .ok (.iconst 1, 1) := by decide +kernel
theorem dX4_findOdds_177 : decode cX4_findOdds 177 = .ok (.invokevirtual 151, 3) := by decide +kernel
theorem dX4_findOdds_180 : decode cX4_findOdds 180 = .ok (.i2l, 1) := by decide +kernel
theorem dX4_findOdds_181 : decode cX4_findOdds 181 = .ok (.lmul, 1) := by decide +kernel
theorem dX4_findOdds_182 : decode cX4_findOdds 182 = .ok (.ladd, 1) := by decide +kernel
theorem dX4_findOdds_183 : decode cX4_findOdds 183 = .ok (.putfield 251, 3) := by decide +kernel
theorem dX4_findOdds_186 : decode cX4_findOdds 186 = .ok (.iinc 4 1, 3) := by decide +kernel
theorem dX4_findOdds_189 : decode cX4_findOdds 189 = .ok (.goto (-144), 3) := by decide +kernel
theorem dX4_findOdds_192 : decode cX4_findOdds 192 = .ok (.return_, 1) := by decide +kernel
set_option maxRecDepth 20000 in
theorem ggX4_isOdds_X4_in : GoodIn wsX4_isOdds wsX4_in := goodIn_r _ [6] (by decide +kernel) (by decide +kernel)
set_option maxRecDepth 20000 in
theorem gX4_isOdds_X4_in : GoodIn wsX4_isOdds (va_wsS RX4 72 yX4_in wsX4_in) := goodIn_app (goodIn_of _ (by decide +kernel)) ggX4_isOdds_X4_in
set_option maxRecDepth 20000 in
theorem ggX4_isOdds_X4_isOne : GoodIn wsX4_isOdds wsX4_isOne := goodIn_r _ [10, 11, 3, 4, 5, 6, 15, 16, 17, 18, 19, 20, 21, 22, 23, 24, 25, 26, 27, 28, 29, 30, 31, 32, 33, 34, 35, 36, 37, 38, 39, 40, 41, 42, 43] (by decide +kernel) (by decide +kernel)
set_option maxRecDepth 20000 in
theorem gX4_isOdds_X4_isOne : GoodIn wsX4_isOdds (wsV RX4 195 RX4 yX4_isOne wsX4_isOne) := goodIn_app (goodIn_of _ (by decide +kernel)) ggX4_isOdds_X4_isOne
set_option maxRecDepth 20000 in
theorem ggX4_isOdds_X4_isPart : GoodIn wsX4_isOdds wsX4_isPart := goodIn_r _ [14, 3, 4, 5, 6] (by decide +kernel) (by decide +kernel)
set_option maxRecDepth 20000 in
theorem gX4_isOdds_X4_isPart : GoodIn wsX4_isOdds (va_wsS RX4 225 yX4_isPart wsX4_isPart) := goodIn_app (goodIn_of _ (by decide +kernel)) ggX4_isOdds_X4_isPart
theorem dX4_isOdds_0 : decode cX4_isOdds 0 = .ok (.iload_n 1, 1) := by decide +kernel
theorem dX4_isOdds_1 : decode cX4_isOdds 1 = .ok (.i2l, 1) := by decide +kernel
theorem dX4_isOdds_2 : decode cX4_isOdds 2 = .ok (.lconst 0, 1) := by decide +kernel
theorem dX4_isOdds_3 : decode cX4_isOdds 3 = .ok (.ldc2_w 257, 3) := by decide +kernel
theorem dX4_isOdds_6 : decode cX4_isOdds 6 = .ok (.invokestatic 72, 3) := by decide +kernel
theorem dX4_isOdds_9 : decode cX4_isOdds 9 = .ok (.ifCond .eq 35, 3) := by decide +kernel
theorem dX4_isOdds_12 : decode cX4_isOdds 12 = .ok (.aload_n 0, 1) := by decide +kernel
theorem dX4_isOdds_13 : decode cX4_isOdds 13 = .ok (.iload_n 2, 1) := by decide +kernel
theorem dX4_isOdds_14 : decode cX4_isOdds 14 = .ok (.invokevirtual 195, 3) := by decide +kernel
theorem dX4_isOdds_17 : decode cX4_isOdds 17 = .ok (.ifCond .eq 27, 3) := by decide +kernel
theorem dX4_isOdds_20 : decode cX4_isOdds 20 = .ok (.iload_n 3, 1) := by decide +kernel
theorem dX4_isOdds_21 : decode cX4_isOdds 21 = .ok (.i2l, 1) := by decide +kernel
theorem dX4_isOdds_22 : decode cX4_isOdds 22 = .ok (.lconst 0, 1) := by decide +kernel
theorem dX4_isOdds_23 : decode cX4_isOdds 23 = .ok (.ldc2_w 259, 3) := by decide +kernel
theorem dX4_isOdds_26 : decode cX4_isOdds 26 = .ok (.invokestatic 72, 3) := by decide +kernel
theorem dX4_isOdds_29 : decode cX4_isOdds 29 = .ok (.ifCond .eq 15, 3) := by decide +kernel
theorem dX4_isOdds_32 : decode cX4_isOdds 32 = .ok (.iload 4, 2) := by decide +kernel
theorem dX4_isOdds_34 : decode cX4_isOdds 34 = .ok (.invokestatic 225, 3) := by decide +kernel
theorem dX4_isOdds_37 : decode cX4_isOdds 37 = .ok (.ifCond .eq 7, 3) := by decide +kernel
theorem dX4_isOdds_40 : decode cX4_isOdds 40 = .ok (.iconst 1, 1) := by decide +kernel
theorem dX4_isOdds_41 : decode cX4_isOdds 41 = .ok (.goto 4, 3) := by decide +kernel
theorem dX4_isOdds_44 : decode cX4_isOdds 44 = .ok (.iconst 0, 1) := by decide +kernel
theorem dX4_isOdds_45 : decode cX4_isOdds 45 = .ok (.ireturn, 1) := by decide +kernel
set_option maxRecDepth 20000 in
theorem ggX4_luck_X4_isOdds : GoodIn wsX4_luck wsX4_isOdds := goodIn_r _ [8, 9, 10, 11, 12, 7, 13, 14, 15, 16, 17, 18, 19, 20, 21, 79, 80, 81, 82, 83, 84, 85, 86, 87, 88, 89, 90, 91, 92, 93, 94, 95, 96, 97, 98, 99, 100, 101, 102, 103, 104, 105, 106, 107] (by decide +kernel) (by decide +kernel)
set_option maxRecDepth 20000 in
theorem gX4_luck_X4_isOdds : GoodIn wsX4_luck (wsV RX4 261 RX4 yX4_isOdds wsX4_isOdds) := goodIn_app (goodIn_of _ (by decide +kernel)) ggX4_luck_X4_isOdds
set_option maxRecDepth 20000 in
theorem ggX4_luck_X4_findOdds : GoodIn wsX4_luck wsX4_findOdds := goodIn_r _ [25, 2, 26, 3, 9, 27, 28, 29, 30, 31, 7, 32, 33, 34, 35, 36, 18, 37, 38, 39, 40, 41, 42, 43, 44, 45, 46, 47, 48, 49, 50, 51, 52, 53, 54, 55, 56, 57, 58, 59, 60, 61, 62, 63, 64, 65, 66, 67, 68, 69, 70, 71, 72, 79, 80, 81, 82, 83, 84, 85, 86, 87, 88, 89, 90, 91, 92, 93, 94, 95, 96, 97, 98, 99, 100, 101, 102, 103, 104, 105, 106, 107] (by decide +kernel) (by decide +kernel)
set_option maxRecDepth 20000 in
theorem gX4_luck_X4_findOdds : GoodIn wsX4_luck (wsV RX4 265 RX4 yX4_findOdds wsX4_findOdds) := goodIn_app (goodIn_of _ (by decide +kernel)) ggX4_luck_X4_findOdds
set_option maxRecDepth 20000 in
theorem ggX4_luck_X4_told : GoodIn wsX4_luck wsX4_told := goodIn_r _ [75, 76, 77, 7, 78] (by decide +kernel) (by decide +kernel)
set_option maxRecDepth 20000 in
theorem gX4_luck_X4_told : GoodIn wsX4_luck (va_wsS RX4 237 yX4_told wsX4_told) := goodIn_app (goodIn_of _ (by decide +kernel)) ggX4_luck_X4_told
theorem dX4_luck_0 : decode cX4_luck 0 = .ok (.aload_n 0, 1) := by decide +kernel
theorem dX4_luck_1 : decode cX4_luck 1 = .ok (.iload_n 1, 1) := by decide +kernel
theorem dX4_luck_2 : decode cX4_luck 2 = .ok (.iload_n 2, 1) := by decide +kernel
theorem dX4_luck_3 : decode cX4_luck 3 = .ok (.iload_n 3, 1) := by decide +kernel
theorem dX4_luck_4 : decode cX4_luck 4 = .ok (.iload 4, 2) := by decide +kernel
theorem dX4_luck_6 : decode cX4_luck 6 = .ok (.invokevirtual 261, 3) := by decide +kernel
theorem dX4_luck_9 : decode cX4_luck 9 = .ok (.ifCond .ne 7, 3) := by decide +kernel
theorem dX4_luck_12 : decode cX4_luck 12 = .ok (.ldc2_w 235, 3) := by decide +kernel
theorem dX4_luck_15 : decode cX4_luck 15 = .ok (.lreturn, 1) := by decide +kernel
theorem dX4_luck_16 : decode cX4_luck 16 = .ok (.aload_n 0, 1) := by decide +kernel
theorem dX4_luck_17 : decode cX4_luck 17 = .ok (.iload_n 1, 1) := by decide +kernel
theorem dX4_luck_18 : decode cX4_luck 18 = .ok (.iload_n 2, 1) := by decide +kernel
theorem dX4_luck_19 : decode cX4_luck 19 = .ok (.iload_n 3, 1) := by decide +kernel
theorem dX4_luck_20 : decode cX4_luck 20 = .ok (.invokevirtual 265, 3) := by decide +kernel
theorem dX4_luck_23 : decode cX4_luck 23 = .ok (.aload_n 0, 1) := by decide +kernel
theorem dX4_luck_24 : decode cX4_luck 24 = .ok (.getfield 247, 3) := by decide +kernel
theorem dX4_luck_27 : decode cX4_luck 27 = .ok (.aload_n 0, 1) := by decide +kernel
theorem dX4_luck_28 : decode cX4_luck 28 = .ok (.getfield 254, 3) := by decide +kernel
theorem dX4_luck_31 : decode cX4_luck 31 = .ok (.iload 4, 2) := by decide +kernel
theorem dX4_luck_33 : decode cX4_luck 33 = .ok (.invokestatic 237, 3) := by decide +kernel
theorem dX4_luck_36 : decode cX4_luck 36 = .ok (.lreturn, 1) := by decide +kernel
set_option maxRecDepth 20000 in
theorem ggX4_mean_X4_isOdds : GoodIn wsX4_mean wsX4_isOdds := goodIn_r _ [8, 9, 10, 11, 12, 7, 13, 14, 15, 16, 17, 18, 19, 20, 21, 79, 80, 81, 82, 83, 84, 85, 86, 87, 88, 89, 90, 91, 92, 93, 94, 95, 96, 97, 98, 99, 100, 101, 102, 103, 104, 105, 106, 107] (by decide +kernel) (by decide +kernel)
set_option maxRecDepth 20000 in
theorem gX4_mean_X4_isOdds : GoodIn wsX4_mean (wsV RX4 261 RX4 yX4_isOdds wsX4_isOdds) := goodIn_app (goodIn_of _ (by decide +kernel)) ggX4_mean_X4_isOdds
set_option maxRecDepth 20000 in
theorem ggX4_mean_X4_findOdds : GoodIn wsX4_mean wsX4_findOdds := goodIn_r _ [25, 26, 2, 3, 9, 27, 28, 29, 30, 31, 7, 32, 33, 34, 35, 36, 18, 37, 38, 39, 40, 41, 42, 43, 44, 45, 46, 47, 48, 49, 50, 51, 52, 53, 54, 55, 56, 57, 58, 59, 60, 61, 62, 63, 64, 65, 66, 67, 68, 69, 70, 71, 72, 79, 80, 81, 82, 83, 84, 85, 86, 87, 88, 89, 90, 91, 92, 93, 94, 95, 96, 97, 98, 99, 100, 101, 102, 103, 104, 105, 106, 107] (by decide +kernel) (by decide +kernel)
set_option maxRecDepth 20000 in
theorem gX4_mean_X4_findOdds : GoodIn wsX4_mean (wsV RX4 265 RX4 yX4_findOdds wsX4_findOdds) := goodIn_app (goodIn_of _ (by decide +kernel)) ggX4_mean_X4_findOdds
set_option maxRecDepth 20000 in
theorem ggX4_mean_X4_told : GoodIn wsX4_mean wsX4_told := goodIn_r _ [75, 76, 77, 7, 78] (by decide +kernel) (by decide +kernel)
set_option maxRecDepth 20000 in
theorem gX4_mean_X4_told : GoodIn wsX4_mean (va_wsS RX4 237 yX4_told wsX4_told) := goodIn_app (goodIn_of _ (by decide +kernel)) ggX4_mean_X4_told
theorem dX4_mean_0 : decode cX4_mean 0 = .ok (.aload_n 0, 1) := by decide +kernel
theorem dX4_mean_1 : decode cX4_mean 1 = .ok (.iload_n 1, 1) := by decide +kernel
theorem dX4_mean_2 : decode cX4_mean 2 = .ok (.iload_n 2, 1) := by decide +kernel
theorem dX4_mean_3 : decode cX4_mean 3 = .ok (.iload_n 3, 1) := by decide +kernel
theorem dX4_mean_4 : decode cX4_mean 4 = .ok (.iload 4, 2) := by decide +kernel
theorem dX4_mean_6 : decode cX4_mean 6 = .ok (.invokevirtual 261, 3) := by decide +kernel
theorem dX4_mean_9 : decode cX4_mean 9 = .ok (.ifCond .ne 7, 3) := by decide +kernel
theorem dX4_mean_12 : decode cX4_mean 12 = .ok (.ldc2_w 235, 3) := by decide +kernel
theorem dX4_mean_15 : decode cX4_mean 15 = .ok (.lreturn, 1) := by decide +kernel
theorem dX4_mean_16 : decode cX4_mean 16 = .ok (.aload_n 0, 1) := by decide +kernel
theorem dX4_mean_17 : decode cX4_mean 17 = .ok (.iload_n 1, 1) := by decide +kernel
theorem dX4_mean_18 : decode cX4_mean 18 = .ok (.iload_n 2, 1) := by decide +kernel
theorem dX4_mean_19 : decode cX4_mean 19 = .ok (.iload_n 3, 1) := by decide +kernel
theorem dX4_mean_20 : decode cX4_mean 20 = .ok (.invokevirtual 265, 3) := by decide +kernel
theorem dX4_mean_23 : decode cX4_mean 23 = .ok (.aload_n 0, 1) := by decide +kernel
theorem dX4_mean_24 : decode cX4_mean 24 = .ok (.getfield 251, 3) := by decide +kernel
theorem dX4_mean_27 : decode cX4_mean 27 = .ok (.aload_n 0, 1) := by decide +kernel
theorem dX4_mean_28 : decode cX4_mean 28 = .ok (.getfield 254, 3) := by decide +kernel
theorem dX4_mean_31 : decode cX4_mean 31 = .ok (.iload 4, 2) := by decide +kernel
theorem dX4_mean_33 : decode cX4_mean 33 = .ok (.invokestatic 237, 3) := by decide +kernel
theorem dX4_mean_36 : decode cX4_mean 36 = .ok (.lreturn, 1) := by decide +kernel
set_option maxRecDepth 20000 in
theorem ggX4_see_X4_in : GoodIn wsX4_see wsX4_in := goodIn_r _ [6] (by decide +kernel) (by decide +kernel)
set_option maxRecDepth 20000 in
theorem gX4_see_X4_in : GoodIn wsX4_see (va_wsS RX4 72 yX4_in wsX4_in) := goodIn_app (goodIn_of _ (by decide +kernel)) ggX4_see_X4_in
set_option maxRecDepth 20000 in
theorem ggX4_see_X4_isOne : GoodIn wsX4_see wsX4_isOne := goodIn_r _ [10, 11, 3, 4, 5, 6, 12, 13, 14, 15, 16, 17, 18, 19, 20, 21, 22, 23, 24, 25, 26, 27, 28, 29, 30, 31, 32, 33, 34, 35, 36, 37, 38, 39, 40] (by decide +kernel) (by decide +kernel)
set_option maxRecDepth 20000 in
theorem gX4_see_X4_isOne : GoodIn wsX4_see (wsV RX4 195 RX4 yX4_isOne wsX4_isOne) := goodIn_app (goodIn_of _ (by decide +kernel)) ggX4_see_X4_isOne
theorem dX4_see_0 : decode cX4_see 0 = .ok (.iload_n 1, 1) := by decide +kernel
theorem dX4_see_1 : decode cX4_see 1 = .ok (.i2l, 1) := by decide +kernel
theorem dX4_see_2 : decode cX4_see 2 = .ok (.lconst 0, 1) := by decide +kernel
theorem dX4_see_3 : decode cX4_see 3 = .ok (.ldc2_w 205, 3) := by decide +kernel
theorem dX4_see_6 : decode cX4_see 6 = .ok (.invokestatic 72, 3) := by decide +kernel
theorem dX4_see_9 : decode cX4_see 9 = .ok (.ifCond .eq 11, 3) := by decide +kernel
theorem dX4_see_12 : decode cX4_see 12 = .ok (.aload_n 0, 1) := by decide +kernel
theorem dX4_see_13 : decode cX4_see 13 = .ok (.iload_n 2, 1) := by decide +kernel
theorem dX4_see_14 : decode cX4_see 14 = .ok (.invokevirtual 195, 3) := by decide +kernel
theorem dX4_see_17 : decode cX4_see 17 = .ok (.ifCond .ne 5, 3) := by decide +kernel
theorem dX4_see_20 : decode cX4_see 20 = .ok (.iconst (-1), 1) := by decide +kernel
theorem dX4_see_21 : decode cX4_see 21 = .ok (.ireturn, 1) := by decide +kernel
theorem dX4_see_22 : decode cX4_see 22 = .ok (.aload_n 0, 1) := by decide +kernel
theorem dX4_see_23 : decode cX4_see 23 = .ok (.getfield 7, 3) := by decide +kernel
theorem dX4_see_26 : decode cX4_see 26 = .ok (.bipush 44, 2) := by decide +kernel
theorem dX4_see_28 : decode cX4_see 28 = .ok (.iaload, 1) := by decide +kernel
theorem dX4_see_29 : decode cX4_see 29 = .ok (.bipush 6, 2) := by decide +kernel
theorem dX4_see_31 : decode cX4_see 31 = .ok (.if_icmp .ne 6, 3) := by decide +kernel
theorem dX4_see_34 : decode cX4_see 34 = .ok (.bipush (-3), 2) := by decide +kernel
theorem dX4_see_36 : decode cX4_see 36 = .ok (.ireturn, 1) := by decide +kernel
theorem dX4_see_37 : decode cX4_see 37 = .ok (.bipush 45, 2) := by decide +kernel
theorem dX4_see_39 : decode cX4_see 39 = .ok (.iconst 2, 1) := by decide +kernel
theorem dX4_see_40 : decode cX4_see 40 = .ok (.aload_n 0, 1) := by decide +kernel
theorem dX4_see_41 : decode cX4_see 41 = .ok (.getfield 7, 3) := by decide +kernel
theorem dX4_see_44 : decode cX4_see 44 = .ok (.bipush 44, 2) := by decide +kernel
theorem dX4_see_46 : decode cX4_see 46 = .ok (.iaload, 1) := by decide +kernel
theorem dX4_see_47 : decode cX4_see 47 = .ok (.imul, 1) := by decide +kernel
theorem dX4_see_48 : decode cX4_see 48 = .ok (.iadd, 1) := by decide +kernel
theorem dX4_see_49 : decode cX4_see 49 = .ok (.istore_n 3, 1) := by decide +kernel
theorem dX4_see_50 : decode cX4_see 50 = .ok (.aload_n 0, 1) := by decide +kernel
theorem dX4_see_51 : decode cX4_see 51 = .ok (.getfield 7, 3) := by decide +kernel
theorem dX4_see_54 : decode cX4_see 54 = .ok (.iload_n 3, 1) := by decide +kernel
theorem dX4_see_55 : decode cX4_see 55 = .ok (.iload_n 1, 1) := by decide +kernel
theorem dX4_see_56 : decode cX4_see 56 = .ok (.iastore, 1) := by decide +kernel
theorem dX4_see_57 : decode cX4_see 57 = .ok (.aload_n 0, 1) := by decide +kernel
theorem dX4_see_58 : decode cX4_see 58 = .ok (.getfield 7, 3) := by decide +kernel
theorem dX4_see_61 : decode cX4_see 61 = .ok (.iload_n 3, 1) := by decide +kernel
theorem dX4_see_62 : decode cX4_see 62 = .ok (.iconst 1, 1) := by decide +kernel
theorem dX4_see_63 : decode cX4_see 63 = .ok (.iadd, 1) := by decide +kernel
theorem dX4_see_64 : decode cX4_see 64 = .ok (.iload_n 2, 1) := by decide +kernel
theorem dX4_see_65 : decode cX4_see 65 = .ok (.iastore, 1) := by decide +kernel
theorem dX4_see_66 : decode cX4_see 66 = .ok (.aload_n 0, 1) := by decide +kernel
theorem dX4_see_67 : decode cX4_see 67 = .ok (.getfield 7, 3) := by decide +kernel
theorem dX4_see_70 : decode cX4_see 70 = .ok (.bipush 44, 2) := by decide +kernel
theorem dX4_see_72 : decode cX4_see 72 = .ok (.dup2, 1) := by decide +kernel
theorem dX4_see_73 : decode cX4_see 73 = .ok (.iaload, 1) := by decide +kernel
theorem dX4_see_74 : decode cX4_see 74 = .ok (.iconst 1, 1) := by decide +kernel
theorem dX4_see_75 : decode cX4_see 75 = .ok (.iadd, 1) := by decide +kernel
theorem dX4_see_76 : decode cX4_see 76 = .ok (.iastore, 1) := by decide +kernel
theorem dX4_see_77 : decode cX4_see 77 = .ok (.aload_n 0, 1) := by decide +kernel
theorem dX4_see_78 : decode cX4_see 78 = .ok (.getfield 7, 3) := by decide +kernel
theorem dX4_see_81 : decode cX4_see 81 = .ok (.bipush 44, 2) := by decide +kernel
theorem dX4_see_83 : decode cX4_see 83 = .ok (.iaload, 1) := by decide +kernel
theorem dX4_see_84 : decode cX4_see 84 = .ok (.ireturn, 1) := by decide +kernel
set_option maxRecDepth 20000 in
theorem ggX4_forget_X4_in : GoodIn wsX4_forget wsX4_in := goodIn_r _ [5] (by decide +kernel) (by decide +kernel)
set_option maxRecDepth 20000 in
theorem gX4_forget_X4_in : GoodIn wsX4_forget (va_wsS RX4 72 yX4_in wsX4_in) := goodIn_app (goodIn_of _ (by decide +kernel)) ggX4_forget_X4_in
set_option maxRecDepth 20000 in
theorem ggX4_forget_X4_becomes : GoodIn wsX4_forget wsX4_becomes := goodIn_r _ [9, 1, 10, 11, 12, 13, 14, 15, 16, 17, 18, 19, 20, 21, 22, 23, 24, 25, 26, 27, 28, 29, 30, 31, 32, 33, 34, 35, 36, 37, 38] (by decide +kernel) (by decide +kernel)
set_option maxRecDepth 20000 in
theorem gX4_forget_X4_becomes : GoodIn wsX4_forget (wsV RX4 207 RX4 yX4_becomes wsX4_becomes) := goodIn_app (goodIn_of _ (by decide +kernel)) ggX4_forget_X4_becomes
theorem dX4_forget_0 : decode cX4_forget 0 = .ok (.iload_n 1, 1) := by decide +kernel
theorem dX4_forget_1 : decode cX4_forget 1 = .ok (.i2l, 1) := by decide +kernel
theorem dX4_forget_2 : decode cX4_forget 2 = .ok (.lconst 0, 1) := by decide +kernel
theorem dX4_forget_3 : decode cX4_forget 3 = .ok (.aload_n 0, 1) := by decide +kernel
theorem dX4_forget_4 : decode cX4_forget 4 = .ok (.getfield 7, 3) := by decide +kernel
theorem dX4_forget_7 : decode cX4_forget 7 = .ok (.bipush 44, 2) := by decide +kernel
theorem dX4_forget_9 : decode cX4_forget 9 = .ok (.iaload, 1) := by decide +kernel
theorem dX4_forget_10 : decode cX4_forget 10 = .ok (.i2l, 1) := by decide +kernel
theorem dX4_forget_11 : decode cX4_forget 11 = .ok (.invokestatic 72, 3) := by decide +kernel
theorem dX4_forget_14 : decode cX4_forget 14 = .ok (.ifCond .eq 13, 3) := by decide +kernel
theorem dX4_forget_17 : decode cX4_forget 17 = .ok (.aload_n 0, 1) := by decide +kernel
theorem dX4_forget_18 : decode cX4_forget 18 = .ok (.bipush 44, 2) := by decide +kernel
theorem dX4_forget_20 : decode cX4_forget 20 = .ok (.iload_n 1, 1) := by decide +kernel
theorem dX4_forget_21 : decode cX4_forget 21 = .ok (.invokevirtual 207, 3) := by decide +kernel
theorem dX4_forget_24 : decode cX4_forget 24 = .ok (.goto 4, 3) := by decide +kernel
theorem dX4_forget_27 : decode cX4_forget 27 = .ok (.iconst (-1), 1) := by decide +kernel
theorem dX4_forget_28 : decode cX4_forget 28 = .ok (.ireturn, 1) := by decide +kernel
set_option maxRecDepth 20000 in
theorem ggX4_isSoWith_X4_starts : GoodIn wsX4_isSoWith wsX4_starts := goodIn_r _ [8, 2, 3, 50, 51, 52, 53, 54, 55, 56, 57, 58, 59, 60, 61, 62, 63, 64, 65, 66, 67, 68, 69, 70, 71, 72, 73, 74, 75, 76, 77, 78] (by decide +kernel) (by decide +kernel)
set_option maxRecDepth 20000 in
theorem gX4_isSoWith_X4_starts : GoodIn wsX4_isSoWith (wsV RX4 186 RX4 yX4_starts wsX4_starts) := goodIn_app (goodIn_of _ (by decide +kernel)) ggX4_isSoWith_X4_starts
set_option maxRecDepth 20000 in
theorem ggX4_isSoWith_X4_becomesOf : GoodIn wsX4_isSoWith wsX4_becomesOf := goodIn_r _ [12, 2, 50, 51, 52, 53, 54, 55, 56, 57, 58, 59, 60, 61, 62, 63, 64, 65, 66, 67, 68, 69, 70, 71, 72, 73, 74, 75, 76, 77, 78] (by decide +kernel) (by decide +kernel)
set_option maxRecDepth 20000 in
theorem gX4_isSoWith_X4_becomesOf : GoodIn wsX4_isSoWith (wsV RX4 164 RX4 yX4_becomesOf wsX4_becomesOf) := goodIn_app (goodIn_of _ (by decide +kernel)) ggX4_isSoWith_X4_becomesOf
set_option maxRecDepth 20000 in
theorem ggX4_isSoWith_X4_quarterGoes : GoodIn wsX4_isSoWith wsX4_quarterGoes := goodIn_r _ [16, 17, 18, 2, 19, 20, 21, 22, 7, 23, 24, 25, 26, 27, 9, 10, 11, 12, 28, 29, 30, 31, 32, 33, 34, 35, 36, 37, 38, 39, 40, 41, 42, 43, 44, 45, 46, 47, 48, 49, 50, 51, 52, 53, 54, 55, 56, 57, 58, 59, 60, 61, 62, 63, 64, 65, 66, 67, 68, 69, 70, 71, 72, 73, 74, 75, 76, 77, 78] (by decide +kernel) (by decide +kernel)
set_option maxRecDepth 20000 in
theorem gX4_isSoWith_X4_quarterGoes : GoodIn wsX4_isSoWith (wsV RX4 183 RX4 yX4_quarterGoes wsX4_quarterGoes) := goodIn_app (goodIn_of _ (by decide +kernel)) ggX4_isSoWith_X4_quarterGoes
theorem dX4_isSoWith_0 : decode cX4_isSoWith 0 = .ok (.aload_n 0, 1) := by decide +kernel
theorem dX4_isSoWith_1 : decode cX4_isSoWith 1 = .ok (.invokevirtual 186, 3) := by decide +kernel
theorem dX4_isSoWith_4 : decode cX4_isSoWith 4 = .ok (.aload_n 0, 1) := by decide +kernel
theorem dX4_isSoWith_5 : decode cX4_isSoWith 5 = .ok (.iload_n 1, 1) := by decide +kernel
theorem dX4_isSoWith_6 : decode cX4_isSoWith 6 = .ok (.iload_n 2, 1) := by decide +kernel
theorem dX4_isSoWith_7 : decode cX4_isSoWith 7 = .ok (.iload_n 3, 1) := by decide +kernel
theorem dX4_isSoWith_8 : decode cX4_isSoWith 8 = .ok (.invokevirtual 164, 3) := by decide +kernel
theorem dX4_isSoWith_11 : decode cX4_isSoWith 11 = .ok (.iconst 0, 1) := by decide +kernel
theorem dX4_isSoWith_12 : decode cX4_isSoWith 12 = .ok (.istore 4, 2) := by decide +kernel
theorem dX4_isSoWith_14 : decode cX4_isSoWith 14 = .ok (.iload 4, 2) := by decide +kernel
theorem dX4_isSoWith_16 : decode cX4_isSoWith 16 = .ok (.bipush 20, 2) := by decide +kernel
theorem dX4_isSoWith_18 : decode cX4_isSoWith 18 = .ok (.if_icmp .gt 27, 3) := by decide +kernel
theorem dX4_isSoWith_21 : decode cX4_isSoWith 21 = .ok (.aload_n 0, 1) := by decide +kernel
theorem dX4_isSoWith_22 : decode cX4_isSoWith 22 = .ok (.getfield 29, 3) := by decide +kernel
theorem dX4_isSoWith_25 : decode cX4_isSoWith 25 = .ok (.iload 4, 2) := by decide +kernel
theorem dX4_isSoWith_27 : decode cX4_isSoWith 27 = .ok (.aload_n 0, 1) := by decide +kernel
theorem dX4_isSoWith_28 : decode cX4_isSoWith 28 = .ok (.getfield 13, 3) := by decide +kernel
theorem dX4_isSoWith_31 : decode cX4_isSoWith 31 = .ok (.bipush 22, 2) := by decide +kernel
theorem dX4_isSoWith_33 : decode cX4_isSoWith 33 = .ok (.iaload, 1) := by decide +kernel
theorem dX4_isSoWith_34 : decode cX4_isSoWith 34 = .ok (.iastore, 1) := by decide +kernel
theorem dX4_isSoWith_35 : decode cX4_isSoWith 35 = .ok (.aload_n 0, 1) := by decide +kernel
theorem dX4_isSoWith_36 : decode cX4_isSoWith 36 = .ok (.invokevirtual 183, 3) := by decide +kernel
theorem dX4_isSoWith_39 : decode cX4_isSoWith 39 = .ok (.iinc 4 1, 3) := by decide +kernel
theorem dX4_isSoWith_42 : decode cX4_isSoWith 42 = .ok (.goto (-28), 3) := by decide +kernel
theorem dX4_isSoWith_45 : decode cX4_isSoWith 45 = .ok (.iconst 1, 1) := by decide +kernel
theorem dX4_isSoWith_46 : decode cX4_isSoWith 46 = .ok (.istore 4, 2) := by decide +kernel
theorem dX4_isSoWith_48 : decode cX4_isSoWith 48 = .ok (.iconst 0, 1) := by decide +kernel
theorem dX4_isSoWith_49 : decode cX4_isSoWith 49 = .ok (.istore 5, 2) := by decide +kernel
theorem dX4_isSoWith_51 : decode cX4_isSoWith 51 = .ok (.iload 5, 2) := by decide +kernel
theorem dX4_isSoWith_53 : decode cX4_isSoWith 53 = .ok (.aload_n 0, 1) := by decide +kernel
theorem dX4_isSoWith_54 : decode cX4_isSoWith 54 = .ok (.getfield 7, 3) := by decide +kernel
theorem dX4_isSoWith_57 : decode cX4_isSoWith 57 = .ok (.bipush 44, 2) := by decide +kernel
theorem dX4_isSoWith_59 : decode cX4_isSoWith 59 = .ok (.iaload, 1) := by decide +kernel
theorem dX4_isSoWith_60 : decode cX4_isSoWith 60 = .ok (.if_icmp .ge 55, 3) := by decide +kernel
theorem dX4_isSoWith_63 : decode cX4_isSoWith 63 = .ok (.iload 4, 2) := by decide +kernel
theorem dX4_isSoWith_65 : decode cX4_isSoWith 65 = .ok (.ifCond .eq 41, 3) := by decide +kernel
theorem dX4_isSoWith_68 : decode cX4_isSoWith 68 = .ok (.aload_n 0, 1) := by decide +kernel
theorem dX4_isSoWith_69 : decode cX4_isSoWith 69 = .ok (.getfield 29, 3) := by decide +kernel
theorem dX4_isSoWith_72 : decode cX4_isSoWith 72 = .ok (.aload_n 0, 1) := by decide +kernel
theorem dX4_isSoWith_73 : decode cX4_isSoWith 73 = .ok (.getfield 7, 3) := by decide +kernel
theorem dX4_isSoWith_76 : decode cX4_isSoWith 76 = .ok (.bipush 45, 2) := by decide +kernel
theorem dX4_isSoWith_78 : decode cX4_isSoWith 78 = .ok (.iconst 2, 1) := by decide +kernel
theorem dX4_isSoWith_79 : decode cX4_isSoWith 79 = .ok (.iload 5, 2) := by decide +kernel
theorem dX4_isSoWith_81 : decode cX4_isSoWith 81 = .ok (.imul, 1) := by decide +kernel
theorem dX4_isSoWith_82 : decode cX4_isSoWith 82 = .ok (.iadd, 1) := by decide +kernel
theorem dX4_isSoWith_83 : decode cX4_isSoWith 83 = .ok (.iaload, 1) := by decide +kernel
theorem dX4_isSoWith_84 : decode cX4_isSoWith 84 = .ok (.iaload, 1) := by decide +kernel
theorem dX4_isSoWith_85 : decode cX4_isSoWith 85 = .ok (.aload_n 0, 1) := by decide +kernel
theorem dX4_isSoWith_86 : decode cX4_isSoWith 86 = .ok (.getfield 7, 3) := by decide +kernel
theorem dX4_isSoWith_89 : decode cX4_isSoWith 89 = .ok (.bipush 45, 2) := by decide +kernel
theorem dX4_isSoWith_91 : decode cX4_isSoWith 91 = .ok (.iconst 2, 1) := by decide +kernel
theorem dX4_isSoWith_92 : decode cX4_isSoWith 92 = .ok (.iload 5, 2) := by decide +kernel
theorem dX4_isSoWith_94 : decode cX4_isSoWith 94 = .ok (.imul, 1) := by decide +kernel
theorem dX4_isSoWith_95 : decode cX4_isSoWith 95 = .ok (.iadd, 1) := by decide +kernel
theorem dX4_isSoWith_96 : decode cX4_isSoWith 96 = .ok (.iconst 1, 1) := by decide +kernel
theorem dX4_isSoWith_97 : decode cX4_isSoWith 97 = .ok (.iadd, 1) := by decide +kernel
theorem dX4_isSoWith_98 : decode cX4_isSoWith 98 = .ok (.iaload, 1) := by decide +kernel
theorem dX4_isSoWith_99 : decode cX4_isSoWith 99 = .ok (.if_icmp .ne 7, 3) := by decide +kernel
theorem dX4_isSoWith_102 : decode cX4_isSoWith 102 = .ok (.iconst 1, 1) := by decide +kernel
theorem dX4_isSoWith_103 : decode cX4_isSoWith 103 = .ok (.goto 4, 3) := by decide +kernel
theorem dX4_isSoWith_106 : decode cX4_isSoWith 106 = .ok (.iconst 0, 1) := by decide +kernel
theorem dX4_isSoWith_107 : decode cX4_isSoWith 107 = .ok (.istore 4, 2) := by decide +kernel
theorem dX4_isSoWith_109 : decode cX4_isSoWith 109 = .ok (.iinc 5 1, 3) := by decide +kernel
theorem dX4_isSoWith_112 : decode cX4_isSoWith 112 = .ok (.goto (-61), 3) := by decide +kernel
theorem dX4_isSoWith_115 : decode cX4_isSoWith 115 = .ok (.iload 4, 2) := by decide +kernel
theorem dX4_isSoWith_117 : decode cX4_isSoWith 117 = .ok (.ireturn, 1) := by decide +kernel
set_option maxRecDepth 20000 in
theorem ggX4_kinds_X4_isOne : GoodIn wsX4_kinds wsX4_isOne := goodIn_r _ [5, 6, 7, 8, 4, 9, 61, 62, 63, 64, 65, 66, 67, 68, 69, 70, 71, 72, 73, 74, 75, 76, 77, 78, 79, 80, 81, 82, 83, 84, 85, 86, 87, 88, 89] (by decide +kernel) (by decide +kernel)
set_option maxRecDepth 20000 in
theorem gX4_kinds_X4_isOne : GoodIn wsX4_kinds (wsV RX4 195 RX4 yX4_isOne wsX4_isOne) := goodIn_app (goodIn_of _ (by decide +kernel)) ggX4_kinds_X4_isOne
set_option maxRecDepth 20000 in
theorem ggX4_kinds_X4_isSoWith : GoodIn wsX4_kinds wsX4_isSoWith := goodIn_r _ [13, 14, 15, 16, 17, 18, 19, 4, 20, 21, 22, 23, 24, 25, 26, 27, 28, 6, 29, 30, 31, 32, 33, 34, 35, 36, 37, 38, 39, 40, 41, 42, 43, 44, 45, 46, 47, 48, 49, 50, 51, 52, 53, 54, 55, 56, 57, 58, 59, 60, 61, 62, 63, 64, 65, 66, 67, 68, 69, 70, 71, 72, 73, 74, 75, 76, 77, 78, 79, 80, 81, 82, 83, 84, 85, 86, 87, 88, 89] (by decide +kernel) (by decide +kernel)
set_option maxRecDepth 20000 in
theorem gX4_kinds_X4_isSoWith : GoodIn wsX4_kinds (wsV RX4 268 RX4 yX4_isSoWith wsX4_isSoWith) := goodIn_app (goodIn_of _ (by decide +kernel)) ggX4_kinds_X4_isSoWith
set_option maxRecDepth 20000 in
theorem ggX4_kinds_X4_flag : GoodIn wsX4_kinds wsX4_flag := goodIn_r _ [56] (by decide +kernel) (by decide +kernel)
set_option maxRecDepth 20000 in
theorem gX4_kinds_X4_flag : GoodIn wsX4_kinds (va_wsS RX4 154 yX4_flag wsX4_flag) := goodIn_app (goodIn_of _ (by decide +kernel)) ggX4_kinds_X4_flag
theorem dX4_kinds_0 : decode cX4_kinds 0 = .ok (.aload_n 0, 1) := by decide +kernel
theorem dX4_kinds_1 : decode cX4_kinds 1 = .ok (.iload_n 1, 1) := by decide +kernel
theorem dX4_kinds_2 : decode cX4_kinds 2 = .ok (.invokevirtual 195, 3) := by decide +kernel
theorem dX4_kinds_5 : decode cX4_kinds 5 = .ok (.ifCond .ne 5, 3) := by decide +kernel
theorem dX4_kinds_8 : decode cX4_kinds 8 = .ok (.iconst (-1), 1) := by decide +kernel
theorem dX4_kinds_9 : decode cX4_kinds 9 = .ok (.ireturn, 1) := by decide +kernel
theorem dX4_kinds_10 : decode cX4_kinds 10 = .ok (.iconst 0, 1) := by decide +kernel
theorem dX4_kinds_11 : decode cX4_kinds 11 = .ok (.istore_n 2, 1) := by decide +kernel
theorem dX4_kinds_12 : decode cX4_kinds 12 = .ok (.iconst 0, 1) := by decide +kernel
theorem dX4_kinds_13 : decode cX4_kinds 13 = .ok (.istore_n 3, 1) := by decide +kernel
theorem dX4_kinds_14 : decode cX4_kinds 14 = .ok (.iload_n 3, 1) := by decide +kernel
theorem dX4_kinds_15 : decode cX4_kinds 15 = .ok (.iconst 4, 1) := by decide +kernel
theorem dX4_kinds_16 : decode cX4_kinds 16 = .ok (.if_icmp .ge 24, 3) := by decide +kernel
theorem dX4_kinds_19 : decode cX4_kinds 19 = .ok (.iload_n 2, 1) := by decide +kernel
theorem dX4_kinds_20 : decode cX4_kinds 20 = .ok (.aload_n 0, 1) := by decide +kernel
theorem dX4_kinds_21 : decode cX4_kinds 21 = .ok (.iload_n 1, 1) := by decide +kernel
theorem dX4_kinds_22 : decode cX4_kinds 22 = .ok (.iconst 0, 1) := by decide +kernel
theorem dX4_kinds_23 : decode cX4_kinds 23 = .ok (.iload_n 3, 1) := by decide +kernel
theorem dX4_kinds_24 : decode cX4_kinds 24 = .ok (.invokevirtual 268, 3) := by decide +kernel
theorem dX4_kinds_27 : decode cX4_kinds 27 = .ok (.invokestatic 154, 3) := by decide +kernel
theorem dX4_kinds_30 : decode cX4_kinds 30 = .ok (.iload_n 3, 1) := by decide +kernel
theorem dX4_kinds_31 : decode cX4_kinds 31 = .ok (.ishl, 1) := by decide +kernel
theorem dX4_kinds_32 : decode cX4_kinds 32 = .ok (.ior, 1) := by decide +kernel
theorem dX4_kinds_33 : decode cX4_kinds 33 = .ok (.istore_n 2, 1) := by decide +kernel
theorem dX4_kinds_34 : decode cX4_kinds 34 = .ok (.iinc 3 1, 3) := by decide +kernel
theorem dX4_kinds_37 : decode cX4_kinds 37 = .ok (.goto (-23), 3) := by decide +kernel
theorem dX4_kinds_40 : decode cX4_kinds 40 = .ok (.iload_n 2, 1) := by decide +kernel
theorem dX4_kinds_41 : decode cX4_kinds 41 = .ok (.ireturn, 1) := by decide +kernel
set_option maxRecDepth 20000 in
theorem ggX4_trades_X4_isOne : GoodIn wsX4_trades wsX4_isOne := goodIn_r _ [5, 6, 7, 8, 4, 9, 61, 62, 63, 64, 65, 66, 67, 68, 69, 70, 71, 72, 73, 74, 75, 76, 77, 78, 79, 80, 81, 82, 83, 84, 85, 86, 87, 88, 89] (by decide +kernel) (by decide +kernel)
set_option maxRecDepth 20000 in
theorem gX4_trades_X4_isOne : GoodIn wsX4_trades (wsV RX4 195 RX4 yX4_isOne wsX4_isOne) := goodIn_app (goodIn_of _ (by decide +kernel)) ggX4_trades_X4_isOne
set_option maxRecDepth 20000 in
theorem ggX4_trades_X4_isSoWith : GoodIn wsX4_trades wsX4_isSoWith := goodIn_r _ [13, 14, 15, 16, 17, 18, 19, 4, 20, 21, 22, 23, 24, 25, 26, 27, 28, 6, 29, 30, 31, 32, 33, 34, 35, 36, 37, 38, 39, 40, 41, 42, 43, 44, 45, 46, 47, 48, 49, 50, 51, 52, 53, 54, 55, 56, 57, 58, 59, 60, 61, 62, 63, 64, 65, 66, 67, 68, 69, 70, 71, 72, 73, 74, 75, 76, 77, 78, 79, 80, 81, 82, 83, 84, 85, 86, 87, 88, 89] (by decide +kernel) (by decide +kernel)
set_option maxRecDepth 20000 in
theorem gX4_trades_X4_isSoWith : GoodIn wsX4_trades (wsV RX4 268 RX4 yX4_isSoWith wsX4_isSoWith) := goodIn_app (goodIn_of _ (by decide +kernel)) ggX4_trades_X4_isSoWith
set_option maxRecDepth 20000 in
theorem ggX4_trades_X4_flag : GoodIn wsX4_trades wsX4_flag := goodIn_r _ [56] (by decide +kernel) (by decide +kernel)
set_option maxRecDepth 20000 in
theorem gX4_trades_X4_flag : GoodIn wsX4_trades (va_wsS RX4 154 yX4_flag wsX4_flag) := goodIn_app (goodIn_of _ (by decide +kernel)) ggX4_trades_X4_flag
theorem dX4_trades_0 : decode cX4_trades 0 = .ok (.aload_n 0, 1) := by decide +kernel
theorem dX4_trades_1 : decode cX4_trades 1 = .ok (.iload_n 1, 1) := by decide +kernel
theorem dX4_trades_2 : decode cX4_trades 2 = .ok (.invokevirtual 195, 3) := by decide +kernel
theorem dX4_trades_5 : decode cX4_trades 5 = .ok (.ifCond .ne 5, 3) := by decide +kernel
theorem dX4_trades_8 : decode cX4_trades 8 = .ok (.iconst (-1), 1) := by decide +kernel
theorem dX4_trades_9 : decode cX4_trades 9 = .ok (.ireturn, 1) := by decide +kernel
theorem dX4_trades_10 : decode cX4_trades 10 = .ok (.iconst 0, 1) := by decide +kernel
theorem dX4_trades_11 : decode cX4_trades 11 = .ok (.istore_n 2, 1) := by decide +kernel
theorem dX4_trades_12 : decode cX4_trades 12 = .ok (.iconst 0, 1) := by decide +kernel
theorem dX4_trades_13 : decode cX4_trades 13 = .ok (.istore_n 3, 1) := by decide +kernel
theorem dX4_trades_14 : decode cX4_trades 14 = .ok (.iload_n 3, 1) := by decide +kernel
theorem dX4_trades_15 : decode cX4_trades 15 = .ok (.bipush 20, 2) := by decide +kernel
theorem dX4_trades_17 : decode cX4_trades 17 = .ok (.if_icmp .gt 24, 3) := by decide +kernel
theorem dX4_trades_20 : decode cX4_trades 20 = .ok (.iload_n 2, 1) := by decide +kernel
theorem dX4_trades_21 : decode cX4_trades 21 = .ok (.aload_n 0, 1) := by decide +kernel
theorem dX4_trades_22 : decode cX4_trades 22 = .ok (.iload_n 1, 1) := by decide +kernel
theorem dX4_trades_23 : decode cX4_trades 23 = .ok (.iconst 2, 1) := by decide +kernel
theorem dX4_trades_24 : decode cX4_trades 24 = .ok (.iload_n 3, 1) := by decide +kernel
theorem dX4_trades_25 : decode cX4_trades 25 = .ok (.invokevirtual 268, 3) := by decide +kernel
theorem dX4_trades_28 : decode cX4_trades 28 = .ok (.invokestatic 154, 3) := by decide +kernel
