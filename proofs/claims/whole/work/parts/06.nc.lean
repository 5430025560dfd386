theorem dX2_comesTo_13 : decode cX2_comesTo 13 = .ok (.if_icmp .ne 5, 3) := by decide +kernel
theorem dX2_comesTo_16 : decode cX2_comesTo 16 = .ok (.iload_n 2, 1) := by decide +kernel
theorem dX2_comesTo_17 : decode cX2_comesTo 17 = .ok (.ireturn, 1) := by decide +kernel
theorem dX2_comesTo_18 : decode cX2_comesTo 18 = .ok (.aload_n 0, 1) := by decide +kernel
theorem dX2_comesTo_19 : decode cX2_comesTo 19 = .ok (.invokevirtual 88, 3) := by decide +kernel
theorem dX2_comesTo_22 : decode cX2_comesTo 22 = .ok (.pop, 1) := by decide +kernel
theorem dX2_comesTo_23 : decode cX2_comesTo 23 = .ok (.iinc 2 1, 3) := by decide +kernel
theorem dX2_comesTo_26 : decode cX2_comesTo 26 = .ok (.goto (-24), 3) := by decide +kernel
theorem dX2_comesTo_29 : decode cX2_comesTo 29 = .ok (.bipush (-4), 2) := by decide +kernel
theorem dX2_comesTo_31 : decode cX2_comesTo 31 = .ok (.ireturn, 1) := by decide +kernel
set_option maxRecDepth 20000 in
theorem ggX2_staysUp_X2_step : GoodIn wsX2_staysUp wsX2_step := goodIn_r _ [5, 6, 7, 8, 9, 10, 11, 12, 4, 13, 14, 15, 16, 17, 18, 19, 20, 21, 22, 23, 24, 25, 26, 27, 28, 29, 30, 31, 32, 33, 34, 35, 36, 37, 38, 39, 40, 41, 42, 43, 44, 45, 46, 47, 48, 49, 50, 51, 52, 53, 54, 55, 56, 57, 58, 59, 60, 61, 62, 63, 64, 65, 66, 67] (by decide +kernel) (by decide +kernel)
set_option maxRecDepth 20000 in
theorem gX2_staysUp_X2_step : GoodIn wsX2_staysUp (wsV RX2 88 RX2 yX2_step wsX2_step) := goodIn_app (goodIn_of _ (by decide +kernel)) ggX2_staysUp_X2_step
set_option maxRecDepth 20000 in
theorem ggX2_staysUp_X2_isRuined : GoodIn wsX2_staysUp wsX2_isRuined := goodIn_r _ [50, 16, 55, 56, 57, 58, 59, 60, 61, 62, 63, 64, 65, 66, 67] (by decide +kernel) (by decide +kernel)
set_option maxRecDepth 20000 in
theorem gX2_staysUp_X2_isRuined : GoodIn wsX2_staysUp (wsV RX2 66 RX2 yX2_isRuined wsX2_isRuined) := goodIn_app (goodIn_of _ (by decide +kernel)) ggX2_staysUp_X2_isRuined
theorem dX2_staysUp_0 : decode cX2_staysUp 0 = .ok (.iconst 0, 1) := by decide +kernel
theorem dX2_staysUp_1 : decode cX2_staysUp 1 = .ok (.istore_n 3, 1) := by decide +kernel
theorem dX2_staysUp_2 : decode cX2_staysUp 2 = .ok (.iload_n 3, 1) := by decide +kernel
theorem dX2_staysUp_3 : decode cX2_staysUp 3 = .ok (.iload_n 2, 1) := by decide +kernel
theorem dX2_staysUp_4 : decode cX2_staysUp 4 = .ok (.if_icmp .ge 24, 3) := by decide +kernel
theorem dX2_staysUp_7 : decode cX2_staysUp 7 = .ok (.aload_n 0, 1) := by decide +kernel
theorem dX2_staysUp_8 : decode cX2_staysUp 8 = .ok (.invokevirtual 88, 3) := by decide +kernel
theorem dX2_staysUp_11 : decode cX2_staysUp 11 = .ok (.pop, 1) := by decide +kernel
theorem dX2_staysUp_12 : decode cX2_staysUp 12 = .ok (.aload_n 0, 1) := by decide +kernel
theorem dX2_staysUp_13 : decode cX2_staysUp 13 = .ok (.iload_n 1, 1) := by decide +kernel
theorem dX2_staysUp_14 : decode cX2_staysUp 14 = .ok (.invokevirtual 66, 3) := by decide +kernel
theorem dX2_staysUp_17 : decode cX2_staysUp 17 = .ok (.ifCond .eq 5, 3) := by decide +kernel
theorem dX2_staysUp_20 : decode cX2_staysUp 20 = .ok (.iconst 0, 1) := by decide +kernel
theorem dX2_staysUp_21 : decode cX2_staysUp 21 = .ok (.ireturn, 1) := by decide +kernel
theorem dX2_staysUp_22 : decode cX2_staysUp 22 = .ok (.iinc 3 1, 3) := by decide +kernel
theorem dX2_staysUp_25 : decode cX2_staysUp 25 = .ok (.goto (-23), 3) := by decide +kernel
theorem dX2_staysUp_28 : decode cX2_staysUp 28 = .ok (.iconst 1, 1) := by decide +kernel
theorem dX2_staysUp_29 : decode cX2_staysUp 29 = .ok (.ireturn, 1) := by decide +kernel
set_option maxRecDepth 20000 in
theorem ggX2_trace_X2_step : GoodIn wsX2_trace wsX2_step := goodIn_r _ [6, 7, 1, 8, 9, 10, 11, 12, 5, 13, 14, 15, 16, 17, 18, 19, 20, 21, 22, 23, 24, 25, 26, 27, 28, 29, 30, 31, 32, 33, 34, 35, 36, 37, 38, 39, 40, 41, 42, 43, 44, 45, 46, 47, 48, 49, 50, 51, 52, 53, 54, 55, 56, 57, 58, 59, 60, 61, 62, 63, 64, 65, 66, 67] (by decide +kernel) (by decide +kernel)
set_option maxRecDepth 20000 in
theorem gX2_trace_X2_step : GoodIn wsX2_trace (wsV RX2 88 RX2 yX2_step wsX2_step) := goodIn_app (goodIn_of _ (by decide +kernel)) ggX2_trace_X2_step
theorem dX2_trace_0 : decode cX2_trace 0 = .ok (.iconst 0, 1) := by decide +kernel
theorem dX2_trace_1 : decode cX2_trace 1 = .ok (.istore_n 2, 1) := by decide +kernel
theorem dX2_trace_2 : decode cX2_trace 2 = .ok (.iload_n 2, 1) := by decide +kernel
theorem dX2_trace_3 : decode cX2_trace 3 = .ok (.aload_n 1, 1) := by decide +kernel
theorem dX2_trace_4 : decode cX2_trace 4 = .ok (.arraylength, 1) := by decide +kernel
theorem dX2_trace_5 : decode cX2_trace 5 = .ok (.if_icmp .ge 21, 3) := by decide +kernel
theorem dX2_trace_8 : decode cX2_trace 8 = .ok (.aload_n 1, 1) := by decide +kernel
theorem dX2_trace_9 : decode cX2_trace 9 = .ok (.iload_n 2, 1) := by decide +kernel
theorem dX2_trace_10 : decode cX2_trace 10 = .ok (.aload_n 0, 1) := by decide +kernel
theorem dX2_trace_11 : decode cX2_trace 11 = .ok (.getfield 43, 3) := by decide +kernel
theorem dX2_trace_14 : decode cX2_trace 14 = .ok (.iastore, 1) := by decide +kernel
theorem dX2_trace_15 : decode cX2_trace 15 = .ok (.aload_n 0, 1) := by decide +kernel
theorem dX2_trace_16 : decode cX2_trace 16 = .ok (.invokevirtual 88, 3) := by decide +kernel
theorem dX2_trace_19 : decode cX2_trace 19 = .ok (.pop, 1) := by decide +kernel
theorem dX2_trace_20 : decode cX2_trace 20 = .ok (.iinc 2 1, 3) := by decide +kernel
theorem dX2_trace_23 : decode cX2_trace 23 = .ok (.goto (-21), 3) := by decide +kernel
theorem dX2_trace_26 : decode cX2_trace 26 = .ok (.return_, 1) := by decide +kernel
theorem dX2_isAsSeen_0 : decode cX2_isAsSeen 0 = .ok (.iconst 0, 1) := by decide +kernel
theorem dX2_isAsSeen_1 : decode cX2_isAsSeen 1 = .ok (.istore_n 2, 1) := by decide +kernel
theorem dX2_isAsSeen_2 : decode cX2_isAsSeen 2 = .ok (.iload_n 2, 1) := by decide +kernel
theorem dX2_isAsSeen_3 : decode cX2_isAsSeen 3 = .ok (.aload_n 0, 1) := by decide +kernel
theorem dX2_isAsSeen_4 : decode cX2_isAsSeen 4 = .ok (.getfield 49, 3) := by decide +kernel
theorem dX2_isAsSeen_7 : decode cX2_isAsSeen 7 = .ok (.if_icmp .ge 28, 3) := by decide +kernel
theorem dX2_isAsSeen_10 : decode cX2_isAsSeen 10 = .ok (.aload_n 1, 1) := by decide +kernel
theorem dX2_isAsSeen_11 : decode cX2_isAsSeen 11 = .ok (.aload_n 0, 1) := by decide +kernel
theorem dX2_isAsSeen_12 : decode cX2_isAsSeen 12 = .ok (.getfield 27, 3) := by decide +kernel
theorem dX2_isAsSeen_15 : decode cX2_isAsSeen 15 = .ok (.iload_n 2, 1) := by decide +kernel
theorem dX2_isAsSeen_16 : decode cX2_isAsSeen 16 = .ok (.iaload, 1) := by decide +kernel
theorem dX2_isAsSeen_17 : decode cX2_isAsSeen 17 = .ok (.iaload, 1) := by decide +kernel
theorem dX2_isAsSeen_18 : decode cX2_isAsSeen 18 = .ok (.aload_n 0, 1) := by decide +kernel
theorem dX2_isAsSeen_19 : decode cX2_isAsSeen 19 = .ok (.getfield 30, 3) := by decide +kernel
theorem dX2_isAsSeen_22 : decode cX2_isAsSeen 22 = .ok (.iload_n 2, 1) := by decide +kernel
theorem dX2_isAsSeen_23 : decode cX2_isAsSeen 23 = .ok (.iaload, 1) := by decide +kernel
theorem dX2_isAsSeen_24 : decode cX2_isAsSeen 24 = .ok (.if_icmp .eq 5, 3) := by decide +kernel
theorem dX2_isAsSeen_27 : decode cX2_isAsSeen 27 = .ok (.iconst 0, 1) := by decide +kernel
theorem dX2_isAsSeen_28 : decode cX2_isAsSeen 28 = .ok (.ireturn, 1) := by decide +kernel
theorem dX2_isAsSeen_29 : decode cX2_isAsSeen 29 = .ok (.iinc 2 1, 3) := by decide +kernel
theorem dX2_isAsSeen_32 : decode cX2_isAsSeen 32 = .ok (.goto (-30), 3) := by decide +kernel
theorem dX2_isAsSeen_35 : decode cX2_isAsSeen 35 = .ok (.iconst 1, 1) := by decide +kernel
theorem dX2_isAsSeen_36 : decode cX2_isAsSeen 36 = .ok (.ireturn, 1) := by decide +kernel
set_option maxRecDepth 20000 in
theorem ggX3_init_X1_init : GoodIn wsX3_init wsX1_init := goodIn_r _ [25, 26, 2, 3, 27, 28, 44, 45, 46, 47, 48, 49, 50, 51, 52] (by decide +kernel) (by decide +kernel)
set_option maxRecDepth 20000 in
theorem gX3_init_X1_init_n9 : GoodIn wsX3_init (wsX1_init) := ggX3_init_X1_init
set_option maxRecDepth 20000 in
theorem ggX3_init_X2_init : GoodIn wsX3_init wsX2_init := goodIn_r _ [30, 31, 2, 3, 19, 32, 33, 34, 35, 36, 37, 38, 63, 64, 65, 66, 67, 68, 69, 70, 71, 72, 73, 74, 75] (by decide +kernel) (by decide +kernel)
set_option maxRecDepth 20000 in
theorem gX3_init_X2_init_n18 : GoodIn wsX3_init (wsX2_init) := ggX3_init_X2_init
set_option maxRecDepth 20000 in
theorem ggX3_init_X0_init : GoodIn wsX3_init wsX0_init := goodIn_r _ [40, 41, 2, 3, 42, 19, 43, 76, 77, 78] (by decide +kernel) (by decide +kernel)
set_option maxRecDepth 20000 in
theorem gX3_init_X0_init_n50 : GoodIn wsX3_init (wsX0_init) := ggX3_init_X0_init
theorem dX3_init_0 : decode cX3_init 0 = .ok (.aload_n 0, 1) := by decide +kernel
theorem dX3_init_1 : decode cX3_init 1 = .ok (.invokespecial 1, 3) := by decide +kernel
theorem dX3_init_4 : decode cX3_init 4 = .ok (.aload_n 0, 1) := by decide +kernel
theorem dX3_init_5 : decode cX3_init 5 = .ok (.new 7, 3) := by decide +kernel
theorem dX3_init_8 : decode cX3_init 8 = .ok (.dup, 1) := by decide +kernel
theorem dX3_init_9 : decode cX3_init 9 = .ok (.invokespecial 9, 3) := by decide +kernel
theorem dX3_init_12 : decode cX3_init 12 = .ok (.putfield 10, 3) := by decide +kernel
theorem dX3_init_15 : decode cX3_init 15 = .ok (.aload_n 0, 1) := by decide +kernel
theorem dX3_init_16 : decode cX3_init 16 = .ok (.new 16, 3) := by decide +kernel
theorem dX3_init_19 : decode cX3_init 19 = .ok (.dup, 1) := by decide +kernel
theorem dX3_init_20 : decode cX3_init 20 = .ok (.invokespecial 18, 3) := by decide +kernel
theorem dX3_init_23 : decode cX3_init 23 = .ok (.putfield 19, 3) := by decide +kernel
theorem dX3_init_26 : decode cX3_init 26 = .ok (.aload_n 0, 1) := by decide +kernel
theorem dX3_init_27 : decode cX3_init 27 = .ok (.new 16, 3) := by decide +kernel
theorem dX3_init_30 : decode cX3_init 30 = .ok (.dup, 1) := by decide +kernel
theorem dX3_init_31 : decode cX3_init 31 = .ok (.invokespecial 18, 3) := by decide +kernel
theorem dX3_init_34 : decode cX3_init 34 = .ok (.putfield 23, 3) := by decide +kernel
theorem dX3_init_37 : decode cX3_init 37 = .ok (.aload_n 0, 1) := by decide +kernel
theorem dX3_init_38 : decode cX3_init 38 = .ok (.new 16, 3) := by decide +kernel
theorem dX3_init_41 : decode cX3_init 41 = .ok (.dup, 1) := by decide +kernel
theorem dX3_init_42 : decode cX3_init 42 = .ok (.invokespecial 18, 3) := by decide +kernel
theorem dX3_init_45 : decode cX3_init 45 = .ok (.putfield 26, 3) := by decide +kernel
theorem dX3_init_48 : decode cX3_init 48 = .ok (.aload_n 0, 1) := by decide +kernel
theorem dX3_init_49 : decode cX3_init 49 = .ok (.iconst 2, 1) := by decide +kernel
theorem dX3_init_50 : decode cX3_init 50 = .ok (.anewarray 16, 3) := by decide +kernel
theorem dX3_init_53 : decode cX3_init 53 = .ok (.putfield 29, 3) := by decide +kernel
theorem dX3_init_56 : decode cX3_init 56 = .ok (.aload_n 0, 1) := by decide +kernel
theorem dX3_init_57 : decode cX3_init 57 = .ok (.iconst 2, 1) := by decide +kernel
theorem dX3_init_58 : decode cX3_init 58 = .ok (.newarray .boolean, 2) := by decide +kernel
theorem dX3_init_60 : decode cX3_init 60 = .ok (.putfield 33, 3) := by decide +kernel
theorem dX3_init_63 : decode cX3_init 63 = .ok (.aload_n 0, 1) := by decide +kernel
theorem dX3_init_64 : decode cX3_init 64 = .ok (.iconst 4, 1) := by decide +kernel
theorem dX3_init_65 : decode cX3_init 65 = .ok (.anewarray 37, 3) := by decide +kernel
theorem dX3_init_68 : decode cX3_init 68 = .ok (.putfield 39, 3) := by decide +kernel
theorem dX3_init_71 : decode cX3_init 71 = .ok (.aload_n 0, 1) := by decide +kernel
theorem dX3_init_72 : decode cX3_init 72 = .ok (.bipush 21, 2) := by decide +kernel
theorem dX3_init_74 : decode cX3_init 74 = .ok (.newarray .int, 2) := by decide +kernel
theorem dX3_init_76 : decode cX3_init 76 = .ok (.putfield 43, 3) := by decide +kernel
theorem dX3_init_79 : decode cX3_init 79 = .ok (.aload_n 0, 1) := by decide +kernel
theorem dX3_init_80 : decode cX3_init 80 = .ok (.bipush 105, 2) := by decide +kernel
theorem dX3_init_82 : decode cX3_init 82 = .ok (.newarray .int, 2) := by decide +kernel
theorem dX3_init_84 : decode cX3_init 84 = .ok (.putfield 47, 3) := by decide +kernel
theorem dX3_init_87 : decode cX3_init 87 = .ok (.iconst 0, 1) := by decide +kernel
theorem dX3_init_88 : decode cX3_init 88 = .ok (.istore_n 1, 1) := by decide +kernel
theorem dX3_init_89 : decode cX3_init 89 = .ok (.iload_n 1, 1) := by decide +kernel
theorem dX3_init_90 : decode cX3_init 90 = .ok (.iconst 2, 1) := by decide +kernel
theorem dX3_init_91 : decode cX3_init 91 = .ok (.if_icmp .ge 22, 3) := by decide +kernel
theorem dX3_init_94 : decode cX3_init 94 = .ok (.aload_n 0, 1) := by decide +kernel
theorem dX3_init_95 : decode cX3_init 95 = .ok (.getfield 29, 3) := by decide +kernel
theorem dX3_init_98 : decode cX3_init 98 = .ok (.iload_n 1, 1) := by decide +kernel
theorem dX3_init_99 : decode cX3_init 99 = .ok (.new 16, 3) := by decide +kernel
theorem dX3_init_102 : decode cX3_init 102 = .ok (.dup, 1) := by decide +kernel
theorem dX3_init_103 : decode cX3_init 103 = .ok (.invokespecial 18, 3) := by decide +kernel
theorem dX3_init_106 : decode cX3_init 106 = .ok (.aastore, 1) := by decide +kernel
theorem dX3_init_107 : decode cX3_init 107 = .ok (.iinc 1 1, 3) := by decide +kernel
theorem dX3_init_110 : decode cX3_init 110 = .ok (.goto (-21), 3) := by decide +kernel
theorem dX3_init_113 : decode cX3_init 113 = .ok (.iconst 0, 1) := by decide +kernel
theorem dX3_init_114 : decode cX3_init 114 = .ok (.istore_n 1, 1) := by decide +kernel
theorem dX3_init_115 : decode cX3_init 115 = .ok (.iload_n 1, 1) := by decide +kernel
theorem dX3_init_116 : decode cX3_init 116 = .ok (.iconst 4, 1) := by decide +kernel
theorem dX3_init_117 : decode cX3_init 117 = .ok (.if_icmp .ge 22, 3) := by decide +kernel
theorem dX3_init_120 : decode cX3_init 120 = .ok (.aload_n 0, 1) := by decide +kernel
theorem dX3_init_121 : decode cX3_init 121 = .ok (.getfield 39, 3) := by decide +kernel
theorem dX3_init_124 : decode cX3_init 124 = .ok (.iload_n 1, 1) := by decide +kernel
theorem dX3_init_125 : decode cX3_init 125 = .ok (.new 37, 3) := by decide +kernel
theorem dX3_init_128 : decode cX3_init 128 = .ok (.dup, 1) := by decide +kernel
theorem dX3_init_129 : decode cX3_init 129 = .ok (.invokespecial 50, 3) := by decide +kernel
theorem dX3_init_132 : decode cX3_init 132 = .ok (.aastore, 1) := by decide +kernel
theorem dX3_init_133 : decode cX3_init 133 = .ok (.iinc 1 1, 3) := by decide +kernel
theorem dX3_init_136 : decode cX3_init 136 = .ok (.goto (-21), 3) := by decide +kernel
theorem dX3_init_139 : decode cX3_init 139 = .ok (.return_, 1) := by decide +kernel
set_option maxRecDepth 20000 in
theorem ggX3_feed_X3_within : GoodIn wsX3_feed wsX3_within := goodIn_r _ [6] (by decide +kernel) (by decide +kernel)
set_option maxRecDepth 20000 in
theorem gX3_feed_X3_within : GoodIn wsX3_feed (va_wsS RX3 51 yX3_within wsX3_within) := goodIn_app (goodIn_of _ (by decide +kernel)) ggX3_feed_X3_within
set_option maxRecDepth 20000 in
theorem ggX3_feed_X1_addByte : GoodIn wsX3_feed wsX1_addByte := goodIn_r _ [11, 12, 13, 24, 25, 26, 27, 28, 29, 30, 31, 32] (by decide +kernel) (by decide +kernel)
set_option maxRecDepth 20000 in
theorem gX3_feed_X1_addByte : GoodIn wsX3_feed (wsV RX3 55 RX1 yX1_addByte wsX1_addByte) := goodIn_app (goodIn_of _ (by decide +kernel)) ggX3_feed_X1_addByte
theorem dX3_feed_0 : decode cX3_feed 0 = .ok (.iload_n 1, 1) := by decide +kernel
theorem dX3_feed_1 : decode cX3_feed 1 = .ok (.iconst 0, 1) := by decide +kernel
theorem dX3_feed_2 : decode cX3_feed 2 = .ok (.bipush 127, 2) := by decide +kernel
theorem dX3_feed_4 : decode cX3_feed 4 = .ok (.invokestatic 51, 3) := by decide +kernel
theorem dX3_feed_7 : decode cX3_feed 7 = .ok (.ifCond .ne 5, 3) := by decide +kernel
theorem dX3_feed_10 : decode cX3_feed 10 = .ok (.iconst (-1), 1) := by decide +kernel
theorem dX3_feed_11 : decode cX3_feed 11 = .ok (.ireturn, 1) := by decide +kernel
theorem dX3_feed_12 : decode cX3_feed 12 = .ok (.aload_n 0, 1) := by decide +kernel
theorem dX3_feed_13 : decode cX3_feed 13 = .ok (.getfield 10, 3) := by decide +kernel
theorem dX3_feed_16 : decode cX3_feed 16 = .ok (.iload_n 1, 1) := by decide +kernel
theorem dX3_feed_17 : decode cX3_feed 17 = .ok (.invokevirtual 55, 3) := by decide +kernel
theorem dX3_feed_20 : decode cX3_feed 20 = .ok (.ifCond .eq 13, 3) := by decide +kernel
theorem dX3_feed_23 : decode cX3_feed 23 = .ok (.aload_n 0, 1) := by decide +kernel
theorem dX3_feed_24 : decode cX3_feed 24 = .ok (.getfield 10, 3) := by decide +kernel
theorem dX3_feed_27 : decode cX3_feed 27 = .ok (.getfield 59, 3) := by decide +kernel
theorem dX3_feed_30 : decode cX3_feed 30 = .ok (.goto 5, 3) := by decide +kernel
theorem dX3_feed_33 : decode cX3_feed 33 = .ok (.bipush (-3), 2) := by decide +kernel
theorem dX3_feed_35 : decode cX3_feed 35 = .ok (.ireturn, 1) := by decide +kernel
set_option maxRecDepth 20000 in
theorem ggX3_end_X3_within : GoodIn wsX3_end wsX3_within := goodIn_r _ [6] (by decide +kernel) (by decide +kernel)
set_option maxRecDepth 20000 in
theorem gX3_end_X3_within : GoodIn wsX3_end (va_wsS RX3 51 yX3_within wsX3_within) := goodIn_app (goodIn_of _ (by decide +kernel)) ggX3_end_X3_within
theorem dX3_end_0 : decode cX3_end 0 = .ok (.iload_n 1, 1) := by decide +kernel
theorem dX3_end_1 : decode cX3_end 1 = .ok (.iconst 0, 1) := by decide +kernel
theorem dX3_end_2 : decode cX3_end 2 = .ok (.aload_n 0, 1) := by decide +kernel
theorem dX3_end_3 : decode cX3_end 3 = .ok (.getfield 10, 3) := by decide +kernel
theorem dX3_end_6 : decode cX3_end 6 = .ok (.getfield 59, 3) := by decide +kernel
theorem dX3_end_9 : decode cX3_end 9 = .ok (.invokestatic 51, 3) := by decide +kernel
theorem dX3_end_12 : decode cX3_end 12 = .ok (.ifCond .ne 5, 3) := by decide +kernel
theorem dX3_end_15 : decode cX3_end 15 = .ok (.iconst (-1), 1) := by decide +kernel
theorem dX3_end_16 : decode cX3_end 16 = .ok (.ireturn, 1) := by decide +kernel
theorem dX3_end_17 : decode cX3_end 17 = .ok (.aload_n 0, 1) := by decide +kernel
theorem dX3_end_18 : decode cX3_end 18 = .ok (.getfield 10, 3) := by decide +kernel
theorem dX3_end_21 : decode cX3_end 21 = .ok (.getfield 59, 3) := by decide +kernel
theorem dX3_end_24 : decode cX3_end 24 = .ok (.istore_n 2, 1) := by decide +kernel
theorem dX3_end_25 : decode cX3_end 25 = .ok (.aload_n 0, 1) := by decide +kernel
theorem dX3_end_26 : decode cX3_end 26 = .ok (.getfield 10, 3) := by decide +kernel
theorem dX3_end_29 : decode cX3_end 29 = .ok (.iload_n 1, 1) := by decide +kernel
theorem dX3_end_30 : decode cX3_end 30 = .ok (.putfield 59, 3) := by decide +kernel
theorem dX3_end_33 : decode cX3_end 33 = .ok (.iload_n 2, 1) := by decide +kernel
theorem dX3_end_34 : decode cX3_end 34 = .ok (.ireturn, 1) := by decide +kernel
set_option maxRecDepth 20000 in
theorem ggX3_text_X2_clear : GoodIn wsX3_text wsX2_clear := goodIn_r _ [12, 13, 14, 15, 16, 17, 18, 194, 195, 196, 197, 198, 199, 200, 201, 202, 203, 204, 205, 206] (by decide +kernel) (by decide +kernel)
set_option maxRecDepth 20000 in
theorem gX3_text_X2_clear : GoodIn wsX3_text (wsV RX3 63 RX2 yX2_clear wsX2_clear) := goodIn_app (goodIn_of _ (by decide +kernel)) ggX3_text_X2_clear
set_option maxRecDepth 20000 in
theorem ggX3_text_X1_tell : GoodIn wsX3_text wsX1_tell := goodIn_r _ [23, 24, 25, 26, 27, 28, 29, 30, 31, 32, 33, 22, 34, 35, 36, 37, 38, 39, 40, 41, 42, 43, 44, 45, 46, 47, 48, 49, 50, 51, 52, 53, 54, 55, 56, 57, 58, 59, 60, 61, 62, 63, 64, 65, 66, 67, 68, 69, 70, 71, 72, 73, 74, 75, 76, 77, 78, 79, 80, 81, 82, 83, 84, 85, 86, 87, 88, 89, 90, 91, 92, 93, 94, 95, 96, 97, 98, 99, 100, 101, 102, 103, 104, 105, 106, 107, 108, 109, 110, 111, 112, 113, 114, 115, 116, 117, 118, 119, 120, 121, 122, 123, 124, 125, 126, 127, 128, 129, 130, 131, 132, 133, 134, 135, 136, 137, 11, 138, 17, 139, 140, 141, 142, 143, 144, 145, 146, 147, 148, 13, 149, 150, 151, 152, 153, 154, 155, 156, 157, 158, 159, 160, 16, 161, 162, 163, 164, 185, 186, 187, 188, 189, 190, 191, 192, 193, 194, 195, 196, 197, 198, 199, 200, 201, 202, 203, 204, 205, 206] (by decide +kernel) (by decide +kernel)
set_option maxRecDepth 20000 in
theorem gX3_text_X1_tell : GoodIn wsX3_text (wsV RX3 66 RX1 yX1_tell wsX1_tell) := goodIn_app (goodIn_of _ (by decide +kernel)) ggX3_text_X1_tell
set_option maxRecDepth 20000 in
theorem ggX3_text_X2_become : GoodIn wsX3_text wsX2_become := goodIn_r _ [168, 13, 14, 15, 16, 17, 18, 149, 169, 170, 171, 172, 150, 151, 152, 139, 173, 174, 194, 195, 196, 197, 198, 199, 200, 201, 202, 203, 204, 205, 206] (by decide +kernel) (by decide +kernel)
set_option maxRecDepth 20000 in
theorem gX3_text_X2_become : GoodIn wsX3_text (wsV RX3 76 RX2 yX2_become wsX2_become) := goodIn_app (goodIn_of _ (by decide +kernel)) ggX3_text_X2_become
theorem dX3_text_0 : decode cX3_text 0 = .ok (.aload_n 0, 1) := by decide +kernel
theorem dX3_text_1 : decode cX3_text 1 = .ok (.getfield 26, 3) := by decide +kernel
theorem dX3_text_4 : decode cX3_text 4 = .ok (.invokevirtual 63, 3) := by decide +kernel
theorem dX3_text_7 : decode cX3_text 7 = .ok (.aload_n 0, 1) := by decide +kernel
theorem dX3_text_8 : decode cX3_text 8 = .ok (.getfield 10, 3) := by decide +kernel
theorem dX3_text_11 : decode cX3_text 11 = .ok (.aload_n 0, 1) := by decide +kernel
theorem dX3_text_12 : decode cX3_text 12 = .ok (.getfield 26, 3) := by decide +kernel
theorem dX3_text_15 : decode cX3_text 15 = .ok (.invokevirtual 66, 3) := by decide +kernel
theorem dX3_text_18 : decode cX3_text 18 = .ok (.istore_n 1, 1) := by decide +kernel
theorem dX3_text_19 : decode cX3_text 19 = .ok (.aload_n 0, 1) := by decide +kernel
theorem dX3_text_20 : decode cX3_text 20 = .ok (.getfield 10, 3) := by decide +kernel
theorem dX3_text_23 : decode cX3_text 23 = .ok (.iconst 0, 1) := by decide +kernel
theorem dX3_text_24 : decode cX3_text 24 = .ok (.putfield 59, 3) := by decide +kernel
theorem dX3_text_27 : decode cX3_text 27 = .ok (.aload_n 0, 1) := by decide +kernel
theorem dX3_text_28 : decode cX3_text 28 = .ok (.getfield 10, 3) := by decide +kernel
theorem dX3_text_31 : decode cX3_text 31 = .ok (.getfield 70, 3) := by decide +kernel
theorem dX3_text_34 : decode cX3_text 34 = .ok (.ifCond .eq 14, 3) := by decide +kernel
theorem dX3_text_37 : decode cX3_text 37 = .ok (.bipush (-10), 2) := by decide +kernel
theorem dX3_text_39 : decode cX3_text 39 = .ok (.aload_n 0, 1) := by decide +kernel
theorem dX3_text_40 : decode cX3_text 40 = .ok (.getfield 10, 3) := by decide +kernel
theorem dX3_text_43 : decode cX3_text 43 = .ok (.getfield 73, 3) := by decide +kernel
theorem dX3_text_46 : decode cX3_text 46 = .ok (.isub, 1) := by decide +kernel
theorem dX3_text_47 : decode cX3_text 47 = .ok (.ireturn, 1) := by decide +kernel
theorem dX3_text_48 : decode cX3_text 48 = .ok (.aload_n 0, 1) := by decide +kernel
theorem dX3_text_49 : decode cX3_text 49 = .ok (.getfield 19, 3) := by decide +kernel
theorem dX3_text_52 : decode cX3_text 52 = .ok (.aload_n 0, 1) := by decide +kernel
theorem dX3_text_53 : decode cX3_text 53 = .ok (.getfield 26, 3) := by decide +kernel
theorem dX3_text_56 : decode cX3_text 56 = .ok (.invokevirtual 76, 3) := by decide +kernel
theorem dX3_text_59 : decode cX3_text 59 = .ok (.iconst 0, 1) := by decide +kernel
theorem dX3_text_60 : decode cX3_text 60 = .ok (.istore_n 2, 1) := by decide +kernel
theorem dX3_text_61 : decode cX3_text 61 = .ok (.iload_n 2, 1) := by decide +kernel
theorem dX3_text_62 : decode cX3_text 62 = .ok (.iconst 2, 1) := by decide +kernel
theorem dX3_text_63 : decode cX3_text 63 = .ok (.if_icmp .ge 16, 3) := by decide +kernel
theorem dX3_text_66 : decode cX3_text 66 = .ok (.aload_n 0, 1) := by decide +kernel
theorem dX3_text_67 : decode cX3_text 67 = .ok (.getfield 33, 3) := by decide +kernel
theorem dX3_text_70 : decode cX3_text 70 = .ok (.iload_n 2, 1) := by decide +kernel
theorem dX3_text_71 : decode cX3_text 71 = .ok (.iconst 0, 1) := by decide +kernel
theorem dX3_text_72 : decode cX3_text 72 = .ok (.bastore, 1) := by decide +kernel
theorem dX3_text_73 : decode cX3_text 73 = .ok (.iinc 2 1, 3) := by decide +kernel
theorem dX3_text_76 : decode cX3_text 76 = .ok (.goto (-15), 3) := by decide +kernel
theorem dX3_text_79 : decode cX3_text 79 = .ok (.iload_n 1, 1) := by decide +kernel
theorem dX3_text_80 : decode cX3_text 80 = .ok (.ireturn, 1) := by decide +kernel
theorem dX3_fault_0 : decode cX3_fault 0 = .ok (.aload_n 0, 1) := by decide +kernel
theorem dX3_fault_1 : decode cX3_fault 1 = .ok (.getfield 10, 3) := by decide +kernel
theorem dX3_fault_4 : decode cX3_fault 4 = .ok (.getfield 70, 3) := by decide +kernel
theorem dX3_fault_7 : decode cX3_fault 7 = .ok (.ireturn, 1) := by decide +kernel
set_option maxRecDepth 20000 in
theorem ggX3_rule_X2_holderOrNone : GoodIn wsX3_rule wsX2_holderOrNone := goodIn_r _ [10, 11, 12, 36, 37, 38, 39, 40, 41, 42, 43, 44, 45, 46, 47, 48] (by decide +kernel) (by decide +kernel)
set_option maxRecDepth 20000 in
theorem gX3_rule_X2_holderOrNone : GoodIn wsX3_rule (wsV RX3 89 RX2 yX2_holderOrNone wsX2_holderOrNone) := goodIn_app (goodIn_of _ (by decide +kernel)) ggX3_rule_X2_holderOrNone
set_option maxRecDepth 20000 in
theorem ggX3_rule_X2_meansOfAll : GoodIn wsX3_rule wsX2_meansOfAll := goodIn_r _ [16, 11, 17, 36, 37, 38, 39, 40, 41, 42, 43, 44, 45, 46, 47, 48] (by decide +kernel) (by decide +kernel)
set_option maxRecDepth 20000 in
theorem gX3_rule_X2_meansOfAll : GoodIn wsX3_rule (wsV RX3 93 RX2 yX2_meansOfAll wsX2_meansOfAll) := goodIn_app (goodIn_of _ (by decide +kernel)) ggX3_rule_X2_meansOfAll
set_option maxRecDepth 20000 in
theorem ggX3_rule_X2_ruinedBits : GoodIn wsX3_rule wsX2_ruinedBits := goodIn_r _ [21, 11, 22, 23, 24, 9, 25, 17, 36, 37, 38, 39, 40, 41, 42, 43, 44, 45, 46, 47, 48] (by decide +kernel) (by decide +kernel)
set_option maxRecDepth 20000 in
theorem gX3_rule_X2_ruinedBits : GoodIn wsX3_rule (wsV RX3 96 RX2 yX2_ruinedBits wsX2_ruinedBits) := goodIn_app (goodIn_of _ (by decide +kernel)) ggX3_rule_X2_ruinedBits
theorem dX3_rule_0 : decode cX3_rule 0 = .ok (.iload_n 1, 1) := by decide +kernel
theorem dX3_rule_1 : decode cX3_rule 1 = .ok (.tableswitch 99 0 6 #[43, 51, 59, 67, 75, 83, 91], 43) := by decide +kernel
theorem dX3_rule_44 : decode cX3_rule 44 = .ok (.aload_n 0, 1) := by decide +kernel
theorem dX3_rule_45 : decode cX3_rule 45 = .ok (.getfield 19, 3) := by decide +kernel
theorem dX3_rule_48 : decode cX3_rule 48 = .ok (.getfield 80, 3) := by decide +kernel
theorem dX3_rule_51 : decode cX3_rule 51 = .ok (.ireturn, 1) := by decide +kernel
theorem dX3_rule_52 : decode cX3_rule 52 = .ok (.aload_n 0, 1) := by decide +kernel
theorem dX3_rule_53 : decode cX3_rule 53 = .ok (.getfield 19, 3) := by decide +kernel
theorem dX3_rule_56 : decode cX3_rule 56 = .ok (.getfield 83, 3) := by decide +kernel
theorem dX3_rule_59 : decode cX3_rule 59 = .ok (.ireturn, 1) := by decide +kernel
theorem dX3_rule_60 : decode cX3_rule 60 = .ok (.aload_n 0, 1) := by decide +kernel
theorem dX3_rule_61 : decode cX3_rule 61 = .ok (.getfield 19, 3) := by decide +kernel
theorem dX3_rule_64 : decode cX3_rule 64 = .ok (.getfield 86, 3) := by decide +kernel
theorem dX3_rule_67 : decode cX3_rule 67 = .ok (.ireturn, 1) := by decide +kernel
theorem dX3_rule_68 : decode cX3_rule 68 = .ok (.aload_n 0, 1) := by decide +kernel
theorem dX3_rule_69 : decode cX3_rule 69 = .ok (.getfield 19, 3) := by decide +kernel
theorem dX3_rule_72 : decode cX3_rule 72 = .ok (.invokevirtual 89, 3) := by decide +kernel
theorem dX3_rule_75 : decode cX3_rule 75 = .ok (.ireturn, 1) := by decide +kernel
theorem dX3_rule_76 : decode cX3_rule 76 = .ok (.aload_n 0, 1) := by decide +kernel
theorem dX3_rule_77 : decode cX3_rule 77 = .ok (.getfield 19, 3) := by decide +kernel
theorem dX3_rule_80 : decode cX3_rule 80 = .ok (.invokevirtual 93, 3) := by decide +kernel
theorem dX3_rule_83 : decode cX3_rule 83 = .ok (.ireturn, 1) := by decide +kernel
theorem dX3_rule_84 : decode cX3_rule 84 = .ok (.aload_n 0, 1) := by decide +kernel
theorem dX3_rule_85 : decode cX3_rule 85 = .ok (.getfield 19, 3) := by decide +kernel
theorem dX3_rule_88 : decode cX3_rule 88 = .ok (.invokevirtual 96, 3) := by decide +kernel
theorem dX3_rule_91 : decode cX3_rule 91 = .ok (.ireturn, 1) := by decide +kernel
theorem dX3_rule_92 : decode cX3_rule 92 = .ok (.aload_n 0, 1) := by decide +kernel
theorem dX3_rule_93 : decode cX3_rule 93 = .ok (.getfield 19, 3) := by decide +kernel
theorem dX3_rule_96 : decode cX3_rule 96 = .ok (.getfield 99, 3) := by decide +kernel
theorem dX3_rule_99 : decode cX3_rule 99 = .ok (.ireturn, 1) := by decide +kernel
theorem dX3_rule_100 : decode cX3_rule 100 = .ok (.iconst (-1), 1) := by decide +kernel
theorem dX3_rule_101 : decode cX3_rule 101 = .ok (.ireturn, 1) := by decide +kernel
set_option maxRecDepth 20000 in
theorem ggX3_one_X2_has : GoodIn wsX3_one wsX2_has := goodIn_r _ [10, 11, 12, 13, 14, 46, 47, 48, 49, 50, 51, 52, 53, 54, 55, 56, 57, 58] (by decide +kernel) (by decide +kernel)
set_option maxRecDepth 20000 in
theorem gX3_one_X2_has : GoodIn wsX3_one (wsV RX3 102 RX2 yX2_has wsX2_has) := goodIn_app (goodIn_of _ (by decide +kernel)) ggX3_one_X2_has
set_option maxRecDepth 20000 in
theorem ggX3_one_X2_bringsTo : GoodIn wsX3_one wsX2_bringsTo := goodIn_r _ [18, 19, 20, 21, 22, 9, 23, 24, 25, 26, 27, 28, 29, 30, 31, 32, 33, 34, 11, 35, 46, 47, 48, 49, 50, 51, 52, 53, 54, 55, 56, 57, 58] (by decide +kernel) (by decide +kernel)
set_option maxRecDepth 20000 in
theorem gX3_one_X2_bringsTo : GoodIn wsX3_one (wsV RX3 117 RX2 yX2_bringsTo wsX2_bringsTo) := goodIn_app (goodIn_of _ (by decide +kernel)) ggX3_one_X2_bringsTo
theorem dX3_one_0 : decode cX3_one 0 = .ok (.aload_n 0, 1) := by decide +kernel
theorem dX3_one_1 : decode cX3_one 1 = .ok (.getfield 19, 3) := by decide +kernel
theorem dX3_one_4 : decode cX3_one 4 = .ok (.iload_n 1, 1) := by decide +kernel
theorem dX3_one_5 : decode cX3_one 5 = .ok (.invokevirtual 102, 3) := by decide +kernel
theorem dX3_one_8 : decode cX3_one 8 = .ok (.ifCond .ne 5, 3) := by decide +kernel
theorem dX3_one_11 : decode cX3_one 11 = .ok (.iconst (-1), 1) := by decide +kernel
theorem dX3_one_12 : decode cX3_one 12 = .ok (.ireturn, 1) := by decide +kernel
theorem dX3_one_13 : decode cX3_one 13 = .ok (.iload_n 2, 1) := by decide +kernel
theorem dX3_one_14 : decode cX3_one 14 = .ok (.tableswitch 83 0 4 #[34, 44, 54, 64, 74], 34) := by decide +kernel
theorem dX3_one_48 : decode cX3_one 48 = .ok (.aload_n 0, 1) := by decide +kernel
theorem dX3_one_49 : decode cX3_one 49 = .ok (.getfield 19, 3) := by decide +kernel
theorem dX3_one_52 : decode cX3_one 52 = .ok (.getfield 105, 3) := by decide +kernel
theorem dX3_one_55 : decode cX3_one 55 = .ok (.iload_n 1, 1) := by decide +kernel
theorem dX3_one_56 : decode cX3_one 56 = .ok (.iaload, 1) := by decide +kernel
theorem dX3_one_57 : decode cX3_one 57 = .ok (.ireturn, 1) := by decide +kernel
theorem dX3_one_58 : decode cX3_one 58 = .ok (.aload_n 0, 1) := by decide +kernel
theorem dX3_one_59 : decode cX3_one 59 = .ok (.getfield 19, 3) := by decide +kernel
theorem dX3_one_62 : decode cX3_one 62 = .ok (.getfield 108, 3) := by decide +kernel
theorem dX3_one_65 : decode cX3_one 65 = .ok (.iload_n 1, 1) := by decide +kernel
theorem dX3_one_66 : decode cX3_one 66 = .ok (.iaload, 1) := by decide +kernel
theorem dX3_one_67 : decode cX3_one 67 = .ok (.ireturn, 1) := by decide +kernel
theorem dX3_one_68 : decode cX3_one 68 = .ok (.aload_n 0, 1) := by decide +kernel
theorem dX3_one_69 : decode cX3_one 69 = .ok (.getfield 19, 3) := by decide +kernel
theorem dX3_one_72 : decode cX3_one 72 = .ok (.getfield 111, 3) := by decide +kernel
theorem dX3_one_75 : decode cX3_one 75 = .ok (.iload_n 1, 1) := by decide +kernel
theorem dX3_one_76 : decode cX3_one 76 = .ok (.iaload, 1) := by decide +kernel
theorem dX3_one_77 : decode cX3_one 77 = .ok (.ireturn, 1) := by decide +kernel
theorem dX3_one_78 : decode cX3_one 78 = .ok (.aload_n 0, 1) := by decide +kernel
theorem dX3_one_79 : decode cX3_one 79 = .ok (.getfield 19, 3) := by decide +kernel
theorem dX3_one_82 : decode cX3_one 82 = .ok (.getfield 114, 3) := by decide +kernel
theorem dX3_one_85 : decode cX3_one 85 = .ok (.iload_n 1, 1) := by decide +kernel
theorem dX3_one_86 : decode cX3_one 86 = .ok (.iaload, 1) := by decide +kernel
theorem dX3_one_87 : decode cX3_one 87 = .ok (.ireturn, 1) := by decide +kernel
theorem dX3_one_88 : decode cX3_one 88 = .ok (.aload_n 0, 1) := by decide +kernel
theorem dX3_one_89 : decode cX3_one 89 = .ok (.getfield 19, 3) := by decide +kernel
theorem dX3_one_92 : decode cX3_one 92 = .ok (.iload_n 1, 1) := by decide +kernel
theorem dX3_one_93 : decode cX3_one 93 = .ok (.invokevirtual 117, 3) := by decide +kernel
theorem dX3_one_96 : decode cX3_one 96 = .ok (.ireturn, 1) := by decide +kernel
theorem dX3_one_97 : decode cX3_one 97 = .ok (.iconst (-1), 1) := by decide +kernel
theorem dX3_one_98 : decode cX3_one 98 = .ok (.ireturn, 1) := by decide +kernel
set_option maxRecDepth 20000 in
theorem ggX3_gift_X3_within : GoodIn wsX3_gift wsX3_within := goodIn_r _ [7] (by decide +kernel) (by decide +kernel)
set_option maxRecDepth 20000 in
theorem gX3_gift_X3_within : GoodIn wsX3_gift (va_wsS RX3 51 yX3_within wsX3_within) := goodIn_app (goodIn_of _ (by decide +kernel)) ggX3_gift_X3_within
theorem dX3_gift_0 : decode cX3_gift 0 = .ok (.iload_n 1, 1) := by decide +kernel
theorem dX3_gift_1 : decode cX3_gift 1 = .ok (.iconst 0, 1) := by decide +kernel
theorem dX3_gift_2 : decode cX3_gift 2 = .ok (.aload_n 0, 1) := by decide +kernel
theorem dX3_gift_3 : decode cX3_gift 3 = .ok (.getfield 19, 3) := by decide +kernel
theorem dX3_gift_6 : decode cX3_gift 6 = .ok (.getfield 99, 3) := by decide +kernel
theorem dX3_gift_9 : decode cX3_gift 9 = .ok (.iconst 1, 1) := by decide +kernel
theorem dX3_gift_10 : decode cX3_gift 10 = .ok (.isub, 1) := by decide +kernel
theorem dX3_gift_11 : decode cX3_gift 11 = .ok (.invokestatic 51, 3) := by decide +kernel
theorem dX3_gift_14 : decode cX3_gift 14 = .ok (.ifCond .eq 12, 3) := by decide +kernel
theorem dX3_gift_17 : decode cX3_gift 17 = .ok (.iload_n 2, 1) := by decide +kernel
theorem dX3_gift_18 : decode cX3_gift 18 = .ok (.iconst 0, 1) := by decide +kernel
theorem dX3_gift_19 : decode cX3_gift 19 = .ok (.iconst 3, 1) := by decide +kernel
theorem dX3_gift_20 : decode cX3_gift 20 = .ok (.invokestatic 51, 3) := by decide +kernel
theorem dX3_gift_23 : decode cX3_gift 23 = .ok (.ifCond .ne 5, 3) := by decide +kernel
theorem dX3_gift_26 : decode cX3_gift 26 = .ok (.iconst (-1), 1) := by decide +kernel
theorem dX3_gift_27 : decode cX3_gift 27 = .ok (.ireturn, 1) := by decide +kernel
theorem dX3_gift_28 : decode cX3_gift 28 = .ok (.aload_n 0, 1) := by decide +kernel
theorem dX3_gift_29 : decode cX3_gift 29 = .ok (.getfield 19, 3) := by decide +kernel
theorem dX3_gift_32 : decode cX3_gift 32 = .ok (.getfield 121, 3) := by decide +kernel
theorem dX3_gift_35 : decode cX3_gift 35 = .ok (.iload_n 1, 1) := by decide +kernel
theorem dX3_gift_36 : decode cX3_gift 36 = .ok (.iconst 4, 1) := by decide +kernel
theorem dX3_gift_37 : decode cX3_gift 37 = .ok (.imul, 1) := by decide +kernel
theorem dX3_gift_38 : decode cX3_gift 38 = .ok (.iload_n 2, 1) := by decide +kernel
theorem dX3_gift_39 : decode cX3_gift 39 = .ok (.iadd, 1) := by decide +kernel
theorem dX3_gift_40 : decode cX3_gift 40 = .ok (.iaload, 1) := by decide +kernel
theorem dX3_gift_41 : decode cX3_gift 41 = .ok (.ireturn, 1) := by decide +kernel
set_option maxRecDepth 20000 in
theorem ggX3_alter_X2_has : GoodIn wsX3_alter wsX2_has := goodIn_r _ [9, 10, 11, 12, 13, 28, 29, 30, 31, 32, 33, 34, 35, 36, 37, 38, 39, 40] (by decide +kernel) (by decide +kernel)
set_option maxRecDepth 20000 in
theorem gX3_alter_X2_has : GoodIn wsX3_alter (wsV RX3 102 RX2 yX2_has wsX2_has) := goodIn_app (goodIn_of _ (by decide +kernel)) ggX3_alter_X2_has
set_option maxRecDepth 20000 in
theorem ggX3_alter_X3_exchange : GoodIn wsX3_alter wsX3_exchange := goodIn_r _ [16, 17, 11, 12, 13] (by decide +kernel) (by decide +kernel)
set_option maxRecDepth 20000 in
theorem gX3_alter_X3_exchange : GoodIn wsX3_alter (va_wsS RX3 124 yX3_exchange wsX3_exchange) := goodIn_app (goodIn_of _ (by decide +kernel)) ggX3_alter_X3_exchange
theorem dX3_alter_0 : decode cX3_alter 0 = .ok (.aload_n 0, 1) := by decide +kernel
theorem dX3_alter_1 : decode cX3_alter 1 = .ok (.getfield 19, 3) := by decide +kernel
theorem dX3_alter_4 : decode cX3_alter 4 = .ok (.iload_n 1, 1) := by decide +kernel
theorem dX3_alter_5 : decode cX3_alter 5 = .ok (.invokevirtual 102, 3) := by decide +kernel
theorem dX3_alter_8 : decode cX3_alter 8 = .ok (.ifCond .ne 5, 3) := by decide +kernel
theorem dX3_alter_11 : decode cX3_alter 11 = .ok (.iconst (-1), 1) := by decide +kernel
theorem dX3_alter_12 : decode cX3_alter 12 = .ok (.ireturn, 1) := by decide +kernel
theorem dX3_alter_13 : decode cX3_alter 13 = .ok (.iload_n 2, 1) := by decide +kernel
theorem dX3_alter_14 : decode cX3_alter 14 = .ok (.tableswitch 71 0 2 #[26, 40, 56], 26) := by decide +kernel
theorem dX3_alter_40 : decode cX3_alter 40 = .ok (.aload_n 0, 1) := by decide +kernel
theorem dX3_alter_41 : decode cX3_alter 41 = .ok (.getfield 19, 3) := by decide +kernel
theorem dX3_alter_44 : decode cX3_alter 44 = .ok (.getfield 105, 3) := by decide +kernel
theorem dX3_alter_47 : decode cX3_alter 47 = .ok (.iload_n 1, 1) := by decide +kernel
theorem dX3_alter_48 : decode cX3_alter 48 = .ok (.iload_n 3, 1) := by decide +kernel
theorem dX3_alter_49 : decode cX3_alter 49 = .ok (.iconst 3, 1) := by decide +kernel
theorem dX3_alter_50 : decode cX3_alter 50 = .ok (.invokestatic 124, 3) := by decide +kernel
theorem dX3_alter_53 : decode cX3_alter 53 = .ok (.ireturn, 1) := by decide +kernel
theorem dX3_alter_54 : decode cX3_alter 54 = .ok (.aload_n 0, 1) := by decide +kernel
theorem dX3_alter_55 : decode cX3_alter 55 = .ok (.getfield 19, 3) := by decide +kernel
theorem dX3_alter_58 : decode cX3_alter 58 = .ok (.getfield 108, 3) := by decide +kernel
theorem dX3_alter_61 : decode cX3_alter 61 = .ok (.iload_n 1, 1) := by decide +kernel
theorem dX3_alter_62 : decode cX3_alter 62 = .ok (.iload_n 3, 1) := by decide +kernel
theorem dX3_alter_63 : decode cX3_alter 63 = .ok (.sipush 999, 3) := by decide +kernel
theorem dX3_alter_66 : decode cX3_alter 66 = .ok (.invokestatic 124, 3) := by decide +kernel
theorem dX3_alter_69 : decode cX3_alter 69 = .ok (.ireturn, 1) := by decide +kernel
theorem dX3_alter_70 : decode cX3_alter 70 = .ok (.aload_n 0, 1) := by decide +kernel
theorem dX3_alter_71 : decode cX3_alter 71 = .ok (.getfield 19, 3) := by decide +kernel
theorem dX3_alter_74 : decode cX3_alter 74 = .ok (.getfield 111, 3) := by decide +kernel
theorem dX3_alter_77 : decode cX3_alter 77 = .ok (.iload_n 1, 1) := by decide +kernel
theorem dX3_alter_78 : decode cX3_alter 78 = .ok (.iload_n 3, 1) := by decide +kernel
theorem dX3_alter_79 : decode cX3_alter 79 = .ok (.bipush 20, 2) := by decide +kernel
theorem dX3_alter_81 : decode cX3_alter 81 = .ok (.invokestatic 124, 3) := by decide +kernel
theorem dX3_alter_84 : decode cX3_alter 84 = .ok (.ireturn, 1) := by decide +kernel
theorem dX3_alter_85 : decode cX3_alter 85 = .ok (.iconst (-1), 1) := by decide +kernel
theorem dX3_alter_86 : decode cX3_alter 86 = .ok (.ireturn, 1) := by decide +kernel
set_option maxRecDepth 20000 in
theorem ggX3_slump_X3_within : GoodIn wsX3_slump wsX3_within := goodIn_r _ [6] (by decide +kernel) (by decide +kernel)
set_option maxRecDepth 20000 in
theorem gX3_slump_X3_within : GoodIn wsX3_slump (va_wsS RX3 51 yX3_within wsX3_within) := goodIn_app (goodIn_of _ (by decide +kernel)) ggX3_slump_X3_within
theorem dX3_slump_0 : decode cX3_slump 0 = .ok (.iload_n 1, 1) := by decide +kernel
theorem dX3_slump_1 : decode cX3_slump 1 = .ok (.iconst 0, 1) := by decide +kernel
theorem dX3_slump_2 : decode cX3_slump 2 = .ok (.bipush 9, 2) := by decide +kernel
theorem dX3_slump_4 : decode cX3_slump 4 = .ok (.invokestatic 51, 3) := by decide +kernel
theorem dX3_slump_7 : decode cX3_slump 7 = .ok (.ifCond .ne 5, 3) := by decide +kernel
theorem dX3_slump_10 : decode cX3_slump 10 = .ok (.iconst (-1), 1) := by decide +kernel
theorem dX3_slump_11 : decode cX3_slump 11 = .ok (.ireturn, 1) := by decide +kernel
theorem dX3_slump_12 : decode cX3_slump 12 = .ok (.aload_n 0, 1) := by decide +kernel
theorem dX3_slump_13 : decode cX3_slump 13 = .ok (.getfield 19, 3) := by decide +kernel
theorem dX3_slump_16 : decode cX3_slump 16 = .ok (.getfield 86, 3) := by decide +kernel
theorem dX3_slump_19 : decode cX3_slump 19 = .ok (.istore_n 2, 1) := by decide +kernel
theorem dX3_slump_20 : decode cX3_slump 20 = .ok (.aload_n 0, 1) := by decide +kernel
theorem dX3_slump_21 : decode cX3_slump 21 = .ok (.getfield 19, 3) := by decide +kernel
theorem dX3_slump_24 : decode cX3_slump 24 = .ok (.iload_n 1, 1) := by decide +kernel
theorem dX3_slump_25 : decode cX3_slump 25 = .ok (.putfield 86, 3) := by decide +kernel
theorem dX3_slump_28 : decode cX3_slump 28 = .ok (.iload_n 2, 1) := by decide +kernel
theorem dX3_slump_29 : decode cX3_slump 29 = .ok (.ireturn, 1) := by decide +kernel
set_option maxRecDepth 20000 in
theorem ggX3_hand_X2_has : GoodIn wsX3_hand wsX2_has := goodIn_r _ [7, 8, 9, 10, 11, 22, 23, 24, 25, 26, 27, 28, 29, 30, 31, 32, 33, 34] (by decide +kernel) (by decide +kernel)
set_option maxRecDepth 20000 in
theorem gX3_hand_X2_has : GoodIn wsX3_hand (wsV RX3 102 RX2 yX2_has wsX2_has) := goodIn_app (goodIn_of _ (by decide +kernel)) ggX3_hand_X2_has
theorem dX3_hand_0 : decode cX3_hand 0 = .ok (.aload_n 0, 1) := by decide +kernel
theorem dX3_hand_1 : decode cX3_hand 1 = .ok (.getfield 19, 3) := by decide +kernel
theorem dX3_hand_4 : decode cX3_hand 4 = .ok (.iload_n 1, 1) := by decide +kernel
theorem dX3_hand_5 : decode cX3_hand 5 = .ok (.invokevirtual 102, 3) := by decide +kernel
theorem dX3_hand_8 : decode cX3_hand 8 = .ok (.ifCond .ne 5, 3) := by decide +kernel
theorem dX3_hand_11 : decode cX3_hand 11 = .ok (.iconst (-1), 1) := by decide +kernel
theorem dX3_hand_12 : decode cX3_hand 12 = .ok (.ireturn, 1) := by decide +kernel
theorem dX3_hand_13 : decode cX3_hand 13 = .ok (.aload_n 0, 1) := by decide +kernel
theorem dX3_hand_14 : decode cX3_hand 14 = .ok (.getfield 19, 3) := by decide +kernel
theorem dX3_hand_17 : decode cX3_hand 17 = .ok (.getfield 128, 3) := by decide +kernel
theorem dX3_hand_20 : decode cX3_hand 20 = .ok (.istore_n 2, 1) := by decide +kernel
theorem dX3_hand_21 : decode cX3_hand 21 = .ok (.aload_n 0, 1) := by decide +kernel
theorem dX3_hand_22 : decode cX3_hand 22 = .ok (.getfield 19, 3) := by decide +kernel
theorem dX3_hand_25 : decode cX3_hand 25 = .ok (.iload_n 1, 1) := by decide +kernel
theorem dX3_hand_26 : decode cX3_hand 26 = .ok (.putfield 128, 3) := by decide +kernel
theorem dX3_hand_29 : decode cX3_hand 29 = .ok (.iload_n 2, 1) := by decide +kernel
theorem dX3_hand_30 : decode cX3_hand 30 = .ok (.ireturn, 1) := by decide +kernel
set_option maxRecDepth 20000 in
theorem ggX3_give_X2_has : GoodIn wsX3_give wsX2_has := goodIn_r _ [7, 8, 9, 10, 11, 29, 30, 31, 32, 33, 34, 35, 36, 37, 38, 39, 40, 41] (by decide +kernel) (by decide +kernel)
set_option maxRecDepth 20000 in
theorem gX3_give_X2_has : GoodIn wsX3_give (wsV RX3 102 RX2 yX2_has wsX2_has) := goodIn_app (goodIn_of _ (by decide +kernel)) ggX3_give_X2_has
set_option maxRecDepth 20000 in
theorem ggX3_give_X3_within : GoodIn wsX3_give wsX3_within := goodIn_r _ [11] (by decide +kernel) (by decide +kernel)
set_option maxRecDepth 20000 in
theorem gX3_give_X3_within : GoodIn wsX3_give (va_wsS RX3 51 yX3_within wsX3_within) := goodIn_app (goodIn_of _ (by decide +kernel)) ggX3_give_X3_within
set_option maxRecDepth 20000 in
theorem ggX3_give_X2_addGift : GoodIn wsX3_give wsX2_addGift := goodIn_r _ [16, 17, 18, 29, 30, 31, 32, 33, 34, 35, 36, 37, 38, 39, 40, 41] (by decide +kernel) (by decide +kernel)
set_option maxRecDepth 20000 in
theorem gX3_give_X2_addGift : GoodIn wsX3_give (wsV RX3 131 RX2 yX2_addGift wsX2_addGift) := goodIn_app (goodIn_of _ (by decide +kernel)) ggX3_give_X2_addGift
theorem dX3_give_0 : decode cX3_give 0 = .ok (.aload_n 0, 1) := by decide +kernel
theorem dX3_give_1 : decode cX3_give 1 = .ok (.getfield 19, 3) := by decide +kernel
theorem dX3_give_4 : decode cX3_give 4 = .ok (.iload_n 2, 1) := by decide +kernel
theorem dX3_give_5 : decode cX3_give 5 = .ok (.invokevirtual 102, 3) := by decide +kernel
theorem dX3_give_8 : decode cX3_give 8 = .ok (.ifCond .eq 23, 3) := by decide +kernel
theorem dX3_give_11 : decode cX3_give 11 = .ok (.aload_n 0, 1) := by decide +kernel
theorem dX3_give_12 : decode cX3_give 12 = .ok (.getfield 19, 3) := by decide +kernel
theorem dX3_give_15 : decode cX3_give 15 = .ok (.iload_n 3, 1) := by decide +kernel
theorem dX3_give_16 : decode cX3_give 16 = .ok (.invokevirtual 102, 3) := by decide +kernel
theorem dX3_give_19 : decode cX3_give 19 = .ok (.ifCond .eq 12, 3) := by decide +kernel
theorem dX3_give_22 : decode cX3_give 22 = .ok (.iload_n 2, 1) := by decide +kernel
theorem dX3_give_23 : decode cX3_give 23 = .ok (.iload_n 3, 1) := by decide +kernel
theorem dX3_give_24 : decode cX3_give 24 = .ok (.if_icmp .eq 7, 3) := by decide +kernel
theorem dX3_give_27 : decode cX3_give 27 = .ok (.iconst 1, 1) := by decide +kernel
theorem dX3_give_28 : decode cX3_give 28 = .ok (.goto 4, 3) := by decide +kernel
theorem dX3_give_31 : decode cX3_give 31 = .ok (.iconst 0, 1) := by decide +kernel
theorem dX3_give_32 : decode cX3_give 32 = .ok (.istore 5, 2) := by decide +kernel
theorem dX3_give_34 : decode cX3_give 34 = .ok (.iload_n 1, 1) := by decide +kernel
theorem dX3_give_35 : decode cX3_give 35 = .ok (.iconst 0, 1) := by decide +kernel
theorem dX3_give_36 : decode cX3_give 36 = .ok (.bipush 20, 2) := by decide +kernel
theorem dX3_give_38 : decode cX3_give 38 = .ok (.invokestatic 51, 3) := by decide +kernel
theorem dX3_give_41 : decode cX3_give 41 = .ok (.ifCond .eq 19, 3) := by decide +kernel
theorem dX3_give_44 : decode cX3_give 44 = .ok (.iload 5, 2) := by decide +kernel
theorem dX3_give_46 : decode cX3_give 46 = .ok (.ifCond .eq 14, 3) := by decide +kernel
theorem dX3_give_49 : decode cX3_give 49 = .ok (.iload 4, 2) := by decide +kernel
theorem dX3_give_51 : decode cX3_give 51 = .ok (.iconst 1, 1) := by decide +kernel
theorem dX3_give_52 : decode cX3_give 52 = .ok (.bipush 20, 2) := by decide +kernel
theorem dX3_give_54 : decode cX3_give 54 = .ok (.invokestatic 51, 3) := by decide +kernel
theorem dX3_give_57 : decode cX3_give 57 = .ok (.ifCond .ne 5, 3) := by decide +kernel
theorem dX3_give_60 : decode cX3_give 60 = .ok (.iconst (-1), 1) := by decide +kernel
theorem dX3_give_61 : decode cX3_give 61 = .ok (.ireturn, 1) := by decide +kernel
theorem dX3_give_62 : decode cX3_give 62 = .ok (.aload_n 0, 1) := by decide +kernel
theorem dX3_give_63 : decode cX3_give 63 = .ok (.getfield 19, 3) := by decide +kernel
theorem dX3_give_66 : decode cX3_give 66 = .ok (.iload_n 1, 1) := by decide +kernel
theorem dX3_give_67 : decode cX3_give 67 = .ok (.iload_n 2, 1) := by decide +kernel
theorem dX3_give_68 : decode cX3_give 68 = .ok (.iload_n 3, 1) := by decide +kernel
theorem dX3_give_69 : decode cX3_give 69 = .ok (.iload 4, 2) := by decide +kernel
theorem dX3_give_71 : decode cX3_give 71 = .ok (.invokevirtual 131, 3) := by decide +kernel
theorem dX3_give_74 : decode cX3_give 74 = .ok (.ifCond .eq 13, 3) := by decide +kernel
theorem dX3_give_77 : decode cX3_give 77 = .ok (.aload_n 0, 1) := by decide +kernel
theorem dX3_give_78 : decode cX3_give 78 = .ok (.getfield 19, 3) := by decide +kernel
theorem dX3_give_81 : decode cX3_give 81 = .ok (.getfield 99, 3) := by decide +kernel
theorem dX3_give_84 : decode cX3_give 84 = .ok (.goto 5, 3) := by decide +kernel
theorem dX3_give_87 : decode cX3_give 87 = .ok (.bipush (-3), 2) := by decide +kernel
theorem dX3_give_89 : decode cX3_give 89 = .ok (.ireturn, 1) := by decide +kernel
set_option maxRecDepth 20000 in
theorem ggX3_drop_X3_within : GoodIn wsX3_drop wsX3_within := goodIn_r _ [6] (by decide +kernel) (by decide +kernel)
set_option maxRecDepth 20000 in
theorem gX3_drop_X3_within : GoodIn wsX3_drop (va_wsS RX3 51 yX3_within wsX3_within) := goodIn_app (goodIn_of _ (by decide +kernel)) ggX3_drop_X3_within
theorem dX3_drop_0 : decode cX3_drop 0 = .ok (.iload_n 1, 1) := by decide +kernel
theorem dX3_drop_1 : decode cX3_drop 1 = .ok (.iconst 0, 1) := by decide +kernel
theorem dX3_drop_2 : decode cX3_drop 2 = .ok (.aload_n 0, 1) := by decide +kernel
theorem dX3_drop_3 : decode cX3_drop 3 = .ok (.getfield 19, 3) := by decide +kernel
theorem dX3_drop_6 : decode cX3_drop 6 = .ok (.getfield 99, 3) := by decide +kernel
theorem dX3_drop_9 : decode cX3_drop 9 = .ok (.invokestatic 51, 3) := by decide +kernel
theorem dX3_drop_12 : decode cX3_drop 12 = .ok (.ifCond .ne 5, 3) := by decide +kernel
theorem dX3_drop_15 : decode cX3_drop 15 = .ok (.iconst (-1), 1) := by decide +kernel
theorem dX3_drop_16 : decode cX3_drop 16 = .ok (.ireturn, 1) := by decide +kernel
theorem dX3_drop_17 : decode cX3_drop 17 = .ok (.aload_n 0, 1) := by decide +kernel
theorem dX3_drop_18 : decode cX3_drop 18 = .ok (.getfield 19, 3) := by decide +kernel
theorem dX3_drop_21 : decode cX3_drop 21 = .ok (.getfield 99, 3) := by decide +kernel
theorem dX3_drop_24 : decode cX3_drop 24 = .ok (.istore_n 2, 1) := by decide +kernel
theorem dX3_drop_25 : decode cX3_drop 25 = .ok (.aload_n 0, 1) := by decide +kernel
theorem dX3_drop_26 : decode cX3_drop 26 = .ok (.getfield 19, 3) := by decide +kernel
theorem dX3_drop_29 : decode cX3_drop 29 = .ok (.iload_n 1, 1) := by decide +kernel
theorem dX3_drop_30 : decode cX3_drop 30 = .ok (.putfield 99, 3) := by decide +kernel
theorem dX3_drop_33 : decode cX3_drop 33 = .ok (.iload_n 2, 1) := by decide +kernel
theorem dX3_drop_34 : decode cX3_drop 34 = .ok (.ireturn, 1) := by decide +kernel
set_option maxRecDepth 20000 in
theorem ggX3_quarters_X3_within : GoodIn wsX3_quarters wsX3_within := goodIn_r _ [6] (by decide +kernel) (by decide +kernel)
set_option maxRecDepth 20000 in
theorem gX3_quarters_X3_within : GoodIn wsX3_quarters (va_wsS RX3 51 yX3_within wsX3_within) := goodIn_app (goodIn_of _ (by decide +kernel)) ggX3_quarters_X3_within
set_option maxRecDepth 20000 in
theorem ggX3_quarters_X2_pass : GoodIn wsX3_quarters wsX2_pass := goodIn_r _ [11, 12, 13, 14, 10, 15, 16, 17, 18, 19, 20, 21, 22, 23, 24, 25, 26, 27, 28, 29, 30, 31, 5, 32, 33, 34, 35, 36, 37, 38, 39, 40, 41, 42, 43, 44, 45, 46, 47, 48, 49, 50, 51, 52, 53, 54, 55, 56, 57, 58, 59, 60, 61, 62, 63, 78, 79, 80, 81, 82, 83, 84, 85, 86, 87, 88, 89, 90] (by decide +kernel) (by decide +kernel)
set_option maxRecDepth 20000 in
theorem gX3_quarters_X2_pass : GoodIn wsX3_quarters (wsV RX3 135 RX2 yX2_pass wsX2_pass) := goodIn_app (goodIn_of _ (by decide +kernel)) ggX3_quarters_X2_pass
set_option maxRecDepth 20000 in
theorem ggX3_quarters_X2_holderOrNone : GoodIn wsX3_quarters wsX2_holderOrNone := goodIn_r _ [67, 16, 17, 78, 79, 80, 81, 82, 83, 84, 85, 86, 87, 88, 89, 90] (by decide +kernel) (by decide +kernel)
set_option maxRecDepth 20000 in
theorem gX3_quarters_X2_holderOrNone : GoodIn wsX3_quarters (wsV RX3 89 RX2 yX2_holderOrNone wsX2_holderOrNone) := goodIn_app (goodIn_of _ (by decide +kernel)) ggX3_quarters_X2_holderOrNone
theorem dX3_quarters_0 : decode cX3_quarters 0 = .ok (.iload_n 1, 1) := by decide +kernel
theorem dX3_quarters_1 : decode cX3_quarters 1 = .ok (.iconst 0, 1) := by decide +kernel
theorem dX3_quarters_2 : decode cX3_quarters 2 = .ok (.bipush 30, 2) := by decide +kernel
theorem dX3_quarters_4 : decode cX3_quarters 4 = .ok (.invokestatic 51, 3) := by decide +kernel
theorem dX3_quarters_7 : decode cX3_quarters 7 = .ok (.ifCond .ne 5, 3) := by decide +kernel
theorem dX3_quarters_10 : decode cX3_quarters 10 = .ok (.iconst (-1), 1) := by decide +kernel
theorem dX3_quarters_11 : decode cX3_quarters 11 = .ok (.ireturn, 1) := by decide +kernel
theorem dX3_quarters_12 : decode cX3_quarters 12 = .ok (.aload_n 0, 1) := by decide +kernel
theorem dX3_quarters_13 : decode cX3_quarters 13 = .ok (.getfield 19, 3) := by decide +kernel
theorem dX3_quarters_16 : decode cX3_quarters 16 = .ok (.getfield 83, 3) := by decide +kernel
theorem dX3_quarters_19 : decode cX3_quarters 19 = .ok (.iload_n 1, 1) := by decide +kernel
theorem dX3_quarters_20 : decode cX3_quarters 20 = .ok (.iadd, 1) := by decide +kernel
theorem dX3_quarters_21 : decode cX3_quarters 21 = .ok (.sipush 999, 3) := by decide +kernel
theorem dX3_quarters_24 : decode cX3_quarters 24 = .ok (.if_icmp .le 6, 3) := by decide +kernel
theorem dX3_quarters_27 : decode cX3_quarters 27 = .ok (.bipush (-3), 2) := by decide +kernel
theorem dX3_quarters_29 : decode cX3_quarters 29 = .ok (.ireturn, 1) := by decide +kernel
theorem dX3_quarters_30 : decode cX3_quarters 30 = .ok (.aload_n 0, 1) := by decide +kernel
theorem dX3_quarters_31 : decode cX3_quarters 31 = .ok (.getfield 19, 3) := by decide +kernel
theorem dX3_quarters_34 : decode cX3_quarters 34 = .ok (.iload_n 1, 1) := by decide +kernel
theorem dX3_quarters_35 : decode cX3_quarters 35 = .ok (.invokevirtual 135, 3) := by decide +kernel
theorem dX3_quarters_38 : decode cX3_quarters 38 = .ok (.aload_n 0, 1) := by decide +kernel
theorem dX3_quarters_39 : decode cX3_quarters 39 = .ok (.getfield 19, 3) := by decide +kernel
theorem dX3_quarters_42 : decode cX3_quarters 42 = .ok (.invokevirtual 89, 3) := by decide +kernel
theorem dX3_quarters_45 : decode cX3_quarters 45 = .ok (.ireturn, 1) := by decide +kernel
set_option maxRecDepth 20000 in
theorem ggX3_runs_X3_within : GoodIn wsX3_runs wsX3_within := goodIn_r _ [6] (by decide +kernel) (by decide +kernel)
set_option maxRecDepth 20000 in
theorem gX3_runs_X3_within : GoodIn wsX3_runs (va_wsS RX3 51 yX3_within wsX3_within) := goodIn_app (goodIn_of _ (by decide +kernel)) ggX3_runs_X3_within
set_option maxRecDepth 20000 in
theorem ggX3_runs_X2_become : GoodIn wsX3_runs wsX2_become := goodIn_r _ [11, 12, 13, 14, 15, 16, 17, 18, 19, 20, 21, 22, 23, 24, 25, 26, 27, 28, 93, 94, 95, 96, 97, 98, 99, 100, 101, 102, 103, 104, 105] (by decide +kernel) (by decide +kernel)
set_option maxRecDepth 20000 in
theorem gX3_runs_X2_become : GoodIn wsX3_runs (wsV RX3 76 RX2 yX2_become wsX2_become) := goodIn_app (goodIn_of _ (by decide +kernel)) ggX3_runs_X2_become
set_option maxRecDepth 20000 in
theorem ggX3_runs_X2_step : GoodIn wsX3_runs wsX2_step := goodIn_r _ [32, 12, 15, 25, 13, 33, 34, 35, 10, 36, 16, 26, 23, 37, 38, 39, 40, 41, 5, 42, 43, 44, 45, 46, 18, 47, 48, 49, 50, 51, 52, 53, 54, 55, 56, 57, 58, 24, 14, 59, 60, 61, 62, 63, 64, 65, 66, 67, 68, 69, 70, 93, 94, 95, 96, 97, 98, 99, 100, 101, 102, 103, 104, 105] (by decide +kernel) (by decide +kernel)
set_option maxRecDepth 20000 in
theorem gX3_runs_X2_step : GoodIn wsX3_runs (wsV RX3 139 RX2 yX2_step wsX2_step) := goodIn_app (goodIn_of _ (by decide +kernel)) ggX3_runs_X2_step
set_option maxRecDepth 20000 in
theorem ggX3_runs_X2_ruinedBits : GoodIn wsX3_runs wsX2_ruinedBits := goodIn_r _ [74, 12, 63, 64, 65, 10, 66, 23, 93, 94, 95, 96, 97, 98, 99, 100, 101, 102, 103, 104, 105] (by decide +kernel) (by decide +kernel)
set_option maxRecDepth 20000 in
theorem gX3_runs_X2_ruinedBits : GoodIn wsX3_runs (wsV RX3 96 RX2 yX2_ruinedBits wsX2_ruinedBits) := goodIn_app (goodIn_of _ (by decide +kernel)) ggX3_runs_X2_ruinedBits
set_option maxRecDepth 20000 in
theorem ggX3_runs_X2_meansOfAll : GoodIn wsX3_runs wsX2_meansOfAll := goodIn_r _ [78, 12, 23, 93, 94, 95, 96, 97, 98, 99, 100, 101, 102, 103, 104, 105] (by decide +kernel) (by decide +kernel)
set_option maxRecDepth 20000 in
theorem gX3_runs_X2_meansOfAll : GoodIn wsX3_runs (wsV RX3 93 RX2 yX2_meansOfAll wsX2_meansOfAll) := goodIn_app (goodIn_of _ (by decide +kernel)) ggX3_runs_X2_meansOfAll
set_option maxRecDepth 20000 in
theorem ggX3_runs_X2_holderOrNone : GoodIn wsX3_runs wsX2_holderOrNone := goodIn_r _ [82, 12, 15, 93, 94, 95, 96, 97, 98, 99, 100, 101, 102, 103, 104, 105] (by decide +kernel) (by decide +kernel)
set_option maxRecDepth 20000 in
theorem gX3_runs_X2_holderOrNone : GoodIn wsX3_runs (wsV RX3 89 RX2 yX2_holderOrNone wsX2_holderOrNone) := goodIn_app (goodIn_of _ (by decide +kernel)) ggX3_runs_X2_holderOrNone
theorem dX3_runs_0 : decode cX3_runs 0 = .ok (.iload_n 1, 1) := by decide +kernel
theorem dX3_runs_1 : decode cX3_runs 1 = .ok (.iconst 0, 1) := by decide +kernel
theorem dX3_runs_2 : decode cX3_runs 2 = .ok (.bipush 60, 2) := by decide +kernel
theorem dX3_runs_4 : decode cX3_runs 4 = .ok (.invokestatic 51, 3) := by decide +kernel
theorem dX3_runs_7 : decode cX3_runs 7 = .ok (.ifCond .eq 12, 3) := by decide +kernel
theorem dX3_runs_10 : decode cX3_runs 10 = .ok (.iload_n 2, 1) := by decide +kernel
theorem dX3_runs_11 : decode cX3_runs 11 = .ok (.iconst 0, 1) := by decide +kernel
theorem dX3_runs_12 : decode cX3_runs 12 = .ok (.iconst 4, 1) := by decide +kernel
theorem dX3_runs_13 : decode cX3_runs 13 = .ok (.invokestatic 51, 3) := by decide +kernel
theorem dX3_runs_16 : decode cX3_runs 16 = .ok (.ifCond .ne 5, 3) := by decide +kernel
theorem dX3_runs_19 : decode cX3_runs 19 = .ok (.iconst (-1), 1) := by decide +kernel
theorem dX3_runs_20 : decode cX3_runs 20 = .ok (.ireturn, 1) := by decide +kernel
theorem dX3_runs_21 : decode cX3_runs 21 = .ok (.aload_n 0, 1) := by decide +kernel
theorem dX3_runs_22 : decode cX3_runs 22 = .ok (.getfield 23, 3) := by decide +kernel
theorem dX3_runs_25 : decode cX3_runs 25 = .ok (.aload_n 0, 1) := by decide +kernel
theorem dX3_runs_26 : decode cX3_runs 26 = .ok (.getfield 19, 3) := by decide +kernel
theorem dX3_runs_29 : decode cX3_runs 29 = .ok (.invokevirtual 76, 3) := by decide +kernel
theorem dX3_runs_32 : decode cX3_runs 32 = .ok (.iconst 0, 1) := by decide +kernel
theorem dX3_runs_33 : decode cX3_runs 33 = .ok (.istore_n 3, 1) := by decide +kernel
theorem dX3_runs_34 : decode cX3_runs 34 = .ok (.bipush (-4), 2) := by decide +kernel
theorem dX3_runs_36 : decode cX3_runs 36 = .ok (.istore 4, 2) := by decide +kernel
theorem dX3_runs_38 : decode cX3_runs 38 = .ok (.iconst 1, 1) := by decide +kernel
theorem dX3_runs_39 : decode cX3_runs 39 = .ok (.istore 5, 2) := by decide +kernel
theorem dX3_runs_41 : decode cX3_runs 41 = .ok (.iload 5, 2) := by decide +kernel
theorem dX3_runs_43 : decode cX3_runs 43 = .ok (.iload_n 1, 1) := by decide +kernel
theorem dX3_runs_44 : decode cX3_runs 44 = .ok (.if_icmp .gt 43, 3) := by decide +kernel
theorem dX3_runs_47 : decode cX3_runs 47 = .ok (.aload_n 0, 1) := by decide +kernel
theorem dX3_runs_48 : decode cX3_runs 48 = .ok (.getfield 23, 3) := by decide +kernel
theorem dX3_runs_51 : decode cX3_runs 51 = .ok (.invokevirtual 139, 3) := by decide +kernel
theorem dX3_runs_54 : decode cX3_runs 54 = .ok (.ifCond .eq 6, 3) := by decide +kernel
theorem dX3_runs_57 : decode cX3_runs 57 = .ok (.iinc 3 1, 3) := by decide +kernel
theorem dX3_runs_60 : decode cX3_runs 60 = .ok (.iload 4, 2) := by decide +kernel
theorem dX3_runs_62 : decode cX3_runs 62 = .ok (.bipush (-4), 2) := by decide +kernel
theorem dX3_runs_64 : decode cX3_runs 64 = .ok (.if_icmp .ne 17, 3) := by decide +kernel
theorem dX3_runs_67 : decode cX3_runs 67 = .ok (.aload_n 0, 1) := by decide +kernel
theorem dX3_runs_68 : decode cX3_runs 68 = .ok (.getfield 23, 3) := by decide +kernel
theorem dX3_runs_71 : decode cX3_runs 71 = .ok (.invokevirtual 96, 3) := by decide +kernel
theorem dX3_runs_74 : decode cX3_runs 74 = .ok (.ifCond .eq 7, 3) := by decide +kernel
theorem dX3_runs_77 : decode cX3_runs 77 = .ok (.iload 5, 2) := by decide +kernel
theorem dX3_runs_79 : decode cX3_runs 79 = .ok (.istore 4, 2) := by decide +kernel
theorem dX3_runs_81 : decode cX3_runs 81 = .ok (.iinc 5 1, 3) := by decide +kernel
theorem dX3_runs_84 : decode cX3_runs 84 = .ok (.goto (-43), 3) := by decide +kernel
theorem dX3_runs_87 : decode cX3_runs 87 = .ok (.iload_n 2, 1) := by decide +kernel
theorem dX3_runs_88 : decode cX3_runs 88 = .ok (.tableswitch 53 0 3 #[32, 40, 48, 50], 32) := by decide +kernel
theorem dX3_runs_120 : decode cX3_runs 120 = .ok (.aload_n 0, 1) := by decide +kernel
theorem dX3_runs_121 : decode cX3_runs 121 = .ok (.getfield 23, 3) := by decide +kernel
theorem dX3_runs_124 : decode cX3_runs 124 = .ok (.invokevirtual 93, 3) := by decide +kernel
theorem dX3_runs_127 : decode cX3_runs 127 = .ok (.ireturn, 1) := by decide +kernel
theorem dX3_runs_128 : decode cX3_runs 128 = .ok (.aload_n 0, 1) := by decide +kernel
theorem dX3_runs_129 : decode cX3_runs 129 = .ok (.getfield 23, 3) := by decide +kernel
theorem dX3_runs_132 : decode cX3_runs 132 = .ok (.invokevirtual 96, 3) := by decide +kernel
theorem dX3_runs_135 : decode cX3_runs 135 = .ok (.ireturn, 1) := by decide +kernel
theorem dX3_runs_136 : decode cX3_runs 136 = .ok (.iload_n 3, 1) := by decide +kernel
theorem dX3_runs_137 : decode cX3_runs 137 = .ok (.ireturn, 1) := by decide +kernel
theorem dX3_runs_138 : decode cX3_runs 138 = .ok (.iload 4, 2) := by decide +kernel
theorem dX3_runs_140 : decode cX3_runs 140 = .ok (.ireturn, 1) := by decide +kernel
theorem dX3_runs_141 : decode cX3_runs 141 = .ok (.aload_n 0, 1) := by decide +kernel
theorem dX3_runs_142 : decode cX3_runs 142 = .ok (.getfield 23, 3) := by decide +kernel
theorem dX3_runs_145 : decode cX3_runs 145 = .ok (.invokevirtual 89, 3) := by decide +kernel
theorem dX3_runs_148 : decode cX3_runs 148 = .ok (.ireturn, 1) := by decide +kernel
set_option maxRecDepth 20000 in
theorem ggX3_ahead_X2_has : GoodIn wsX3_ahead wsX2_has := goodIn_r _ [8, 9, 10, 11, 12, 87, 88, 89, 90, 91, 92, 93, 94, 95, 96, 97, 98, 99] (by decide +kernel) (by decide +kernel)
set_option maxRecDepth 20000 in
theorem gX3_ahead_X2_has : GoodIn wsX3_ahead (wsV RX3 102 RX2 yX2_has wsX2_has) := goodIn_app (goodIn_of _ (by decide +kernel)) ggX3_ahead_X2_has
set_option maxRecDepth 20000 in
theorem ggX3_ahead_X3_within : GoodIn wsX3_ahead wsX3_within := goodIn_r _ [12] (by decide +kernel) (by decide +kernel)
set_option maxRecDepth 20000 in
theorem gX3_ahead_X3_within : GoodIn wsX3_ahead (va_wsS RX3 51 yX3_within wsX3_within) := goodIn_app (goodIn_of _ (by decide +kernel)) ggX3_ahead_X3_within
set_option maxRecDepth 20000 in
theorem ggX3_ahead_X2_become : GoodIn wsX3_ahead wsX2_become := goodIn_r _ [17, 9, 18, 19, 20, 21, 22, 23, 24, 25, 26, 27, 28, 29, 30, 31, 32, 33, 87, 88, 89, 90, 91, 92, 93, 94, 95, 96, 97, 98, 99] (by decide +kernel) (by decide +kernel)
set_option maxRecDepth 20000 in
theorem gX3_ahead_X2_become : GoodIn wsX3_ahead (wsV RX3 76 RX2 yX2_become wsX2_become) := goodIn_app (goodIn_of _ (by decide +kernel)) ggX3_ahead_X2_become
set_option maxRecDepth 20000 in
theorem ggX3_ahead_X2_step : GoodIn wsX3_ahead wsX2_step := goodIn_r _ [37, 9, 20, 30, 18, 38, 39, 40, 7, 41, 21, 31, 28, 42, 43, 44, 45, 46, 11, 47, 48, 49, 50, 51, 23, 52, 53, 54, 55, 56, 57, 58, 59, 60, 61, 62, 63, 29, 19, 64, 65, 66, 67, 68, 69, 70, 71, 72, 73, 74, 75, 87, 88, 89, 90, 91, 92, 93, 94, 95, 96, 97, 98, 99] (by decide +kernel) (by decide +kernel)
set_option maxRecDepth 20000 in
theorem gX3_ahead_X2_step : GoodIn wsX3_ahead (wsV RX3 139 RX2 yX2_step wsX2_step) := goodIn_app (goodIn_of _ (by decide +kernel)) ggX3_ahead_X2_step
set_option maxRecDepth 20000 in
theorem ggX3_ahead_X2_isRuined : GoodIn wsX3_ahead wsX2_isRuined := goodIn_r _ [71, 28, 87, 88, 89, 90, 91, 92, 93, 94, 95, 96, 97, 98, 99] (by decide +kernel) (by decide +kernel)
set_option maxRecDepth 20000 in
theorem gX3_ahead_X2_isRuined : GoodIn wsX3_ahead (wsV RX3 143 RX2 yX2_isRuined wsX2_isRuined) := goodIn_app (goodIn_of _ (by decide +kernel)) ggX3_ahead_X2_isRuined
theorem dX3_ahead_0 : decode cX3_ahead 0 = .ok (.aload_n 0, 1) := by decide +kernel
theorem dX3_ahead_1 : decode cX3_ahead 1 = .ok (.getfield 19, 3) := by decide +kernel
theorem dX3_ahead_4 : decode cX3_ahead 4 = .ok (.iload_n 1, 1) := by decide +kernel
theorem dX3_ahead_5 : decode cX3_ahead 5 = .ok (.invokevirtual 102, 3) := by decide +kernel
theorem dX3_ahead_8 : decode cX3_ahead 8 = .ok (.ifCond .eq 22, 3) := by decide +kernel
theorem dX3_ahead_11 : decode cX3_ahead 11 = .ok (.iload_n 2, 1) := by decide +kernel
theorem dX3_ahead_12 : decode cX3_ahead 12 = .ok (.iconst 0, 1) := by decide +kernel
theorem dX3_ahead_13 : decode cX3_ahead 13 = .ok (.bipush 60, 2) := by decide +kernel
theorem dX3_ahead_15 : decode cX3_ahead 15 = .ok (.invokestatic 51, 3) := by decide +kernel
theorem dX3_ahead_18 : decode cX3_ahead 18 = .ok (.ifCond .eq 12, 3) := by decide +kernel
theorem dX3_ahead_21 : decode cX3_ahead 21 = .ok (.iload_n 3, 1) := by decide +kernel
theorem dX3_ahead_22 : decode cX3_ahead 22 = .ok (.iconst 0, 1) := by decide +kernel
theorem dX3_ahead_23 : decode cX3_ahead 23 = .ok (.iconst 1, 1) := by decide +kernel
theorem dX3_ahead_24 : decode cX3_ahead 24 = .ok (.invokestatic 51, 3) := by decide +kernel
theorem dX3_ahead_27 : decode cX3_ahead 27 = .ok (.ifCond .ne 5, 3) := by decide +kernel
theorem dX3_ahead_30 : decode cX3_ahead 30 = .ok (.iconst (-1), 1) := by decide +kernel
theorem dX3_ahead_31 : decode cX3_ahead 31 = .ok (.ireturn, 1) := by decide +kernel
theorem dX3_ahead_32 : decode cX3_ahead 32 = .ok (.aload_n 0, 1) := by decide +kernel
theorem dX3_ahead_33 : decode cX3_ahead 33 = .ok (.getfield 23, 3) := by decide +kernel
theorem dX3_ahead_36 : decode cX3_ahead 36 = .ok (.aload_n 0, 1) := by decide +kernel
theorem dX3_ahead_37 : decode cX3_ahead 37 = .ok (.getfield 19, 3) := by decide +kernel
theorem dX3_ahead_40 : decode cX3_ahead 40 = .ok (.invokevirtual 76, 3) := by decide +kernel
theorem dX3_ahead_43 : decode cX3_ahead 43 = .ok (.iconst 0, 1) := by decide +kernel
theorem dX3_ahead_44 : decode cX3_ahead 44 = .ok (.istore 4, 2) := by decide +kernel
theorem dX3_ahead_46 : decode cX3_ahead 46 = .ok (.iconst 1, 1) := by decide +kernel
theorem dX3_ahead_47 : decode cX3_ahead 47 = .ok (.istore 5, 2) := by decide +kernel
theorem dX3_ahead_49 : decode cX3_ahead 49 = .ok (.iload 5, 2) := by decide +kernel
theorem dX3_ahead_51 : decode cX3_ahead 51 = .ok (.iload_n 2, 1) := by decide +kernel
theorem dX3_ahead_52 : decode cX3_ahead 52 = .ok (.if_icmp .gt 31, 3) := by decide +kernel
theorem dX3_ahead_55 : decode cX3_ahead 55 = .ok (.aload_n 0, 1) := by decide +kernel
theorem dX3_ahead_56 : decode cX3_ahead 56 = .ok (.getfield 23, 3) := by decide +kernel
theorem dX3_ahead_59 : decode cX3_ahead 59 = .ok (.invokevirtual 139, 3) := by decide +kernel
theorem dX3_ahead_62 : decode cX3_ahead 62 = .ok (.pop, 1) := by decide +kernel
theorem dX3_ahead_63 : decode cX3_ahead 63 = .ok (.aload_n 0, 1) := by decide +kernel
theorem dX3_ahead_64 : decode cX3_ahead 64 = .ok (.getfield 23, 3) := by decide +kernel
theorem dX3_ahead_67 : decode cX3_ahead 67 = .ok (.iload_n 1, 1) := by decide +kernel
theorem dX3_ahead_68 : decode cX3_ahead 68 = .ok (.invokevirtual 143, 3) := by decide +kernel
theorem dX3_ahead_71 : decode cX3_ahead 71 = .ok (.ifCond .eq 6, 3) := by decide +kernel
theorem dX3_ahead_74 : decode cX3_ahead 74 = .ok (.iinc 4 1, 3) := by decide +kernel
theorem dX3_ahead_77 : decode cX3_ahead 77 = .ok (.iinc 5 1, 3) := by decide +kernel
theorem dX3_ahead_80 : decode cX3_ahead 80 = .ok (.goto (-31), 3) := by decide +kernel
theorem dX3_ahead_83 : decode cX3_ahead 83 = .ok (.iload_n 3, 1) := by decide +kernel
theorem dX3_ahead_84 : decode cX3_ahead 84 = .ok (.ifCond .ne 15, 3) := by decide +kernel
theorem dX3_ahead_87 : decode cX3_ahead 87 = .ok (.aload_n 0, 1) := by decide +kernel
theorem dX3_ahead_88 : decode cX3_ahead 88 = .ok (.getfield 23, 3) := by decide +kernel
theorem dX3_ahead_91 : decode cX3_ahead 91 = .ok (.getfield 108, 3) := by decide +kernel
theorem dX3_ahead_94 : decode cX3_ahead 94 = .ok (.iload_n 1, 1) := by decide +kernel
theorem dX3_ahead_95 : decode cX3_ahead 95 = .ok (.iaload, 1) := by decide +kernel
theorem dX3_ahead_96 : decode cX3_ahead 96 = .ok (.goto 5, 3) := by decide +kernel
theorem dX3_ahead_99 : decode cX3_ahead 99 = .ok (.iload 4, 2) := by decide +kernel
theorem dX3_ahead_101 : decode cX3_ahead 101 = .ok (.ireturn, 1) := by decide +kernel
set_option maxRecDepth 20000 in
theorem ggX3_soonest_X2_has : GoodIn wsX3_soonest wsX2_has := goodIn_r _ [7, 8, 9, 10, 11, 88, 89, 90, 91, 92, 93, 94, 95, 96, 97, 98, 99, 100] (by decide +kernel) (by decide +kernel)
set_option maxRecDepth 20000 in
theorem gX3_soonest_X2_has : GoodIn wsX3_soonest (wsV RX3 102 RX2 yX2_has wsX2_has) := goodIn_app (goodIn_of _ (by decide +kernel)) ggX3_soonest_X2_has
set_option maxRecDepth 20000 in
theorem ggX3_soonest_X2_become : GoodIn wsX3_soonest wsX2_become := goodIn_r _ [15, 8, 16, 17, 18, 19, 20, 21, 22, 23, 24, 25, 26, 27, 28, 29, 30, 31, 88, 89, 90, 91, 92, 93, 94, 95, 96, 97, 98, 99, 100] (by decide +kernel) (by decide +kernel)
set_option maxRecDepth 20000 in
theorem gX3_soonest_X2_become : GoodIn wsX3_soonest (wsV RX3 76 RX2 yX2_become wsX2_become) := goodIn_app (goodIn_of _ (by decide +kernel)) ggX3_soonest_X2_become
set_option maxRecDepth 20000 in
theorem ggX3_soonest_X2_comesTo : GoodIn wsX3_soonest wsX2_comesTo := goodIn_r _ [35, 18, 36, 37, 38, 6, 39, 8, 28, 16, 40, 41, 42, 43, 19, 29, 26, 44, 45, 46, 47, 48, 10, 49, 50, 51, 52, 53, 21, 54, 55, 56, 57, 58, 59, 60, 61, 62, 63, 64, 65, 27, 17, 66, 67, 68, 69, 70, 71, 72, 73, 74, 75, 76, 77, 88, 89, 90, 91, 92, 93, 94, 95, 96, 97, 98, 99, 100] (by decide +kernel) (by decide +kernel)
set_option maxRecDepth 20000 in
theorem gX3_soonest_X2_comesTo : GoodIn wsX3_soonest (wsV RX3 146 RX2 yX2_comesTo wsX2_comesTo) := goodIn_app (goodIn_of _ (by decide +kernel)) ggX3_soonest_X2_comesTo
theorem dX3_soonest_0 : decode cX3_soonest 0 = .ok (.aload_n 0, 1) := by decide +kernel
theorem dX3_soonest_1 : decode cX3_soonest 1 = .ok (.getfield 19, 3) := by decide +kernel
theorem dX3_soonest_4 : decode cX3_soonest 4 = .ok (.iload_n 1, 1) := by decide +kernel
theorem dX3_soonest_5 : decode cX3_soonest 5 = .ok (.invokevirtual 102, 3) := by decide +kernel
theorem dX3_soonest_8 : decode cX3_soonest 8 = .ok (.ifCond .ne 5, 3) := by decide +kernel
theorem dX3_soonest_11 : decode cX3_soonest 11 = .ok (.iconst (-1), 1) := by decide +kernel
theorem dX3_soonest_12 : decode cX3_soonest 12 = .ok (.ireturn, 1) := by decide +kernel
theorem dX3_soonest_13 : decode cX3_soonest 13 = .ok (.aload_n 0, 1) := by decide +kernel
theorem dX3_soonest_14 : decode cX3_soonest 14 = .ok (.getfield 23, 3) := by decide +kernel
theorem dX3_soonest_17 : decode cX3_soonest 17 = .ok (.aload_n 0, 1) := by decide +kernel
theorem dX3_soonest_18 : decode cX3_soonest 18 = .ok (.getfield 19, 3) := by decide +kernel
theorem dX3_soonest_21 : decode cX3_soonest 21 = .ok (.invokevirtual 76, 3) := by decide +kernel
theorem dX3_soonest_24 : decode cX3_soonest 24 = .ok (.aload_n 0, 1) := by decide +kernel
theorem dX3_soonest_25 : decode cX3_soonest 25 = .ok (.getfield 23, 3) := by decide +kernel
theorem dX3_soonest_28 : decode cX3_soonest 28 = .ok (.iload_n 1, 1) := by decide +kernel
theorem dX3_soonest_29 : decode cX3_soonest 29 = .ok (.invokevirtual 146, 3) := by decide +kernel
theorem dX3_soonest_32 : decode cX3_soonest 32 = .ok (.ireturn, 1) := by decide +kernel
set_option maxRecDepth 20000 in
theorem ggX3_share_X2_has : GoodIn wsX3_share wsX2_has := goodIn_r _ [9, 10, 11, 12, 13, 93, 94, 95, 96, 97, 98, 99, 100, 101, 102, 103, 104, 105] (by decide +kernel) (by decide +kernel)
set_option maxRecDepth 20000 in
theorem gX3_share_X2_has : GoodIn wsX3_share (wsV RX3 102 RX2 yX2_has wsX2_has) := goodIn_app (goodIn_of _ (by decide +kernel)) ggX3_share_X2_has
set_option maxRecDepth 20000 in
theorem ggX3_share_X3_within : GoodIn wsX3_share wsX3_within := goodIn_r _ [13] (by decide +kernel) (by decide +kernel)
set_option maxRecDepth 20000 in
theorem gX3_share_X3_within : GoodIn wsX3_share (va_wsS RX3 51 yX3_within wsX3_within) := goodIn_app (goodIn_of _ (by decide +kernel)) ggX3_share_X3_within
set_option maxRecDepth 20000 in
theorem ggX3_share_X2_become : GoodIn wsX3_share wsX2_become := goodIn_r _ [18, 10, 19, 20, 21, 22, 23, 24, 25, 26, 27, 28, 29, 30, 31, 32, 33, 34, 93, 94, 95, 96, 97, 98, 99, 100, 101, 102, 103, 104, 105] (by decide +kernel) (by decide +kernel)
set_option maxRecDepth 20000 in
theorem gX3_share_X2_become : GoodIn wsX3_share (wsV RX3 76 RX2 yX2_become wsX2_become) := goodIn_app (goodIn_of _ (by decide +kernel)) ggX3_share_X2_become
set_option maxRecDepth 20000 in
theorem ggX3_share_X2_step : GoodIn wsX3_share wsX2_step := goodIn_r _ [38, 10, 21, 31, 19, 39, 40, 41, 8, 42, 22, 32, 29, 43, 44, 45, 46, 47, 12, 48, 49, 50, 51, 52, 24, 53, 54, 55, 56, 57, 58, 59, 60, 61, 62, 63, 64, 30, 20, 65, 66, 67, 68, 69, 70, 71, 72, 73, 74, 75, 76, 93, 94, 95, 96, 97, 98, 99, 100, 101, 102, 103, 104, 105] (by decide +kernel) (by decide +kernel)
set_option maxRecDepth 20000 in
theorem gX3_share_X2_step : GoodIn wsX3_share (wsV RX3 139 RX2 yX2_step wsX2_step) := goodIn_app (goodIn_of _ (by decide +kernel)) ggX3_share_X2_step
set_option maxRecDepth 20000 in
theorem ggX3_share_X3_ofFraction : GoodIn wsX3_share wsX3_ofFraction := goodIn_r _ [79, 80, 81, 12, 82] (by decide +kernel) (by decide +kernel)
set_option maxRecDepth 20000 in
theorem gX3_share_X3_ofFraction : GoodIn wsX3_share (va_wsS RX3 151 yX3_ofFraction wsX3_ofFraction) := goodIn_app (goodIn_of _ (by decide +kernel)) ggX3_share_X3_ofFraction
theorem dX3_share_0 : decode cX3_share 0 = .ok (.aload_n 0, 1) := by decide +kernel
theorem dX3_share_1 : decode cX3_share 1 = .ok (.getfield 19, 3) := by decide +kernel
theorem dX3_share_4 : decode cX3_share 4 = .ok (.iload_n 1, 1) := by decide +kernel
theorem dX3_share_5 : decode cX3_share 5 = .ok (.invokevirtual 102, 3) := by decide +kernel
theorem dX3_share_8 : decode cX3_share 8 = .ok (.ifCond .eq 22, 3) := by decide +kernel
theorem dX3_share_11 : decode cX3_share 11 = .ok (.iload_n 2, 1) := by decide +kernel
theorem dX3_share_12 : decode cX3_share 12 = .ok (.iconst 1, 1) := by decide +kernel
theorem dX3_share_13 : decode cX3_share 13 = .ok (.bipush 60, 2) := by decide +kernel
theorem dX3_share_15 : decode cX3_share 15 = .ok (.invokestatic 51, 3) := by decide +kernel
theorem dX3_share_18 : decode cX3_share 18 = .ok (.ifCond .eq 12, 3) := by decide +kernel
theorem dX3_share_21 : decode cX3_share 21 = .ok (.iload_n 3, 1) := by decide +kernel
theorem dX3_share_22 : decode cX3_share 22 = .ok (.iconst 0, 1) := by decide +kernel
theorem dX3_share_23 : decode cX3_share 23 = .ok (.iconst 1, 1) := by decide +kernel
theorem dX3_share_24 : decode cX3_share 24 = .ok (.invokestatic 51, 3) := by decide +kernel
theorem dX3_share_27 : decode cX3_share 27 = .ok (.ifCond .ne 7, 3) := by decide +kernel
theorem dX3_share_30 : decode cX3_share 30 = .ok (.ldc2_w 149, 3) := by decide +kernel
theorem dX3_share_33 : decode cX3_share 33 = .ok (.lreturn, 1) := by decide +kernel
theorem dX3_share_34 : decode cX3_share 34 = .ok (.aload_n 0, 1) := by decide +kernel
theorem dX3_share_35 : decode cX3_share 35 = .ok (.getfield 23, 3) := by decide +kernel
theorem dX3_share_38 : decode cX3_share 38 = .ok (.aload_n 0, 1) := by decide +kernel
theorem dX3_share_39 : decode cX3_share 39 = .ok (.getfield 19, 3) := by decide +kernel
theorem dX3_share_42 : decode cX3_share 42 = .ok (.invokevirtual 76, 3) := by decide +kernel
theorem dX3_share_45 : decode cX3_share 45 = .ok (.iconst 0, 1) := by decide +kernel
theorem dX3_share_46 : decode cX3_share 46 = .ok (.istore 4, 2) := by decide +kernel
theorem dX3_share_48 : decode cX3_share 48 = .ok (.iconst 1, 1) := by decide +kernel
theorem dX3_share_49 : decode cX3_share 49 = .ok (.istore 5, 2) := by decide +kernel
theorem dX3_share_51 : decode cX3_share 51 = .ok (.iload 5, 2) := by decide +kernel
theorem dX3_share_53 : decode cX3_share 53 = .ok (.iload_n 2, 1) := by decide +kernel
theorem dX3_share_54 : decode cX3_share 54 = .ok (.if_icmp .gt 31, 3) := by decide +kernel
theorem dX3_share_57 : decode cX3_share 57 = .ok (.aload_n 0, 1) := by decide +kernel
theorem dX3_share_58 : decode cX3_share 58 = .ok (.getfield 23, 3) := by decide +kernel
theorem dX3_share_61 : decode cX3_share 61 = .ok (.invokevirtual 139, 3) := by decide +kernel
theorem dX3_share_64 : decode cX3_share 64 = .ok (.pop, 1) := by decide +kernel
theorem dX3_share_65 : decode cX3_share 65 = .ok (.aload_n 0, 1) := by decide +kernel
theorem dX3_share_66 : decode cX3_share 66 = .ok (.getfield 23, 3) := by decide +kernel
theorem dX3_share_69 : decode cX3_share 69 = .ok (.getfield 128, 3) := by decide +kernel
theorem dX3_share_72 : decode cX3_share 72 = .ok (.iload_n 1, 1) := by decide +kernel
theorem dX3_share_73 : decode cX3_share 73 = .ok (.if_icmp .ne 6, 3) := by decide +kernel
theorem dX3_share_76 : decode cX3_share 76 = .ok (.iinc 4 1, 3) := by decide +kernel
theorem dX3_share_79 : decode cX3_share 79 = .ok (.iinc 5 1, 3) := by decide +kernel
theorem dX3_share_82 : decode cX3_share 82 = .ok (.goto (-31), 3) := by decide +kernel
theorem dX3_share_85 : decode cX3_share 85 = .ok (.iload 4, 2) := by decide +kernel
theorem dX3_share_87 : decode cX3_share 87 = .ok (.i2l, 1) := by decide +kernel
theorem dX3_share_88 : decode cX3_share 88 = .ok (.iload_n 2, 1) := by decide +kernel
theorem dX3_share_89 : decode cX3_share 89 = .ok (.i2l, 1) := by decide +kernel
theorem dX3_share_90 : decode cX3_share 90 = .ok (.iload_n 3, 1) := by decide +kernel
theorem dX3_share_91 : decode cX3_share 91 = .ok (.invokestatic 151, 3) := by decide +kernel
theorem dX3_share_94 : decode cX3_share 94 = .ok (.lreturn, 1) := by decide +kernel
set_option maxRecDepth 20000 in
theorem ggX3_round_X2_become : GoodIn wsX3_round wsX2_become := goodIn_r _ [9, 10, 11, 12, 13, 14, 15, 16, 17, 18, 19, 20, 21, 22, 23, 24, 25, 26, 80, 81, 82, 83, 84, 85, 86, 87, 88, 89, 90, 91, 92] (by decide +kernel) (by decide +kernel)
set_option maxRecDepth 20000 in
theorem gX3_round_X2_become : GoodIn wsX3_round (wsV RX3 76 RX2 yX2_become wsX2_become) := goodIn_app (goodIn_of _ (by decide +kernel)) ggX3_round_X2_become
set_option maxRecDepth 20000 in
theorem ggX3_round_X2_step : GoodIn wsX3_round wsX2_step := goodIn_r _ [30, 10, 13, 23, 11, 31, 32, 33, 8, 34, 14, 24, 21, 35, 36, 37, 38, 39, 40, 41, 42, 43, 44, 45, 16, 46, 47, 48, 49, 50, 51, 52, 53, 54, 55, 56, 57, 22, 12, 58, 59, 60, 61, 62, 63, 64, 65, 66, 67, 68, 69, 80, 81, 82, 83, 84, 85, 86, 87, 88, 89, 90, 91, 92] (by decide +kernel) (by decide +kernel)
set_option maxRecDepth 20000 in
theorem gX3_round_X2_step : GoodIn wsX3_round (wsV RX3 139 RX2 yX2_step wsX2_step) := goodIn_app (goodIn_of _ (by decide +kernel)) ggX3_round_X2_step
theorem dX3_round_0 : decode cX3_round 0 = .ok (.aload_n 0, 1) := by decide +kernel
theorem dX3_round_1 : decode cX3_round 1 = .ok (.getfield 19, 3) := by decide +kernel
theorem dX3_round_4 : decode cX3_round 4 = .ok (.getfield 80, 3) := by decide +kernel
theorem dX3_round_7 : decode cX3_round 7 = .ok (.ifCond .ne 6, 3) := by decide +kernel
theorem dX3_round_10 : decode cX3_round 10 = .ok (.bipush (-4), 2) := by decide +kernel
theorem dX3_round_12 : decode cX3_round 12 = .ok (.ireturn, 1) := by decide +kernel
theorem dX3_round_13 : decode cX3_round 13 = .ok (.aload_n 0, 1) := by decide +kernel
theorem dX3_round_14 : decode cX3_round 14 = .ok (.getfield 23, 3) := by decide +kernel
theorem dX3_round_17 : decode cX3_round 17 = .ok (.aload_n 0, 1) := by decide +kernel
theorem dX3_round_18 : decode cX3_round 18 = .ok (.getfield 19, 3) := by decide +kernel
theorem dX3_round_21 : decode cX3_round 21 = .ok (.invokevirtual 76, 3) := by decide +kernel
theorem dX3_round_24 : decode cX3_round 24 = .ok (.iconst 1, 1) := by decide +kernel
theorem dX3_round_25 : decode cX3_round 25 = .ok (.aload_n 0, 1) := by decide +kernel
theorem dX3_round_26 : decode cX3_round 26 = .ok (.getfield 19, 3) := by decide +kernel
theorem dX3_round_29 : decode cX3_round 29 = .ok (.getfield 80, 3) := by decide +kernel
theorem dX3_round_32 : decode cX3_round 32 = .ok (.ishl, 1) := by decide +kernel
theorem dX3_round_33 : decode cX3_round 33 = .ok (.iconst 1, 1) := by decide +kernel
theorem dX3_round_34 : decode cX3_round 34 = .ok (.isub, 1) := by decide +kernel
theorem dX3_round_35 : decode cX3_round 35 = .ok (.istore_n 1, 1) := by decide +kernel
theorem dX3_round_36 : decode cX3_round 36 = .ok (.iconst 1, 1) := by decide +kernel
theorem dX3_round_37 : decode cX3_round 37 = .ok (.aload_n 0, 1) := by decide +kernel
theorem dX3_round_38 : decode cX3_round 38 = .ok (.getfield 23, 3) := by decide +kernel
theorem dX3_round_41 : decode cX3_round 41 = .ok (.getfield 128, 3) := by decide +kernel
theorem dX3_round_44 : decode cX3_round 44 = .ok (.ishl, 1) := by decide +kernel
theorem dX3_round_45 : decode cX3_round 45 = .ok (.istore_n 2, 1) := by decide +kernel
theorem dX3_round_46 : decode cX3_round 46 = .ok (.iconst 1, 1) := by decide +kernel
theorem dX3_round_47 : decode cX3_round 47 = .ok (.istore_n 3, 1) := by decide +kernel
theorem dX3_round_48 : decode cX3_round 48 = .ok (.iload_n 3, 1) := by decide +kernel
theorem dX3_round_49 : decode cX3_round 49 = .ok (.bipush 60, 2) := by decide +kernel
theorem dX3_round_51 : decode cX3_round 51 = .ok (.if_icmp .gt 36, 3) := by decide +kernel
theorem dX3_round_54 : decode cX3_round 54 = .ok (.aload_n 0, 1) := by decide +kernel
theorem dX3_round_55 : decode cX3_round 55 = .ok (.getfield 23, 3) := by decide +kernel
theorem dX3_round_58 : decode cX3_round 58 = .ok (.invokevirtual 139, 3) := by decide +kernel
theorem dX3_round_61 : decode cX3_round 61 = .ok (.pop, 1) := by decide +kernel
theorem dX3_round_62 : decode cX3_round 62 = .ok (.iload_n 2, 1) := by decide +kernel
theorem dX3_round_63 : decode cX3_round 63 = .ok (.iconst 1, 1) := by decide +kernel
theorem dX3_round_64 : decode cX3_round 64 = .ok (.aload_n 0, 1) := by decide +kernel
theorem dX3_round_65 : decode cX3_round 65 = .ok (.getfield 23, 3) := by decide +kernel
theorem dX3_round_68 : decode cX3_round 68 = .ok (.getfield 128, 3) := by decide +kernel
theorem dX3_round_71 : decode cX3_round 71 = .ok (.ishl, 1) := by decide +kernel
theorem dX3_round_72 : decode cX3_round 72 = .ok (.ior, 1) := by decide +kernel
theorem dX3_round_73 : decode cX3_round 73 = .ok (.istore_n 2, 1) := by decide +kernel
theorem dX3_round_74 : decode cX3_round 74 = .ok (.iload_n 2, 1) := by decide +kernel
theorem dX3_round_75 : decode cX3_round 75 = .ok (.iload_n 1, 1) := by decide +kernel
theorem dX3_round_76 : decode cX3_round 76 = .ok (.if_icmp .ne 5, 3) := by decide +kernel
theorem dX3_round_79 : decode cX3_round 79 = .ok (.iload_n 3, 1) := by decide +kernel
theorem dX3_round_80 : decode cX3_round 80 = .ok (.ireturn, 1) := by decide +kernel
theorem dX3_round_81 : decode cX3_round 81 = .ok (.iinc 3 1, 3) := by decide +kernel
theorem dX3_round_84 : decode cX3_round 84 = .ok (.goto (-36), 3) := by decide +kernel
theorem dX3_round_87 : decode cX3_round 87 = .ok (.bipush (-4), 2) := by decide +kernel
theorem dX3_round_89 : decode cX3_round 89 = .ok (.ireturn, 1) := by decide +kernel
set_option maxRecDepth 20000 in
theorem ggX3_trade_X2_has : GoodIn wsX3_trade wsX2_has := goodIn_r _ [8, 9, 10, 11, 12, 90, 91, 92, 93, 94, 95, 96, 97, 98, 99, 100, 101, 102] (by decide +kernel) (by decide +kernel)
set_option maxRecDepth 20000 in
theorem gX3_trade_X2_has : GoodIn wsX3_trade (wsV RX3 102 RX2 yX2_has wsX2_has) := goodIn_app (goodIn_of _ (by decide +kernel)) ggX3_trade_X2_has
set_option maxRecDepth 20000 in
theorem ggX3_trade_X3_within : GoodIn wsX3_trade wsX3_within := goodIn_r _ [12] (by decide +kernel) (by decide +kernel)
set_option maxRecDepth 20000 in
theorem gX3_trade_X3_within : GoodIn wsX3_trade (va_wsS RX3 51 yX3_within wsX3_within) := goodIn_app (goodIn_of _ (by decide +kernel)) ggX3_trade_X3_within
set_option maxRecDepth 20000 in
theorem ggX3_trade_X2_become : GoodIn wsX3_trade wsX2_become := goodIn_r _ [17, 9, 18, 19, 20, 21, 22, 23, 24, 25, 26, 27, 28, 29, 30, 31, 32, 33, 90, 91, 92, 93, 94, 95, 96, 97, 98, 99, 100, 101, 102] (by decide +kernel) (by decide +kernel)
set_option maxRecDepth 20000 in
theorem gX3_trade_X2_become : GoodIn wsX3_trade (wsV RX3 76 RX2 yX2_become wsX2_become) := goodIn_app (goodIn_of _ (by decide +kernel)) ggX3_trade_X2_become
set_option maxRecDepth 20000 in
theorem ggX3_trade_X2_comesTo : GoodIn wsX3_trade wsX2_comesTo := goodIn_r _ [37, 20, 38, 39, 40, 7, 41, 9, 30, 18, 42, 43, 44, 45, 21, 31, 28, 46, 47, 48, 49, 50, 11, 51, 52, 53, 54, 55, 23, 56, 57, 58, 59, 60, 61, 62, 63, 64, 65, 66, 67, 29, 19, 68, 69, 70, 71, 72, 73, 74, 75, 76, 77, 78, 79, 90, 91, 92, 93, 94, 95, 96, 97, 98, 99, 100, 101, 102] (by decide +kernel) (by decide +kernel)
set_option maxRecDepth 20000 in
theorem gX3_trade_X2_comesTo : GoodIn wsX3_trade (wsV RX3 146 RX2 yX2_comesTo wsX2_comesTo) := goodIn_app (goodIn_of _ (by decide +kernel)) ggX3_trade_X2_comesTo
theorem dX3_trade_0 : decode cX3_trade 0 = .ok (.aload_n 0, 1) := by decide +kernel
theorem dX3_trade_1 : decode cX3_trade 1 = .ok (.getfield 19, 3) := by decide +kernel
theorem dX3_trade_4 : decode cX3_trade 4 = .ok (.iload_n 1, 1) := by decide +kernel
theorem dX3_trade_5 : decode cX3_trade 5 = .ok (.invokevirtual 102, 3) := by decide +kernel
theorem dX3_trade_8 : decode cX3_trade 8 = .ok (.ifCond .eq 12, 3) := by decide +kernel
theorem dX3_trade_11 : decode cX3_trade 11 = .ok (.iload_n 2, 1) := by decide +kernel
theorem dX3_trade_12 : decode cX3_trade 12 = .ok (.iconst 0, 1) := by decide +kernel
theorem dX3_trade_13 : decode cX3_trade 13 = .ok (.iconst 1, 1) := by decide +kernel
theorem dX3_trade_14 : decode cX3_trade 14 = .ok (.invokestatic 51, 3) := by decide +kernel
theorem dX3_trade_17 : decode cX3_trade 17 = .ok (.ifCond .ne 5, 3) := by decide +kernel
theorem dX3_trade_20 : decode cX3_trade 20 = .ok (.iconst (-1), 1) := by decide +kernel
theorem dX3_trade_21 : decode cX3_trade 21 = .ok (.ireturn, 1) := by decide +kernel
theorem dX3_trade_22 : decode cX3_trade 22 = .ok (.bipush (-4), 2) := by decide +kernel
theorem dX3_trade_24 : decode cX3_trade 24 = .ok (.istore_n 3, 1) := by decide +kernel
theorem dX3_trade_25 : decode cX3_trade 25 = .ok (.bipush 61, 2) := by decide +kernel
theorem dX3_trade_27 : decode cX3_trade 27 = .ok (.istore 4, 2) := by decide +kernel
theorem dX3_trade_29 : decode cX3_trade 29 = .ok (.iconst 0, 1) := by decide +kernel
theorem dX3_trade_30 : decode cX3_trade 30 = .ok (.istore 5, 2) := by decide +kernel
theorem dX3_trade_32 : decode cX3_trade 32 = .ok (.iload 5, 2) := by decide +kernel
theorem dX3_trade_34 : decode cX3_trade 34 = .ok (.bipush 20, 2) := by decide +kernel
theorem dX3_trade_36 : decode cX3_trade 36 = .ok (.if_icmp .gt 62, 3) := by decide +kernel
theorem dX3_trade_39 : decode cX3_trade 39 = .ok (.aload_n 0, 1) := by decide +kernel
theorem dX3_trade_40 : decode cX3_trade 40 = .ok (.getfield 23, 3) := by decide +kernel
theorem dX3_trade_43 : decode cX3_trade 43 = .ok (.aload_n 0, 1) := by decide +kernel
theorem dX3_trade_44 : decode cX3_trade 44 = .ok (.getfield 19, 3) := by decide +kernel
theorem dX3_trade_47 : decode cX3_trade 47 = .ok (.invokevirtual 76, 3) := by decide +kernel
theorem dX3_trade_50 : decode cX3_trade 50 = .ok (.aload_n 0, 1) := by decide +kernel
theorem dX3_trade_51 : decode cX3_trade 51 = .ok (.getfield 23, 3) := by decide +kernel
theorem dX3_trade_54 : decode cX3_trade 54 = .ok (.getfield 111, 3) := by decide +kernel
theorem dX3_trade_57 : decode cX3_trade 57 = .ok (.iload_n 1, 1) := by decide +kernel
theorem dX3_trade_58 : decode cX3_trade 58 = .ok (.iload 5, 2) := by decide +kernel
theorem dX3_trade_60 : decode cX3_trade 60 = .ok (.iastore, 1) := by decide +kernel
theorem dX3_trade_61 : decode cX3_trade 61 = .ok (.aload_n 0, 1) := by decide +kernel
theorem dX3_trade_62 : decode cX3_trade 62 = .ok (.getfield 23, 3) := by decide +kernel
theorem dX3_trade_65 : decode cX3_trade 65 = .ok (.iload_n 1, 1) := by decide +kernel
theorem dX3_trade_66 : decode cX3_trade 66 = .ok (.invokevirtual 146, 3) := by decide +kernel
theorem dX3_trade_69 : decode cX3_trade 69 = .ok (.istore 6, 2) := by decide +kernel
theorem dX3_trade_71 : decode cX3_trade 71 = .ok (.iload 6, 2) := by decide +kernel
theorem dX3_trade_73 : decode cX3_trade 73 = .ok (.bipush (-4), 2) := by decide +kernel
theorem dX3_trade_75 : decode cX3_trade 75 = .ok (.if_icmp .eq 17, 3) := by decide +kernel
theorem dX3_trade_78 : decode cX3_trade 78 = .ok (.iload 6, 2) := by decide +kernel
theorem dX3_trade_80 : decode cX3_trade 80 = .ok (.iload 4, 2) := by decide +kernel
theorem dX3_trade_82 : decode cX3_trade 82 = .ok (.if_icmp .ge 10, 3) := by decide +kernel
theorem dX3_trade_85 : decode cX3_trade 85 = .ok (.iload 5, 2) := by decide +kernel
theorem dX3_trade_87 : decode cX3_trade 87 = .ok (.istore_n 3, 1) := by decide +kernel
theorem dX3_trade_88 : decode cX3_trade 88 = .ok (.iload 6, 2) := by decide +kernel
theorem dX3_trade_90 : decode cX3_trade 90 = .ok (.istore 4, 2) := by decide +kernel
theorem dX3_trade_92 : decode cX3_trade 92 = .ok (.iinc 5 1, 3) := by decide +kernel
theorem dX3_trade_95 : decode cX3_trade 95 = .ok (.goto (-63), 3) := by decide +kernel
theorem dX3_trade_98 : decode cX3_trade 98 = .ok (.iload_n 3, 1) := by decide +kernel
theorem dX3_trade_99 : decode cX3_trade 99 = .ok (.bipush (-4), 2) := by decide +kernel
theorem dX3_trade_101 : decode cX3_trade 101 = .ok (.if_icmp .eq 7, 3) := by decide +kernel
theorem dX3_trade_104 : decode cX3_trade 104 = .ok (.iload_n 2, 1) := by decide +kernel
theorem dX3_trade_105 : decode cX3_trade 105 = .ok (.ifCond .ne 7, 3) := by decide +kernel
theorem dX3_trade_108 : decode cX3_trade 108 = .ok (.iload_n 3, 1) := by decide +kernel
theorem dX3_trade_109 : decode cX3_trade 109 = .ok (.goto 5, 3) := by decide +kernel
theorem dX3_trade_112 : decode cX3_trade 112 = .ok (.iload 4, 2) := by decide +kernel
theorem dX3_trade_114 : decode cX3_trade 114 = .ok (.ireturn, 1) := by decide +kernel
set_option maxRecDepth 20000 in
theorem ggX3_keeper_X3_within : GoodIn wsX3_keeper wsX3_within := goodIn_r _ [8] (by decide +kernel) (by decide +kernel)
set_option maxRecDepth 20000 in
theorem gX3_keeper_X3_within : GoodIn wsX3_keeper (va_wsS RX3 51 yX3_within wsX3_within) := goodIn_app (goodIn_of _ (by decide +kernel)) ggX3_keeper_X3_within
set_option maxRecDepth 20000 in
theorem ggX3_keeper_X2_become : GoodIn wsX3_keeper wsX2_become := goodIn_r _ [13, 14, 15, 16, 17, 18, 19, 20, 21, 22, 23, 24, 25, 26, 27, 28, 29, 30, 91, 92, 93, 94, 95, 96, 97, 98, 99, 100, 101, 102, 103] (by decide +kernel) (by decide +kernel)
set_option maxRecDepth 20000 in
theorem gX3_keeper_X2_become : GoodIn wsX3_keeper (wsV RX3 76 RX2 yX2_become wsX2_become) := goodIn_app (goodIn_of _ (by decide +kernel)) ggX3_keeper_X2_become
set_option maxRecDepth 20000 in
theorem ggX3_keeper_X2_pass : GoodIn wsX3_keeper wsX2_pass := goodIn_r _ [34, 35, 36, 37, 12, 38, 14, 17, 27, 15, 39, 40, 41, 42, 18, 28, 25, 43, 44, 45, 46, 47, 7, 48, 49, 50, 51, 52, 20, 53, 54, 55, 56, 57, 58, 59, 60, 61, 62, 63, 64, 26, 16, 65, 66, 67, 68, 69, 70, 71, 72, 73, 74, 75, 76, 91, 92, 93, 94, 95, 96, 97, 98, 99, 100, 101, 102, 103] (by decide +kernel) (by decide +kernel)
set_option maxRecDepth 20000 in
theorem gX3_keeper_X2_pass : GoodIn wsX3_keeper (wsV RX3 135 RX2 yX2_pass wsX2_pass) := goodIn_app (goodIn_of _ (by decide +kernel)) ggX3_keeper_X2_pass
set_option maxRecDepth 20000 in
theorem ggX3_keeper_X2_meansOfAll : GoodIn wsX3_keeper wsX2_meansOfAll := goodIn_r _ [80, 14, 25, 91, 92, 93, 94, 95, 96, 97, 98, 99, 100, 101, 102, 103] (by decide +kernel) (by decide +kernel)
set_option maxRecDepth 20000 in
theorem gX3_keeper_X2_meansOfAll : GoodIn wsX3_keeper (wsV RX3 93 RX2 yX2_meansOfAll wsX2_meansOfAll) := goodIn_app (goodIn_of _ (by decide +kernel)) ggX3_keeper_X2_meansOfAll
theorem dX3_keeper_0 : decode cX3_keeper 0 = .ok (.iload_n 1, 1) := by decide +kernel
theorem dX3_keeper_1 : decode cX3_keeper 1 = .ok (.iconst 0, 1) := by decide +kernel
theorem dX3_keeper_2 : decode cX3_keeper 2 = .ok (.bipush 60, 2) := by decide +kernel
theorem dX3_keeper_4 : decode cX3_keeper 4 = .ok (.invokestatic 51, 3) := by decide +kernel
theorem dX3_keeper_7 : decode cX3_keeper 7 = .ok (.ifCond .eq 12, 3) := by decide +kernel
theorem dX3_keeper_10 : decode cX3_keeper 10 = .ok (.iload_n 2, 1) := by decide +kernel
theorem dX3_keeper_11 : decode cX3_keeper 11 = .ok (.iconst 0, 1) := by decide +kernel
theorem dX3_keeper_12 : decode cX3_keeper 12 = .ok (.iconst 1, 1) := by decide +kernel
theorem dX3_keeper_13 : decode cX3_keeper 13 = .ok (.invokestatic 51, 3) := by decide +kernel
theorem dX3_keeper_16 : decode cX3_keeper 16 = .ok (.ifCond .ne 5, 3) := by decide +kernel
theorem dX3_keeper_19 : decode cX3_keeper 19 = .ok (.iconst (-1), 1) := by decide +kernel
theorem dX3_keeper_20 : decode cX3_keeper 20 = .ok (.ireturn, 1) := by decide +kernel
theorem dX3_keeper_21 : decode cX3_keeper 21 = .ok (.bipush (-4), 2) := by decide +kernel
theorem dX3_keeper_23 : decode cX3_keeper 23 = .ok (.istore_n 3, 1) := by decide +kernel
theorem dX3_keeper_24 : decode cX3_keeper 24 = .ok (.bipush (-4), 2) := by decide +kernel
theorem dX3_keeper_26 : decode cX3_keeper 26 = .ok (.istore 4, 2) := by decide +kernel
theorem dX3_keeper_28 : decode cX3_keeper 28 = .ok (.iconst 0, 1) := by decide +kernel
theorem dX3_keeper_29 : decode cX3_keeper 29 = .ok (.istore 5, 2) := by decide +kernel
theorem dX3_keeper_31 : decode cX3_keeper 31 = .ok (.iload 5, 2) := by decide +kernel
theorem dX3_keeper_33 : decode cX3_keeper 33 = .ok (.aload_n 0, 1) := by decide +kernel
theorem dX3_keeper_34 : decode cX3_keeper 34 = .ok (.getfield 19, 3) := by decide +kernel
theorem dX3_keeper_37 : decode cX3_keeper 37 = .ok (.getfield 80, 3) := by decide +kernel
theorem dX3_keeper_40 : decode cX3_keeper 40 = .ok (.if_icmp .ge 61, 3) := by decide +kernel
theorem dX3_keeper_43 : decode cX3_keeper 43 = .ok (.aload_n 0, 1) := by decide +kernel
theorem dX3_keeper_44 : decode cX3_keeper 44 = .ok (.getfield 23, 3) := by decide +kernel
theorem dX3_keeper_47 : decode cX3_keeper 47 = .ok (.aload_n 0, 1) := by decide +kernel
theorem dX3_keeper_48 : decode cX3_keeper 48 = .ok (.getfield 19, 3) := by decide +kernel
theorem dX3_keeper_51 : decode cX3_keeper 51 = .ok (.invokevirtual 76, 3) := by decide +kernel
theorem dX3_keeper_54 : decode cX3_keeper 54 = .ok (.aload_n 0, 1) := by decide +kernel
theorem dX3_keeper_55 : decode cX3_keeper 55 = .ok (.getfield 23, 3) := by decide +kernel
theorem dX3_keeper_58 : decode cX3_keeper 58 = .ok (.iload 5, 2) := by decide +kernel
theorem dX3_keeper_60 : decode cX3_keeper 60 = .ok (.putfield 128, 3) := by decide +kernel
theorem dX3_keeper_63 : decode cX3_keeper 63 = .ok (.aload_n 0, 1) := by decide +kernel
theorem dX3_keeper_64 : decode cX3_keeper 64 = .ok (.getfield 23, 3) := by decide +kernel
theorem dX3_keeper_67 : decode cX3_keeper 67 = .ok (.iload_n 1, 1) := by decide +kernel
theorem dX3_keeper_68 : decode cX3_keeper 68 = .ok (.invokevirtual 135, 3) := by decide +kernel
theorem dX3_keeper_71 : decode cX3_keeper 71 = .ok (.aload_n 0, 1) := by decide +kernel
theorem dX3_keeper_72 : decode cX3_keeper 72 = .ok (.getfield 23, 3) := by decide +kernel
theorem dX3_keeper_75 : decode cX3_keeper 75 = .ok (.invokevirtual 93, 3) := by decide +kernel
theorem dX3_keeper_78 : decode cX3_keeper 78 = .ok (.iload 4, 2) := by decide +kernel
theorem dX3_keeper_80 : decode cX3_keeper 80 = .ok (.if_icmp .le 15, 3) := by decide +kernel
theorem dX3_keeper_83 : decode cX3_keeper 83 = .ok (.iload 5, 2) := by decide +kernel
theorem dX3_keeper_85 : decode cX3_keeper 85 = .ok (.istore_n 3, 1) := by decide +kernel
theorem dX3_keeper_86 : decode cX3_keeper 86 = .ok (.aload_n 0, 1) := by decide +kernel
theorem dX3_keeper_87 : decode cX3_keeper 87 = .ok (.getfield 23, 3) := by decide +kernel
theorem dX3_keeper_90 : decode cX3_keeper 90 = .ok (.invokevirtual 93, 3) := by decide +kernel
theorem dX3_keeper_93 : decode cX3_keeper 93 = .ok (.istore 4, 2) := by decide +kernel
theorem dX3_keeper_95 : decode cX3_keeper 95 = .ok (.iinc 5 1, 3) := by decide +kernel
theorem dX3_keeper_98 : decode cX3_keeper 98 = .ok (.goto (-67), 3) := by decide +kernel
theorem dX3_keeper_101 : decode cX3_keeper 101 = .ok (.iload_n 2, 1) := by decide +kernel
theorem dX3_keeper_102 : decode cX3_keeper 102 = .ok (.ifCond .ne 7, 3) := by decide +kernel
theorem dX3_keeper_105 : decode cX3_keeper 105 = .ok (.iload_n 3, 1) := by decide +kernel
theorem dX3_keeper_106 : decode cX3_keeper 106 = .ok (.goto 5, 3) := by decide +kernel
theorem dX3_keeper_109 : decode cX3_keeper 109 = .ok (.iload 4, 2) := by decide +kernel
theorem dX3_keeper_111 : decode cX3_keeper 111 = .ok (.ireturn, 1) := by decide +kernel
set_option maxRecDepth 20000 in
theorem ggX3_kind_X2_has : GoodIn wsX3_kind wsX2_has := goodIn_r _ [9, 10, 11, 12, 13, 91, 92, 93, 94, 95, 96, 97, 98, 99, 100, 101, 102, 103] (by decide +kernel) (by decide +kernel)
set_option maxRecDepth 20000 in
theorem gX3_kind_X2_has : GoodIn wsX3_kind (wsV RX3 102 RX2 yX2_has wsX2_has) := goodIn_app (goodIn_of _ (by decide +kernel)) ggX3_kind_X2_has
set_option maxRecDepth 20000 in
theorem ggX3_kind_X3_within : GoodIn wsX3_kind wsX3_within := goodIn_r _ [13] (by decide +kernel) (by decide +kernel)
set_option maxRecDepth 20000 in
theorem gX3_kind_X3_within : GoodIn wsX3_kind (va_wsS RX3 51 yX3_within wsX3_within) := goodIn_app (goodIn_of _ (by decide +kernel)) ggX3_kind_X3_within
set_option maxRecDepth 20000 in
theorem ggX3_kind_X2_become : GoodIn wsX3_kind wsX2_become := goodIn_r _ [18, 10, 19, 20, 21, 22, 23, 24, 25, 26, 27, 28, 29, 30, 31, 32, 33, 34, 91, 92, 93, 94, 95, 96, 97, 98, 99, 100, 101, 102, 103] (by decide +kernel) (by decide +kernel)
set_option maxRecDepth 20000 in
theorem gX3_kind_X2_become : GoodIn wsX3_kind (wsV RX3 76 RX2 yX2_become wsX2_become) := goodIn_app (goodIn_of _ (by decide +kernel)) ggX3_kind_X2_become
set_option maxRecDepth 20000 in
theorem ggX3_kind_X2_pass : GoodIn wsX3_kind wsX2_pass := goodIn_r _ [38, 39, 40, 41, 8, 42, 10, 21, 31, 19, 43, 44, 45, 46, 22, 32, 29, 47, 48, 49, 50, 51, 12, 52, 53, 54, 55, 56, 24, 57, 58, 59, 60, 61, 62, 63, 64, 65, 66, 67, 68, 30, 20, 69, 70, 71, 72, 73, 74, 75, 76, 77, 78, 79, 80, 91, 92, 93, 94, 95, 96, 97, 98, 99, 100, 101, 102, 103] (by decide +kernel) (by decide +kernel)
set_option maxRecDepth 20000 in
theorem gX3_kind_X2_pass : GoodIn wsX3_kind (wsV RX3 135 RX2 yX2_pass wsX2_pass) := goodIn_app (goodIn_of _ (by decide +kernel)) ggX3_kind_X2_pass
theorem dX3_kind_0 : decode cX3_kind 0 = .ok (.aload_n 0, 1) := by decide +kernel
theorem dX3_kind_1 : decode cX3_kind 1 = .ok (.getfield 19, 3) := by decide +kernel
theorem dX3_kind_4 : decode cX3_kind 4 = .ok (.iload_n 1, 1) := by decide +kernel
theorem dX3_kind_5 : decode cX3_kind 5 = .ok (.invokevirtual 102, 3) := by decide +kernel
theorem dX3_kind_8 : decode cX3_kind 8 = .ok (.ifCond .eq 22, 3) := by decide +kernel
theorem dX3_kind_11 : decode cX3_kind 11 = .ok (.iload_n 2, 1) := by decide +kernel
theorem dX3_kind_12 : decode cX3_kind 12 = .ok (.iconst 0, 1) := by decide +kernel
theorem dX3_kind_13 : decode cX3_kind 13 = .ok (.bipush 60, 2) := by decide +kernel
theorem dX3_kind_15 : decode cX3_kind 15 = .ok (.invokestatic 51, 3) := by decide +kernel
theorem dX3_kind_18 : decode cX3_kind 18 = .ok (.ifCond .eq 12, 3) := by decide +kernel
theorem dX3_kind_21 : decode cX3_kind 21 = .ok (.iload_n 3, 1) := by decide +kernel
theorem dX3_kind_22 : decode cX3_kind 22 = .ok (.iconst 0, 1) := by decide +kernel
theorem dX3_kind_23 : decode cX3_kind 23 = .ok (.iconst 1, 1) := by decide +kernel
theorem dX3_kind_24 : decode cX3_kind 24 = .ok (.invokestatic 51, 3) := by decide +kernel
theorem dX3_kind_27 : decode cX3_kind 27 = .ok (.ifCond .ne 5, 3) := by decide +kernel
theorem dX3_kind_30 : decode cX3_kind 30 = .ok (.iconst (-1), 1) := by decide +kernel
theorem dX3_kind_31 : decode cX3_kind 31 = .ok (.ireturn, 1) := by decide +kernel
theorem dX3_kind_32 : decode cX3_kind 32 = .ok (.iconst 0, 1) := by decide +kernel
theorem dX3_kind_33 : decode cX3_kind 33 = .ok (.istore 4, 2) := by decide +kernel
theorem dX3_kind_35 : decode cX3_kind 35 = .ok (.iconst (-1), 1) := by decide +kernel
theorem dX3_kind_36 : decode cX3_kind 36 = .ok (.istore 5, 2) := by decide +kernel
theorem dX3_kind_38 : decode cX3_kind 38 = .ok (.iconst 0, 1) := by decide +kernel
theorem dX3_kind_39 : decode cX3_kind 39 = .ok (.istore 6, 2) := by decide +kernel
theorem dX3_kind_41 : decode cX3_kind 41 = .ok (.iload 6, 2) := by decide +kernel
theorem dX3_kind_43 : decode cX3_kind 43 = .ok (.iconst 3, 1) := by decide +kernel
theorem dX3_kind_44 : decode cX3_kind 44 = .ok (.if_icmp .gt 68, 3) := by decide +kernel
theorem dX3_kind_47 : decode cX3_kind 47 = .ok (.aload_n 0, 1) := by decide +kernel
theorem dX3_kind_48 : decode cX3_kind 48 = .ok (.getfield 23, 3) := by decide +kernel
theorem dX3_kind_51 : decode cX3_kind 51 = .ok (.aload_n 0, 1) := by decide +kernel
theorem dX3_kind_52 : decode cX3_kind 52 = .ok (.getfield 19, 3) := by decide +kernel
theorem dX3_kind_55 : decode cX3_kind 55 = .ok (.invokevirtual 76, 3) := by decide +kernel
theorem dX3_kind_58 : decode cX3_kind 58 = .ok (.aload_n 0, 1) := by decide +kernel
theorem dX3_kind_59 : decode cX3_kind 59 = .ok (.getfield 23, 3) := by decide +kernel
theorem dX3_kind_62 : decode cX3_kind 62 = .ok (.getfield 105, 3) := by decide +kernel
theorem dX3_kind_65 : decode cX3_kind 65 = .ok (.iload_n 1, 1) := by decide +kernel
theorem dX3_kind_66 : decode cX3_kind 66 = .ok (.iload 6, 2) := by decide +kernel
theorem dX3_kind_68 : decode cX3_kind 68 = .ok (.iastore, 1) := by decide +kernel
theorem dX3_kind_69 : decode cX3_kind 69 = .ok (.aload_n 0, 1) := by decide +kernel
theorem dX3_kind_70 : decode cX3_kind 70 = .ok (.getfield 23, 3) := by decide +kernel
theorem dX3_kind_73 : decode cX3_kind 73 = .ok (.iload_n 2, 1) := by decide +kernel
theorem dX3_kind_74 : decode cX3_kind 74 = .ok (.invokevirtual 135, 3) := by decide +kernel
theorem dX3_kind_77 : decode cX3_kind 77 = .ok (.aload_n 0, 1) := by decide +kernel
theorem dX3_kind_78 : decode cX3_kind 78 = .ok (.getfield 23, 3) := by decide +kernel
theorem dX3_kind_81 : decode cX3_kind 81 = .ok (.getfield 108, 3) := by decide +kernel
theorem dX3_kind_84 : decode cX3_kind 84 = .ok (.iload_n 1, 1) := by decide +kernel
theorem dX3_kind_85 : decode cX3_kind 85 = .ok (.iaload, 1) := by decide +kernel
theorem dX3_kind_86 : decode cX3_kind 86 = .ok (.iload 5, 2) := by decide +kernel
theorem dX3_kind_88 : decode cX3_kind 88 = .ok (.if_icmp .le 18, 3) := by decide +kernel
theorem dX3_kind_91 : decode cX3_kind 91 = .ok (.iload 6, 2) := by decide +kernel
theorem dX3_kind_93 : decode cX3_kind 93 = .ok (.istore 4, 2) := by decide +kernel
theorem dX3_kind_95 : decode cX3_kind 95 = .ok (.aload_n 0, 1) := by decide +kernel
theorem dX3_kind_96 : decode cX3_kind 96 = .ok (.getfield 23, 3) := by decide +kernel
theorem dX3_kind_99 : decode cX3_kind 99 = .ok (.getfield 108, 3) := by decide +kernel
theorem dX3_kind_102 : decode cX3_kind 102 = .ok (.iload_n 1, 1) := by decide +kernel
theorem dX3_kind_103 : decode cX3_kind 103 = .ok (.iaload, 1) := by decide +kernel
theorem dX3_kind_104 : decode cX3_kind 104 = .ok (.istore 5, 2) := by decide +kernel
theorem dX3_kind_106 : decode cX3_kind 106 = .ok (.iinc 6 1, 3) := by decide +kernel
theorem dX3_kind_109 : decode cX3_kind 109 = .ok (.goto (-68), 3) := by decide +kernel
theorem dX3_kind_112 : decode cX3_kind 112 = .ok (.iload_n 3, 1) := by decide +kernel
theorem dX3_kind_113 : decode cX3_kind 113 = .ok (.ifCond .ne 8, 3) := by decide +kernel
theorem dX3_kind_116 : decode cX3_kind 116 = .ok (.iload 4, 2) := by decide +kernel
theorem dX3_kind_118 : decode cX3_kind 118 = .ok (.goto 5, 3) := by decide +kernel
theorem dX3_kind_121 : decode cX3_kind 121 = .ok (.iload 5, 2) := by decide +kernel
theorem dX3_kind_123 : decode cX3_kind 123 = .ok (.ireturn, 1) := by decide +kernel
set_option maxRecDepth 20000 in
theorem ggX3_alms_X2_has : GoodIn wsX3_alms wsX2_has := goodIn_r _ [8, 9, 10, 11, 12, 91, 92, 93, 94, 95, 96, 97, 98, 99, 100, 101, 102, 103] (by decide +kernel) (by decide +kernel)
set_option maxRecDepth 20000 in
theorem gX3_alms_X2_has : GoodIn wsX3_alms (wsV RX3 102 RX2 yX2_has wsX2_has) := goodIn_app (goodIn_of _ (by decide +kernel)) ggX3_alms_X2_has
set_option maxRecDepth 20000 in
theorem ggX3_alms_X3_within : GoodIn wsX3_alms wsX3_within := goodIn_r _ [12] (by decide +kernel) (by decide +kernel)
set_option maxRecDepth 20000 in
theorem gX3_alms_X3_within : GoodIn wsX3_alms (va_wsS RX3 51 yX3_within wsX3_within) := goodIn_app (goodIn_of _ (by decide +kernel)) ggX3_alms_X3_within
set_option maxRecDepth 20000 in
theorem ggX3_alms_X2_become : GoodIn wsX3_alms wsX2_become := goodIn_r _ [17, 9, 18, 19, 20, 21, 22, 23, 24, 25, 26, 27, 28, 29, 30, 31, 32, 33, 91, 92, 93, 94, 95, 96, 97, 98, 99, 100, 101, 102, 103] (by decide +kernel) (by decide +kernel)
set_option maxRecDepth 20000 in
theorem gX3_alms_X2_become : GoodIn wsX3_alms (wsV RX3 76 RX2 yX2_become wsX2_become) := goodIn_app (goodIn_of _ (by decide +kernel)) ggX3_alms_X2_become
set_option maxRecDepth 20000 in
theorem ggX3_alms_X3_bounded : GoodIn wsX3_alms wsX3_bounded := goodIn_r _ [36] (by decide +kernel) (by decide +kernel)
set_option maxRecDepth 20000 in
theorem gX3_alms_X3_bounded : GoodIn wsX3_alms (va_wsS RX3 155 yX3_bounded wsX3_bounded) := goodIn_app (goodIn_of _ (by decide +kernel)) ggX3_alms_X3_bounded
set_option maxRecDepth 20000 in
theorem ggX3_alms_X2_staysUp : GoodIn wsX3_alms wsX2_staysUp := goodIn_r _ [40, 41, 42, 43, 7, 44, 9, 20, 30, 18, 45, 46, 47, 48, 21, 31, 28, 49, 50, 51, 52, 35, 11, 36, 53, 54, 55, 56, 23, 57, 58, 59, 60, 61, 62, 63, 64, 65, 66, 67, 68, 29, 19, 69, 70, 71, 72, 73, 74, 75, 76, 77, 78, 79, 80, 91, 92, 93, 94, 95, 96, 97, 98, 99, 100, 101, 102, 103] (by decide +kernel) (by decide +kernel)
set_option maxRecDepth 20000 in
theorem gX3_alms_X2_staysUp : GoodIn wsX3_alms (wsV RX3 158 RX2 yX2_staysUp wsX2_staysUp) := goodIn_app (goodIn_of _ (by decide +kernel)) ggX3_alms_X2_staysUp
theorem dX3_alms_0 : decode cX3_alms 0 = .ok (.aload_n 0, 1) := by decide +kernel
theorem dX3_alms_1 : decode cX3_alms 1 = .ok (.getfield 19, 3) := by decide +kernel
theorem dX3_alms_4 : decode cX3_alms 4 = .ok (.iload_n 1, 1) := by decide +kernel
theorem dX3_alms_5 : decode cX3_alms 5 = .ok (.invokevirtual 102, 3) := by decide +kernel
theorem dX3_alms_8 : decode cX3_alms 8 = .ok (.ifCond .eq 13, 3) := by decide +kernel
theorem dX3_alms_11 : decode cX3_alms 11 = .ok (.iload_n 2, 1) := by decide +kernel
theorem dX3_alms_12 : decode cX3_alms 12 = .ok (.iconst 0, 1) := by decide +kernel
theorem dX3_alms_13 : decode cX3_alms 13 = .ok (.bipush 60, 2) := by decide +kernel
theorem dX3_alms_15 : decode cX3_alms 15 = .ok (.invokestatic 51, 3) := by decide +kernel
theorem dX3_alms_18 : decode cX3_alms 18 = .ok (.ifCond .ne 5, 3) := by decide +kernel
theorem dX3_alms_21 : decode cX3_alms 21 = .ok (.iconst (-1), 1) := by decide +kernel
theorem dX3_alms_22 : decode cX3_alms 22 = .ok (.ireturn, 1) := by decide +kernel
theorem dX3_alms_23 : decode cX3_alms 23 = .ok (.iconst 0, 1) := by decide +kernel
theorem dX3_alms_24 : decode cX3_alms 24 = .ok (.istore_n 3, 1) := by decide +kernel
theorem dX3_alms_25 : decode cX3_alms 25 = .ok (.iload_n 3, 1) := by decide +kernel
theorem dX3_alms_26 : decode cX3_alms 26 = .ok (.bipush 99, 2) := by decide +kernel
theorem dX3_alms_28 : decode cX3_alms 28 = .ok (.if_icmp .gt 57, 3) := by decide +kernel
theorem dX3_alms_31 : decode cX3_alms 31 = .ok (.aload_n 0, 1) := by decide +kernel
theorem dX3_alms_32 : decode cX3_alms 32 = .ok (.getfield 23, 3) := by decide +kernel
theorem dX3_alms_35 : decode cX3_alms 35 = .ok (.aload_n 0, 1) := by decide +kernel
theorem dX3_alms_36 : decode cX3_alms 36 = .ok (.getfield 19, 3) := by decide +kernel
theorem dX3_alms_39 : decode cX3_alms 39 = .ok (.invokevirtual 76, 3) := by decide +kernel
theorem dX3_alms_42 : decode cX3_alms 42 = .ok (.aload_n 0, 1) := by decide +kernel
theorem dX3_alms_43 : decode cX3_alms 43 = .ok (.getfield 23, 3) := by decide +kernel
theorem dX3_alms_46 : decode cX3_alms 46 = .ok (.getfield 108, 3) := by decide +kernel
theorem dX3_alms_49 : decode cX3_alms 49 = .ok (.iload_n 1, 1) := by decide +kernel
theorem dX3_alms_50 : decode cX3_alms 50 = .ok (.aload_n 0, 1) := by decide +kernel
theorem dX3_alms_51 : decode cX3_alms 51 = .ok (.getfield 19, 3) := by decide +kernel
theorem dX3_alms_54 : decode cX3_alms 54 = .ok (.getfield 108, 3) := by decide +kernel
theorem dX3_alms_57 : decode cX3_alms 57 = .ok (.iload_n 1, 1) := by decide +kernel
theorem dX3_alms_58 : decode cX3_alms 58 = .ok (.iaload, 1) := by decide +kernel
theorem dX3_alms_59 : decode cX3_alms 59 = .ok (.iload_n 3, 1) := by decide +kernel
theorem dX3_alms_60 : decode cX3_alms 60 = .ok (.iadd, 1) := by decide +kernel
theorem dX3_alms_61 : decode cX3_alms 61 = .ok (.invokestatic 155, 3) := by decide +kernel
theorem dX3_alms_64 : decode cX3_alms 64 = .ok (.iastore, 1) := by decide +kernel
theorem dX3_alms_65 : decode cX3_alms 65 = .ok (.aload_n 0, 1) := by decide +kernel
theorem dX3_alms_66 : decode cX3_alms 66 = .ok (.getfield 23, 3) := by decide +kernel
theorem dX3_alms_69 : decode cX3_alms 69 = .ok (.iload_n 1, 1) := by decide +kernel
theorem dX3_alms_70 : decode cX3_alms 70 = .ok (.iload_n 2, 1) := by decide +kernel
theorem dX3_alms_71 : decode cX3_alms 71 = .ok (.invokevirtual 158, 3) := by decide +kernel
theorem dX3_alms_74 : decode cX3_alms 74 = .ok (.ifCond .eq 5, 3) := by decide +kernel
theorem dX3_alms_77 : decode cX3_alms 77 = .ok (.iload_n 3, 1) := by decide +kernel
theorem dX3_alms_78 : decode cX3_alms 78 = .ok (.ireturn, 1) := by decide +kernel
theorem dX3_alms_79 : decode cX3_alms 79 = .ok (.iinc 3 1, 3) := by decide +kernel
theorem dX3_alms_82 : decode cX3_alms 82 = .ok (.goto (-57), 3) := by decide +kernel
theorem dX3_alms_85 : decode cX3_alms 85 = .ok (.bipush (-4), 2) := by decide +kernel
theorem dX3_alms_87 : decode cX3_alms 87 = .ok (.ireturn, 1) := by decide +kernel
set_option maxRecDepth 20000 in
theorem ggX3_help_X3_within : GoodIn wsX3_help wsX3_within := goodIn_r _ [7] (by decide +kernel) (by decide +kernel)
set_option maxRecDepth 20000 in
theorem gX3_help_X3_within : GoodIn wsX3_help (va_wsS RX3 51 yX3_within wsX3_within) := goodIn_app (goodIn_of _ (by decide +kernel)) ggX3_help_X3_within
set_option maxRecDepth 20000 in
theorem ggX3_help_X3_ruinedBehind : GoodIn wsX3_help wsX3_ruinedBehind := goodIn_r _ [11, 12, 1, 13, 14, 15, 16, 17, 18, 19, 20, 21, 22, 23, 24, 25, 26, 27, 28, 29, 30, 31, 32, 33, 34, 35, 36, 37, 38, 39, 40, 41, 42, 43, 44, 45, 46, 47, 48, 49, 50, 51, 6, 52, 53, 54, 55, 56, 57, 58, 59, 60, 61, 62, 63, 64, 65, 66, 67, 68, 69, 70, 71, 72, 73, 74, 75, 76, 77, 78, 79, 80, 81, 82, 83, 84, 85, 86, 87, 88, 89, 90, 91, 92, 93, 94, 95, 105, 106, 107, 108, 109, 110, 111, 112, 113, 114, 115, 116, 117, 118, 119, 120, 121, 122, 123, 124, 125, 126, 127] (by decide +kernel) (by decide +kernel)
set_option maxRecDepth 20000 in
theorem gX3_help_X3_ruinedBehind : GoodIn wsX3_help (wsV RX3 162 RX3 yX3_ruinedBehind wsX3_ruinedBehind) := goodIn_app (goodIn_of _ (by decide +kernel)) ggX3_help_X3_ruinedBehind
set_option maxRecDepth 20000 in
theorem ggX3_help_X3_ruinedByGift : GoodIn wsX3_help wsX3_ruinedByGift := goodIn_r _ [99, 12, 1, 100, 13, 14, 15, 16, 17, 18, 19, 20, 21, 22, 23, 24, 25, 26, 27, 28, 29, 30, 31, 32, 33, 34, 101, 102, 103, 104, 35, 36, 37, 38, 39, 40, 41, 42, 43, 44, 45, 46, 47, 48, 49, 50, 51, 6, 52, 53, 54, 55, 56, 57, 58, 59, 60, 61, 62, 63, 64, 65, 66, 67, 68, 69, 70, 71, 72, 73, 74, 75, 76, 77, 78, 79, 80, 81, 82, 83, 84, 85, 86, 87, 88, 89, 90, 91, 92, 93, 94, 95, 105, 106, 107, 108, 109, 110, 111, 112, 113, 114, 115, 116, 117, 118, 119, 120, 121, 122, 123, 124, 125, 126, 127] (by decide +kernel) (by decide +kernel)
set_option maxRecDepth 20000 in
theorem gX3_help_X3_ruinedByGift : GoodIn wsX3_help (wsV RX3 165 RX3 yX3_ruinedByGift wsX3_ruinedByGift) := goodIn_app (goodIn_of _ (by decide +kernel)) ggX3_help_X3_ruinedByGift
theorem dX3_help_0 : decode cX3_help 0 = .ok (.iload_n 1, 1) := by decide +kernel
theorem dX3_help_1 : decode cX3_help 1 = .ok (.iconst 0, 1) := by decide +kernel
theorem dX3_help_2 : decode cX3_help 2 = .ok (.bipush 20, 2) := by decide +kernel
theorem dX3_help_4 : decode cX3_help 4 = .ok (.invokestatic 51, 3) := by decide +kernel
theorem dX3_help_7 : decode cX3_help 7 = .ok (.ifCond .eq 12, 3) := by decide +kernel
theorem dX3_help_10 : decode cX3_help 10 = .ok (.iload_n 2, 1) := by decide +kernel
theorem dX3_help_11 : decode cX3_help 11 = .ok (.iconst 0, 1) := by decide +kernel
theorem dX3_help_12 : decode cX3_help 12 = .ok (.iconst 1, 1) := by decide +kernel
theorem dX3_help_13 : decode cX3_help 13 = .ok (.invokestatic 51, 3) := by decide +kernel
theorem dX3_help_16 : decode cX3_help 16 = .ok (.ifCond .ne 5, 3) := by decide +kernel
theorem dX3_help_19 : decode cX3_help 19 = .ok (.iconst (-1), 1) := by decide +kernel
theorem dX3_help_20 : decode cX3_help 20 = .ok (.ireturn, 1) := by decide +kernel
theorem dX3_help_21 : decode cX3_help 21 = .ok (.aload_n 0, 1) := by decide +kernel
theorem dX3_help_22 : decode cX3_help 22 = .ok (.getfield 19, 3) := by decide +kernel
theorem dX3_help_25 : decode cX3_help 25 = .ok (.getfield 99, 3) := by decide +kernel
theorem dX3_help_28 : decode cX3_help 28 = .ok (.iconst 4, 1) := by decide +kernel
theorem dX3_help_29 : decode cX3_help 29 = .ok (.if_icmp .lt 6, 3) := by decide +kernel
theorem dX3_help_32 : decode cX3_help 32 = .ok (.bipush (-3), 2) := by decide +kernel
theorem dX3_help_34 : decode cX3_help 34 = .ok (.ireturn, 1) := by decide +kernel
theorem dX3_help_35 : decode cX3_help 35 = .ok (.bipush (-4), 2) := by decide +kernel
theorem dX3_help_37 : decode cX3_help 37 = .ok (.istore_n 3, 1) := by decide +kernel
theorem dX3_help_38 : decode cX3_help 38 = .ok (.aload_n 0, 1) := by decide +kernel
theorem dX3_help_39 : decode cX3_help 39 = .ok (.iload_n 1, 1) := by decide +kernel
theorem dX3_help_40 : decode cX3_help 40 = .ok (.invokevirtual 162, 3) := by decide +kernel
theorem dX3_help_43 : decode cX3_help 43 = .ok (.istore 4, 2) := by decide +kernel
theorem dX3_help_45 : decode cX3_help 45 = .ok (.iconst 0, 1) := by decide +kernel
theorem dX3_help_46 : decode cX3_help 46 = .ok (.istore 5, 2) := by decide +kernel
theorem dX3_help_48 : decode cX3_help 48 = .ok (.iload 5, 2) := by decide +kernel
theorem dX3_help_50 : decode cX3_help 50 = .ok (.aload_n 0, 1) := by decide +kernel
theorem dX3_help_51 : decode cX3_help 51 = .ok (.getfield 19, 3) := by decide +kernel
theorem dX3_help_54 : decode cX3_help 54 = .ok (.getfield 80, 3) := by decide +kernel
theorem dX3_help_57 : decode cX3_help 57 = .ok (.if_icmp .ge 93, 3) := by decide +kernel
theorem dX3_help_60 : decode cX3_help 60 = .ok (.iconst 0, 1) := by decide +kernel
theorem dX3_help_61 : decode cX3_help 61 = .ok (.istore 6, 2) := by decide +kernel
theorem dX3_help_63 : decode cX3_help 63 = .ok (.iload 6, 2) := by decide +kernel
theorem dX3_help_65 : decode cX3_help 65 = .ok (.aload_n 0, 1) := by decide +kernel
theorem dX3_help_66 : decode cX3_help 66 = .ok (.getfield 19, 3) := by decide +kernel
theorem dX3_help_69 : decode cX3_help 69 = .ok (.getfield 80, 3) := by decide +kernel
theorem dX3_help_72 : decode cX3_help 72 = .ok (.if_icmp .ge 72, 3) := by decide +kernel
theorem dX3_help_75 : decode cX3_help 75 = .ok (.iconst 1, 1) := by decide +kernel
theorem dX3_help_76 : decode cX3_help 76 = .ok (.istore 7, 2) := by decide +kernel
theorem dX3_help_78 : decode cX3_help 78 = .ok (.iload 7, 2) := by decide +kernel
theorem dX3_help_80 : decode cX3_help 80 = .ok (.bipush 20, 2) := by decide +kernel
theorem dX3_help_82 : decode cX3_help 82 = .ok (.if_icmp .gt 56, 3) := by decide +kernel
theorem dX3_help_85 : decode cX3_help 85 = .ok (.iload 6, 2) := by decide +kernel
theorem dX3_help_87 : decode cX3_help 87 = .ok (.iload 5, 2) := by decide +kernel
theorem dX3_help_89 : decode cX3_help 89 = .ok (.if_icmp .eq 49, 3) := by decide +kernel
theorem dX3_help_92 : decode cX3_help 92 = .ok (.aload_n 0, 1) := by decide +kernel
theorem dX3_help_93 : decode cX3_help 93 = .ok (.iload 5, 2) := by decide +kernel
theorem dX3_help_95 : decode cX3_help 95 = .ok (.iload 6, 2) := by decide +kernel
theorem dX3_help_97 : decode cX3_help 97 = .ok (.iload 7, 2) := by decide +kernel
theorem dX3_help_99 : decode cX3_help 99 = .ok (.iload_n 1, 1) := by decide +kernel
theorem dX3_help_100 : decode cX3_help 100 = .ok (.invokevirtual 165, 3) := by decide +kernel
theorem dX3_help_103 : decode cX3_help 103 = .ok (.istore 8, 2) := by decide +kernel
theorem dX3_help_105 : decode cX3_help 105 = .ok (.iload 8, 2) := by decide +kernel
theorem dX3_help_107 : decode cX3_help 107 = .ok (.iload 4, 2) := by decide +kernel
theorem dX3_help_109 : decode cX3_help 109 = .ok (.if_icmp .ge 23, 3) := by decide +kernel
theorem dX3_help_112 : decode cX3_help 112 = .ok (.sipush 1000, 3) := by decide +kernel
theorem dX3_help_115 : decode cX3_help 115 = .ok (.iload 5, 2) := by decide +kernel
theorem dX3_help_117 : decode cX3_help 117 = .ok (.imul, 1) := by decide +kernel
theorem dX3_help_118 : decode cX3_help 118 = .ok (.bipush 100, 2) := by decide +kernel
theorem dX3_help_120 : decode cX3_help 120 = .ok (.iload 6, 2) := by decide +kernel
theorem dX3_help_122 : decode cX3_help 122 = .ok (.imul, 1) := by decide +kernel
theorem dX3_help_123 : decode cX3_help 123 = .ok (.iadd, 1) := by decide +kernel
theorem dX3_help_124 : decode cX3_help 124 = .ok (.iload 7, 2) := by decide +kernel
theorem dX3_help_126 : decode cX3_help 126 = .ok (.iadd, 1) := by decide +kernel
theorem dX3_help_127 : decode cX3_help 127 = .ok (.istore_n 3, 1) := by decide +kernel
theorem dX3_help_128 : decode cX3_help 128 = .ok (.iload 8, 2) := by decide +kernel
theorem dX3_help_130 : decode cX3_help 130 = .ok (.istore 4, 2) := by decide +kernel
theorem dX3_help_132 : decode cX3_help 132 = .ok (.iinc 7 1, 3) := by decide +kernel
theorem dX3_help_135 : decode cX3_help 135 = .ok (.goto (-57), 3) := by decide +kernel
theorem dX3_help_138 : decode cX3_help 138 = .ok (.iinc 6 1, 3) := by decide +kernel
theorem dX3_help_141 : decode cX3_help 141 = .ok (.goto (-78), 3) := by decide +kernel
theorem dX3_help_144 : decode cX3_help 144 = .ok (.iinc 5 1, 3) := by decide +kernel
theorem dX3_help_147 : decode cX3_help 147 = .ok (.goto (-99), 3) := by decide +kernel
theorem dX3_help_150 : decode cX3_help 150 = .ok (.iload_n 3, 1) := by decide +kernel
theorem dX3_help_151 : decode cX3_help 151 = .ok (.bipush (-4), 2) := by decide +kernel
theorem dX3_help_153 : decode cX3_help 153 = .ok (.if_icmp .eq 7, 3) := by decide +kernel
theorem dX3_help_156 : decode cX3_help 156 = .ok (.iload_n 2, 1) := by decide +kernel
theorem dX3_help_157 : decode cX3_help 157 = .ok (.ifCond .ne 7, 3) := by decide +kernel
theorem dX3_help_160 : decode cX3_help 160 = .ok (.iload_n 3, 1) := by decide +kernel
theorem dX3_help_161 : decode cX3_help 161 = .ok (.goto 5, 3) := by decide +kernel
theorem dX3_help_164 : decode cX3_help 164 = .ok (.iload 4, 2) := by decide +kernel
theorem dX3_help_166 : decode cX3_help 166 = .ok (.ireturn, 1) := by decide +kernel
set_option maxRecDepth 20000 in
theorem ggX3_swap_X3_within : GoodIn wsX3_swap wsX3_within := goodIn_r _ [6] (by decide +kernel) (by decide +kernel)
set_option maxRecDepth 20000 in
theorem gX3_swap_X3_within : GoodIn wsX3_swap (va_wsS RX3 51 yX3_within wsX3_within) := goodIn_app (goodIn_of _ (by decide +kernel)) ggX3_swap_X3_within
set_option maxRecDepth 20000 in
theorem ggX3_swap_X3_ruinedBehind : GoodIn wsX3_swap wsX3_ruinedBehind := goodIn_r _ [10, 11, 1, 12, 13, 14, 15, 16, 17, 18, 19, 20, 21, 22, 23, 24, 25, 26, 27, 28, 29, 30, 31, 32, 33, 34, 35, 36, 37, 38, 39, 40, 41, 42, 43, 44, 45, 46, 47, 48, 49, 50, 5, 51, 52, 53, 54, 55, 56, 57, 58, 59, 60, 61, 62, 63, 64, 65, 66, 67, 68, 69, 70, 71, 72, 73, 74, 75, 76, 77, 78, 79, 80, 81, 82, 83, 84, 85, 86, 87, 88, 89, 90, 91, 92, 93, 94, 100, 101, 102, 103, 104, 105, 106, 107, 108, 109, 110, 111, 112, 113, 114, 115, 116, 117, 118, 119, 120, 121, 122] (by decide +kernel) (by decide +kernel)
set_option maxRecDepth 20000 in
theorem gX3_swap_X3_ruinedBehind : GoodIn wsX3_swap (wsV RX3 162 RX3 yX3_ruinedBehind wsX3_ruinedBehind) := goodIn_app (goodIn_of _ (by decide +kernel)) ggX3_swap_X3_ruinedBehind
set_option maxRecDepth 20000 in
theorem ggX3_swap_X3_ruinedBySwap : GoodIn wsX3_swap wsX3_ruinedBySwap := goodIn_r _ [98, 11, 1, 99, 12, 13, 14, 15, 16, 17, 18, 19, 20, 21, 22, 23, 24, 25, 26, 27, 28, 29, 30, 31, 32, 33, 34, 35, 36, 37, 38, 39, 40, 41, 42, 43, 44, 45, 46, 47, 48, 49, 50, 5, 51, 52, 53, 54, 55, 56, 57, 58, 59, 60, 61, 62, 63, 64, 65, 66, 67, 68, 69, 70, 71, 72, 73, 74, 75, 76, 77, 78, 79, 80, 81, 82, 83, 84, 85, 86, 87, 88, 89, 90, 91, 92, 93, 94, 100, 101, 102, 103, 104, 105, 106, 107, 108, 109, 110, 111, 112, 113, 114, 115, 116, 117, 118, 119, 120, 121, 122] (by decide +kernel) (by decide +kernel)
set_option maxRecDepth 20000 in
theorem gX3_swap_X3_ruinedBySwap : GoodIn wsX3_swap (wsV RX3 169 RX3 yX3_ruinedBySwap wsX3_ruinedBySwap) := goodIn_app (goodIn_of _ (by decide +kernel)) ggX3_swap_X3_ruinedBySwap
theorem dX3_swap_0 : decode cX3_swap 0 = .ok (.iload_n 1, 1) := by decide +kernel
theorem dX3_swap_1 : decode cX3_swap 1 = .ok (.iconst 0, 1) := by decide +kernel
theorem dX3_swap_2 : decode cX3_swap 2 = .ok (.bipush 60, 2) := by decide +kernel
theorem dX3_swap_4 : decode cX3_swap 4 = .ok (.invokestatic 51, 3) := by decide +kernel
theorem dX3_swap_7 : decode cX3_swap 7 = .ok (.ifCond .eq 12, 3) := by decide +kernel
theorem dX3_swap_10 : decode cX3_swap 10 = .ok (.iload_n 2, 1) := by decide +kernel
theorem dX3_swap_11 : decode cX3_swap 11 = .ok (.iconst 0, 1) := by decide +kernel
theorem dX3_swap_12 : decode cX3_swap 12 = .ok (.iconst 1, 1) := by decide +kernel
theorem dX3_swap_13 : decode cX3_swap 13 = .ok (.invokestatic 51, 3) := by decide +kernel
theorem dX3_swap_16 : decode cX3_swap 16 = .ok (.ifCond .ne 5, 3) := by decide +kernel
theorem dX3_swap_19 : decode cX3_swap 19 = .ok (.iconst (-1), 1) := by decide +kernel
theorem dX3_swap_20 : decode cX3_swap 20 = .ok (.ireturn, 1) := by decide +kernel
theorem dX3_swap_21 : decode cX3_swap 21 = .ok (.bipush (-4), 2) := by decide +kernel
theorem dX3_swap_23 : decode cX3_swap 23 = .ok (.istore_n 3, 1) := by decide +kernel
theorem dX3_swap_24 : decode cX3_swap 24 = .ok (.aload_n 0, 1) := by decide +kernel
theorem dX3_swap_25 : decode cX3_swap 25 = .ok (.iload_n 1, 1) := by decide +kernel
theorem dX3_swap_26 : decode cX3_swap 26 = .ok (.invokevirtual 162, 3) := by decide +kernel
theorem dX3_swap_29 : decode cX3_swap 29 = .ok (.istore 4, 2) := by decide +kernel
theorem dX3_swap_31 : decode cX3_swap 31 = .ok (.iconst 0, 1) := by decide +kernel
theorem dX3_swap_32 : decode cX3_swap 32 = .ok (.istore 5, 2) := by decide +kernel
theorem dX3_swap_34 : decode cX3_swap 34 = .ok (.iload 5, 2) := by decide +kernel
theorem dX3_swap_36 : decode cX3_swap 36 = .ok (.aload_n 0, 1) := by decide +kernel
theorem dX3_swap_37 : decode cX3_swap 37 = .ok (.getfield 19, 3) := by decide +kernel
theorem dX3_swap_40 : decode cX3_swap 40 = .ok (.getfield 80, 3) := by decide +kernel
theorem dX3_swap_43 : decode cX3_swap 43 = .ok (.if_icmp .ge 64, 3) := by decide +kernel
theorem dX3_swap_46 : decode cX3_swap 46 = .ok (.iload 5, 2) := by decide +kernel
theorem dX3_swap_48 : decode cX3_swap 48 = .ok (.iconst 1, 1) := by decide +kernel
theorem dX3_swap_49 : decode cX3_swap 49 = .ok (.iadd, 1) := by decide +kernel
theorem dX3_swap_50 : decode cX3_swap 50 = .ok (.istore 6, 2) := by decide +kernel
theorem dX3_swap_52 : decode cX3_swap 52 = .ok (.iload 6, 2) := by decide +kernel
theorem dX3_swap_54 : decode cX3_swap 54 = .ok (.aload_n 0, 1) := by decide +kernel
theorem dX3_swap_55 : decode cX3_swap 55 = .ok (.getfield 19, 3) := by decide +kernel
theorem dX3_swap_58 : decode cX3_swap 58 = .ok (.getfield 80, 3) := by decide +kernel
theorem dX3_swap_61 : decode cX3_swap 61 = .ok (.if_icmp .ge 40, 3) := by decide +kernel
theorem dX3_swap_64 : decode cX3_swap 64 = .ok (.aload_n 0, 1) := by decide +kernel
theorem dX3_swap_65 : decode cX3_swap 65 = .ok (.iload 5, 2) := by decide +kernel
theorem dX3_swap_67 : decode cX3_swap 67 = .ok (.iload 6, 2) := by decide +kernel
theorem dX3_swap_69 : decode cX3_swap 69 = .ok (.iload_n 1, 1) := by decide +kernel
theorem dX3_swap_70 : decode cX3_swap 70 = .ok (.invokevirtual 169, 3) := by decide +kernel
theorem dX3_swap_73 : decode cX3_swap 73 = .ok (.istore 7, 2) := by decide +kernel
theorem dX3_swap_75 : decode cX3_swap 75 = .ok (.iload 7, 2) := by decide +kernel
theorem dX3_swap_77 : decode cX3_swap 77 = .ok (.iload 4, 2) := by decide +kernel
theorem dX3_swap_79 : decode cX3_swap 79 = .ok (.if_icmp .ge 16, 3) := by decide +kernel
theorem dX3_swap_82 : decode cX3_swap 82 = .ok (.bipush 10, 2) := by decide +kernel
theorem dX3_swap_84 : decode cX3_swap 84 = .ok (.iload 5, 2) := by decide +kernel
theorem dX3_swap_86 : decode cX3_swap 86 = .ok (.imul, 1) := by decide +kernel
theorem dX3_swap_87 : decode cX3_swap 87 = .ok (.iload 6, 2) := by decide +kernel
theorem dX3_swap_89 : decode cX3_swap 89 = .ok (.iadd, 1) := by decide +kernel
theorem dX3_swap_90 : decode cX3_swap 90 = .ok (.istore_n 3, 1) := by decide +kernel
theorem dX3_swap_91 : decode cX3_swap 91 = .ok (.iload 7, 2) := by decide +kernel
theorem dX3_swap_93 : decode cX3_swap 93 = .ok (.istore 4, 2) := by decide +kernel
theorem dX3_swap_95 : decode cX3_swap 95 = .ok (.iinc 6 1, 3) := by decide +kernel
theorem dX3_swap_98 : decode cX3_swap 98 = .ok (.goto (-46), 3) := by decide +kernel
theorem dX3_swap_101 : decode cX3_swap 101 = .ok (.iinc 5 1, 3) := by decide +kernel
theorem dX3_swap_104 : decode cX3_swap 104 = .ok (.goto (-70), 3) := by decide +kernel
theorem dX3_swap_107 : decode cX3_swap 107 = .ok (.iload_n 3, 1) := by decide +kernel
theorem dX3_swap_108 : decode cX3_swap 108 = .ok (.bipush (-4), 2) := by decide +kernel
theorem dX3_swap_110 : decode cX3_swap 110 = .ok (.if_icmp .eq 7, 3) := by decide +kernel
theorem dX3_swap_113 : decode cX3_swap 113 = .ok (.iload_n 2, 1) := by decide +kernel
theorem dX3_swap_114 : decode cX3_swap 114 = .ok (.ifCond .ne 7, 3) := by decide +kernel
theorem dX3_swap_117 : decode cX3_swap 117 = .ok (.iload_n 3, 1) := by decide +kernel
theorem dX3_swap_118 : decode cX3_swap 118 = .ok (.goto 5, 3) := by decide +kernel
theorem dX3_swap_121 : decode cX3_swap 121 = .ok (.iload 4, 2) := by decide +kernel
theorem dX3_swap_123 : decode cX3_swap 123 = .ok (.ireturn, 1) := by decide +kernel
set_option maxRecDepth 20000 in
theorem ggX3_luck_X3_byOdds : GoodIn wsX3_luck wsX3_byOdds := goodIn_r _ [5, 6, 7, 8, 9, 10, 11, 12, 13, 4, 14, 15, 16, 17, 18, 19, 20, 21, 22, 23, 24, 25, 26, 27, 28, 29, 30, 31, 32, 33, 34, 35, 36, 37, 38, 39, 40, 41, 42, 43, 44, 45, 46, 47, 48, 49, 50, 51, 52, 53, 54, 55, 56, 57, 58, 59, 60, 61, 62, 63, 64, 65, 66, 67, 68, 69, 70, 71, 72, 73, 74, 75, 76, 77, 78, 79, 80, 81, 82, 83, 84, 85, 86, 87, 88, 89, 90, 91, 92, 93, 94, 95, 96, 97, 98, 99, 100, 101, 102, 103, 104, 105, 106, 107, 108, 109, 110, 111, 112, 113, 114, 115, 116, 117, 118, 119] (by decide +kernel) (by decide +kernel)
set_option maxRecDepth 20000 in
theorem gX3_luck_X3_byOdds : GoodIn wsX3_luck (wsV RX3 173 RX3 yX3_byOdds wsX3_byOdds) := goodIn_app (goodIn_of _ (by decide +kernel)) ggX3_luck_X3_byOdds
theorem dX3_luck_0 : decode cX3_luck 0 = .ok (.aload_n 0, 1) := by decide +kernel
theorem dX3_luck_1 : decode cX3_luck 1 = .ok (.iload_n 1, 1) := by decide +kernel
theorem dX3_luck_2 : decode cX3_luck 2 = .ok (.iload_n 2, 1) := by decide +kernel
theorem dX3_luck_3 : decode cX3_luck 3 = .ok (.iload_n 3, 1) := by decide +kernel
theorem dX3_luck_4 : decode cX3_luck 4 = .ok (.iload 4, 2) := by decide +kernel
theorem dX3_luck_6 : decode cX3_luck 6 = .ok (.iconst 0, 1) := by decide +kernel
theorem dX3_luck_7 : decode cX3_luck 7 = .ok (.invokevirtual 173, 3) := by decide +kernel
theorem dX3_luck_10 : decode cX3_luck 10 = .ok (.lreturn, 1) := by decide +kernel
set_option maxRecDepth 20000 in
theorem ggX3_mean_X3_byOdds : GoodIn wsX3_mean wsX3_byOdds := goodIn_r _ [5, 6, 7, 8, 9, 10, 11, 12, 13, 4, 14, 15, 16, 17, 18, 19, 20, 21, 22, 23, 24, 25, 26, 27, 28, 29, 30, 31, 32, 33, 34, 35, 36, 37, 38, 39, 40, 41, 42, 43, 44, 45, 46, 47, 48, 49, 50, 51, 52, 53, 54, 55, 56, 57, 58, 59, 60, 61, 62, 63, 64, 65, 66, 67, 68, 69, 70, 71, 72, 73, 74, 75, 76, 77, 78, 79, 80, 81, 82, 83, 84, 85, 86, 87, 88, 89, 90, 91, 92, 93, 94, 95, 96, 97, 98, 99, 100, 101, 102, 103, 104, 105, 106, 107, 108, 109, 110, 111, 112, 113, 114, 115, 116, 117, 118, 119] (by decide +kernel) (by decide +kernel)
set_option maxRecDepth 20000 in
theorem gX3_mean_X3_byOdds : GoodIn wsX3_mean (wsV RX3 173 RX3 yX3_byOdds wsX3_byOdds) := goodIn_app (goodIn_of _ (by decide +kernel)) ggX3_mean_X3_byOdds
theorem dX3_mean_0 : decode cX3_mean 0 = .ok (.aload_n 0, 1) := by decide +kernel
theorem dX3_mean_1 : decode cX3_mean 1 = .ok (.iload_n 1, 1) := by decide +kernel
theorem dX3_mean_2 : decode cX3_mean 2 = .ok (.iload_n 2, 1) := by decide +kernel
theorem dX3_mean_3 : decode cX3_mean 3 = .ok (.iload_n 3, 1) := by decide +kernel
theorem dX3_mean_4 : decode cX3_mean 4 = .ok (.iload 4, 2) := by decide +kernel
theorem dX3_mean_6 : decode cX3_mean 6 = .ok (.iconst 1, 1) := by decide +kernel
theorem dX3_mean_7 : decode cX3_mean 7 = .ok (.invokevirtual 173, 3) := by decide +kernel
theorem dX3_mean_10 : decode cX3_mean 10 = .ok (.lreturn, 1) := by decide +kernel
set_option maxRecDepth 20000 in
theorem ggX3_see_X3_within : GoodIn wsX3_see wsX3_within := goodIn_r _ [6] (by decide +kernel) (by decide +kernel)
set_option maxRecDepth 20000 in
theorem gX3_see_X3_within : GoodIn wsX3_see (va_wsS RX3 51 yX3_within wsX3_within) := goodIn_app (goodIn_of _ (by decide +kernel)) ggX3_see_X3_within
set_option maxRecDepth 20000 in
theorem ggX3_see_X2_has : GoodIn wsX3_see wsX2_has := goodIn_r _ [11, 12, 4, 5, 6, 30, 31, 32, 33, 34, 35, 36, 37, 38, 39, 40, 41, 42] (by decide +kernel) (by decide +kernel)
set_option maxRecDepth 20000 in
theorem gX3_see_X2_has : GoodIn wsX3_see (wsV RX3 102 RX2 yX2_has wsX2_has) := goodIn_app (goodIn_of _ (by decide +kernel)) ggX3_see_X2_has
set_option maxRecDepth 20000 in
theorem ggX3_see_X2_addSeen : GoodIn wsX3_see wsX2_addSeen := goodIn_r _ [16, 17, 18, 19, 30, 31, 32, 33, 34, 35, 36, 37, 38, 39, 40, 41, 42] (by decide +kernel) (by decide +kernel)
set_option maxRecDepth 20000 in
theorem gX3_see_X2_addSeen : GoodIn wsX3_see (wsV RX3 177 RX2 yX2_addSeen wsX2_addSeen) := goodIn_app (goodIn_of _ (by decide +kernel)) ggX3_see_X2_addSeen
theorem dX3_see_0 : decode cX3_see 0 = .ok (.iload_n 1, 1) := by decide +kernel
theorem dX3_see_1 : decode cX3_see 1 = .ok (.iconst 0, 1) := by decide +kernel
theorem dX3_see_2 : decode cX3_see 2 = .ok (.bipush 20, 2) := by decide +kernel
theorem dX3_see_4 : decode cX3_see 4 = .ok (.invokestatic 51, 3) := by decide +kernel
theorem dX3_see_7 : decode cX3_see 7 = .ok (.ifCond .eq 14, 3) := by decide +kernel
theorem dX3_see_10 : decode cX3_see 10 = .ok (.aload_n 0, 1) := by decide +kernel
theorem dX3_see_11 : decode cX3_see 11 = .ok (.getfield 19, 3) := by decide +kernel
theorem dX3_see_14 : decode cX3_see 14 = .ok (.iload_n 2, 1) := by decide +kernel
theorem dX3_see_15 : decode cX3_see 15 = .ok (.invokevirtual 102, 3) := by decide +kernel
theorem dX3_see_18 : decode cX3_see 18 = .ok (.ifCond .ne 5, 3) := by decide +kernel
theorem dX3_see_21 : decode cX3_see 21 = .ok (.iconst (-1), 1) := by decide +kernel
theorem dX3_see_22 : decode cX3_see 22 = .ok (.ireturn, 1) := by decide +kernel
theorem dX3_see_23 : decode cX3_see 23 = .ok (.aload_n 0, 1) := by decide +kernel
theorem dX3_see_24 : decode cX3_see 24 = .ok (.getfield 19, 3) := by decide +kernel
theorem dX3_see_27 : decode cX3_see 27 = .ok (.iload_n 1, 1) := by decide +kernel
theorem dX3_see_28 : decode cX3_see 28 = .ok (.iload_n 2, 1) := by decide +kernel
theorem dX3_see_29 : decode cX3_see 29 = .ok (.invokevirtual 177, 3) := by decide +kernel
theorem dX3_see_32 : decode cX3_see 32 = .ok (.ifCond .eq 13, 3) := by decide +kernel
theorem dX3_see_35 : decode cX3_see 35 = .ok (.aload_n 0, 1) := by decide +kernel
theorem dX3_see_36 : decode cX3_see 36 = .ok (.getfield 19, 3) := by decide +kernel
theorem dX3_see_39 : decode cX3_see 39 = .ok (.getfield 180, 3) := by decide +kernel
theorem dX3_see_42 : decode cX3_see 42 = .ok (.goto 5, 3) := by decide +kernel
theorem dX3_see_45 : decode cX3_see 45 = .ok (.bipush (-3), 2) := by decide +kernel
theorem dX3_see_47 : decode cX3_see 47 = .ok (.ireturn, 1) := by decide +kernel
set_option maxRecDepth 20000 in
theorem ggX3_forget_X3_within : GoodIn wsX3_forget wsX3_within := goodIn_r _ [6] (by decide +kernel) (by decide +kernel)
set_option maxRecDepth 20000 in
theorem gX3_forget_X3_within : GoodIn wsX3_forget (va_wsS RX3 51 yX3_within wsX3_within) := goodIn_app (goodIn_of _ (by decide +kernel)) ggX3_forget_X3_within
theorem dX3_forget_0 : decode cX3_forget 0 = .ok (.iload_n 1, 1) := by decide +kernel
theorem dX3_forget_1 : decode cX3_forget 1 = .ok (.iconst 0, 1) := by decide +kernel
theorem dX3_forget_2 : decode cX3_forget 2 = .ok (.aload_n 0, 1) := by decide +kernel
theorem dX3_forget_3 : decode cX3_forget 3 = .ok (.getfield 19, 3) := by decide +kernel
theorem dX3_forget_6 : decode cX3_forget 6 = .ok (.getfield 180, 3) := by decide +kernel
theorem dX3_forget_9 : decode cX3_forget 9 = .ok (.invokestatic 51, 3) := by decide +kernel
theorem dX3_forget_12 : decode cX3_forget 12 = .ok (.ifCond .ne 5, 3) := by decide +kernel
theorem dX3_forget_15 : decode cX3_forget 15 = .ok (.iconst (-1), 1) := by decide +kernel
theorem dX3_forget_16 : decode cX3_forget 16 = .ok (.ireturn, 1) := by decide +kernel
theorem dX3_forget_17 : decode cX3_forget 17 = .ok (.aload_n 0, 1) := by decide +kernel
theorem dX3_forget_18 : decode cX3_forget 18 = .ok (.getfield 19, 3) := by decide +kernel
theorem dX3_forget_21 : decode cX3_forget 21 = .ok (.getfield 180, 3) := by decide +kernel
theorem dX3_forget_24 : decode cX3_forget 24 = .ok (.istore_n 2, 1) := by decide +kernel
theorem dX3_forget_25 : decode cX3_forget 25 = .ok (.aload_n 0, 1) := by decide +kernel
theorem dX3_forget_26 : decode cX3_forget 26 = .ok (.getfield 19, 3) := by decide +kernel
theorem dX3_forget_29 : decode cX3_forget 29 = .ok (.iload_n 1, 1) := by decide +kernel
theorem dX3_forget_30 : decode cX3_forget 30 = .ok (.putfield 180, 3) := by decide +kernel
theorem dX3_forget_33 : decode cX3_forget 33 = .ok (.iload_n 2, 1) := by decide +kernel
theorem dX3_forget_34 : decode cX3_forget 34 = .ok (.ireturn, 1) := by decide +kernel
set_option maxRecDepth 20000 in
theorem ggX3_kinds_X2_has : GoodIn wsX3_kinds wsX2_has := goodIn_r _ [9, 10, 11, 12, 13, 94, 95, 96, 97, 98, 99, 100, 101, 102, 103, 104, 105, 106] (by decide +kernel) (by decide +kernel)
set_option maxRecDepth 20000 in
theorem gX3_kinds_X2_has : GoodIn wsX3_kinds (wsV RX3 102 RX2 yX2_has wsX2_has) := goodIn_app (goodIn_of _ (by decide +kernel)) ggX3_kinds_X2_has
set_option maxRecDepth 20000 in
theorem ggX3_kinds_X2_become : GoodIn wsX3_kinds wsX2_become := goodIn_r _ [17, 10, 18, 19, 20, 21, 22, 23, 24, 25, 26, 27, 28, 29, 30, 31, 32, 33, 94, 95, 96, 97, 98, 99, 100, 101, 102, 103, 104, 105, 106] (by decide +kernel) (by decide +kernel)
set_option maxRecDepth 20000 in
theorem gX3_kinds_X2_become : GoodIn wsX3_kinds (wsV RX3 76 RX2 yX2_become wsX2_become) := goodIn_app (goodIn_of _ (by decide +kernel)) ggX3_kinds_X2_become
set_option maxRecDepth 20000 in
theorem ggX3_kinds_X2_trace : GoodIn wsX3_kinds wsX2_trace := goodIn_r _ [37, 20, 38, 39, 40, 8, 41, 10, 30, 18, 42, 43, 44, 45, 21, 31, 28, 46, 47, 48, 49, 50, 12, 51, 52, 53, 54, 55, 23, 56, 57, 58, 59, 60, 61, 62, 63, 64, 65, 66, 67, 29, 19, 68, 69, 70, 71, 72, 73, 74, 75, 76, 77, 78, 79, 94, 95, 96, 97, 98, 99, 100, 101, 102, 103, 104, 105, 106] (by decide +kernel) (by decide +kernel)
set_option maxRecDepth 20000 in
theorem gX3_kinds_X2_trace : GoodIn wsX3_kinds (wsV RX3 183 RX2 yX2_trace wsX2_trace) := goodIn_app (goodIn_of _ (by decide +kernel)) ggX3_kinds_X2_trace
set_option maxRecDepth 20000 in
theorem ggX3_kinds_X2_isAsSeen : GoodIn wsX3_kinds wsX2_isAsSeen := goodIn_r _ [83, 22, 32, 33, 94, 95, 96, 97, 98, 99, 100, 101, 102, 103, 104, 105, 106] (by decide +kernel) (by decide +kernel)
set_option maxRecDepth 20000 in
theorem gX3_kinds_X2_isAsSeen : GoodIn wsX3_kinds (wsV RX3 187 RX2 yX2_isAsSeen wsX2_isAsSeen) := goodIn_app (goodIn_of _ (by decide +kernel)) ggX3_kinds_X2_isAsSeen
theorem dX3_kinds_0 : decode cX3_kinds 0 = .ok (.aload_n 0, 1) := by decide +kernel
theorem dX3_kinds_1 : decode cX3_kinds 1 = .ok (.getfield 19, 3) := by decide +kernel
theorem dX3_kinds_4 : decode cX3_kinds 4 = .ok (.iload_n 1, 1) := by decide +kernel
theorem dX3_kinds_5 : decode cX3_kinds 5 = .ok (.invokevirtual 102, 3) := by decide +kernel
theorem dX3_kinds_8 : decode cX3_kinds 8 = .ok (.ifCond .ne 5, 3) := by decide +kernel
theorem dX3_kinds_11 : decode cX3_kinds 11 = .ok (.iconst (-1), 1) := by decide +kernel
theorem dX3_kinds_12 : decode cX3_kinds 12 = .ok (.ireturn, 1) := by decide +kernel
theorem dX3_kinds_13 : decode cX3_kinds 13 = .ok (.iconst 0, 1) := by decide +kernel
theorem dX3_kinds_14 : decode cX3_kinds 14 = .ok (.istore_n 2, 1) := by decide +kernel
theorem dX3_kinds_15 : decode cX3_kinds 15 = .ok (.iconst 0, 1) := by decide +kernel
theorem dX3_kinds_16 : decode cX3_kinds 16 = .ok (.istore_n 3, 1) := by decide +kernel
theorem dX3_kinds_17 : decode cX3_kinds 17 = .ok (.iload_n 3, 1) := by decide +kernel
theorem dX3_kinds_18 : decode cX3_kinds 18 = .ok (.iconst 3, 1) := by decide +kernel
theorem dX3_kinds_19 : decode cX3_kinds 19 = .ok (.if_icmp .gt 61, 3) := by decide +kernel
theorem dX3_kinds_22 : decode cX3_kinds 22 = .ok (.aload_n 0, 1) := by decide +kernel
theorem dX3_kinds_23 : decode cX3_kinds 23 = .ok (.getfield 23, 3) := by decide +kernel
theorem dX3_kinds_26 : decode cX3_kinds 26 = .ok (.aload_n 0, 1) := by decide +kernel
theorem dX3_kinds_27 : decode cX3_kinds 27 = .ok (.getfield 19, 3) := by decide +kernel
theorem dX3_kinds_30 : decode cX3_kinds 30 = .ok (.invokevirtual 76, 3) := by decide +kernel
theorem dX3_kinds_33 : decode cX3_kinds 33 = .ok (.aload_n 0, 1) := by decide +kernel
theorem dX3_kinds_34 : decode cX3_kinds 34 = .ok (.getfield 23, 3) := by decide +kernel
theorem dX3_kinds_37 : decode cX3_kinds 37 = .ok (.getfield 105, 3) := by decide +kernel
theorem dX3_kinds_40 : decode cX3_kinds 40 = .ok (.iload_n 1, 1) := by decide +kernel
theorem dX3_kinds_41 : decode cX3_kinds 41 = .ok (.iload_n 3, 1) := by decide +kernel
theorem dX3_kinds_42 : decode cX3_kinds 42 = .ok (.iastore, 1) := by decide +kernel
theorem dX3_kinds_43 : decode cX3_kinds 43 = .ok (.aload_n 0, 1) := by decide +kernel
theorem dX3_kinds_44 : decode cX3_kinds 44 = .ok (.getfield 23, 3) := by decide +kernel
theorem dX3_kinds_47 : decode cX3_kinds 47 = .ok (.aload_n 0, 1) := by decide +kernel
theorem dX3_kinds_48 : decode cX3_kinds 48 = .ok (.getfield 43, 3) := by decide +kernel
theorem dX3_kinds_51 : decode cX3_kinds 51 = .ok (.invokevirtual 183, 3) := by decide +kernel
theorem dX3_kinds_54 : decode cX3_kinds 54 = .ok (.aload_n 0, 1) := by decide +kernel
theorem dX3_kinds_55 : decode cX3_kinds 55 = .ok (.getfield 19, 3) := by decide +kernel
theorem dX3_kinds_58 : decode cX3_kinds 58 = .ok (.aload_n 0, 1) := by decide +kernel
