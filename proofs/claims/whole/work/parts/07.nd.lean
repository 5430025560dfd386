theorem dX3_kinds_59 : decode cX3_kinds 59 = .ok (.getfield 43, 3) := by decide +kernel
theorem dX3_kinds_62 : decode cX3_kinds 62 = .ok (.invokevirtual 187, 3) := by decide +kernel
theorem dX3_kinds_65 : decode cX3_kinds 65 = .ok (.ifCond .eq 9, 3) := by decide +kernel
theorem dX3_kinds_68 : decode cX3_kinds 68 = .ok (.iload_n 2, 1) := by decide +kernel
theorem dX3_kinds_69 : decode cX3_kinds 69 = .ok (.iconst 1, 1) := by decide +kernel
theorem dX3_kinds_70 : decode cX3_kinds 70 = .ok (.iload_n 3, 1) := by decide +kernel
theorem dX3_kinds_71 : decode cX3_kinds 71 = .ok (.ishl, 1) := by decide +kernel
theorem dX3_kinds_72 : decode cX3_kinds 72 = .ok (.ior, 1) := by decide +kernel
theorem dX3_kinds_73 : decode cX3_kinds 73 = .ok (.istore_n 2, 1) := by decide +kernel
theorem dX3_kinds_74 : decode cX3_kinds 74 = .ok (.iinc 3 1, 3) := by decide +kernel
theorem dX3_kinds_77 : decode cX3_kinds 77 = .ok (.goto (-60), 3) := by decide +kernel
theorem dX3_kinds_80 : decode cX3_kinds 80 = .ok (.iload_n 2, 1) := by decide +kernel
theorem dX3_kinds_81 : decode cX3_kinds 81 = .ok (.ireturn, 1) := by decide +kernel
set_option maxRecDepth 20000 in
theorem ggX3_trades_X2_has : GoodIn wsX3_trades wsX2_has := goodIn_r _ [6, 7, 8, 9, 10, 98, 99, 100, 101, 102, 103, 104, 105, 106, 107, 108, 109, 110] (by decide +kernel) (by decide +kernel)
set_option maxRecDepth 20000 in
theorem gX3_trades_X2_has : GoodIn wsX3_trades (wsV RX3 102 RX2 yX2_has wsX2_has) := goodIn_app (goodIn_of _ (by decide +kernel)) ggX3_trades_X2_has
set_option maxRecDepth 20000 in
theorem ggX3_trades_X3_fitsByTrade : GoodIn wsX3_trades wsX3_fitsByTrade := goodIn_r _ [14, 15, 1, 16, 17, 18, 19, 20, 5, 21, 7, 22, 23, 24, 25, 26, 27, 28, 29, 30, 31, 32, 33, 34, 35, 36, 37, 38, 39, 40, 41, 42, 43, 44, 45, 46, 47, 48, 49, 50, 51, 52, 53, 54, 9, 55, 56, 57, 58, 59, 60, 61, 62, 63, 64, 65, 66, 67, 68, 69, 70, 71, 72, 73, 74, 75, 76, 77, 78, 79, 80, 81, 82, 83, 84, 85, 86, 87, 88, 89, 90, 91, 92, 93, 94, 95, 96, 97, 98, 99, 100, 101, 102, 103, 104, 105, 106, 107, 108, 109, 110] (by decide +kernel) (by decide +kernel)
set_option maxRecDepth 20000 in
theorem gX3_trades_X3_fitsByTrade : GoodIn wsX3_trades (wsV RX3 191 RX3 yX3_fitsByTrade wsX3_fitsByTrade) := goodIn_app (goodIn_of _ (by decide +kernel)) ggX3_trades_X3_fitsByTrade
theorem dX3_trades_0 : decode cX3_trades 0 = .ok (.aload_n 0, 1) := by decide +kernel
theorem dX3_trades_1 : decode cX3_trades 1 = .ok (.getfield 19, 3) := by decide +kernel
theorem dX3_trades_4 : decode cX3_trades 4 = .ok (.iload_n 1, 1) := by decide +kernel
theorem dX3_trades_5 : decode cX3_trades 5 = .ok (.invokevirtual 102, 3) := by decide +kernel
theorem dX3_trades_8 : decode cX3_trades 8 = .ok (.ifCond .ne 5, 3) := by decide +kernel
theorem dX3_trades_11 : decode cX3_trades 11 = .ok (.iconst (-1), 1) := by decide +kernel
theorem dX3_trades_12 : decode cX3_trades 12 = .ok (.ireturn, 1) := by decide +kernel
theorem dX3_trades_13 : decode cX3_trades 13 = .ok (.iconst 0, 1) := by decide +kernel
theorem dX3_trades_14 : decode cX3_trades 14 = .ok (.istore_n 2, 1) := by decide +kernel
theorem dX3_trades_15 : decode cX3_trades 15 = .ok (.iconst 0, 1) := by decide +kernel
theorem dX3_trades_16 : decode cX3_trades 16 = .ok (.istore_n 3, 1) := by decide +kernel
theorem dX3_trades_17 : decode cX3_trades 17 = .ok (.iload_n 3, 1) := by decide +kernel
theorem dX3_trades_18 : decode cX3_trades 18 = .ok (.bipush 20, 2) := by decide +kernel
theorem dX3_trades_20 : decode cX3_trades 20 = .ok (.if_icmp .gt 24, 3) := by decide +kernel
theorem dX3_trades_23 : decode cX3_trades 23 = .ok (.aload_n 0, 1) := by decide +kernel
theorem dX3_trades_24 : decode cX3_trades 24 = .ok (.iload_n 1, 1) := by decide +kernel
theorem dX3_trades_25 : decode cX3_trades 25 = .ok (.iload_n 3, 1) := by decide +kernel
theorem dX3_trades_26 : decode cX3_trades 26 = .ok (.invokevirtual 191, 3) := by decide +kernel
theorem dX3_trades_29 : decode cX3_trades 29 = .ok (.ifCond .eq 9, 3) := by decide +kernel
theorem dX3_trades_32 : decode cX3_trades 32 = .ok (.iload_n 2, 1) := by decide +kernel
theorem dX3_trades_33 : decode cX3_trades 33 = .ok (.iconst 1, 1) := by decide +kernel
theorem dX3_trades_34 : decode cX3_trades 34 = .ok (.iload_n 3, 1) := by decide +kernel
theorem dX3_trades_35 : decode cX3_trades 35 = .ok (.ishl, 1) := by decide +kernel
theorem dX3_trades_36 : decode cX3_trades 36 = .ok (.ior, 1) := by decide +kernel
theorem dX3_trades_37 : decode cX3_trades 37 = .ok (.istore_n 2, 1) := by decide +kernel
theorem dX3_trades_38 : decode cX3_trades 38 = .ok (.iinc 3 1, 3) := by decide +kernel
theorem dX3_trades_41 : decode cX3_trades 41 = .ok (.goto (-24), 3) := by decide +kernel
theorem dX3_trades_44 : decode cX3_trades 44 = .ok (.iload_n 2, 1) := by decide +kernel
theorem dX3_trades_45 : decode cX3_trades 45 = .ok (.ireturn, 1) := by decide +kernel
set_option maxRecDepth 20000 in
theorem ggX3_ask_X2_has : GoodIn wsX3_ask wsX2_has := goodIn_r _ [6, 7, 8, 9, 10, 111, 112, 113, 114, 115, 116, 117, 118, 119, 120, 121, 122, 123] (by decide +kernel) (by decide +kernel)
set_option maxRecDepth 20000 in
theorem gX3_ask_X2_has : GoodIn wsX3_ask (wsV RX3 102 RX2 yX2_has wsX2_has) := goodIn_app (goodIn_of _ (by decide +kernel)) ggX3_ask_X2_has
set_option maxRecDepth 20000 in
theorem ggX3_ask_X3_within : GoodIn wsX3_ask wsX3_within := goodIn_r _ [10] (by decide +kernel) (by decide +kernel)
set_option maxRecDepth 20000 in
theorem gX3_ask_X3_within : GoodIn wsX3_ask (va_wsS RX3 51 yX3_within wsX3_within) := goodIn_app (goodIn_of _ (by decide +kernel)) ggX3_ask_X3_within
set_option maxRecDepth 20000 in
theorem ggX3_ask_X3_tallyTrades : GoodIn wsX3_ask wsX3_tallyTrades := goodIn_r _ [15, 16, 17, 18, 19, 20, 9, 21, 22, 1, 23, 24, 25, 26, 5, 27, 7, 28, 29, 30, 31, 32, 33, 34, 35, 36, 37, 38, 39, 40, 41, 42, 43, 44, 45, 46, 47, 48, 49, 50, 51, 52, 53, 54, 55, 56, 57, 58, 59, 60, 61, 62, 63, 64, 65, 66, 67, 68, 69, 70, 71, 72, 73, 74, 75, 76, 77, 78, 79, 80, 81, 82, 83, 84, 85, 86, 87, 88, 89, 90, 91, 92, 93, 101, 102, 103, 104, 105, 106, 107, 108, 109, 110, 111, 112, 113, 114, 115, 116, 117, 118, 119, 120, 121, 122, 123] (by decide +kernel) (by decide +kernel)
set_option maxRecDepth 20000 in
theorem gX3_ask_X3_tallyTrades : GoodIn wsX3_ask (wsV RX3 194 RX3 yX3_tallyTrades wsX3_tallyTrades) := goodIn_app (goodIn_of _ (by decide +kernel)) ggX3_ask_X3_tallyTrades
set_option maxRecDepth 20000 in
theorem ggX3_ask_X3_mostInRow : GoodIn wsX3_ask wsX3_mostInRow := goodIn_r _ [97, 16, 98, 99, 58, 100, 101, 102, 103, 104, 105, 106, 107, 108, 109, 110] (by decide +kernel) (by decide +kernel)
set_option maxRecDepth 20000 in
theorem gX3_ask_X3_mostInRow : GoodIn wsX3_ask (wsV RX3 197 RX3 yX3_mostInRow wsX3_mostInRow) := goodIn_app (goodIn_of _ (by decide +kernel)) ggX3_ask_X3_mostInRow
theorem dX3_ask_0 : decode cX3_ask 0 = .ok (.aload_n 0, 1) := by decide +kernel
theorem dX3_ask_1 : decode cX3_ask 1 = .ok (.getfield 19, 3) := by decide +kernel
theorem dX3_ask_4 : decode cX3_ask 4 = .ok (.iload_n 1, 1) := by decide +kernel
theorem dX3_ask_5 : decode cX3_ask 5 = .ok (.invokevirtual 102, 3) := by decide +kernel
theorem dX3_ask_8 : decode cX3_ask 8 = .ok (.ifCond .eq 12, 3) := by decide +kernel
theorem dX3_ask_11 : decode cX3_ask 11 = .ok (.iload_n 2, 1) := by decide +kernel
theorem dX3_ask_12 : decode cX3_ask 12 = .ok (.iconst 0, 1) := by decide +kernel
theorem dX3_ask_13 : decode cX3_ask 13 = .ok (.iconst 1, 1) := by decide +kernel
theorem dX3_ask_14 : decode cX3_ask 14 = .ok (.invokestatic 51, 3) := by decide +kernel
theorem dX3_ask_17 : decode cX3_ask 17 = .ok (.ifCond .ne 5, 3) := by decide +kernel
theorem dX3_ask_20 : decode cX3_ask 20 = .ok (.iconst (-1), 1) := by decide +kernel
theorem dX3_ask_21 : decode cX3_ask 21 = .ok (.ireturn, 1) := by decide +kernel
theorem dX3_ask_22 : decode cX3_ask 22 = .ok (.bipush (-4), 2) := by decide +kernel
theorem dX3_ask_24 : decode cX3_ask 24 = .ok (.istore_n 3, 1) := by decide +kernel
theorem dX3_ask_25 : decode cX3_ask 25 = .ok (.aload_n 0, 1) := by decide +kernel
theorem dX3_ask_26 : decode cX3_ask 26 = .ok (.iload_n 1, 1) := by decide +kernel
theorem dX3_ask_27 : decode cX3_ask 27 = .ok (.invokevirtual 194, 3) := by decide +kernel
theorem dX3_ask_30 : decode cX3_ask 30 = .ok (.istore 4, 2) := by decide +kernel
theorem dX3_ask_32 : decode cX3_ask 32 = .ok (.iconst 0, 1) := by decide +kernel
theorem dX3_ask_33 : decode cX3_ask 33 = .ok (.istore 5, 2) := by decide +kernel
theorem dX3_ask_35 : decode cX3_ask 35 = .ok (.iload 5, 2) := by decide +kernel
theorem dX3_ask_37 : decode cX3_ask 37 = .ok (.bipush 20, 2) := by decide +kernel
theorem dX3_ask_39 : decode cX3_ask 39 = .ok (.if_icmp .gt 31, 3) := by decide +kernel
theorem dX3_ask_42 : decode cX3_ask 42 = .ok (.aload_n 0, 1) := by decide +kernel
theorem dX3_ask_43 : decode cX3_ask 43 = .ok (.iload 5, 2) := by decide +kernel
theorem dX3_ask_45 : decode cX3_ask 45 = .ok (.invokevirtual 197, 3) := by decide +kernel
theorem dX3_ask_48 : decode cX3_ask 48 = .ok (.istore 6, 2) := by decide +kernel
theorem dX3_ask_50 : decode cX3_ask 50 = .ok (.iload 6, 2) := by decide +kernel
theorem dX3_ask_52 : decode cX3_ask 52 = .ok (.iload 4, 2) := by decide +kernel
theorem dX3_ask_54 : decode cX3_ask 54 = .ok (.if_icmp .ge 10, 3) := by decide +kernel
theorem dX3_ask_57 : decode cX3_ask 57 = .ok (.iload 5, 2) := by decide +kernel
theorem dX3_ask_59 : decode cX3_ask 59 = .ok (.istore_n 3, 1) := by decide +kernel
theorem dX3_ask_60 : decode cX3_ask 60 = .ok (.iload 6, 2) := by decide +kernel
theorem dX3_ask_62 : decode cX3_ask 62 = .ok (.istore 4, 2) := by decide +kernel
theorem dX3_ask_64 : decode cX3_ask 64 = .ok (.iinc 5 1, 3) := by decide +kernel
theorem dX3_ask_67 : decode cX3_ask 67 = .ok (.goto (-32), 3) := by decide +kernel
theorem dX3_ask_70 : decode cX3_ask 70 = .ok (.iload_n 3, 1) := by decide +kernel
theorem dX3_ask_71 : decode cX3_ask 71 = .ok (.bipush (-4), 2) := by decide +kernel
theorem dX3_ask_73 : decode cX3_ask 73 = .ok (.if_icmp .eq 7, 3) := by decide +kernel
theorem dX3_ask_76 : decode cX3_ask 76 = .ok (.iload_n 2, 1) := by decide +kernel
theorem dX3_ask_77 : decode cX3_ask 77 = .ok (.ifCond .ne 7, 3) := by decide +kernel
theorem dX3_ask_80 : decode cX3_ask 80 = .ok (.iload_n 3, 1) := by decide +kernel
theorem dX3_ask_81 : decode cX3_ask 81 = .ok (.goto 5, 3) := by decide +kernel
theorem dX3_ask_84 : decode cX3_ask 84 = .ok (.iload 4, 2) := by decide +kernel
theorem dX3_ask_86 : decode cX3_ask 86 = .ok (.ireturn, 1) := by decide +kernel
set_option maxRecDepth 20000 in
theorem ggX3_drift_X3_within : GoodIn wsX3_drift wsX3_within := goodIn_r _ [10] (by decide +kernel) (by decide +kernel)
set_option maxRecDepth 20000 in
theorem gX3_drift_X3_within : GoodIn wsX3_drift (va_wsS RX3 51 yX3_within wsX3_within) := goodIn_app (goodIn_of _ (by decide +kernel)) ggX3_drift_X3_within
set_option maxRecDepth 20000 in
theorem ggX3_drift_X2_become : GoodIn wsX3_drift wsX2_become := goodIn_r _ [15, 16, 17, 18, 19, 20, 21, 22, 23, 24, 25, 26, 27, 28, 29, 30, 31, 32, 89, 90, 91, 92, 93, 94, 95, 96, 97, 98, 99, 100, 101] (by decide +kernel) (by decide +kernel)
set_option maxRecDepth 20000 in
theorem gX3_drift_X2_become : GoodIn wsX3_drift (wsV RX3 76 RX2 yX2_become wsX2_become) := goodIn_app (goodIn_of _ (by decide +kernel)) ggX3_drift_X2_become
set_option maxRecDepth 20000 in
theorem ggX3_drift_X2_step : GoodIn wsX3_drift wsX2_step := goodIn_r _ [36, 16, 19, 29, 17, 37, 38, 39, 14, 40, 20, 30, 27, 41, 42, 43, 44, 45, 9, 46, 47, 48, 49, 50, 22, 51, 52, 53, 54, 55, 56, 57, 58, 59, 60, 61, 62, 28, 18, 63, 64, 65, 66, 67, 68, 69, 70, 71, 72, 73, 74, 89, 90, 91, 92, 93, 94, 95, 96, 97, 98, 99, 100, 101] (by decide +kernel) (by decide +kernel)
set_option maxRecDepth 20000 in
theorem gX3_drift_X2_step : GoodIn wsX3_drift (wsV RX3 139 RX2 yX2_step wsX2_step) := goodIn_app (goodIn_of _ (by decide +kernel)) ggX3_drift_X2_step
set_option maxRecDepth 20000 in
theorem ggX3_drift_X2_meansOfAll : GoodIn wsX3_drift wsX2_meansOfAll := goodIn_r _ [78, 16, 27, 89, 90, 91, 92, 93, 94, 95, 96, 97, 98, 99, 100, 101] (by decide +kernel) (by decide +kernel)
set_option maxRecDepth 20000 in
theorem gX3_drift_X2_meansOfAll : GoodIn wsX3_drift (wsV RX3 93 RX2 yX2_meansOfAll wsX2_meansOfAll) := goodIn_app (goodIn_of _ (by decide +kernel)) ggX3_drift_X2_meansOfAll
theorem dX3_drift_0 : decode cX3_drift 0 = .ok (.iload_n 2, 1) := by decide +kernel
theorem dX3_drift_1 : decode cX3_drift 1 = .ok (.iconst 1, 1) := by decide +kernel
theorem dX3_drift_2 : decode cX3_drift 2 = .ok (.bipush 60, 2) := by decide +kernel
theorem dX3_drift_4 : decode cX3_drift 4 = .ok (.invokestatic 51, 3) := by decide +kernel
theorem dX3_drift_7 : decode cX3_drift 7 = .ok (.ifCond .eq 12, 3) := by decide +kernel
theorem dX3_drift_10 : decode cX3_drift 10 = .ok (.iload_n 3, 1) := by decide +kernel
theorem dX3_drift_11 : decode cX3_drift 11 = .ok (.iconst 0, 1) := by decide +kernel
theorem dX3_drift_12 : decode cX3_drift 12 = .ok (.iconst 1, 1) := by decide +kernel
theorem dX3_drift_13 : decode cX3_drift 13 = .ok (.invokestatic 51, 3) := by decide +kernel
theorem dX3_drift_16 : decode cX3_drift 16 = .ok (.ifCond .ne 5, 3) := by decide +kernel
theorem dX3_drift_19 : decode cX3_drift 19 = .ok (.iconst (-1), 1) := by decide +kernel
theorem dX3_drift_20 : decode cX3_drift 20 = .ok (.ireturn, 1) := by decide +kernel
theorem dX3_drift_21 : decode cX3_drift 21 = .ok (.aload_n 0, 1) := by decide +kernel
theorem dX3_drift_22 : decode cX3_drift 22 = .ok (.getfield 19, 3) := by decide +kernel
theorem dX3_drift_25 : decode cX3_drift 25 = .ok (.getfield 80, 3) := by decide +kernel
theorem dX3_drift_28 : decode cX3_drift 28 = .ok (.ifCond .ne 6, 3) := by decide +kernel
theorem dX3_drift_31 : decode cX3_drift 31 = .ok (.bipush (-2), 2) := by decide +kernel
theorem dX3_drift_33 : decode cX3_drift 33 = .ok (.ireturn, 1) := by decide +kernel
theorem dX3_drift_34 : decode cX3_drift 34 = .ok (.aload_n 0, 1) := by decide +kernel
theorem dX3_drift_35 : decode cX3_drift 35 = .ok (.getfield 23, 3) := by decide +kernel
theorem dX3_drift_38 : decode cX3_drift 38 = .ok (.aload_n 0, 1) := by decide +kernel
theorem dX3_drift_39 : decode cX3_drift 39 = .ok (.getfield 19, 3) := by decide +kernel
theorem dX3_drift_42 : decode cX3_drift 42 = .ok (.invokevirtual 76, 3) := by decide +kernel
theorem dX3_drift_45 : decode cX3_drift 45 = .ok (.iload_n 1, 1) := by decide +kernel
theorem dX3_drift_46 : decode cX3_drift 46 = .ok (.istore 4, 2) := by decide +kernel
theorem dX3_drift_48 : decode cX3_drift 48 = .ok (.iconst 1, 1) := by decide +kernel
theorem dX3_drift_49 : decode cX3_drift 49 = .ok (.istore 5, 2) := by decide +kernel
theorem dX3_drift_51 : decode cX3_drift 51 = .ok (.iload 5, 2) := by decide +kernel
theorem dX3_drift_53 : decode cX3_drift 53 = .ok (.iload_n 2, 1) := by decide +kernel
theorem dX3_drift_54 : decode cX3_drift 54 = .ok (.if_icmp .gt 47, 3) := by decide +kernel
theorem dX3_drift_57 : decode cX3_drift 57 = .ok (.iload 4, 2) := by decide +kernel
theorem dX3_drift_59 : decode cX3_drift 59 = .ok (.ldc 200, 2) := by decide +kernel
theorem dX3_drift_61 : decode cX3_drift 61 = .ok (.imul, 1) := by decide +kernel
theorem dX3_drift_62 : decode cX3_drift 62 = .ok (.sipush 12345, 3) := by decide +kernel
theorem dX3_drift_65 : decode cX3_drift 65 = .ok (.iadd, 1) := by decide +kernel
theorem dX3_drift_66 : decode cX3_drift 66 = .ok (.istore 4, 2) := by decide +kernel
theorem dX3_drift_68 : decode cX3_drift 68 = .ok (.aload_n 0, 1) := by decide +kernel
theorem dX3_drift_69 : decode cX3_drift 69 = .ok (.getfield 23, 3) := by decide +kernel
theorem dX3_drift_72 : decode cX3_drift 72 = .ok (.iload 4, 2) := by decide +kernel
theorem dX3_drift_74 : decode cX3_drift 74 = .ok (.bipush 16, 2) := by decide +kernel
theorem dX3_drift_76 : decode cX3_drift 76 = .ok (.iushr, 1) := by decide +kernel
theorem dX3_drift_77 : decode cX3_drift 77 = .ok (.sipush 32767, 3) := by decide +kernel
theorem dX3_drift_80 : decode cX3_drift 80 = .ok (.iand, 1) := by decide +kernel
theorem dX3_drift_81 : decode cX3_drift 81 = .ok (.bipush 10, 2) := by decide +kernel
theorem dX3_drift_83 : decode cX3_drift 83 = .ok (.irem, 1) := by decide +kernel
theorem dX3_drift_84 : decode cX3_drift 84 = .ok (.putfield 86, 3) := by decide +kernel
theorem dX3_drift_87 : decode cX3_drift 87 = .ok (.aload_n 0, 1) := by decide +kernel
theorem dX3_drift_88 : decode cX3_drift 88 = .ok (.getfield 23, 3) := by decide +kernel
theorem dX3_drift_91 : decode cX3_drift 91 = .ok (.invokevirtual 139, 3) := by decide +kernel
theorem dX3_drift_94 : decode cX3_drift 94 = .ok (.pop, 1) := by decide +kernel
theorem dX3_drift_95 : decode cX3_drift 95 = .ok (.iinc 5 1, 3) := by decide +kernel
theorem dX3_drift_98 : decode cX3_drift 98 = .ok (.goto (-47), 3) := by decide +kernel
theorem dX3_drift_101 : decode cX3_drift 101 = .ok (.iload_n 3, 1) := by decide +kernel
theorem dX3_drift_102 : decode cX3_drift 102 = .ok (.ifCond .ne 13, 3) := by decide +kernel
theorem dX3_drift_105 : decode cX3_drift 105 = .ok (.aload_n 0, 1) := by decide +kernel
theorem dX3_drift_106 : decode cX3_drift 106 = .ok (.getfield 23, 3) := by decide +kernel
theorem dX3_drift_109 : decode cX3_drift 109 = .ok (.invokevirtual 93, 3) := by decide +kernel
theorem dX3_drift_112 : decode cX3_drift 112 = .ok (.goto 10, 3) := by decide +kernel
theorem dX3_drift_115 : decode cX3_drift 115 = .ok (.aload_n 0, 1) := by decide +kernel
theorem dX3_drift_116 : decode cX3_drift 116 = .ok (.getfield 23, 3) := by decide +kernel
theorem dX3_drift_119 : decode cX3_drift 119 = .ok (.getfield 128, 3) := by decide +kernel
theorem dX3_drift_122 : decode cX3_drift 122 = .ok (.ireturn, 1) := by decide +kernel
set_option maxRecDepth 20000 in
theorem ggX3_keep_X3_within : GoodIn wsX3_keep wsX3_within := goodIn_r _ [7] (by decide +kernel) (by decide +kernel)
set_option maxRecDepth 20000 in
theorem gX3_keep_X3_within : GoodIn wsX3_keep (va_wsS RX3 51 yX3_within wsX3_within) := goodIn_app (goodIn_of _ (by decide +kernel)) ggX3_keep_X3_within
set_option maxRecDepth 20000 in
theorem ggX3_keep_X2_become : GoodIn wsX3_keep wsX2_become := goodIn_r _ [12, 13, 14, 15, 16, 17, 18, 19, 20, 21, 22, 23, 24, 25, 26, 27, 28, 29, 40, 41, 42, 43, 44, 45, 46, 47, 48, 49, 50, 51, 52] (by decide +kernel) (by decide +kernel)
set_option maxRecDepth 20000 in
theorem gX3_keep_X2_become : GoodIn wsX3_keep (wsV RX3 76 RX2 yX2_become wsX2_become) := goodIn_app (goodIn_of _ (by decide +kernel)) ggX3_keep_X2_become
theorem dX3_keep_0 : decode cX3_keep 0 = .ok (.iload_n 1, 1) := by decide +kernel
theorem dX3_keep_1 : decode cX3_keep 1 = .ok (.iconst 0, 1) := by decide +kernel
theorem dX3_keep_2 : decode cX3_keep 2 = .ok (.iconst 1, 1) := by decide +kernel
theorem dX3_keep_3 : decode cX3_keep 3 = .ok (.invokestatic 51, 3) := by decide +kernel
theorem dX3_keep_6 : decode cX3_keep 6 = .ok (.ifCond .ne 5, 3) := by decide +kernel
theorem dX3_keep_9 : decode cX3_keep 9 = .ok (.iconst (-1), 1) := by decide +kernel
theorem dX3_keep_10 : decode cX3_keep 10 = .ok (.ireturn, 1) := by decide +kernel
theorem dX3_keep_11 : decode cX3_keep 11 = .ok (.aload_n 0, 1) := by decide +kernel
theorem dX3_keep_12 : decode cX3_keep 12 = .ok (.getfield 33, 3) := by decide +kernel
theorem dX3_keep_15 : decode cX3_keep 15 = .ok (.iload_n 1, 1) := by decide +kernel
theorem dX3_keep_16 : decode cX3_keep 16 = .ok (.baload, 1) := by decide +kernel
theorem dX3_keep_17 : decode cX3_keep 17 = .ok (.ifCond .eq 7, 3) := by decide +kernel
theorem dX3_keep_20 : decode cX3_keep 20 = .ok (.iconst 1, 1) := by decide +kernel
theorem dX3_keep_21 : decode cX3_keep 21 = .ok (.goto 4, 3) := by decide +kernel
theorem dX3_keep_24 : decode cX3_keep 24 = .ok (.iconst 0, 1) := by decide +kernel
theorem dX3_keep_25 : decode cX3_keep 25 = .ok (.istore_n 2, 1) := by decide +kernel
theorem dX3_keep_26 : decode cX3_keep 26 = .ok (.aload_n 0, 1) := by decide +kernel
theorem dX3_keep_27 : decode cX3_keep 27 = .ok (.getfield 29, 3) := by decide +kernel
theorem dX3_keep_30 : decode cX3_keep 30 = .ok (.iload_n 1, 1) := by decide +kernel
theorem dX3_keep_31 : decode cX3_keep 31 = .ok (.aaload, 1) := by decide +kernel
theorem dX3_keep_32 : decode cX3_keep 32 = .ok (.aload_n 0, 1) := by decide +kernel
theorem dX3_keep_33 : decode cX3_keep 33 = .ok (.getfield 19, 3) := by decide +kernel
theorem dX3_keep_36 : decode cX3_keep 36 = .ok (.invokevirtual 76, 3) := by decide +kernel
theorem dX3_keep_39 : decode cX3_keep 39 = .ok (.aload_n 0, 1) := by decide +kernel
theorem dX3_keep_40 : decode cX3_keep 40 = .ok (.getfield 33, 3) := by decide +kernel
theorem dX3_keep_43 : decode cX3_keep 43 = .ok (.iload_n 1, 1) := by decide +kernel
theorem dX3_keep_44 : decode cX3_keep 44 = .ok (.iconst 1, 1) := by decide +kernel
theorem dX3_keep_45 : decode cX3_keep 45 = .ok (.bastore, 1) := by decide +kernel
theorem dX3_keep_46 : decode cX3_keep 46 = .ok (.iload_n 2, 1) := by decide +kernel
theorem dX3_keep_47 : decode cX3_keep 47 = .ok (.ireturn, 1) := by decide +kernel
set_option maxRecDepth 20000 in
theorem ggX3_back_X3_within : GoodIn wsX3_back wsX3_within := goodIn_r _ [8] (by decide +kernel) (by decide +kernel)
set_option maxRecDepth 20000 in
theorem gX3_back_X3_within : GoodIn wsX3_back (va_wsS RX3 51 yX3_within wsX3_within) := goodIn_app (goodIn_of _ (by decide +kernel)) ggX3_back_X3_within
set_option maxRecDepth 20000 in
theorem ggX3_back_X2_become : GoodIn wsX3_back wsX2_become := goodIn_r _ [13, 14, 15, 16, 17, 18, 19, 20, 21, 22, 23, 24, 25, 26, 27, 28, 29, 30, 41, 42, 43, 44, 45, 46, 47, 48, 49, 50, 51, 52, 53] (by decide +kernel) (by decide +kernel)
set_option maxRecDepth 20000 in
theorem gX3_back_X2_become : GoodIn wsX3_back (wsV RX3 76 RX2 yX2_become wsX2_become) := goodIn_app (goodIn_of _ (by decide +kernel)) ggX3_back_X2_become
theorem dX3_back_0 : decode cX3_back 0 = .ok (.iload_n 1, 1) := by decide +kernel
theorem dX3_back_1 : decode cX3_back 1 = .ok (.iconst 0, 1) := by decide +kernel
theorem dX3_back_2 : decode cX3_back 2 = .ok (.iconst 1, 1) := by decide +kernel
theorem dX3_back_3 : decode cX3_back 3 = .ok (.invokestatic 51, 3) := by decide +kernel
theorem dX3_back_6 : decode cX3_back 6 = .ok (.ifCond .ne 5, 3) := by decide +kernel
theorem dX3_back_9 : decode cX3_back 9 = .ok (.iconst (-1), 1) := by decide +kernel
theorem dX3_back_10 : decode cX3_back 10 = .ok (.ireturn, 1) := by decide +kernel
theorem dX3_back_11 : decode cX3_back 11 = .ok (.aload_n 0, 1) := by decide +kernel
theorem dX3_back_12 : decode cX3_back 12 = .ok (.getfield 33, 3) := by decide +kernel
theorem dX3_back_15 : decode cX3_back 15 = .ok (.iload_n 1, 1) := by decide +kernel
theorem dX3_back_16 : decode cX3_back 16 = .ok (.baload, 1) := by decide +kernel
theorem dX3_back_17 : decode cX3_back 17 = .ok (.ifCond .ne 6, 3) := by decide +kernel
theorem dX3_back_20 : decode cX3_back 20 = .ok (.bipush (-2), 2) := by decide +kernel
theorem dX3_back_22 : decode cX3_back 22 = .ok (.ireturn, 1) := by decide +kernel
theorem dX3_back_23 : decode cX3_back 23 = .ok (.aload_n 0, 1) := by decide +kernel
theorem dX3_back_24 : decode cX3_back 24 = .ok (.getfield 19, 3) := by decide +kernel
theorem dX3_back_27 : decode cX3_back 27 = .ok (.aload_n 0, 1) := by decide +kernel
theorem dX3_back_28 : decode cX3_back 28 = .ok (.getfield 29, 3) := by decide +kernel
theorem dX3_back_31 : decode cX3_back 31 = .ok (.iload_n 1, 1) := by decide +kernel
theorem dX3_back_32 : decode cX3_back 32 = .ok (.aaload, 1) := by decide +kernel
theorem dX3_back_33 : decode cX3_back 33 = .ok (.invokevirtual 76, 3) := by decide +kernel
theorem dX3_back_36 : decode cX3_back 36 = .ok (.aload_n 0, 1) := by decide +kernel
theorem dX3_back_37 : decode cX3_back 37 = .ok (.getfield 19, 3) := by decide +kernel
theorem dX3_back_40 : decode cX3_back 40 = .ok (.getfield 83, 3) := by decide +kernel
theorem dX3_back_43 : decode cX3_back 43 = .ok (.ireturn, 1) := by decide +kernel
set_option maxRecDepth 20000 in
theorem ggX3_sheet_X3_within : GoodIn wsX3_sheet wsX3_within := goodIn_r _ [5] (by decide +kernel) (by decide +kernel)
set_option maxRecDepth 20000 in
theorem gX3_sheet_X3_within : GoodIn wsX3_sheet (va_wsS RX3 51 yX3_within wsX3_within) := goodIn_app (goodIn_of _ (by decide +kernel)) ggX3_sheet_X3_within
set_option maxRecDepth 20000 in
theorem ggX3_sheet_X0_renew : GoodIn wsX3_sheet wsX0_renew := goodIn_r _ [10, 11, 12, 13, 24, 25, 26] (by decide +kernel) (by decide +kernel)
set_option maxRecDepth 20000 in
theorem gX3_sheet_X0_renew : GoodIn wsX3_sheet (wsV RX3 201 RX0 yX0_renew wsX0_renew) := goodIn_app (goodIn_of _ (by decide +kernel)) ggX3_sheet_X0_renew
theorem dX3_sheet_0 : decode cX3_sheet 0 = .ok (.iload_n 1, 1) := by decide +kernel
theorem dX3_sheet_1 : decode cX3_sheet 1 = .ok (.iconst 0, 1) := by decide +kernel
theorem dX3_sheet_2 : decode cX3_sheet 2 = .ok (.iconst 3, 1) := by decide +kernel
theorem dX3_sheet_3 : decode cX3_sheet 3 = .ok (.invokestatic 51, 3) := by decide +kernel
theorem dX3_sheet_6 : decode cX3_sheet 6 = .ok (.ifCond .eq 18, 3) := by decide +kernel
theorem dX3_sheet_9 : decode cX3_sheet 9 = .ok (.iload_n 2, 1) := by decide +kernel
theorem dX3_sheet_10 : decode cX3_sheet 10 = .ok (.iconst 0, 1) := by decide +kernel
theorem dX3_sheet_11 : decode cX3_sheet 11 = .ok (.iconst 2, 1) := by decide +kernel
theorem dX3_sheet_12 : decode cX3_sheet 12 = .ok (.invokestatic 51, 3) := by decide +kernel
theorem dX3_sheet_15 : decode cX3_sheet 15 = .ok (.ifCond .eq 9, 3) := by decide +kernel
theorem dX3_sheet_18 : decode cX3_sheet 18 = .ok (.iload_n 3, 1) := by decide +kernel
theorem dX3_sheet_19 : decode cX3_sheet 19 = .ok (.bipush 40, 2) := by decide +kernel
theorem dX3_sheet_21 : decode cX3_sheet 21 = .ok (.if_icmp .le 5, 3) := by decide +kernel
theorem dX3_sheet_24 : decode cX3_sheet 24 = .ok (.iconst (-1), 1) := by decide +kernel
theorem dX3_sheet_25 : decode cX3_sheet 25 = .ok (.ireturn, 1) := by decide +kernel
theorem dX3_sheet_26 : decode cX3_sheet 26 = .ok (.iload_n 3, 1) := by decide +kernel
theorem dX3_sheet_27 : decode cX3_sheet 27 = .ok (.ifCond .ge 6, 3) := by decide +kernel
theorem dX3_sheet_30 : decode cX3_sheet 30 = .ok (.bipush (-14), 2) := by decide +kernel
theorem dX3_sheet_32 : decode cX3_sheet 32 = .ok (.ireturn, 1) := by decide +kernel
theorem dX3_sheet_33 : decode cX3_sheet 33 = .ok (.aload_n 0, 1) := by decide +kernel
theorem dX3_sheet_34 : decode cX3_sheet 34 = .ok (.getfield 39, 3) := by decide +kernel
theorem dX3_sheet_37 : decode cX3_sheet 37 = .ok (.iload_n 1, 1) := by decide +kernel
theorem dX3_sheet_38 : decode cX3_sheet 38 = .ok (.aaload, 1) := by decide +kernel
theorem dX3_sheet_39 : decode cX3_sheet 39 = .ok (.iload_n 2, 1) := by decide +kernel
theorem dX3_sheet_40 : decode cX3_sheet 40 = .ok (.iload_n 3, 1) := by decide +kernel
theorem dX3_sheet_41 : decode cX3_sheet 41 = .ok (.invokevirtual 201, 3) := by decide +kernel
theorem dX3_sheet_44 : decode cX3_sheet 44 = .ok (.iconst 1, 1) := by decide +kernel
theorem dX3_sheet_45 : decode cX3_sheet 45 = .ok (.ireturn, 1) := by decide +kernel
set_option maxRecDepth 20000 in
theorem ggX3_lay_X3_within : GoodIn wsX3_lay wsX3_within := goodIn_r _ [5] (by decide +kernel) (by decide +kernel)
set_option maxRecDepth 20000 in
theorem gX3_lay_X3_within : GoodIn wsX3_lay (va_wsS RX3 51 yX3_within wsX3_within) := goodIn_app (goodIn_of _ (by decide +kernel)) ggX3_lay_X3_within
set_option maxRecDepth 20000 in
theorem ggX3_lay_X0_faultAt : GoodIn wsX3_lay wsX0_faultAt := goodIn_r _ [10, 11, 12, 3, 4, 5, 28, 29, 30] (by decide +kernel) (by decide +kernel)
set_option maxRecDepth 20000 in
theorem gX3_lay_X0_faultAt : GoodIn wsX3_lay (wsV RX3 205 RX0 yX0_faultAt wsX0_faultAt) := goodIn_app (goodIn_of _ (by decide +kernel)) ggX3_lay_X0_faultAt
set_option maxRecDepth 20000 in
theorem ggX3_lay_X0_setCell : GoodIn wsX3_lay wsX0_setCell := goodIn_r _ [16, 17, 11, 28, 29, 30] (by decide +kernel) (by decide +kernel)
set_option maxRecDepth 20000 in
theorem gX3_lay_X0_setCell : GoodIn wsX3_lay (wsV RX3 208 RX0 yX0_setCell wsX0_setCell) := goodIn_app (goodIn_of _ (by decide +kernel)) ggX3_lay_X0_setCell
theorem dX3_lay_0 : decode cX3_lay 0 = .ok (.iload_n 1, 1) := by decide +kernel
theorem dX3_lay_1 : decode cX3_lay 1 = .ok (.iconst 0, 1) := by decide +kernel
theorem dX3_lay_2 : decode cX3_lay 2 = .ok (.iconst 3, 1) := by decide +kernel
theorem dX3_lay_3 : decode cX3_lay 3 = .ok (.invokestatic 51, 3) := by decide +kernel
theorem dX3_lay_6 : decode cX3_lay 6 = .ok (.ifCond .ne 5, 3) := by decide +kernel
theorem dX3_lay_9 : decode cX3_lay 9 = .ok (.iconst (-1), 1) := by decide +kernel
theorem dX3_lay_10 : decode cX3_lay 10 = .ok (.ireturn, 1) := by decide +kernel
theorem dX3_lay_11 : decode cX3_lay 11 = .ok (.aload_n 0, 1) := by decide +kernel
theorem dX3_lay_12 : decode cX3_lay 12 = .ok (.getfield 39, 3) := by decide +kernel
theorem dX3_lay_15 : decode cX3_lay 15 = .ok (.iload_n 1, 1) := by decide +kernel
theorem dX3_lay_16 : decode cX3_lay 16 = .ok (.aaload, 1) := by decide +kernel
theorem dX3_lay_17 : decode cX3_lay 17 = .ok (.iload_n 2, 1) := by decide +kernel
theorem dX3_lay_18 : decode cX3_lay 18 = .ok (.invokevirtual 205, 3) := by decide +kernel
theorem dX3_lay_21 : decode cX3_lay 21 = .ok (.istore 4, 2) := by decide +kernel
theorem dX3_lay_23 : decode cX3_lay 23 = .ok (.iload 4, 2) := by decide +kernel
theorem dX3_lay_25 : decode cX3_lay 25 = .ok (.ifCond .eq 9, 3) := by decide +kernel
theorem dX3_lay_28 : decode cX3_lay 28 = .ok (.bipush (-10), 2) := by decide +kernel
theorem dX3_lay_30 : decode cX3_lay 30 = .ok (.iload 4, 2) := by decide +kernel
theorem dX3_lay_32 : decode cX3_lay 32 = .ok (.isub, 1) := by decide +kernel
theorem dX3_lay_33 : decode cX3_lay 33 = .ok (.ireturn, 1) := by decide +kernel
theorem dX3_lay_34 : decode cX3_lay 34 = .ok (.aload_n 0, 1) := by decide +kernel
theorem dX3_lay_35 : decode cX3_lay 35 = .ok (.getfield 39, 3) := by decide +kernel
theorem dX3_lay_38 : decode cX3_lay 38 = .ok (.iload_n 1, 1) := by decide +kernel
theorem dX3_lay_39 : decode cX3_lay 39 = .ok (.aaload, 1) := by decide +kernel
theorem dX3_lay_40 : decode cX3_lay 40 = .ok (.iload_n 2, 1) := by decide +kernel
theorem dX3_lay_41 : decode cX3_lay 41 = .ok (.iload_n 3, 1) := by decide +kernel
theorem dX3_lay_42 : decode cX3_lay 42 = .ok (.invokevirtual 208, 3) := by decide +kernel
theorem dX3_lay_45 : decode cX3_lay 45 = .ok (.iconst 1, 1) := by decide +kernel
theorem dX3_lay_46 : decode cX3_lay 46 = .ok (.ireturn, 1) := by decide +kernel
set_option maxRecDepth 20000 in
theorem ggX3_read_X3_within : GoodIn wsX3_read wsX3_within := goodIn_r _ [9] (by decide +kernel) (by decide +kernel)
set_option maxRecDepth 20000 in
theorem gX3_read_X3_within : GoodIn wsX3_read (va_wsS RX3 51 yX3_within wsX3_within) := goodIn_app (goodIn_of _ (by decide +kernel)) ggX3_read_X3_within
set_option maxRecDepth 20000 in
theorem ggX3_read_X2_become : GoodIn wsX3_read wsX2_become := goodIn_r _ [14, 15, 16, 17, 18, 19, 20, 21, 22, 23, 24, 25, 26, 27, 28, 29, 30, 31, 117, 118, 119, 120, 121, 122, 123, 124, 125, 126, 127, 128, 129] (by decide +kernel) (by decide +kernel)
set_option maxRecDepth 20000 in
theorem gX3_read_X2_become : GoodIn wsX3_read (wsV RX3 76 RX2 yX2_become wsX2_become) := goodIn_app (goodIn_of _ (by decide +kernel)) ggX3_read_X2_become
set_option maxRecDepth 20000 in
theorem ggX3_read_X0_faultOfPair : GoodIn wsX3_read wsX0_faultOfPair := goodIn_r _ [36, 37, 38, 39, 40, 35, 41, 42, 7, 8, 9, 114, 115, 116] (by decide +kernel) (by decide +kernel)
set_option maxRecDepth 20000 in
theorem gX3_read_X0_faultOfPair : GoodIn wsX3_read (wsV RX3 211 RX0 yX0_faultOfPair wsX0_faultOfPair) := goodIn_app (goodIn_of _ (by decide +kernel)) ggX3_read_X0_faultOfPair
set_option maxRecDepth 20000 in
theorem ggX3_read_X3_takeMeans : GoodIn wsX3_read wsX3_takeMeans := goodIn_r _ [46, 2, 47, 48, 49, 50, 8, 51, 52, 53, 54, 55, 56, 57, 13, 58, 15, 7, 9, 59, 60, 61, 6, 62, 63, 64, 65, 18, 28, 16, 66, 67, 68, 69, 19, 29, 26, 70, 71, 72, 73, 74, 75, 76, 77, 78, 79, 21, 80, 81, 82, 83, 84, 85, 86, 87, 88, 89, 90, 91, 27, 17, 92, 93, 94, 95, 96, 97, 98, 99, 100, 101, 102, 103, 104, 105, 106, 107, 108, 109, 110, 111, 112, 113, 117, 118, 119, 120, 121, 122, 123, 124, 125, 126, 127, 128, 129] (by decide +kernel) (by decide +kernel)
set_option maxRecDepth 20000 in
theorem gX3_read_X3_takeMeans : GoodIn wsX3_read (wsV RX3 218 RX3 yX3_takeMeans wsX3_takeMeans) := goodIn_app (goodIn_of _ (by decide +kernel)) ggX3_read_X3_takeMeans
theorem dX3_read_0 : decode cX3_read 0 = .ok (.iload_n 1, 1) := by decide +kernel
theorem dX3_read_1 : decode cX3_read 1 = .ok (.iconst 0, 1) := by decide +kernel
theorem dX3_read_2 : decode cX3_read 2 = .ok (.iconst 3, 1) := by decide +kernel
theorem dX3_read_3 : decode cX3_read 3 = .ok (.invokestatic 51, 3) := by decide +kernel
theorem dX3_read_6 : decode cX3_read 6 = .ok (.ifCond .eq 23, 3) := by decide +kernel
theorem dX3_read_9 : decode cX3_read 9 = .ok (.iload_n 2, 1) := by decide +kernel
theorem dX3_read_10 : decode cX3_read 10 = .ok (.iconst 0, 1) := by decide +kernel
theorem dX3_read_11 : decode cX3_read 11 = .ok (.iconst 2, 1) := by decide +kernel
theorem dX3_read_12 : decode cX3_read 12 = .ok (.invokestatic 51, 3) := by decide +kernel
theorem dX3_read_15 : decode cX3_read 15 = .ok (.ifCond .eq 14, 3) := by decide +kernel
theorem dX3_read_18 : decode cX3_read 18 = .ok (.iload 4, 2) := by decide +kernel
theorem dX3_read_20 : decode cX3_read 20 = .ok (.iconst 0, 1) := by decide +kernel
theorem dX3_read_21 : decode cX3_read 21 = .ok (.bipush 20, 2) := by decide +kernel
theorem dX3_read_23 : decode cX3_read 23 = .ok (.invokestatic 51, 3) := by decide +kernel
theorem dX3_read_26 : decode cX3_read 26 = .ok (.ifCond .ne 5, 3) := by decide +kernel
theorem dX3_read_29 : decode cX3_read 29 = .ok (.iconst (-1), 1) := by decide +kernel
theorem dX3_read_30 : decode cX3_read 30 = .ok (.ireturn, 1) := by decide +kernel
theorem dX3_read_31 : decode cX3_read 31 = .ok (.aload_n 0, 1) := by decide +kernel
theorem dX3_read_32 : decode cX3_read 32 = .ok (.getfield 26, 3) := by decide +kernel
theorem dX3_read_35 : decode cX3_read 35 = .ok (.aload_n 0, 1) := by decide +kernel
theorem dX3_read_36 : decode cX3_read 36 = .ok (.getfield 19, 3) := by decide +kernel
theorem dX3_read_39 : decode cX3_read 39 = .ok (.invokevirtual 76, 3) := by decide +kernel
theorem dX3_read_42 : decode cX3_read 42 = .ok (.aload_n 0, 1) := by decide +kernel
theorem dX3_read_43 : decode cX3_read 43 = .ok (.getfield 39, 3) := by decide +kernel
theorem dX3_read_46 : decode cX3_read 46 = .ok (.iload_n 1, 1) := by decide +kernel
theorem dX3_read_47 : decode cX3_read 47 = .ok (.aaload, 1) := by decide +kernel
theorem dX3_read_48 : decode cX3_read 48 = .ok (.astore 5, 2) := by decide +kernel
theorem dX3_read_50 : decode cX3_read 50 = .ok (.iconst 0, 1) := by decide +kernel
theorem dX3_read_51 : decode cX3_read 51 = .ok (.istore 6, 2) := by decide +kernel
theorem dX3_read_53 : decode cX3_read 53 = .ok (.iconst 0, 1) := by decide +kernel
theorem dX3_read_54 : decode cX3_read 54 = .ok (.istore 7, 2) := by decide +kernel
theorem dX3_read_56 : decode cX3_read 56 = .ok (.iconst 0, 1) := by decide +kernel
theorem dX3_read_57 : decode cX3_read 57 = .ok (.istore 8, 2) := by decide +kernel
theorem dX3_read_59 : decode cX3_read 59 = .ok (.iload 8, 2) := by decide +kernel
theorem dX3_read_61 : decode cX3_read 61 = .ok (.iload 4, 2) := by decide +kernel
theorem dX3_read_63 : decode cX3_read 63 = .ok (.if_icmp .ge 82, 3) := by decide +kernel
theorem dX3_read_66 : decode cX3_read 66 = .ok (.iload 7, 2) := by decide +kernel
theorem dX3_read_68 : decode cX3_read 68 = .ok (.ifCond .ne 77, 3) := by decide +kernel
theorem dX3_read_71 : decode cX3_read 71 = .ok (.iload_n 3, 1) := by decide +kernel
theorem dX3_read_72 : decode cX3_read 72 = .ok (.iconst 2, 1) := by decide +kernel
theorem dX3_read_73 : decode cX3_read 73 = .ok (.iload 8, 2) := by decide +kernel
theorem dX3_read_75 : decode cX3_read 75 = .ok (.imul, 1) := by decide +kernel
theorem dX3_read_76 : decode cX3_read 76 = .ok (.iadd, 1) := by decide +kernel
theorem dX3_read_77 : decode cX3_read 77 = .ok (.istore 9, 2) := by decide +kernel
theorem dX3_read_79 : decode cX3_read 79 = .ok (.aload 5, 2) := by decide +kernel
theorem dX3_read_81 : decode cX3_read 81 = .ok (.iload_n 2, 1) := by decide +kernel
theorem dX3_read_82 : decode cX3_read 82 = .ok (.iload 9, 2) := by decide +kernel
theorem dX3_read_84 : decode cX3_read 84 = .ok (.invokevirtual 211, 3) := by decide +kernel
theorem dX3_read_87 : decode cX3_read 87 = .ok (.istore 7, 2) := by decide +kernel
theorem dX3_read_89 : decode cX3_read 89 = .ok (.iload 7, 2) := by decide +kernel
theorem dX3_read_91 : decode cX3_read 91 = .ok (.ifCond .ne 48, 3) := by decide +kernel
theorem dX3_read_94 : decode cX3_read 94 = .ok (.aload_n 0, 1) := by decide +kernel
theorem dX3_read_95 : decode cX3_read 95 = .ok (.aload 5, 2) := by decide +kernel
theorem dX3_read_97 : decode cX3_read 97 = .ok (.getfield 215, 3) := by decide +kernel
theorem dX3_read_100 : decode cX3_read 100 = .ok (.iload 9, 2) := by decide +kernel
theorem dX3_read_102 : decode cX3_read 102 = .ok (.iaload, 1) := by decide +kernel
theorem dX3_read_103 : decode cX3_read 103 = .ok (.aload 5, 2) := by decide +kernel
theorem dX3_read_105 : decode cX3_read 105 = .ok (.getfield 215, 3) := by decide +kernel
theorem dX3_read_108 : decode cX3_read 108 = .ok (.iload 9, 2) := by decide +kernel
theorem dX3_read_110 : decode cX3_read 110 = .ok (.iconst 1, 1) := by decide +kernel
theorem dX3_read_111 : decode cX3_read 111 = .ok (.iadd, 1) := by decide +kernel
theorem dX3_read_112 : decode cX3_read 112 = .ok (.iaload, 1) := by decide +kernel
theorem dX3_read_113 : decode cX3_read 113 = .ok (.invokevirtual 218, 3) := by decide +kernel
theorem dX3_read_116 : decode cX3_read 116 = .ok (.ifCond .ne 20, 3) := by decide +kernel
theorem dX3_read_119 : decode cX3_read 119 = .ok (.aload_n 0, 1) := by decide +kernel
theorem dX3_read_120 : decode cX3_read 120 = .ok (.getfield 19, 3) := by decide +kernel
theorem dX3_read_123 : decode cX3_read 123 = .ok (.aload_n 0, 1) := by decide +kernel
theorem dX3_read_124 : decode cX3_read 124 = .ok (.getfield 26, 3) := by decide +kernel
theorem dX3_read_127 : decode cX3_read 127 = .ok (.invokevirtual 76, 3) := by decide +kernel
theorem dX3_read_130 : decode cX3_read 130 = .ok (.bipush (-20), 2) := by decide +kernel
theorem dX3_read_132 : decode cX3_read 132 = .ok (.iload 8, 2) := by decide +kernel
theorem dX3_read_134 : decode cX3_read 134 = .ok (.isub, 1) := by decide +kernel
theorem dX3_read_135 : decode cX3_read 135 = .ok (.ireturn, 1) := by decide +kernel
theorem dX3_read_136 : decode cX3_read 136 = .ok (.iinc 6 1, 3) := by decide +kernel
theorem dX3_read_139 : decode cX3_read 139 = .ok (.iinc 8 1, 3) := by decide +kernel
theorem dX3_read_142 : decode cX3_read 142 = .ok (.goto (-83), 3) := by decide +kernel
theorem dX3_read_145 : decode cX3_read 145 = .ok (.aload_n 0, 1) := by decide +kernel
theorem dX3_read_146 : decode cX3_read 146 = .ok (.iload 7, 2) := by decide +kernel
theorem dX3_read_148 : decode cX3_read 148 = .ok (.putfield 221, 3) := by decide +kernel
theorem dX3_read_151 : decode cX3_read 151 = .ok (.iload 6, 2) := by decide +kernel
theorem dX3_read_153 : decode cX3_read 153 = .ok (.ireturn, 1) := by decide +kernel
theorem dX3_torn_0 : decode cX3_torn 0 = .ok (.aload_n 0, 1) := by decide +kernel
theorem dX3_torn_1 : decode cX3_torn 1 = .ok (.getfield 221, 3) := by decide +kernel
theorem dX3_torn_4 : decode cX3_torn 4 = .ok (.ireturn, 1) := by decide +kernel
set_option maxRecDepth 20000 in
theorem ggX3_count_X2_keptByAll : GoodIn wsX3_count wsX2_keptByAll := goodIn_r _ [13, 14, 15, 26, 27, 28, 29, 30, 31, 32, 33, 34, 35, 36, 37, 38] (by decide +kernel) (by decide +kernel)
set_option maxRecDepth 20000 in
theorem gX3_count_X2_keptByAll : GoodIn wsX3_count (wsV RX3 230 RX2 yX2_keptByAll wsX2_keptByAll) := goodIn_app (goodIn_of _ (by decide +kernel)) ggX3_count_X2_keptByAll
theorem dX3_count_0 : decode cX3_count 0 = .ok (.iload_n 1, 1) := by decide +kernel
theorem dX3_count_1 : decode cX3_count 1 = .ok (.tableswitch 117 0 4 #[35, 43, 73, 81, 109], 35) := by decide +kernel
theorem dX3_count_36 : decode cX3_count 36 = .ok (.aload_n 0, 1) := by decide +kernel
theorem dX3_count_37 : decode cX3_count 37 = .ok (.getfield 19, 3) := by decide +kernel
theorem dX3_count_40 : decode cX3_count 40 = .ok (.getfield 180, 3) := by decide +kernel
theorem dX3_count_43 : decode cX3_count 43 = .ok (.ireturn, 1) := by decide +kernel
theorem dX3_count_44 : decode cX3_count 44 = .ok (.aload_n 0, 1) := by decide +kernel
theorem dX3_count_45 : decode cX3_count 45 = .ok (.getfield 33, 3) := by decide +kernel
theorem dX3_count_48 : decode cX3_count 48 = .ok (.iconst 0, 1) := by decide +kernel
theorem dX3_count_49 : decode cX3_count 49 = .ok (.baload, 1) := by decide +kernel
theorem dX3_count_50 : decode cX3_count 50 = .ok (.ifCond .eq 7, 3) := by decide +kernel
theorem dX3_count_53 : decode cX3_count 53 = .ok (.iconst 1, 1) := by decide +kernel
theorem dX3_count_54 : decode cX3_count 54 = .ok (.goto 4, 3) := by decide +kernel
theorem dX3_count_57 : decode cX3_count 57 = .ok (.iconst 0, 1) := by decide +kernel
theorem dX3_count_58 : decode cX3_count 58 = .ok (.aload_n 0, 1) := by decide +kernel
theorem dX3_count_59 : decode cX3_count 59 = .ok (.getfield 33, 3) := by decide +kernel
theorem dX3_count_62 : decode cX3_count 62 = .ok (.iconst 1, 1) := by decide +kernel
theorem dX3_count_63 : decode cX3_count 63 = .ok (.baload, 1) := by decide +kernel
theorem dX3_count_64 : decode cX3_count 64 = .ok (.ifCond .eq 7, 3) := by decide +kernel
theorem dX3_count_67 : decode cX3_count 67 = .ok (.iconst 1, 1) := by decide +kernel
theorem dX3_count_68 : decode cX3_count 68 = .ok (.goto 4, 3) := by decide +kernel
theorem dX3_count_71 : decode cX3_count 71 = .ok (.iconst 0, 1) := by decide +kernel
theorem dX3_count_72 : decode cX3_count 72 = .ok (.iadd, 1) := by decide +kernel
theorem dX3_count_73 : decode cX3_count 73 = .ok (.ireturn, 1) := by decide +kernel
theorem dX3_count_74 : decode cX3_count 74 = .ok (.aload_n 0, 1) := by decide +kernel
theorem dX3_count_75 : decode cX3_count 75 = .ok (.getfield 10, 3) := by decide +kernel
theorem dX3_count_78 : decode cX3_count 78 = .ok (.getfield 59, 3) := by decide +kernel
theorem dX3_count_81 : decode cX3_count 81 = .ok (.ireturn, 1) := by decide +kernel
theorem dX3_count_82 : decode cX3_count 82 = .ok (.aload_n 0, 1) := by decide +kernel
theorem dX3_count_83 : decode cX3_count 83 = .ok (.getfield 39, 3) := by decide +kernel
theorem dX3_count_86 : decode cX3_count 86 = .ok (.iconst 0, 1) := by decide +kernel
theorem dX3_count_87 : decode cX3_count 87 = .ok (.aaload, 1) := by decide +kernel
theorem dX3_count_88 : decode cX3_count 88 = .ok (.getfield 224, 3) := by decide +kernel
theorem dX3_count_91 : decode cX3_count 91 = .ok (.iconst (-1), 1) := by decide +kernel
theorem dX3_count_92 : decode cX3_count 92 = .ok (.if_icmp .ne 8, 3) := by decide +kernel
theorem dX3_count_95 : decode cX3_count 95 = .ok (.bipush (-4), 2) := by decide +kernel
theorem dX3_count_97 : decode cX3_count 97 = .ok (.goto 12, 3) := by decide +kernel
theorem dX3_count_100 : decode cX3_count 100 = .ok (.aload_n 0, 1) := by decide +kernel
theorem dX3_count_101 : decode cX3_count 101 = .ok (.getfield 39, 3) := by decide +kernel
theorem dX3_count_104 : decode cX3_count 104 = .ok (.iconst 0, 1) := by decide +kernel
theorem dX3_count_105 : decode cX3_count 105 = .ok (.aaload, 1) := by decide +kernel
theorem dX3_count_106 : decode cX3_count 106 = .ok (.getfield 227, 3) := by decide +kernel
theorem dX3_count_109 : decode cX3_count 109 = .ok (.ireturn, 1) := by decide +kernel
theorem dX3_count_110 : decode cX3_count 110 = .ok (.aload_n 0, 1) := by decide +kernel
theorem dX3_count_111 : decode cX3_count 111 = .ok (.getfield 19, 3) := by decide +kernel
theorem dX3_count_114 : decode cX3_count 114 = .ok (.invokevirtual 230, 3) := by decide +kernel
theorem dX3_count_117 : decode cX3_count 117 = .ok (.ireturn, 1) := by decide +kernel
theorem dX3_count_118 : decode cX3_count 118 = .ok (.iconst (-1), 1) := by decide +kernel
theorem dX3_count_119 : decode cX3_count 119 = .ok (.ireturn, 1) := by decide +kernel
theorem dX3_within_0 : decode cX3_within 0 = .ok (.iload_n 0, 1) := by decide +kernel
theorem dX3_within_1 : decode cX3_within 1 = .ok (.iload_n 1, 1) := by decide +kernel
theorem dX3_within_2 : decode cX3_within 2 = .ok (.if_icmp .lt 12, 3) := by decide +kernel
theorem dX3_within_5 : decode cX3_within 5 = .ok (.iload_n 0, 1) := by decide +kernel
theorem dX3_within_6 : decode cX3_within 6 = .ok (.iload_n 2, 1) := by decide +kernel
theorem dX3_within_7 : decode cX3_within 7 = .ok (.if_icmp .gt 7, 3) := by decide +kernel
theorem dX3_within_10 : decode cX3_within 10 = .ok (.iconst 1, 1) := by decide +kernel
theorem dX3_within_11 : decode cX3_within 11 = .ok (.goto 4, 3) := by decide +kernel
theorem dX3_within_14 : decode cX3_within 14 = .ok (.iconst 0, 1) := by decide +kernel
theorem dX3_within_15 : decode cX3_within 15 = .ok (.ireturn, 1) := by decide +kernel
theorem dX3_bounded_0 : decode cX3_bounded 0 = .ok (.iload_n 0, 1) := by decide +kernel
theorem dX3_bounded_1 : decode cX3_bounded 1 = .ok (.ifCond .ge 7, 3) := by decide +kernel
theorem dX3_bounded_4 : decode cX3_bounded 4 = .ok (.iconst 0, 1) := by decide +kernel
theorem dX3_bounded_5 : decode cX3_bounded 5 = .ok (.goto 17, 3) := by decide +kernel
theorem dX3_bounded_8 : decode cX3_bounded 8 = .ok (.iload_n 0, 1) := by decide +kernel
theorem dX3_bounded_9 : decode cX3_bounded 9 = .ok (.sipush 999, 3) := by decide +kernel
theorem dX3_bounded_12 : decode cX3_bounded 12 = .ok (.if_icmp .le 9, 3) := by decide +kernel
theorem dX3_bounded_15 : decode cX3_bounded 15 = .ok (.sipush 999, 3) := by decide +kernel
theorem dX3_bounded_18 : decode cX3_bounded 18 = .ok (.goto 4, 3) := by decide +kernel
theorem dX3_bounded_21 : decode cX3_bounded 21 = .ok (.iload_n 0, 1) := by decide +kernel
theorem dX3_bounded_22 : decode cX3_bounded 22 = .ok (.ireturn, 1) := by decide +kernel
set_option maxRecDepth 20000 in
theorem ggX3_exchange_X3_within : GoodIn wsX3_exchange wsX3_within := goodIn_r _ [4] (by decide +kernel) (by decide +kernel)
set_option maxRecDepth 20000 in
theorem gX3_exchange_X3_within : GoodIn wsX3_exchange (va_wsS RX3 51 yX3_within wsX3_within) := goodIn_app (goodIn_of _ (by decide +kernel)) ggX3_exchange_X3_within
theorem dX3_exchange_0 : decode cX3_exchange 0 = .ok (.iload_n 2, 1) := by decide +kernel
theorem dX3_exchange_1 : decode cX3_exchange 1 = .ok (.iconst 0, 1) := by decide +kernel
theorem dX3_exchange_2 : decode cX3_exchange 2 = .ok (.iload_n 3, 1) := by decide +kernel
theorem dX3_exchange_3 : decode cX3_exchange 3 = .ok (.invokestatic 51, 3) := by decide +kernel
theorem dX3_exchange_6 : decode cX3_exchange 6 = .ok (.ifCond .ne 5, 3) := by decide +kernel
theorem dX3_exchange_9 : decode cX3_exchange 9 = .ok (.iconst (-1), 1) := by decide +kernel
theorem dX3_exchange_10 : decode cX3_exchange 10 = .ok (.ireturn, 1) := by decide +kernel
theorem dX3_exchange_11 : decode cX3_exchange 11 = .ok (.aload_n 0, 1) := by decide +kernel
theorem dX3_exchange_12 : decode cX3_exchange 12 = .ok (.iload_n 1, 1) := by decide +kernel
theorem dX3_exchange_13 : decode cX3_exchange 13 = .ok (.iaload, 1) := by decide +kernel
theorem dX3_exchange_14 : decode cX3_exchange 14 = .ok (.istore 4, 2) := by decide +kernel
theorem dX3_exchange_16 : decode cX3_exchange 16 = .ok (.aload_n 0, 1) := by decide +kernel
theorem dX3_exchange_17 : decode cX3_exchange 17 = .ok (.iload_n 1, 1) := by decide +kernel
theorem dX3_exchange_18 : decode cX3_exchange 18 = .ok (.iload_n 2, 1) := by decide +kernel
theorem dX3_exchange_19 : decode cX3_exchange 19 = .ok (.iastore, 1) := by decide +kernel
theorem dX3_exchange_20 : decode cX3_exchange 20 = .ok (.iload 4, 2) := by decide +kernel
theorem dX3_exchange_22 : decode cX3_exchange 22 = .ok (.ireturn, 1) := by decide +kernel
set_option maxRecDepth 20000 in
theorem ggX3_ofFraction_X3_commonDivisor : GoodIn wsX3_ofFraction wsX3_commonDivisor := goodIn_r _ [4] (by decide +kernel) (by decide +kernel)
set_option maxRecDepth 20000 in
theorem gX3_ofFraction_X3_commonDivisor : GoodIn wsX3_ofFraction (va_wsS RX3 233 yX3_commonDivisor wsX3_commonDivisor) := goodIn_app (goodIn_of _ (by decide +kernel)) ggX3_ofFraction_X3_commonDivisor
theorem dX3_ofFraction_0 : decode cX3_ofFraction 0 = .ok (.lload_n 0, 1) := by decide +kernel
theorem dX3_ofFraction_1 : decode cX3_ofFraction 1 = .ok (.lload_n 2, 1) := by decide +kernel
theorem dX3_ofFraction_2 : decode cX3_ofFraction 2 = .ok (.invokestatic 233, 3) := by decide +kernel
theorem dX3_ofFraction_5 : decode cX3_ofFraction 5 = .ok (.lstore 5, 2) := by decide +kernel
theorem dX3_ofFraction_7 : decode cX3_ofFraction 7 = .ok (.lload 5, 2) := by decide +kernel
theorem dX3_ofFraction_9 : decode cX3_ofFraction 9 = .ok (.lconst 0, 1) := by decide +kernel
theorem dX3_ofFraction_10 : decode cX3_ofFraction 10 = .ok (.lcmp, 1) := by decide +kernel
theorem dX3_ofFraction_11 : decode cX3_ofFraction 11 = .ok (.ifCond .ne 7, 3) := by decide +kernel
theorem dX3_ofFraction_14 : decode cX3_ofFraction 14 = .ok (.iload 4, 2) := by decide +kernel
theorem dX3_ofFraction_16 : decode cX3_ofFraction 16 = .ok (.i2l, 1) := by decide +kernel
theorem dX3_ofFraction_17 : decode cX3_ofFraction 17 = .ok (.lreturn, 1) := by decide +kernel
theorem dX3_ofFraction_18 : decode cX3_ofFraction 18 = .ok (.iload 4, 2) := by decide +kernel
theorem dX3_ofFraction_20 : decode cX3_ofFraction 20 = .ok (.ifCond .ne 7, 3) := by decide +kernel
theorem dX3_ofFraction_23 : decode cX3_ofFraction 23 = .ok (.lload_n 0, 1) := by decide +kernel
theorem dX3_ofFraction_24 : decode cX3_ofFraction 24 = .ok (.goto 4, 3) := by decide +kernel
theorem dX3_ofFraction_27 : decode cX3_ofFraction 27 = .ok (.lload_n 2, 1) := by decide +kernel
theorem dX3_ofFraction_28 : decode cX3_ofFraction 28 = .ok (.lload 5, 2) := by decide +kernel
theorem dX3_ofFraction_30 : decode cX3_ofFraction 30 = .ok (.ldiv, 1) := by decide +kernel
theorem dX3_ofFraction_31 : decode cX3_ofFraction 31 = .ok (.lreturn, 1) := by decide +kernel
theorem dX3_commonDivisor_0 : decode cX3_commonDivisor 0 = .ok (.lload_n 0, 1) := by decide +kernel
theorem dX3_commonDivisor_1 : decode cX3_commonDivisor 1 = .ok (.lstore 4, 2) := by decide +kernel
theorem dX3_commonDivisor_3 : decode cX3_commonDivisor 3 = .ok (.lload_n 2, 1) := by decide +kernel
theorem dX3_commonDivisor_4 : decode cX3_commonDivisor 4 = .ok (.lstore 6, 2) := by decide +kernel
theorem dX3_commonDivisor_6 : decode cX3_commonDivisor 6 = .ok (.iconst 0, 1) := by decide +kernel
theorem dX3_commonDivisor_7 : decode cX3_commonDivisor 7 = .ok (.istore 8, 2) := by decide +kernel
theorem dX3_commonDivisor_9 : decode cX3_commonDivisor 9 = .ok (.iload 8, 2) := by decide +kernel
theorem dX3_commonDivisor_11 : decode cX3_commonDivisor 11 = .ok (.sipush 200, 3) := by decide +kernel
theorem dX3_commonDivisor_14 : decode cX3_commonDivisor 14 = .ok (.if_icmp .ge 31, 3) := by decide +kernel
theorem dX3_commonDivisor_17 : decode cX3_commonDivisor 17 = .ok (.lload 6, 2) := by decide +kernel
theorem dX3_commonDivisor_19 : decode cX3_commonDivisor 19 = .ok (.lconst 0, 1) := by decide +kernel
theorem dX3_commonDivisor_20 : decode cX3_commonDivisor 20 = .ok (.lcmp, 1) := by decide +kernel
theorem dX3_commonDivisor_21 : decode cX3_commonDivisor 21 = .ok (.ifCond .eq 24, 3) := by decide +kernel
theorem dX3_commonDivisor_24 : decode cX3_commonDivisor 24 = .ok (.lload 4, 2) := by decide +kernel
theorem dX3_commonDivisor_26 : decode cX3_commonDivisor 26 = .ok (.lload 6, 2) := by decide +kernel
theorem dX3_commonDivisor_28 : decode cX3_commonDivisor 28 = .ok (.lrem, 1) := by decide +kernel
theorem dX3_commonDivisor_29 : decode cX3_commonDivisor 29 = .ok (.lstore 9, 2) := by decide +kernel
theorem dX3_commonDivisor_31 : decode cX3_commonDivisor 31 = .ok (.lload 6, 2) := by decide +kernel
theorem dX3_commonDivisor_33 : decode cX3_commonDivisor 33 = .ok (.lstore 4, 2) := by decide +kernel
theorem dX3_commonDivisor_35 : decode cX3_commonDivisor 35 = .ok (.lload 9, 2) := by decide +kernel
theorem dX3_commonDivisor_37 : decode cX3_commonDivisor 37 = .ok (.lstore 6, 2) := by decide +kernel
theorem dX3_commonDivisor_39 : decode cX3_commonDivisor 39 = .ok (.iinc 8 1, 3) := by decide +kernel
theorem dX3_commonDivisor_42 : decode cX3_commonDivisor 42 = .ok (.goto (-33), 3) := by decide +kernel
theorem dX3_commonDivisor_45 : decode cX3_commonDivisor 45 = .ok (.lload 4, 2) := by decide +kernel
theorem dX3_commonDivisor_47 : decode cX3_commonDivisor 47 = .ok (.lreturn, 1) := by decide +kernel
set_option maxRecDepth 20000 in
theorem ggX3_ruinedBehind_X2_become : GoodIn wsX3_ruinedBehind wsX2_become := goodIn_r _ [7, 8, 9, 10, 11, 12, 13, 14, 15, 16, 17, 18, 19, 20, 21, 22, 23, 24, 97, 98, 99, 100, 101, 102, 103, 104, 105, 106, 107, 108, 109] (by decide +kernel) (by decide +kernel)
set_option maxRecDepth 20000 in
theorem gX3_ruinedBehind_X2_become : GoodIn wsX3_ruinedBehind (wsV RX3 76 RX2 yX2_become wsX2_become) := goodIn_app (goodIn_of _ (by decide +kernel)) ggX3_ruinedBehind_X2_become
set_option maxRecDepth 20000 in
theorem ggX3_ruinedBehind_X2_pass : GoodIn wsX3_ruinedBehind wsX2_pass := goodIn_r _ [28, 29, 30, 31, 6, 32, 8, 11, 21, 9, 33, 34, 35, 36, 12, 22, 19, 37, 38, 39, 40, 41, 42, 43, 44, 45, 46, 47, 14, 48, 49, 50, 51, 52, 53, 54, 55, 56, 57, 58, 59, 20, 10, 60, 61, 62, 63, 64, 65, 66, 67, 68, 69, 70, 71, 97, 98, 99, 100, 101, 102, 103, 104, 105, 106, 107, 108, 109] (by decide +kernel) (by decide +kernel)
set_option maxRecDepth 20000 in
theorem gX3_ruinedBehind_X2_pass : GoodIn wsX3_ruinedBehind (wsV RX3 135 RX2 yX2_pass wsX2_pass) := goodIn_app (goodIn_of _ (by decide +kernel)) ggX3_ruinedBehind_X2_pass
set_option maxRecDepth 20000 in
theorem ggX3_ruinedBehind_X2_ruinedCount : GoodIn wsX3_ruinedBehind wsX2_ruinedCount := goodIn_r _ [75, 76, 77, 78, 6, 79, 8, 64, 65, 66, 67, 19, 80, 81, 82, 83, 84, 85, 86, 97, 98, 99, 100, 101, 102, 103, 104, 105, 106, 107, 108, 109] (by decide +kernel) (by decide +kernel)
set_option maxRecDepth 20000 in
theorem gX3_ruinedBehind_X2_ruinedCount : GoodIn wsX3_ruinedBehind (wsV RX3 237 RX2 yX2_ruinedCount wsX2_ruinedCount) := goodIn_app (goodIn_of _ (by decide +kernel)) ggX3_ruinedBehind_X2_ruinedCount
theorem dX3_ruinedBehind_0 : decode cX3_ruinedBehind 0 = .ok (.aload_n 0, 1) := by decide +kernel
theorem dX3_ruinedBehind_1 : decode cX3_ruinedBehind 1 = .ok (.getfield 23, 3) := by decide +kernel
theorem dX3_ruinedBehind_4 : decode cX3_ruinedBehind 4 = .ok (.aload_n 0, 1) := by decide +kernel
theorem dX3_ruinedBehind_5 : decode cX3_ruinedBehind 5 = .ok (.getfield 19, 3) := by decide +kernel
theorem dX3_ruinedBehind_8 : decode cX3_ruinedBehind 8 = .ok (.invokevirtual 76, 3) := by decide +kernel
theorem dX3_ruinedBehind_11 : decode cX3_ruinedBehind 11 = .ok (.aload_n 0, 1) := by decide +kernel
theorem dX3_ruinedBehind_12 : decode cX3_ruinedBehind 12 = .ok (.getfield 23, 3) := by decide +kernel
theorem dX3_ruinedBehind_15 : decode cX3_ruinedBehind 15 = .ok (.iload_n 1, 1) := by decide +kernel
theorem dX3_ruinedBehind_16 : decode cX3_ruinedBehind 16 = .ok (.invokevirtual 135, 3) := by decide +kernel
theorem dX3_ruinedBehind_19 : decode cX3_ruinedBehind 19 = .ok (.aload_n 0, 1) := by decide +kernel
theorem dX3_ruinedBehind_20 : decode cX3_ruinedBehind 20 = .ok (.getfield 23, 3) := by decide +kernel
theorem dX3_ruinedBehind_23 : decode cX3_ruinedBehind 23 = .ok (.invokevirtual 237, 3) := by decide +kernel
theorem dX3_ruinedBehind_26 : decode cX3_ruinedBehind 26 = .ok (.ireturn, 1) := by decide +kernel
set_option maxRecDepth 20000 in
theorem ggX3_ruinedByGift_X2_become : GoodIn wsX3_ruinedByGift wsX2_become := goodIn_r _ [8, 9, 10, 11, 12, 13, 14, 15, 16, 17, 18, 19, 20, 21, 22, 23, 24, 25, 102, 103, 104, 105, 106, 107, 108, 109, 110, 111, 112, 113, 114] (by decide +kernel) (by decide +kernel)
set_option maxRecDepth 20000 in
theorem gX3_ruinedByGift_X2_become : GoodIn wsX3_ruinedByGift (wsV RX3 76 RX2 yX2_become wsX2_become) := goodIn_app (goodIn_of _ (by decide +kernel)) ggX3_ruinedByGift_X2_become
set_option maxRecDepth 20000 in
theorem ggX3_ruinedByGift_X2_addGift : GoodIn wsX3_ruinedByGift wsX2_addGift := goodIn_r _ [29, 13, 23, 102, 103, 104, 105, 106, 107, 108, 109, 110, 111, 112, 113, 114] (by decide +kernel) (by decide +kernel)
set_option maxRecDepth 20000 in
theorem gX3_ruinedByGift_X2_addGift : GoodIn wsX3_ruinedByGift (wsV RX3 131 RX2 yX2_addGift wsX2_addGift) := goodIn_app (goodIn_of _ (by decide +kernel)) ggX3_ruinedByGift_X2_addGift
set_option maxRecDepth 20000 in
theorem ggX3_ruinedByGift_X2_pass : GoodIn wsX3_ruinedByGift wsX2_pass := goodIn_r _ [33, 34, 35, 36, 7, 37, 9, 12, 22, 10, 38, 39, 40, 41, 13, 23, 20, 42, 43, 44, 45, 46, 47, 48, 49, 50, 51, 52, 15, 53, 54, 55, 56, 57, 58, 59, 60, 61, 62, 63, 64, 21, 11, 65, 66, 67, 68, 69, 70, 71, 72, 73, 74, 75, 76, 102, 103, 104, 105, 106, 107, 108, 109, 110, 111, 112, 113, 114] (by decide +kernel) (by decide +kernel)
set_option maxRecDepth 20000 in
theorem gX3_ruinedByGift_X2_pass : GoodIn wsX3_ruinedByGift (wsV RX3 135 RX2 yX2_pass wsX2_pass) := goodIn_app (goodIn_of _ (by decide +kernel)) ggX3_ruinedByGift_X2_pass
set_option maxRecDepth 20000 in
theorem ggX3_ruinedByGift_X2_ruinedCount : GoodIn wsX3_ruinedByGift wsX2_ruinedCount := goodIn_r _ [80, 81, 82, 83, 7, 84, 9, 69, 70, 71, 72, 20, 85, 86, 87, 88, 89, 90, 91, 102, 103, 104, 105, 106, 107, 108, 109, 110, 111, 112, 113, 114] (by decide +kernel) (by decide +kernel)
set_option maxRecDepth 20000 in
theorem gX3_ruinedByGift_X2_ruinedCount : GoodIn wsX3_ruinedByGift (wsV RX3 237 RX2 yX2_ruinedCount wsX2_ruinedCount) := goodIn_app (goodIn_of _ (by decide +kernel)) ggX3_ruinedByGift_X2_ruinedCount
theorem dX3_ruinedByGift_0 : decode cX3_ruinedByGift 0 = .ok (.aload_n 0, 1) := by decide +kernel
theorem dX3_ruinedByGift_1 : decode cX3_ruinedByGift 1 = .ok (.getfield 23, 3) := by decide +kernel
theorem dX3_ruinedByGift_4 : decode cX3_ruinedByGift 4 = .ok (.aload_n 0, 1) := by decide +kernel
theorem dX3_ruinedByGift_5 : decode cX3_ruinedByGift 5 = .ok (.getfield 19, 3) := by decide +kernel
theorem dX3_ruinedByGift_8 : decode cX3_ruinedByGift 8 = .ok (.invokevirtual 76, 3) := by decide +kernel
theorem dX3_ruinedByGift_11 : decode cX3_ruinedByGift 11 = .ok (.aload_n 0, 1) := by decide +kernel
theorem dX3_ruinedByGift_12 : decode cX3_ruinedByGift 12 = .ok (.getfield 23, 3) := by decide +kernel
theorem dX3_ruinedByGift_15 : decode cX3_ruinedByGift 15 = .ok (.aload_n 0, 1) := by decide +kernel
theorem dX3_ruinedByGift_16 : decode cX3_ruinedByGift 16 = .ok (.getfield 19, 3) := by decide +kernel
theorem dX3_ruinedByGift_19 : decode cX3_ruinedByGift 19 = .ok (.getfield 83, 3) := by decide +kernel
theorem dX3_ruinedByGift_22 : decode cX3_ruinedByGift 22 = .ok (.iload_n 1, 1) := by decide +kernel
theorem dX3_ruinedByGift_23 : decode cX3_ruinedByGift 23 = .ok (.iload_n 2, 1) := by decide +kernel
theorem dX3_ruinedByGift_24 : decode cX3_ruinedByGift 24 = .ok (.iload_n 3, 1) := by decide +kernel
theorem dX3_ruinedByGift_25 : decode cX3_ruinedByGift 25 = .ok (.invokevirtual 131, 3) := by decide +kernel
theorem dX3_ruinedByGift_28 : decode cX3_ruinedByGift 28 = .ok (.pop, 1) := by decide +kernel
theorem dX3_ruinedByGift_29 : decode cX3_ruinedByGift 29 = .ok (.aload_n 0, 1) := by decide +kernel
theorem dX3_ruinedByGift_30 : decode cX3_ruinedByGift 30 = .ok (.getfield 23, 3) := by decide +kernel
theorem dX3_ruinedByGift_33 : decode cX3_ruinedByGift 33 = .ok (.iload 4, 2) := by decide +kernel
theorem dX3_ruinedByGift_35 : decode cX3_ruinedByGift 35 = .ok (.invokevirtual 135, 3) := by decide +kernel
theorem dX3_ruinedByGift_38 : decode cX3_ruinedByGift 38 = .ok (.aload_n 0, 1) := by decide +kernel
theorem dX3_ruinedByGift_39 : decode cX3_ruinedByGift 39 = .ok (.getfield 23, 3) := by decide +kernel
theorem dX3_ruinedByGift_42 : decode cX3_ruinedByGift 42 = .ok (.invokevirtual 237, 3) := by decide +kernel
theorem dX3_ruinedByGift_45 : decode cX3_ruinedByGift 45 = .ok (.ireturn, 1) := by decide +kernel
set_option maxRecDepth 20000 in
theorem ggX3_ruinedBySwap_X2_become : GoodIn wsX3_ruinedBySwap wsX2_become := goodIn_r _ [8, 9, 10, 11, 12, 13, 14, 15, 16, 17, 18, 19, 20, 21, 22, 23, 24, 25, 98, 99, 100, 101, 102, 103, 104, 105, 106, 107, 108, 109, 110] (by decide +kernel) (by decide +kernel)
set_option maxRecDepth 20000 in
theorem gX3_ruinedBySwap_X2_become : GoodIn wsX3_ruinedBySwap (wsV RX3 76 RX2 yX2_become wsX2_become) := goodIn_app (goodIn_of _ (by decide +kernel)) ggX3_ruinedBySwap_X2_become
set_option maxRecDepth 20000 in
theorem ggX3_ruinedBySwap_X2_pass : GoodIn wsX3_ruinedBySwap wsX2_pass := goodIn_r _ [29, 30, 31, 32, 7, 33, 9, 12, 22, 10, 34, 35, 36, 37, 13, 23, 20, 38, 39, 40, 41, 42, 43, 44, 45, 46, 47, 48, 15, 49, 50, 51, 52, 53, 54, 55, 56, 57, 58, 59, 60, 21, 11, 61, 62, 63, 64, 65, 66, 67, 68, 69, 70, 71, 72, 98, 99, 100, 101, 102, 103, 104, 105, 106, 107, 108, 109, 110] (by decide +kernel) (by decide +kernel)
set_option maxRecDepth 20000 in
theorem gX3_ruinedBySwap_X2_pass : GoodIn wsX3_ruinedBySwap (wsV RX3 135 RX2 yX2_pass wsX2_pass) := goodIn_app (goodIn_of _ (by decide +kernel)) ggX3_ruinedBySwap_X2_pass
set_option maxRecDepth 20000 in
theorem ggX3_ruinedBySwap_X2_ruinedCount : GoodIn wsX3_ruinedBySwap wsX2_ruinedCount := goodIn_r _ [76, 77, 78, 79, 7, 80, 9, 65, 66, 67, 68, 20, 81, 82, 83, 84, 85, 86, 87, 98, 99, 100, 101, 102, 103, 104, 105, 106, 107, 108, 109, 110] (by decide +kernel) (by decide +kernel)
set_option maxRecDepth 20000 in
theorem gX3_ruinedBySwap_X2_ruinedCount : GoodIn wsX3_ruinedBySwap (wsV RX3 237 RX2 yX2_ruinedCount wsX2_ruinedCount) := goodIn_app (goodIn_of _ (by decide +kernel)) ggX3_ruinedBySwap_X2_ruinedCount
theorem dX3_ruinedBySwap_0 : decode cX3_ruinedBySwap 0 = .ok (.aload_n 0, 1) := by decide +kernel
theorem dX3_ruinedBySwap_1 : decode cX3_ruinedBySwap 1 = .ok (.getfield 23, 3) := by decide +kernel
theorem dX3_ruinedBySwap_4 : decode cX3_ruinedBySwap 4 = .ok (.aload_n 0, 1) := by decide +kernel
theorem dX3_ruinedBySwap_5 : decode cX3_ruinedBySwap 5 = .ok (.getfield 19, 3) := by decide +kernel
theorem dX3_ruinedBySwap_8 : decode cX3_ruinedBySwap 8 = .ok (.invokevirtual 76, 3) := by decide +kernel
theorem dX3_ruinedBySwap_11 : decode cX3_ruinedBySwap 11 = .ok (.aload_n 0, 1) := by decide +kernel
theorem dX3_ruinedBySwap_12 : decode cX3_ruinedBySwap 12 = .ok (.getfield 23, 3) := by decide +kernel
theorem dX3_ruinedBySwap_15 : decode cX3_ruinedBySwap 15 = .ok (.getfield 111, 3) := by decide +kernel
theorem dX3_ruinedBySwap_18 : decode cX3_ruinedBySwap 18 = .ok (.iload_n 1, 1) := by decide +kernel
theorem dX3_ruinedBySwap_19 : decode cX3_ruinedBySwap 19 = .ok (.aload_n 0, 1) := by decide +kernel
theorem dX3_ruinedBySwap_20 : decode cX3_ruinedBySwap 20 = .ok (.getfield 19, 3) := by decide +kernel
theorem dX3_ruinedBySwap_23 : decode cX3_ruinedBySwap 23 = .ok (.getfield 111, 3) := by decide +kernel
theorem dX3_ruinedBySwap_26 : decode cX3_ruinedBySwap 26 = .ok (.iload_n 2, 1) := by decide +kernel
theorem dX3_ruinedBySwap_27 : decode cX3_ruinedBySwap 27 = .ok (.iaload, 1) := by decide +kernel
theorem dX3_ruinedBySwap_28 : decode cX3_ruinedBySwap 28 = .ok (.iastore, 1) := by decide +kernel
theorem dX3_ruinedBySwap_29 : decode cX3_ruinedBySwap 29 = .ok (.aload_n 0, 1) := by decide +kernel
theorem dX3_ruinedBySwap_30 : decode cX3_ruinedBySwap 30 = .ok (.getfield 23, 3) := by decide +kernel
theorem dX3_ruinedBySwap_33 : decode cX3_ruinedBySwap 33 = .ok (.getfield 111, 3) := by decide +kernel
theorem dX3_ruinedBySwap_36 : decode cX3_ruinedBySwap 36 = .ok (.iload_n 2, 1) := by decide +kernel
theorem dX3_ruinedBySwap_37 : decode cX3_ruinedBySwap 37 = .ok (.aload_n 0, 1) := by decide +kernel
theorem dX3_ruinedBySwap_38 : decode cX3_ruinedBySwap 38 = .ok (.getfield 19, 3) := by decide +kernel
theorem dX3_ruinedBySwap_41 : decode cX3_ruinedBySwap 41 = .ok (.getfield 111, 3) := by decide +kernel
theorem dX3_ruinedBySwap_44 : decode cX3_ruinedBySwap 44 = .ok (.iload_n 1, 1) := by decide +kernel
theorem dX3_ruinedBySwap_45 : decode cX3_ruinedBySwap 45 = .ok (.iaload, 1) := by decide +kernel
theorem dX3_ruinedBySwap_46 : decode cX3_ruinedBySwap 46 = .ok (.iastore, 1) := by decide +kernel
theorem dX3_ruinedBySwap_47 : decode cX3_ruinedBySwap 47 = .ok (.aload_n 0, 1) := by decide +kernel
theorem dX3_ruinedBySwap_48 : decode cX3_ruinedBySwap 48 = .ok (.getfield 23, 3) := by decide +kernel
theorem dX3_ruinedBySwap_51 : decode cX3_ruinedBySwap 51 = .ok (.iload_n 3, 1) := by decide +kernel
theorem dX3_ruinedBySwap_52 : decode cX3_ruinedBySwap 52 = .ok (.invokevirtual 135, 3) := by decide +kernel
theorem dX3_ruinedBySwap_55 : decode cX3_ruinedBySwap 55 = .ok (.aload_n 0, 1) := by decide +kernel
theorem dX3_ruinedBySwap_56 : decode cX3_ruinedBySwap 56 = .ok (.getfield 23, 3) := by decide +kernel
theorem dX3_ruinedBySwap_59 : decode cX3_ruinedBySwap 59 = .ok (.invokevirtual 237, 3) := by decide +kernel
theorem dX3_ruinedBySwap_62 : decode cX3_ruinedBySwap 62 = .ok (.ireturn, 1) := by decide +kernel
set_option maxRecDepth 20000 in
theorem ggX3_byOdds_X3_within : GoodIn wsX3_byOdds wsX3_within := goodIn_r _ [10] (by decide +kernel) (by decide +kernel)
set_option maxRecDepth 20000 in
theorem gX3_byOdds_X3_within : GoodIn wsX3_byOdds (va_wsS RX3 51 yX3_within wsX3_within) := goodIn_app (goodIn_of _ (by decide +kernel)) ggX3_byOdds_X3_within
set_option maxRecDepth 20000 in
theorem ggX3_byOdds_X2_has : GoodIn wsX3_byOdds wsX2_has := goodIn_r _ [15, 16, 8, 9, 10, 103, 104, 105, 106, 107, 108, 109, 110, 111, 112, 113, 114, 115] (by decide +kernel) (by decide +kernel)
set_option maxRecDepth 20000 in
theorem gX3_byOdds_X2_has : GoodIn wsX3_byOdds (wsV RX3 102 RX2 yX2_has wsX2_has) := goodIn_app (goodIn_of _ (by decide +kernel)) ggX3_byOdds_X2_has
set_option maxRecDepth 20000 in
theorem ggX3_byOdds_X3_weightOfWay : GoodIn wsX3_byOdds wsX3_weightOfWay := goodIn_r _ [19] (by decide +kernel) (by decide +kernel)
set_option maxRecDepth 20000 in
theorem gX3_byOdds_X3_weightOfWay : GoodIn wsX3_byOdds (va_wsS RX3 240 yX3_weightOfWay wsX3_weightOfWay) := goodIn_app (goodIn_of _ (by decide +kernel)) ggX3_byOdds_X3_weightOfWay
set_option maxRecDepth 20000 in
theorem ggX3_byOdds_X3_goWay : GoodIn wsX3_byOdds wsX3_goWay := goodIn_r _ [23, 3, 1, 24, 25, 26, 27, 14, 28, 16, 29, 30, 31, 32, 33, 34, 35, 36, 37, 38, 39, 40, 41, 42, 43, 44, 45, 46, 47, 48, 49, 50, 51, 52, 53, 54, 55, 56, 57, 9, 58, 59, 60, 61, 62, 63, 64, 65, 66, 67, 68, 69, 70, 71, 72, 73, 74, 75, 76, 77, 78, 79, 80, 81, 82, 83, 84, 85, 86, 93, 94, 95, 96, 97, 98, 99, 100, 101, 102, 103, 104, 105, 106, 107, 108, 109, 110, 111, 112, 113, 114, 115] (by decide +kernel) (by decide +kernel)
set_option maxRecDepth 20000 in
theorem gX3_byOdds_X3_goWay : GoodIn wsX3_byOdds (wsV RX3 244 RX3 yX3_goWay wsX3_goWay) := goodIn_app (goodIn_of _ (by decide +kernel)) ggX3_byOdds_X3_goWay
set_option maxRecDepth 20000 in
theorem ggX3_byOdds_X3_ofFraction : GoodIn wsX3_byOdds wsX3_ofFraction := goodIn_r _ [89, 90, 91, 9, 92] (by decide +kernel) (by decide +kernel)
set_option maxRecDepth 20000 in
theorem gX3_byOdds_X3_ofFraction : GoodIn wsX3_byOdds (va_wsS RX3 151 yX3_ofFraction wsX3_ofFraction) := goodIn_app (goodIn_of _ (by decide +kernel)) ggX3_byOdds_X3_ofFraction
theorem dX3_byOdds_0 : decode cX3_byOdds 0 = .ok (.iload_n 1, 1) := by decide +kernel
theorem dX3_byOdds_1 : decode cX3_byOdds 1 = .ok (.iconst 0, 1) := by decide +kernel
theorem dX3_byOdds_2 : decode cX3_byOdds 2 = .ok (.bipush 10, 2) := by decide +kernel
theorem dX3_byOdds_4 : decode cX3_byOdds 4 = .ok (.invokestatic 51, 3) := by decide +kernel
theorem dX3_byOdds_7 : decode cX3_byOdds 7 = .ok (.ifCond .eq 34, 3) := by decide +kernel
theorem dX3_byOdds_10 : decode cX3_byOdds 10 = .ok (.aload_n 0, 1) := by decide +kernel
theorem dX3_byOdds_11 : decode cX3_byOdds 11 = .ok (.getfield 19, 3) := by decide +kernel
theorem dX3_byOdds_14 : decode cX3_byOdds 14 = .ok (.iload_n 2, 1) := by decide +kernel
theorem dX3_byOdds_15 : decode cX3_byOdds 15 = .ok (.invokevirtual 102, 3) := by decide +kernel
theorem dX3_byOdds_18 : decode cX3_byOdds 18 = .ok (.ifCond .eq 23, 3) := by decide +kernel
theorem dX3_byOdds_21 : decode cX3_byOdds 21 = .ok (.iload_n 3, 1) := by decide +kernel
theorem dX3_byOdds_22 : decode cX3_byOdds 22 = .ok (.iconst 0, 1) := by decide +kernel
theorem dX3_byOdds_23 : decode cX3_byOdds 23 = .ok (.bipush 8, 2) := by decide +kernel
theorem dX3_byOdds_25 : decode cX3_byOdds 25 = .ok (.invokestatic 51, 3) := by decide +kernel
theorem dX3_byOdds_28 : decode cX3_byOdds 28 = .ok (.ifCond .eq 13, 3) := by decide +kernel
theorem dX3_byOdds_31 : decode cX3_byOdds 31 = .ok (.iload 4, 2) := by decide +kernel
theorem dX3_byOdds_33 : decode cX3_byOdds 33 = .ok (.iconst 0, 1) := by decide +kernel
theorem dX3_byOdds_34 : decode cX3_byOdds 34 = .ok (.iconst 1, 1) := by decide +kernel
theorem dX3_byOdds_35 : decode cX3_byOdds 35 = .ok (.invokestatic 51, 3) := by decide +kernel
theorem dX3_byOdds_38 : decode cX3_byOdds 38 = .ok (.ifCond .ne 7, 3) := by decide +kernel
theorem dX3_byOdds_41 : decode cX3_byOdds 41 = .ok (.iconst 1, 1) := by decide +kernel
theorem dX3_byOdds_42 : decode cX3_byOdds 42 = .ok (.goto 4, 3) := by decide +kernel
theorem dX3_byOdds_45 : decode cX3_byOdds 45 = .ok (.iconst 0, 1) := by decide +kernel
theorem dX3_byOdds_46 : decode cX3_byOdds 46 = .ok (.istore 6, 2) := by decide +kernel
theorem dX3_byOdds_48 : decode cX3_byOdds 48 = .ok (.iload 6, 2) := by decide +kernel
theorem dX3_byOdds_50 : decode cX3_byOdds 50 = .ok (.ifCond .eq 7, 3) := by decide +kernel
theorem dX3_byOdds_53 : decode cX3_byOdds 53 = .ok (.ldc2_w 149, 3) := by decide +kernel
theorem dX3_byOdds_56 : decode cX3_byOdds 56 = .ok (.lreturn, 1) := by decide +kernel
theorem dX3_byOdds_57 : decode cX3_byOdds 57 = .ok (.lconst 0, 1) := by decide +kernel
theorem dX3_byOdds_58 : decode cX3_byOdds 58 = .ok (.lstore 7, 2) := by decide +kernel
theorem dX3_byOdds_60 : decode cX3_byOdds 60 = .ok (.iconst 0, 1) := by decide +kernel
theorem dX3_byOdds_61 : decode cX3_byOdds 61 = .ok (.istore 9, 2) := by decide +kernel
theorem dX3_byOdds_63 : decode cX3_byOdds 63 = .ok (.iload 9, 2) := by decide +kernel
theorem dX3_byOdds_65 : decode cX3_byOdds 65 = .ok (.iconst 1, 1) := by decide +kernel
theorem dX3_byOdds_66 : decode cX3_byOdds 66 = .ok (.iload_n 3, 1) := by decide +kernel
theorem dX3_byOdds_67 : decode cX3_byOdds 67 = .ok (.ishl, 1) := by decide +kernel
theorem dX3_byOdds_68 : decode cX3_byOdds 68 = .ok (.if_icmp .ge 74, 3) := by decide +kernel
theorem dX3_byOdds_71 : decode cX3_byOdds 71 = .ok (.iload 9, 2) := by decide +kernel
theorem dX3_byOdds_73 : decode cX3_byOdds 73 = .ok (.iload_n 1, 1) := by decide +kernel
theorem dX3_byOdds_74 : decode cX3_byOdds 74 = .ok (.iload_n 3, 1) := by decide +kernel
theorem dX3_byOdds_75 : decode cX3_byOdds 75 = .ok (.invokestatic 240, 3) := by decide +kernel
theorem dX3_byOdds_78 : decode cX3_byOdds 78 = .ok (.lstore 10, 2) := by decide +kernel
theorem dX3_byOdds_80 : decode cX3_byOdds 80 = .ok (.lload 10, 2) := by decide +kernel
theorem dX3_byOdds_82 : decode cX3_byOdds 82 = .ok (.lconst 0, 1) := by decide +kernel
theorem dX3_byOdds_83 : decode cX3_byOdds 83 = .ok (.lcmp, 1) := by decide +kernel
theorem dX3_byOdds_84 : decode cX3_byOdds 84 = .ok (.ifCond .eq 52, 3) := by decide +kernel
theorem dX3_byOdds_87 : decode cX3_byOdds 87 = .ok (.aload_n 0, 1) := by decide +kernel
theorem dX3_byOdds_88 : decode cX3_byOdds 88 = .ok (.iload 9, 2) := by decide +kernel
theorem dX3_byOdds_90 : decode cX3_byOdds 90 = .ok (.iload_n 3, 1) := by decide +kernel
theorem dX3_byOdds_91 : decode cX3_byOdds 91 = .ok (.invokevirtual 244, 3) := by decide +kernel
theorem dX3_byOdds_94 : decode cX3_byOdds 94 = .ok (.lload 7, 2) := by decide +kernel
theorem dX3_byOdds_96 : decode cX3_byOdds 96 = .ok (.lload 10, 2) := by decide +kernel
theorem dX3_byOdds_98 : decode cX3_byOdds 98 = .ok (.iload 5, 2) := by decide +kernel
theorem dX3_byOdds_100 : decode cX3_byOdds 100 = .ok (.ifCond .eq 15, 3) := by decide +kernel
theorem dX3_byOdds_103 : decode cX3_byOdds 103 = .ok (.aload_n 0, 1) := by decide +kernel
theorem dX3_byOdds_104 : decode cX3_byOdds 104 = .ok (.getfield 23, 3) := by decide +kernel
theorem dX3_byOdds_107 : decode cX3_byOdds 107 = .ok (.getfield 108, 3) := by decide +kernel
theorem dX3_byOdds_110 : decode cX3_byOdds 110 = .ok (.iload_n 2, 1) := by decide +kernel
theorem dX3_byOdds_111 : decode cX3_byOdds 111 = .ok (.iaload, 1) := by decide +kernel
theorem dX3_byOdds_112 : decode cX3_byOdds 112 = .ok (.goto 19, 3) := by decide +kernel
theorem dX3_byOdds_115 : decode cX3_byOdds 115 = .ok (.aload_n 0, 1) := by decide +kernel
theorem dX3_byOdds_116 : decode cX3_byOdds 116 = .ok (.getfield 23, 3) := by decide +kernel
theorem dX3_byOdds_119 : decode cX3_byOdds 119 = .ok (.getfield 128, 3) := by decide +kernel
theorem dX3_byOdds_122 : decode cX3_byOdds 122 = .ok (.iload_n 2, 1) := by decide +kernel
theorem dX3_byOdds_123 : decode cX3_byOdds 123 = .ok (.if_icmp .ne 7, 3) := by decide +kernel
theorem dX3_byOdds_126 : decode cX3_byOdds 126 = .ok (.iconst 1, 1) := by decide +kernel
theorem dX3_byOdds_127 : decode cX3_byOdds 127 = .ok (.goto 4, 3) := by decide +kernel
theorem dX3_byOdds_130 : decode cX3_byOdds 130 = .ok (.iconst 0, 1) := by decide +kernel
theorem dX3_byOdds_131 : decode cX3_byOdds 131 = .ok (.i2l, 1) := by decide +kernel
theorem dX3_byOdds_132 : decode cX3_byOdds 132 = .ok (.lmul, 1) := by decide +kernel
theorem dX3_byOdds_133 : decode cX3_byOdds 133 = .ok (.ladd, 1) := by decide +kernel
theorem dX3_byOdds_134 : decode cX3_byOdds 134 = .ok (.lstore 7, 2) := by decide +kernel
theorem dX3_byOdds_136 : decode cX3_byOdds 136 = .ok (.iinc 9 1, 3) := by decide +kernel
theorem dX3_byOdds_139 : decode cX3_byOdds 139 = .ok (.goto (-76), 3) := by decide +kernel
theorem dX3_byOdds_142 : decode cX3_byOdds 142 = .ok (.lconst 1, 1) := by decide +kernel
theorem dX3_byOdds_143 : decode cX3_byOdds 143 = .ok (.lstore 9, 2) := by decide +kernel
theorem dX3_byOdds_145 : decode cX3_byOdds 145 = .ok (.iconst 0, 1) := by decide +kernel
theorem dX3_byOdds_146 : decode cX3_byOdds 146 = .ok (.istore 11, 2) := by decide +kernel
theorem dX3_byOdds_148 : decode cX3_byOdds 148 = .ok (.iload 11, 2) := by decide +kernel
theorem dX3_byOdds_150 : decode cX3_byOdds 150 = .ok (.iload_n 3, 1) := by decide +kernel
theorem dX3_byOdds_151 : decode cX3_byOdds 151 = .ok (.if_icmp .ge 17, 3) := by decide +kernel
theorem dX3_byOdds_154 : decode cX3_byOdds 154 = .ok (.lload 9, 2) := by decide +kernel
theorem dX3_byOdds_156 : decode cX3_byOdds 156 = .ok (.ldc2_w 247, 3) := by decide +kernel
theorem dX3_byOdds_159 : decode cX3_byOdds 159 = .ok (.lmul, 1) := by decide +kernel
theorem dX3_byOdds_160 : decode cX3_byOdds 160 = .ok (.lstore 9, 2) := by decide +kernel
theorem dX3_byOdds_162 : decode cX3_byOdds 162 = .ok (.iinc 11 1, 3) := by decide +kernel
theorem dX3_byOdds_165 : decode cX3_byOdds 165 = .ok (.goto (-17), 3) := by decide +kernel
theorem dX3_byOdds_168 : decode cX3_byOdds 168 = .ok (.lload 7, 2) := by decide +kernel
theorem dX3_byOdds_170 : decode cX3_byOdds 170 = .ok (.lload 9, 2) := by decide +kernel
theorem dX3_byOdds_172 : decode cX3_byOdds 172 = .ok (.iload 4, 2) := by decide +kernel
theorem dX3_byOdds_174 : decode cX3_byOdds 174 = .ok (.invokestatic 151, 3) := by decide +kernel
theorem dX3_byOdds_177 : decode cX3_byOdds 177 = .ok (.lreturn, 1) := by decide +kernel
theorem dX3_weightOfWay_0 : decode cX3_weightOfWay 0 = .ok (.lconst 1, 1) := by decide +kernel
theorem dX3_weightOfWay_1 : decode cX3_weightOfWay 1 = .ok (.lstore_n 3, 1) := by decide +kernel
theorem dX3_weightOfWay_2 : decode cX3_weightOfWay 2 = .ok (.iconst 0, 1) := by decide +kernel
theorem dX3_weightOfWay_3 : decode cX3_weightOfWay 3 = .ok (.istore 5, 2) := by decide +kernel
theorem dX3_weightOfWay_5 : decode cX3_weightOfWay 5 = .ok (.iload 5, 2) := by decide +kernel
theorem dX3_weightOfWay_7 : decode cX3_weightOfWay 7 = .ok (.iload_n 2, 1) := by decide +kernel
theorem dX3_weightOfWay_8 : decode cX3_weightOfWay 8 = .ok (.if_icmp .ge 32, 3) := by decide +kernel
theorem dX3_weightOfWay_11 : decode cX3_weightOfWay 11 = .ok (.lload_n 3, 1) := by decide +kernel
theorem dX3_weightOfWay_12 : decode cX3_weightOfWay 12 = .ok (.iload_n 0, 1) := by decide +kernel
theorem dX3_weightOfWay_13 : decode cX3_weightOfWay 13 = .ok (.iload 5, 2) := by decide +kernel
theorem dX3_weightOfWay_15 : decode cX3_weightOfWay 15 = .ok (.ishr, 1) := by decide +kernel
theorem dX3_weightOfWay_16 : decode cX3_weightOfWay 16 = .ok (.iconst 1, 1) := by decide +kernel
theorem dX3_weightOfWay_17 : decode cX3_weightOfWay 17 = .ok (.iand, 1) := by decide +kernel
theorem dX3_weightOfWay_18 : decode cX3_weightOfWay 18 = .ok (.iconst 1, 1) := by decide +kernel
theorem dX3_weightOfWay_19 : decode cX3_weightOfWay 19 = .ok (.if_icmp .ne 8, 3) := by decide +kernel
theorem dX3_weightOfWay_22 : decode cX3_weightOfWay 22 = .ok (.iload_n 1, 1) := by decide +kernel
theorem dX3_weightOfWay_23 : decode cX3_weightOfWay 23 = .ok (.i2l, 1) := by decide +kernel
theorem dX3_weightOfWay_24 : decode cX3_weightOfWay 24 = .ok (.goto 8, 3) := by decide +kernel
theorem dX3_weightOfWay_27 : decode cX3_weightOfWay 27 = .ok (.bipush 10, 2) := by decide +kernel
theorem dX3_weightOfWay_29 : decode cX3_weightOfWay 29 = .ok (.iload_n 1, 1) := by decide +kernel
theorem dX3_weightOfWay_30 : decode cX3_weightOfWay 30 = .ok (.isub, 1) := by decide +kernel
theorem dX3_weightOfWay_31 : decode cX3_weightOfWay 31 = .ok (.i2l, 1) := by decide +kernel
theorem dX3_weightOfWay_32 : decode cX3_weightOfWay 32 = .ok (.lmul, 1) := by decide +kernel
theorem dX3_weightOfWay_33 : decode cX3_weightOfWay 33 = .ok (.lstore_n 3, 1) := by decide +kernel
theorem dX3_weightOfWay_34 : decode cX3_weightOfWay 34 = .ok (.iinc 5 1, 3) := by decide +kernel
theorem dX3_weightOfWay_37 : decode cX3_weightOfWay 37 = .ok (.goto (-32), 3) := by decide +kernel
theorem dX3_weightOfWay_40 : decode cX3_weightOfWay 40 = .ok (.lload_n 3, 1) := by decide +kernel
theorem dX3_weightOfWay_41 : decode cX3_weightOfWay 41 = .ok (.lreturn, 1) := by decide +kernel
set_option maxRecDepth 20000 in
theorem ggX3_goWay_X2_become : GoodIn wsX3_goWay wsX2_become := goodIn_r _ [8, 9, 10, 11, 12, 13, 14, 15, 16, 17, 18, 19, 20, 21, 22, 23, 24, 25, 79, 80, 81, 82, 83, 84, 85, 86, 87, 88, 89, 90, 91] (by decide +kernel) (by decide +kernel)
set_option maxRecDepth 20000 in
theorem gX3_goWay_X2_become : GoodIn wsX3_goWay (wsV RX3 76 RX2 yX2_become wsX2_become) := goodIn_app (goodIn_of _ (by decide +kernel)) ggX3_goWay_X2_become
set_option maxRecDepth 20000 in
theorem ggX3_goWay_X2_step : GoodIn wsX3_goWay wsX2_step := goodIn_r _ [29, 9, 12, 22, 10, 30, 31, 32, 7, 33, 13, 23, 20, 34, 35, 36, 37, 38, 39, 40, 41, 42, 43, 44, 15, 45, 46, 47, 48, 49, 50, 51, 52, 53, 54, 55, 56, 21, 11, 57, 58, 59, 60, 61, 62, 63, 64, 65, 66, 67, 68, 79, 80, 81, 82, 83, 84, 85, 86, 87, 88, 89, 90, 91] (by decide +kernel) (by decide +kernel)
set_option maxRecDepth 20000 in
theorem gX3_goWay_X2_step : GoodIn wsX3_goWay (wsV RX3 139 RX2 yX2_step wsX2_step) := goodIn_app (goodIn_of _ (by decide +kernel)) ggX3_goWay_X2_step
theorem dX3_goWay_0 : decode cX3_goWay 0 = .ok (.aload_n 0, 1) := by decide +kernel
theorem dX3_goWay_1 : decode cX3_goWay 1 = .ok (.getfield 23, 3) := by decide +kernel
theorem dX3_goWay_4 : decode cX3_goWay 4 = .ok (.aload_n 0, 1) := by decide +kernel
theorem dX3_goWay_5 : decode cX3_goWay 5 = .ok (.getfield 19, 3) := by decide +kernel
theorem dX3_goWay_8 : decode cX3_goWay 8 = .ok (.invokevirtual 76, 3) := by decide +kernel
theorem dX3_goWay_11 : decode cX3_goWay 11 = .ok (.iconst 0, 1) := by decide +kernel
theorem dX3_goWay_12 : decode cX3_goWay 12 = .ok (.istore_n 3, 1) := by decide +kernel
theorem dX3_goWay_13 : decode cX3_goWay 13 = .ok (.iload_n 3, 1) := by decide +kernel
theorem dX3_goWay_14 : decode cX3_goWay 14 = .ok (.iload_n 2, 1) := by decide +kernel
theorem dX3_goWay_15 : decode cX3_goWay 15 = .ok (.if_icmp .ge 45, 3) := by decide +kernel
theorem dX3_goWay_18 : decode cX3_goWay 18 = .ok (.aload_n 0, 1) := by decide +kernel
theorem dX3_goWay_19 : decode cX3_goWay 19 = .ok (.getfield 23, 3) := by decide +kernel
theorem dX3_goWay_22 : decode cX3_goWay 22 = .ok (.iload_n 1, 1) := by decide +kernel
theorem dX3_goWay_23 : decode cX3_goWay 23 = .ok (.iload_n 3, 1) := by decide +kernel
theorem dX3_goWay_24 : decode cX3_goWay 24 = .ok (.ishr, 1) := by decide +kernel
theorem dX3_goWay_25 : decode cX3_goWay 25 = .ok (.iconst 1, 1) := by decide +kernel
theorem dX3_goWay_26 : decode cX3_goWay 26 = .ok (.iand, 1) := by decide +kernel
theorem dX3_goWay_27 : decode cX3_goWay 27 = .ok (.iconst 1, 1) := by decide +kernel
theorem dX3_goWay_28 : decode cX3_goWay 28 = .ok (.if_icmp .ne 8, 3) := by decide +kernel
theorem dX3_goWay_31 : decode cX3_goWay 31 = .ok (.bipush 9, 2) := by decide +kernel
theorem dX3_goWay_33 : decode cX3_goWay 33 = .ok (.goto 10, 3) := by decide +kernel
theorem dX3_goWay_36 : decode cX3_goWay 36 = .ok (.aload_n 0, 1) := by decide +kernel
theorem dX3_goWay_37 : decode cX3_goWay 37 = .ok (.getfield 19, 3) := by decide +kernel
theorem dX3_goWay_40 : decode cX3_goWay 40 = .ok (.getfield 86, 3) := by decide +kernel
theorem dX3_goWay_43 : decode cX3_goWay 43 = .ok (.putfield 86, 3) := by decide +kernel
theorem dX3_goWay_46 : decode cX3_goWay 46 = .ok (.aload_n 0, 1) := by decide +kernel
theorem dX3_goWay_47 : decode cX3_goWay 47 = .ok (.getfield 23, 3) := by decide +kernel
theorem dX3_goWay_50 : decode cX3_goWay 50 = .ok (.invokevirtual 139, 3) := by decide +kernel
theorem dX3_goWay_53 : decode cX3_goWay 53 = .ok (.pop, 1) := by decide +kernel
theorem dX3_goWay_54 : decode cX3_goWay 54 = .ok (.iinc 3 1, 3) := by decide +kernel
theorem dX3_goWay_57 : decode cX3_goWay 57 = .ok (.goto (-44), 3) := by decide +kernel
theorem dX3_goWay_60 : decode cX3_goWay 60 = .ok (.return_, 1) := by decide +kernel
set_option maxRecDepth 20000 in
theorem ggX3_fitsByTrade_X2_become : GoodIn wsX3_fitsByTrade wsX2_become := goodIn_r _ [9, 10, 11, 12, 13, 14, 15, 16, 17, 18, 19, 20, 21, 22, 23, 24, 25, 26, 88, 89, 90, 91, 92, 93, 94, 95, 96, 97, 98, 99, 100] (by decide +kernel) (by decide +kernel)
set_option maxRecDepth 20000 in
theorem gX3_fitsByTrade_X2_become : GoodIn wsX3_fitsByTrade (wsV RX3 76 RX2 yX2_become wsX2_become) := goodIn_app (goodIn_of _ (by decide +kernel)) ggX3_fitsByTrade_X2_become
set_option maxRecDepth 20000 in
theorem ggX3_fitsByTrade_X2_trace : GoodIn wsX3_fitsByTrade wsX2_trace := goodIn_r _ [30, 13, 31, 32, 33, 8, 34, 10, 23, 11, 35, 36, 37, 38, 14, 24, 21, 39, 40, 41, 42, 43, 44, 45, 46, 47, 48, 49, 16, 50, 51, 52, 53, 54, 55, 56, 57, 58, 59, 60, 61, 22, 12, 62, 63, 64, 65, 66, 67, 68, 69, 70, 71, 72, 73, 88, 89, 90, 91, 92, 93, 94, 95, 96, 97, 98, 99, 100] (by decide +kernel) (by decide +kernel)
set_option maxRecDepth 20000 in
theorem gX3_fitsByTrade_X2_trace : GoodIn wsX3_fitsByTrade (wsV RX3 183 RX2 yX2_trace wsX2_trace) := goodIn_app (goodIn_of _ (by decide +kernel)) ggX3_fitsByTrade_X2_trace
set_option maxRecDepth 20000 in
theorem ggX3_fitsByTrade_X2_isAsSeen : GoodIn wsX3_fitsByTrade wsX2_isAsSeen := goodIn_r _ [77, 15, 25, 26, 88, 89, 90, 91, 92, 93, 94, 95, 96, 97, 98, 99, 100] (by decide +kernel) (by decide +kernel)
set_option maxRecDepth 20000 in
theorem gX3_fitsByTrade_X2_isAsSeen : GoodIn wsX3_fitsByTrade (wsV RX3 187 RX2 yX2_isAsSeen wsX2_isAsSeen) := goodIn_app (goodIn_of _ (by decide +kernel)) ggX3_fitsByTrade_X2_isAsSeen
theorem dX3_fitsByTrade_0 : decode cX3_fitsByTrade 0 = .ok (.aload_n 0, 1) := by decide +kernel
theorem dX3_fitsByTrade_1 : decode cX3_fitsByTrade 1 = .ok (.getfield 23, 3) := by decide +kernel
theorem dX3_fitsByTrade_4 : decode cX3_fitsByTrade 4 = .ok (.aload_n 0, 1) := by decide +kernel
theorem dX3_fitsByTrade_5 : decode cX3_fitsByTrade 5 = .ok (.getfield 19, 3) := by decide +kernel
theorem dX3_fitsByTrade_8 : decode cX3_fitsByTrade 8 = .ok (.invokevirtual 76, 3) := by decide +kernel
theorem dX3_fitsByTrade_11 : decode cX3_fitsByTrade 11 = .ok (.aload_n 0, 1) := by decide +kernel
theorem dX3_fitsByTrade_12 : decode cX3_fitsByTrade 12 = .ok (.getfield 23, 3) := by decide +kernel
theorem dX3_fitsByTrade_15 : decode cX3_fitsByTrade 15 = .ok (.getfield 111, 3) := by decide +kernel
theorem dX3_fitsByTrade_18 : decode cX3_fitsByTrade 18 = .ok (.iload_n 1, 1) := by decide +kernel
theorem dX3_fitsByTrade_19 : decode cX3_fitsByTrade 19 = .ok (.iload_n 2, 1) := by decide +kernel
theorem dX3_fitsByTrade_20 : decode cX3_fitsByTrade 20 = .ok (.iastore, 1) := by decide +kernel
theorem dX3_fitsByTrade_21 : decode cX3_fitsByTrade 21 = .ok (.aload_n 0, 1) := by decide +kernel
theorem dX3_fitsByTrade_22 : decode cX3_fitsByTrade 22 = .ok (.getfield 23, 3) := by decide +kernel
theorem dX3_fitsByTrade_25 : decode cX3_fitsByTrade 25 = .ok (.aload_n 0, 1) := by decide +kernel
theorem dX3_fitsByTrade_26 : decode cX3_fitsByTrade 26 = .ok (.getfield 43, 3) := by decide +kernel
theorem dX3_fitsByTrade_29 : decode cX3_fitsByTrade 29 = .ok (.invokevirtual 183, 3) := by decide +kernel
theorem dX3_fitsByTrade_32 : decode cX3_fitsByTrade 32 = .ok (.aload_n 0, 1) := by decide +kernel
theorem dX3_fitsByTrade_33 : decode cX3_fitsByTrade 33 = .ok (.getfield 19, 3) := by decide +kernel
theorem dX3_fitsByTrade_36 : decode cX3_fitsByTrade 36 = .ok (.aload_n 0, 1) := by decide +kernel
theorem dX3_fitsByTrade_37 : decode cX3_fitsByTrade 37 = .ok (.getfield 43, 3) := by decide +kernel
theorem dX3_fitsByTrade_40 : decode cX3_fitsByTrade 40 = .ok (.invokevirtual 187, 3) := by decide +kernel
theorem dX3_fitsByTrade_43 : decode cX3_fitsByTrade 43 = .ok (.ireturn, 1) := by decide +kernel
set_option maxRecDepth 20000 in
theorem ggX3_tallyTrades_X3_fitsByTrade : GoodIn wsX3_tallyTrades wsX3_fitsByTrade := goodIn_r _ [7, 8, 9, 10, 2, 11, 12, 13, 14, 15, 16, 17, 18, 19, 20, 21, 22, 23, 24, 25, 26, 27, 28, 29, 30, 31, 32, 33, 34, 35, 36, 37, 38, 39, 40, 41, 42, 43, 44, 45, 46, 47, 48, 49, 6, 50, 51, 52, 53, 54, 55, 56, 57, 58, 59, 60, 61, 62, 63, 64, 65, 66, 67, 68, 69, 70, 71, 72, 73, 74, 75, 76, 77, 78, 79, 80, 81, 82, 83, 84, 85, 86, 87, 88, 89, 90, 91, 92, 93, 94, 95, 96, 97, 98, 99, 100, 101, 102, 103, 104, 105] (by decide +kernel) (by decide +kernel)
set_option maxRecDepth 20000 in
theorem gX3_tallyTrades_X3_fitsByTrade : GoodIn wsX3_tallyTrades (wsV RX3 191 RX3 yX3_fitsByTrade wsX3_fitsByTrade) := goodIn_app (goodIn_of _ (by decide +kernel)) ggX3_tallyTrades_X3_fitsByTrade
theorem dX3_tallyTrades_0 : decode cX3_tallyTrades 0 = .ok (.iconst 0, 1) := by decide +kernel
theorem dX3_tallyTrades_1 : decode cX3_tallyTrades 1 = .ok (.istore_n 2, 1) := by decide +kernel
theorem dX3_tallyTrades_2 : decode cX3_tallyTrades 2 = .ok (.iload_n 2, 1) := by decide +kernel
theorem dX3_tallyTrades_3 : decode cX3_tallyTrades 3 = .ok (.aload_n 0, 1) := by decide +kernel
theorem dX3_tallyTrades_4 : decode cX3_tallyTrades 4 = .ok (.getfield 47, 3) := by decide +kernel
theorem dX3_tallyTrades_7 : decode cX3_tallyTrades 7 = .ok (.arraylength, 1) := by decide +kernel
theorem dX3_tallyTrades_8 : decode cX3_tallyTrades 8 = .ok (.if_icmp .ge 16, 3) := by decide +kernel
theorem dX3_tallyTrades_11 : decode cX3_tallyTrades 11 = .ok (.aload_n 0, 1) := by decide +kernel
theorem dX3_tallyTrades_12 : decode cX3_tallyTrades 12 = .ok (.getfield 47, 3) := by decide +kernel
theorem dX3_tallyTrades_15 : decode cX3_tallyTrades 15 = .ok (.iload_n 2, 1) := by decide +kernel
theorem dX3_tallyTrades_16 : decode cX3_tallyTrades 16 = .ok (.iconst 0, 1) := by decide +kernel
theorem dX3_tallyTrades_17 : decode cX3_tallyTrades 17 = .ok (.iastore, 1) := by decide +kernel
theorem dX3_tallyTrades_18 : decode cX3_tallyTrades 18 = .ok (.iinc 2 1, 3) := by decide +kernel
theorem dX3_tallyTrades_21 : decode cX3_tallyTrades 21 = .ok (.goto (-19), 3) := by decide +kernel
theorem dX3_tallyTrades_24 : decode cX3_tallyTrades 24 = .ok (.iconst 0, 1) := by decide +kernel
theorem dX3_tallyTrades_25 : decode cX3_tallyTrades 25 = .ok (.istore_n 2, 1) := by decide +kernel
theorem dX3_tallyTrades_26 : decode cX3_tallyTrades 26 = .ok (.iconst 0, 1) := by decide +kernel
theorem dX3_tallyTrades_27 : decode cX3_tallyTrades 27 = .ok (.istore_n 3, 1) := by decide +kernel
theorem dX3_tallyTrades_28 : decode cX3_tallyTrades 28 = .ok (.iload_n 3, 1) := by decide +kernel
theorem dX3_tallyTrades_29 : decode cX3_tallyTrades 29 = .ok (.bipush 20, 2) := by decide +kernel
theorem dX3_tallyTrades_31 : decode cX3_tallyTrades 31 = .ok (.if_icmp .gt 58, 3) := by decide +kernel
theorem dX3_tallyTrades_34 : decode cX3_tallyTrades 34 = .ok (.aload_n 0, 1) := by decide +kernel
theorem dX3_tallyTrades_35 : decode cX3_tallyTrades 35 = .ok (.iload_n 1, 1) := by decide +kernel
theorem dX3_tallyTrades_36 : decode cX3_tallyTrades 36 = .ok (.iload_n 3, 1) := by decide +kernel
theorem dX3_tallyTrades_37 : decode cX3_tallyTrades 37 = .ok (.invokevirtual 191, 3) := by decide +kernel
theorem dX3_tallyTrades_40 : decode cX3_tallyTrades 40 = .ok (.ifCond .eq 43, 3) := by decide +kernel
theorem dX3_tallyTrades_43 : decode cX3_tallyTrades 43 = .ok (.iinc 2 1, 3) := by decide +kernel
theorem dX3_tallyTrades_46 : decode cX3_tallyTrades 46 = .ok (.iconst 0, 1) := by decide +kernel
theorem dX3_tallyTrades_47 : decode cX3_tallyTrades 47 = .ok (.istore 4, 2) := by decide +kernel
theorem dX3_tallyTrades_49 : decode cX3_tallyTrades 49 = .ok (.iload 4, 2) := by decide +kernel
theorem dX3_tallyTrades_51 : decode cX3_tallyTrades 51 = .ok (.bipush 20, 2) := by decide +kernel
theorem dX3_tallyTrades_53 : decode cX3_tallyTrades 53 = .ok (.if_icmp .gt 30, 3) := by decide +kernel
theorem dX3_tallyTrades_56 : decode cX3_tallyTrades 56 = .ok (.aload_n 0, 1) := by decide +kernel
theorem dX3_tallyTrades_57 : decode cX3_tallyTrades 57 = .ok (.getfield 47, 3) := by decide +kernel
theorem dX3_tallyTrades_60 : decode cX3_tallyTrades 60 = .ok (.iload 4, 2) := by decide +kernel
theorem dX3_tallyTrades_62 : decode cX3_tallyTrades 62 = .ok (.iconst 5, 1) := by decide +kernel
theorem dX3_tallyTrades_63 : decode cX3_tallyTrades 63 = .ok (.imul, 1) := by decide +kernel
theorem dX3_tallyTrades_64 : decode cX3_tallyTrades 64 = .ok (.aload_n 0, 1) := by decide +kernel
theorem dX3_tallyTrades_65 : decode cX3_tallyTrades 65 = .ok (.getfield 43, 3) := by decide +kernel
theorem dX3_tallyTrades_68 : decode cX3_tallyTrades 68 = .ok (.iload 4, 2) := by decide +kernel
theorem dX3_tallyTrades_70 : decode cX3_tallyTrades 70 = .ok (.iaload, 1) := by decide +kernel
theorem dX3_tallyTrades_71 : decode cX3_tallyTrades 71 = .ok (.iadd, 1) := by decide +kernel
theorem dX3_tallyTrades_72 : decode cX3_tallyTrades 72 = .ok (.dup2, 1) := by decide +kernel
theorem dX3_tallyTrades_73 : decode cX3_tallyTrades 73 = .ok (.iaload, 1) := by decide +kernel
theorem dX3_tallyTrades_74 : decode cX3_tallyTrades 74 = .ok (.iconst 1, 1) := by decide +kernel
theorem dX3_tallyTrades_75 : decode cX3_tallyTrades 75 = .ok (.iadd, 1) := by decide +kernel
theorem dX3_tallyTrades_76 : decode cX3_tallyTrades 76 = .ok (.iastore, 1) := by decide +kernel
theorem dX3_tallyTrades_77 : decode cX3_tallyTrades 77 = .ok (.iinc 4 1, 3) := by decide +kernel
theorem dX3_tallyTrades_80 : decode cX3_tallyTrades 80 = .ok (.goto (-31), 3) := by decide +kernel
theorem dX3_tallyTrades_83 : decode cX3_tallyTrades 83 = .ok (.iinc 3 1, 3) := by decide +kernel
theorem dX3_tallyTrades_86 : decode cX3_tallyTrades 86 = .ok (.goto (-58), 3) := by decide +kernel
theorem dX3_tallyTrades_89 : decode cX3_tallyTrades 89 = .ok (.iload_n 2, 1) := by decide +kernel
theorem dX3_tallyTrades_90 : decode cX3_tallyTrades 90 = .ok (.ireturn, 1) := by decide +kernel
theorem dX3_mostInRow_0 : decode cX3_mostInRow 0 = .ok (.iconst 0, 1) := by decide +kernel
theorem dX3_mostInRow_1 : decode cX3_mostInRow 1 = .ok (.istore_n 2, 1) := by decide +kernel
theorem dX3_mostInRow_2 : decode cX3_mostInRow 2 = .ok (.iconst 0, 1) := by decide +kernel
theorem dX3_mostInRow_3 : decode cX3_mostInRow 3 = .ok (.istore_n 3, 1) := by decide +kernel
theorem dX3_mostInRow_4 : decode cX3_mostInRow 4 = .ok (.iload_n 3, 1) := by decide +kernel
theorem dX3_mostInRow_5 : decode cX3_mostInRow 5 = .ok (.iconst 5, 1) := by decide +kernel
theorem dX3_mostInRow_6 : decode cX3_mostInRow 6 = .ok (.if_icmp .ge 24, 3) := by decide +kernel
theorem dX3_mostInRow_9 : decode cX3_mostInRow 9 = .ok (.iload_n 2, 1) := by decide +kernel
theorem dX3_mostInRow_10 : decode cX3_mostInRow 10 = .ok (.aload_n 0, 1) := by decide +kernel
theorem dX3_mostInRow_11 : decode cX3_mostInRow 11 = .ok (.getfield 47, 3) := by decide +kernel
theorem dX3_mostInRow_14 : decode cX3_mostInRow 14 = .ok (.iload_n 1, 1) := by decide +kernel
theorem dX3_mostInRow_15 : decode cX3_mostInRow 15 = .ok (.iconst 5, 1) := by decide +kernel
theorem dX3_mostInRow_16 : decode cX3_mostInRow 16 = .ok (.imul, 1) := by decide +kernel
theorem dX3_mostInRow_17 : decode cX3_mostInRow 17 = .ok (.iload_n 3, 1) := by decide +kernel
theorem dX3_mostInRow_18 : decode cX3_mostInRow 18 = .ok (.iadd, 1) := by decide +kernel
theorem dX3_mostInRow_19 : decode cX3_mostInRow 19 = .ok (.iaload, 1) := by decide +kernel
theorem dX3_mostInRow_20 : decode cX3_mostInRow 20 = .ok (.invokestatic 249, 3) := by decide +kernel
theorem dX3_mostInRow_23 : decode cX3_mostInRow 23 = .ok (.istore_n 2, 1) := by decide +kernel
theorem dX3_mostInRow_24 : decode cX3_mostInRow 24 = .ok (.iinc 3 1, 3) := by decide +kernel
theorem dX3_mostInRow_27 : decode cX3_mostInRow 27 = .ok (.goto (-23), 3) := by decide +kernel
theorem dX3_mostInRow_30 : decode cX3_mostInRow 30 = .ok (.iload_n 2, 1) := by decide +kernel
theorem dX3_mostInRow_31 : decode cX3_mostInRow 31 = .ok (.ireturn, 1) := by decide +kernel
set_option maxRecDepth 20000 in
theorem ggX3_takeMeans_X3_alter : GoodIn wsX3_takeMeans wsX3_alter := goodIn_r _ [7, 1, 8, 9, 10, 11, 12, 13, 14, 15, 16, 17, 6, 18, 19, 20, 21, 22, 74, 75, 76, 77, 78, 79, 80, 81, 82, 83, 84, 85, 86, 87, 88, 89, 90, 91, 92, 93, 94, 95, 96] (by decide +kernel) (by decide +kernel)
set_option maxRecDepth 20000 in
theorem gX3_takeMeans_X3_alter : GoodIn wsX3_takeMeans (wsV RX3 254 RX3 yX3_alter wsX3_alter) := goodIn_app (goodIn_of _ (by decide +kernel)) ggX3_takeMeans_X3_alter
set_option maxRecDepth 20000 in
theorem ggX3_takeMeans_X2_step : GoodIn wsX3_takeMeans wsX2_step := goodIn_r _ [26, 16, 27, 28, 29, 30, 31, 32, 14, 33, 34, 35, 36, 37, 38, 39, 40, 41, 6, 42, 43, 44, 45, 46, 47, 48, 49, 50, 51, 52, 53, 54, 55, 56, 57, 58, 59, 60, 61, 62, 63, 64, 65, 66, 67, 68, 69, 70, 71, 72, 73, 84, 85, 86, 87, 88, 89, 90, 91, 92, 93, 94, 95, 96] (by decide +kernel) (by decide +kernel)
set_option maxRecDepth 20000 in
theorem gX3_takeMeans_X2_step : GoodIn wsX3_takeMeans (wsV RX3 139 RX2 yX2_step wsX2_step) := goodIn_app (goodIn_of _ (by decide +kernel)) ggX3_takeMeans_X2_step
theorem dX3_takeMeans_0 : decode cX3_takeMeans 0 = .ok (.aload_n 0, 1) := by decide +kernel
theorem dX3_takeMeans_1 : decode cX3_takeMeans 1 = .ok (.getfield 19, 3) := by decide +kernel
theorem dX3_takeMeans_4 : decode cX3_takeMeans 4 = .ok (.getfield 83, 3) := by decide +kernel
theorem dX3_takeMeans_7 : decode cX3_takeMeans 7 = .ok (.sipush 999, 3) := by decide +kernel
theorem dX3_takeMeans_10 : decode cX3_takeMeans 10 = .ok (.if_icmp .ge 14, 3) := by decide +kernel
theorem dX3_takeMeans_13 : decode cX3_takeMeans 13 = .ok (.aload_n 0, 1) := by decide +kernel
theorem dX3_takeMeans_14 : decode cX3_takeMeans 14 = .ok (.iload_n 1, 1) := by decide +kernel
theorem dX3_takeMeans_15 : decode cX3_takeMeans 15 = .ok (.iconst 1, 1) := by decide +kernel
theorem dX3_takeMeans_16 : decode cX3_takeMeans 16 = .ok (.iload_n 2, 1) := by decide +kernel
theorem dX3_takeMeans_17 : decode cX3_takeMeans 17 = .ok (.invokevirtual 254, 3) := by decide +kernel
theorem dX3_takeMeans_20 : decode cX3_takeMeans 20 = .ok (.iconst (-1), 1) := by decide +kernel
theorem dX3_takeMeans_21 : decode cX3_takeMeans 21 = .ok (.if_icmp .ne 5, 3) := by decide +kernel
theorem dX3_takeMeans_24 : decode cX3_takeMeans 24 = .ok (.iconst 0, 1) := by decide +kernel
theorem dX3_takeMeans_25 : decode cX3_takeMeans 25 = .ok (.ireturn, 1) := by decide +kernel
theorem dX3_takeMeans_26 : decode cX3_takeMeans 26 = .ok (.aload_n 0, 1) := by decide +kernel
theorem dX3_takeMeans_27 : decode cX3_takeMeans 27 = .ok (.getfield 19, 3) := by decide +kernel
theorem dX3_takeMeans_30 : decode cX3_takeMeans 30 = .ok (.invokevirtual 139, 3) := by decide +kernel
theorem dX3_takeMeans_33 : decode cX3_takeMeans 33 = .ok (.pop, 1) := by decide +kernel
theorem dX3_takeMeans_34 : decode cX3_takeMeans 34 = .ok (.iconst 1, 1) := by decide +kernel
theorem dX3_takeMeans_35 : decode cX3_takeMeans 35 = .ok (.ireturn, 1) := by decide +kernel
set_option maxRecDepth 20000 in
theorem ggX4_init_X4_firstDraft : GoodIn wsX4_init wsX4_firstDraft := goodIn_r _ [22, 9, 23, 24, 25, 26, 32, 33, 34, 35, 36, 37, 38, 39, 40, 41, 42, 43, 44, 45, 46, 47, 48, 49, 50, 51, 52, 53, 54, 55, 56, 57, 58, 59, 60] (by decide +kernel) (by decide +kernel)
set_option maxRecDepth 20000 in
theorem gX4_init_X4_firstDraft : GoodIn wsX4_init (wsV RX4 47 RX4 yX4_firstDraft wsX4_firstDraft) := goodIn_app (goodIn_of _ (by decide +kernel)) ggX4_init_X4_firstDraft
set_option maxRecDepth 20000 in
theorem ggX4_init_X4_keepDraft : GoodIn wsX4_init wsX4_keepDraft := goodIn_r _ [30, 5, 9, 23, 31, 8, 32, 33, 34, 35, 36, 37, 38, 39, 40, 41, 42, 43, 44, 45, 46, 47, 48, 49, 50, 51, 52, 53, 54, 55, 56, 57, 58, 59, 60] (by decide +kernel) (by decide +kernel)
set_option maxRecDepth 20000 in
theorem gX4_init_X4_keepDraft : GoodIn wsX4_init (wsV RX4 50 RX4 yX4_keepDraft wsX4_keepDraft) := goodIn_app (goodIn_of _ (by decide +kernel)) ggX4_init_X4_keepDraft
theorem dX4_init_0 : decode cX4_init 0 = .ok (.aload_n 0, 1) := by decide +kernel
theorem dX4_init_1 : decode cX4_init 1 = .ok (.invokespecial 1, 3) := by decide +kernel
theorem dX4_init_4 : decode cX4_init 4 = .ok (.aload_n 0, 1) := by decide +kernel
theorem dX4_init_5 : decode cX4_init 5 = .ok (.sipush 171, 3) := by decide +kernel
theorem dX4_init_8 : decode cX4_init 8 = .ok (.newarray .int, 2) := by decide +kernel
theorem dX4_init_10 : decode cX4_init 10 = .ok (.putfield 7, 3) := by decide +kernel
theorem dX4_init_13 : decode cX4_init 13 = .ok (.aload_n 0, 1) := by decide +kernel
theorem dX4_init_14 : decode cX4_init 14 = .ok (.bipush 57, 2) := by decide +kernel
theorem dX4_init_16 : decode cX4_init 16 = .ok (.newarray .int, 2) := by decide +kernel
theorem dX4_init_18 : decode cX4_init 18 = .ok (.putfield 13, 3) := by decide +kernel
theorem dX4_init_21 : decode cX4_init 21 = .ok (.aload_n 0, 1) := by decide +kernel
theorem dX4_init_22 : decode cX4_init 22 = .ok (.iconst 2, 1) := by decide +kernel
theorem dX4_init_23 : decode cX4_init 23 = .ok (.newarray .boolean, 2) := by decide +kernel
theorem dX4_init_25 : decode cX4_init 25 = .ok (.putfield 16, 3) := by decide +kernel
theorem dX4_init_28 : decode cX4_init 28 = .ok (.aload_n 0, 1) := by decide +kernel
theorem dX4_init_29 : decode cX4_init 29 = .ok (.bipush 57, 2) := by decide +kernel
theorem dX4_init_31 : decode cX4_init 31 = .ok (.newarray .int, 2) := by decide +kernel
theorem dX4_init_33 : decode cX4_init 33 = .ok (.putfield 20, 3) := by decide +kernel
theorem dX4_init_36 : decode cX4_init 36 = .ok (.aload_n 0, 1) := by decide +kernel
theorem dX4_init_37 : decode cX4_init 37 = .ok (.sipush 160, 3) := by decide +kernel
theorem dX4_init_40 : decode cX4_init 40 = .ok (.newarray .int, 2) := by decide +kernel
theorem dX4_init_42 : decode cX4_init 42 = .ok (.putfield 23, 3) := by decide +kernel
theorem dX4_init_45 : decode cX4_init 45 = .ok (.aload_n 0, 1) := by decide +kernel
theorem dX4_init_46 : decode cX4_init 46 = .ok (.iconst 5, 1) := by decide +kernel
theorem dX4_init_47 : decode cX4_init 47 = .ok (.newarray .int, 2) := by decide +kernel
theorem dX4_init_49 : decode cX4_init 49 = .ok (.putfield 26, 3) := by decide +kernel
theorem dX4_init_52 : decode cX4_init 52 = .ok (.aload_n 0, 1) := by decide +kernel
theorem dX4_init_53 : decode cX4_init 53 = .ok (.bipush 21, 2) := by decide +kernel
theorem dX4_init_55 : decode cX4_init 55 = .ok (.newarray .int, 2) := by decide +kernel
theorem dX4_init_57 : decode cX4_init 57 = .ok (.putfield 29, 3) := by decide +kernel
theorem dX4_init_60 : decode cX4_init 60 = .ok (.aload_n 0, 1) := by decide +kernel
theorem dX4_init_61 : decode cX4_init 61 = .ok (.bipush 105, 2) := by decide +kernel
theorem dX4_init_63 : decode cX4_init 63 = .ok (.newarray .int, 2) := by decide +kernel
theorem dX4_init_65 : decode cX4_init 65 = .ok (.putfield 32, 3) := by decide +kernel
theorem dX4_init_68 : decode cX4_init 68 = .ok (.aload_n 0, 1) := by decide +kernel
theorem dX4_init_69 : decode cX4_init 69 = .ok (.iconst 4, 1) := by decide +kernel
theorem dX4_init_70 : decode cX4_init 70 = .ok (.newarray .int, 2) := by decide +kernel
theorem dX4_init_72 : decode cX4_init 72 = .ok (.putfield 35, 3) := by decide +kernel
theorem dX4_init_75 : decode cX4_init 75 = .ok (.aload_n 0, 1) := by decide +kernel
theorem dX4_init_76 : decode cX4_init 76 = .ok (.iconst 4, 1) := by decide +kernel
theorem dX4_init_77 : decode cX4_init 77 = .ok (.newarray .int, 2) := by decide +kernel
theorem dX4_init_79 : decode cX4_init 79 = .ok (.putfield 38, 3) := by decide +kernel
theorem dX4_init_82 : decode cX4_init 82 = .ok (.aload_n 0, 1) := by decide +kernel
theorem dX4_init_83 : decode cX4_init 83 = .ok (.sipush 160, 3) := by decide +kernel
theorem dX4_init_86 : decode cX4_init 86 = .ok (.newarray .int, 2) := by decide +kernel
theorem dX4_init_88 : decode cX4_init 88 = .ok (.putfield 41, 3) := by decide +kernel
theorem dX4_init_91 : decode cX4_init 91 = .ok (.aload_n 0, 1) := by decide +kernel
theorem dX4_init_92 : decode cX4_init 92 = .ok (.bipush 57, 2) := by decide +kernel
theorem dX4_init_94 : decode cX4_init 94 = .ok (.newarray .int, 2) := by decide +kernel
theorem dX4_init_96 : decode cX4_init 96 = .ok (.putfield 44, 3) := by decide +kernel
theorem dX4_init_99 : decode cX4_init 99 = .ok (.iconst 0, 1) := by decide +kernel
theorem dX4_init_100 : decode cX4_init 100 = .ok (.istore_n 1, 1) := by decide +kernel
theorem dX4_init_101 : decode cX4_init 101 = .ok (.iload_n 1, 1) := by decide +kernel
theorem dX4_init_102 : decode cX4_init 102 = .ok (.iconst 4, 1) := by decide +kernel
theorem dX4_init_103 : decode cX4_init 103 = .ok (.if_icmp .ge 17, 3) := by decide +kernel
theorem dX4_init_106 : decode cX4_init 106 = .ok (.aload_n 0, 1) := by decide +kernel
theorem dX4_init_107 : decode cX4_init 107 = .ok (.getfield 35, 3) := by decide +kernel
theorem dX4_init_110 : decode cX4_init 110 = .ok (.iload_n 1, 1) := by decide +kernel
theorem dX4_init_111 : decode cX4_init 111 = .ok (.bipush (-4), 2) := by decide +kernel
theorem dX4_init_113 : decode cX4_init 113 = .ok (.iastore, 1) := by decide +kernel
theorem dX4_init_114 : decode cX4_init 114 = .ok (.iinc 1 1, 3) := by decide +kernel
theorem dX4_init_117 : decode cX4_init 117 = .ok (.goto (-16), 3) := by decide +kernel
theorem dX4_init_120 : decode cX4_init 120 = .ok (.aload_n 0, 1) := by decide +kernel
theorem dX4_init_121 : decode cX4_init 121 = .ok (.invokevirtual 47, 3) := by decide +kernel
theorem dX4_init_124 : decode cX4_init 124 = .ok (.aload_n 0, 1) := by decide +kernel
theorem dX4_init_125 : decode cX4_init 125 = .ok (.invokevirtual 50, 3) := by decide +kernel
theorem dX4_init_128 : decode cX4_init 128 = .ok (.return_, 1) := by decide +kernel
theorem dX4_in_0 : decode cX4_in 0 = .ok (.lload_n 0, 1) := by decide +kernel
theorem dX4_in_1 : decode cX4_in 1 = .ok (.lload_n 2, 1) := by decide +kernel
theorem dX4_in_2 : decode cX4_in 2 = .ok (.lcmp, 1) := by decide +kernel
theorem dX4_in_3 : decode cX4_in 3 = .ok (.ifCond .lt 14, 3) := by decide +kernel
theorem dX4_in_6 : decode cX4_in 6 = .ok (.lload_n 0, 1) := by decide +kernel
theorem dX4_in_7 : decode cX4_in 7 = .ok (.lload 4, 2) := by decide +kernel
theorem dX4_in_9 : decode cX4_in 9 = .ok (.lcmp, 1) := by decide +kernel
theorem dX4_in_10 : decode cX4_in 10 = .ok (.ifCond .gt 7, 3) := by decide +kernel
theorem dX4_in_13 : decode cX4_in 13 = .ok (.iconst 1, 1) := by decide +kernel
theorem dX4_in_14 : decode cX4_in 14 = .ok (.goto 4, 3) := by decide +kernel
theorem dX4_in_17 : decode cX4_in 17 = .ok (.iconst 0, 1) := by decide +kernel
theorem dX4_in_18 : decode cX4_in 18 = .ok (.ireturn, 1) := by decide +kernel
theorem dX4_flag_0 : decode cX4_flag 0 = .ok (.iload_n 0, 1) := by decide +kernel
theorem dX4_flag_1 : decode cX4_flag 1 = .ok (.ifCond .eq 7, 3) := by decide +kernel
theorem dX4_flag_4 : decode cX4_flag 4 = .ok (.iconst 1, 1) := by decide +kernel
theorem dX4_flag_5 : decode cX4_flag 5 = .ok (.goto 4, 3) := by decide +kernel
theorem dX4_flag_8 : decode cX4_flag 8 = .ok (.iconst 0, 1) := by decide +kernel
theorem dX4_flag_9 : decode cX4_flag 9 = .ok (.ireturn, 1) := by decide +kernel
theorem dX4_within_0 : decode cX4_within 0 = .ok (.iload_n 0, 1) := by decide +kernel
theorem dX4_within_1 : decode cX4_within 1 = .ok (.ifCond .ge 7, 3) := by decide +kernel
theorem dX4_within_4 : decode cX4_within 4 = .ok (.iconst 0, 1) := by decide +kernel
theorem dX4_within_5 : decode cX4_within 5 = .ok (.goto 17, 3) := by decide +kernel
theorem dX4_within_8 : decode cX4_within 8 = .ok (.iload_n 0, 1) := by decide +kernel
theorem dX4_within_9 : decode cX4_within 9 = .ok (.sipush 999, 3) := by decide +kernel
theorem dX4_within_12 : decode cX4_within 12 = .ok (.if_icmp .le 9, 3) := by decide +kernel
theorem dX4_within_15 : decode cX4_within 15 = .ok (.sipush 999, 3) := by decide +kernel
theorem dX4_within_18 : decode cX4_within 18 = .ok (.goto 4, 3) := by decide +kernel
theorem dX4_within_21 : decode cX4_within 21 = .ok (.iload_n 0, 1) := by decide +kernel
theorem dX4_within_22 : decode cX4_within 22 = .ok (.ireturn, 1) := by decide +kernel
theorem dX4_firstDraft_0 : decode cX4_firstDraft 0 = .ok (.iconst 0, 1) := by decide +kernel
theorem dX4_firstDraft_1 : decode cX4_firstDraft 1 = .ok (.istore_n 1, 1) := by decide +kernel
theorem dX4_firstDraft_2 : decode cX4_firstDraft 2 = .ok (.iload_n 1, 1) := by decide +kernel
theorem dX4_firstDraft_3 : decode cX4_firstDraft 3 = .ok (.bipush 57, 2) := by decide +kernel
theorem dX4_firstDraft_5 : decode cX4_firstDraft 5 = .ok (.if_icmp .ge 16, 3) := by decide +kernel
theorem dX4_firstDraft_8 : decode cX4_firstDraft 8 = .ok (.aload_n 0, 1) := by decide +kernel
theorem dX4_firstDraft_9 : decode cX4_firstDraft 9 = .ok (.getfield 20, 3) := by decide +kernel
theorem dX4_firstDraft_12 : decode cX4_firstDraft 12 = .ok (.iload_n 1, 1) := by decide +kernel
theorem dX4_firstDraft_13 : decode cX4_firstDraft 13 = .ok (.iconst 0, 1) := by decide +kernel
theorem dX4_firstDraft_14 : decode cX4_firstDraft 14 = .ok (.iastore, 1) := by decide +kernel
theorem dX4_firstDraft_15 : decode cX4_firstDraft 15 = .ok (.iinc 1 1, 3) := by decide +kernel
theorem dX4_firstDraft_18 : decode cX4_firstDraft 18 = .ok (.goto (-16), 3) := by decide +kernel
theorem dX4_firstDraft_21 : decode cX4_firstDraft 21 = .ok (.aload_n 0, 1) := by decide +kernel
theorem dX4_firstDraft_22 : decode cX4_firstDraft 22 = .ok (.iconst 0, 1) := by decide +kernel
theorem dX4_firstDraft_23 : decode cX4_firstDraft 23 = .ok (.putfield 53, 3) := by decide +kernel
theorem dX4_firstDraft_26 : decode cX4_firstDraft 26 = .ok (.aload_n 0, 1) := by decide +kernel
theorem dX4_firstDraft_27 : decode cX4_firstDraft 27 = .ok (.iconst 0, 1) := by decide +kernel
theorem dX4_firstDraft_28 : decode cX4_firstDraft 28 = .ok (.putfield 57, 3) := by decide +kernel
theorem dX4_firstDraft_31 : decode cX4_firstDraft 31 = .ok (.aload_n 0, 1) := by decide +kernel
theorem dX4_firstDraft_32 : decode cX4_firstDraft 32 = .ok (.iconst 0, 1) := by decide +kernel
theorem dX4_firstDraft_33 : decode cX4_firstDraft 33 = .ok (.putfield 61, 3) := by decide +kernel
theorem dX4_firstDraft_36 : decode cX4_firstDraft 36 = .ok (.aload_n 0, 1) := by decide +kernel
theorem dX4_firstDraft_37 : decode cX4_firstDraft 37 = .ok (.bipush (-4), 2) := by decide +kernel
theorem dX4_firstDraft_39 : decode cX4_firstDraft 39 = .ok (.putfield 64, 3) := by decide +kernel
theorem dX4_firstDraft_42 : decode cX4_firstDraft 42 = .ok (.return_, 1) := by decide +kernel
theorem dX4_keepDraft_0 : decode cX4_keepDraft 0 = .ok (.iconst 0, 1) := by decide +kernel
theorem dX4_keepDraft_1 : decode cX4_keepDraft 1 = .ok (.istore_n 1, 1) := by decide +kernel
theorem dX4_keepDraft_2 : decode cX4_keepDraft 2 = .ok (.iload_n 1, 1) := by decide +kernel
theorem dX4_keepDraft_3 : decode cX4_keepDraft 3 = .ok (.bipush 57, 2) := by decide +kernel
theorem dX4_keepDraft_5 : decode cX4_keepDraft 5 = .ok (.if_icmp .ge 21, 3) := by decide +kernel
theorem dX4_keepDraft_8 : decode cX4_keepDraft 8 = .ok (.aload_n 0, 1) := by decide +kernel
theorem dX4_keepDraft_9 : decode cX4_keepDraft 9 = .ok (.getfield 7, 3) := by decide +kernel
theorem dX4_keepDraft_12 : decode cX4_keepDraft 12 = .ok (.iload_n 1, 1) := by decide +kernel
theorem dX4_keepDraft_13 : decode cX4_keepDraft 13 = .ok (.aload_n 0, 1) := by decide +kernel
theorem dX4_keepDraft_14 : decode cX4_keepDraft 14 = .ok (.getfield 20, 3) := by decide +kernel
theorem dX4_keepDraft_17 : decode cX4_keepDraft 17 = .ok (.iload_n 1, 1) := by decide +kernel
theorem dX4_keepDraft_18 : decode cX4_keepDraft 18 = .ok (.iaload, 1) := by decide +kernel
theorem dX4_keepDraft_19 : decode cX4_keepDraft 19 = .ok (.iastore, 1) := by decide +kernel
theorem dX4_keepDraft_20 : decode cX4_keepDraft 20 = .ok (.iinc 1 1, 3) := by decide +kernel
theorem dX4_keepDraft_23 : decode cX4_keepDraft 23 = .ok (.goto (-21), 3) := by decide +kernel
theorem dX4_keepDraft_26 : decode cX4_keepDraft 26 = .ok (.aload_n 0, 1) := by decide +kernel
theorem dX4_keepDraft_27 : decode cX4_keepDraft 27 = .ok (.aload_n 0, 1) := by decide +kernel
theorem dX4_keepDraft_28 : decode cX4_keepDraft 28 = .ok (.getfield 53, 3) := by decide +kernel
theorem dX4_keepDraft_31 : decode cX4_keepDraft 31 = .ok (.putfield 67, 3) := by decide +kernel
theorem dX4_keepDraft_34 : decode cX4_keepDraft 34 = .ok (.aload_n 0, 1) := by decide +kernel
theorem dX4_keepDraft_35 : decode cX4_keepDraft 35 = .ok (.getfield 7, 3) := by decide +kernel
theorem dX4_keepDraft_38 : decode cX4_keepDraft 38 = .ok (.bipush 22, 2) := by decide +kernel
theorem dX4_keepDraft_40 : decode cX4_keepDraft 40 = .ok (.aload_n 0, 1) := by decide +kernel
theorem dX4_keepDraft_41 : decode cX4_keepDraft 41 = .ok (.getfield 67, 3) := by decide +kernel
theorem dX4_keepDraft_44 : decode cX4_keepDraft 44 = .ok (.ifCond .ne 8, 3) := by decide +kernel
theorem dX4_keepDraft_47 : decode cX4_keepDraft 47 = .ok (.bipush (-4), 2) := by decide +kernel
theorem dX4_keepDraft_49 : decode cX4_keepDraft 49 = .ok (.goto 10, 3) := by decide +kernel
theorem dX4_keepDraft_52 : decode cX4_keepDraft 52 = .ok (.aload_n 0, 1) := by decide +kernel
theorem dX4_keepDraft_53 : decode cX4_keepDraft 53 = .ok (.getfield 7, 3) := by decide +kernel
theorem dX4_keepDraft_56 : decode cX4_keepDraft 56 = .ok (.bipush 22, 2) := by decide +kernel
theorem dX4_keepDraft_58 : decode cX4_keepDraft 58 = .ok (.iaload, 1) := by decide +kernel
theorem dX4_keepDraft_59 : decode cX4_keepDraft 59 = .ok (.iastore, 1) := by decide +kernel
theorem dX4_keepDraft_60 : decode cX4_keepDraft 60 = .ok (.aload_n 0, 1) := by decide +kernel
theorem dX4_keepDraft_61 : decode cX4_keepDraft 61 = .ok (.getfield 16, 3) := by decide +kernel
theorem dX4_keepDraft_64 : decode cX4_keepDraft 64 = .ok (.iconst 0, 1) := by decide +kernel
theorem dX4_keepDraft_65 : decode cX4_keepDraft 65 = .ok (.iconst 0, 1) := by decide +kernel
theorem dX4_keepDraft_66 : decode cX4_keepDraft 66 = .ok (.bastore, 1) := by decide +kernel
theorem dX4_keepDraft_67 : decode cX4_keepDraft 67 = .ok (.aload_n 0, 1) := by decide +kernel
theorem dX4_keepDraft_68 : decode cX4_keepDraft 68 = .ok (.getfield 16, 3) := by decide +kernel
theorem dX4_keepDraft_71 : decode cX4_keepDraft 71 = .ok (.iconst 1, 1) := by decide +kernel
theorem dX4_keepDraft_72 : decode cX4_keepDraft 72 = .ok (.iconst 0, 1) := by decide +kernel
theorem dX4_keepDraft_73 : decode cX4_keepDraft 73 = .ok (.bastore, 1) := by decide +kernel
theorem dX4_keepDraft_74 : decode cX4_keepDraft 74 = .ok (.return_, 1) := by decide +kernel
set_option maxRecDepth 20000 in
theorem ggX4_feed_X4_in : GoodIn wsX4_feed wsX4_in := goodIn_r _ [7] (by decide +kernel) (by decide +kernel)
set_option maxRecDepth 20000 in
theorem gX4_feed_X4_in : GoodIn wsX4_feed (va_wsS RX4 72 yX4_in wsX4_in) := goodIn_app (goodIn_of _ (by decide +kernel)) ggX4_feed_X4_in
theorem dX4_feed_0 : decode cX4_feed 0 = .ok (.iload_n 1, 1) := by decide +kernel
theorem dX4_feed_1 : decode cX4_feed 1 = .ok (.i2l, 1) := by decide +kernel
theorem dX4_feed_2 : decode cX4_feed 2 = .ok (.lconst 0, 1) := by decide +kernel
theorem dX4_feed_3 : decode cX4_feed 3 = .ok (.ldc2_w 70, 3) := by decide +kernel
theorem dX4_feed_6 : decode cX4_feed 6 = .ok (.invokestatic 72, 3) := by decide +kernel
theorem dX4_feed_9 : decode cX4_feed 9 = .ok (.ifCond .ne 5, 3) := by decide +kernel
theorem dX4_feed_12 : decode cX4_feed 12 = .ok (.iconst (-1), 1) := by decide +kernel
theorem dX4_feed_13 : decode cX4_feed 13 = .ok (.ireturn, 1) := by decide +kernel
theorem dX4_feed_14 : decode cX4_feed 14 = .ok (.aload_n 0, 1) := by decide +kernel
theorem dX4_feed_15 : decode cX4_feed 15 = .ok (.getfield 76, 3) := by decide +kernel
theorem dX4_feed_18 : decode cX4_feed 18 = .ok (.sipush 160, 3) := by decide +kernel
theorem dX4_feed_21 : decode cX4_feed 21 = .ok (.if_icmp .ne 6, 3) := by decide +kernel
theorem dX4_feed_24 : decode cX4_feed 24 = .ok (.bipush (-3), 2) := by decide +kernel
theorem dX4_feed_26 : decode cX4_feed 26 = .ok (.ireturn, 1) := by decide +kernel
theorem dX4_feed_27 : decode cX4_feed 27 = .ok (.aload_n 0, 1) := by decide +kernel
theorem dX4_feed_28 : decode cX4_feed 28 = .ok (.getfield 23, 3) := by decide +kernel
theorem dX4_feed_31 : decode cX4_feed 31 = .ok (.aload_n 0, 1) := by decide +kernel
theorem dX4_feed_32 : decode cX4_feed 32 = .ok (.getfield 76, 3) := by decide +kernel
theorem dX4_feed_35 : decode cX4_feed 35 = .ok (.iload_n 1, 1) := by decide +kernel
theorem dX4_feed_36 : decode cX4_feed 36 = .ok (.iastore, 1) := by decide +kernel
theorem dX4_feed_37 : decode cX4_feed 37 = .ok (.aload_n 0, 1) := by decide +kernel
theorem dX4_feed_38 : decode cX4_feed 38 = .ok (.dup, 1) := by decide +kernel
theorem dX4_feed_39 : decode cX4_feed 39 = .ok (.getfield 76, 3) := by decide +kernel
theorem dX4_feed_42 : decode cX4_feed 42 = .ok (.iconst 1, 1) := by decide +kernel
theorem dX4_feed_43 : decode cX4_feed 43 = .ok (.iadd, 1) := by decide +kernel
theorem dX4_feed_44 : decode cX4_feed 44 = .ok (.putfield 76, 3) := by decide +kernel
theorem dX4_feed_47 : decode cX4_feed 47 = .ok (.aload_n 0, 1) := by decide +kernel
theorem dX4_feed_48 : decode cX4_feed 48 = .ok (.getfield 76, 3) := by decide +kernel
theorem dX4_feed_51 : decode cX4_feed 51 = .ok (.ireturn, 1) := by decide +kernel
set_option maxRecDepth 20000 in
theorem ggX4_end_X4_in : GoodIn wsX4_end wsX4_in := goodIn_r _ [5] (by decide +kernel) (by decide +kernel)
set_option maxRecDepth 20000 in
theorem gX4_end_X4_in : GoodIn wsX4_end (va_wsS RX4 72 yX4_in wsX4_in) := goodIn_app (goodIn_of _ (by decide +kernel)) ggX4_end_X4_in
theorem dX4_end_0 : decode cX4_end 0 = .ok (.iload_n 1, 1) := by decide +kernel
theorem dX4_end_1 : decode cX4_end 1 = .ok (.i2l, 1) := by decide +kernel
theorem dX4_end_2 : decode cX4_end 2 = .ok (.lconst 0, 1) := by decide +kernel
theorem dX4_end_3 : decode cX4_end 3 = .ok (.aload_n 0, 1) := by decide +kernel
theorem dX4_end_4 : decode cX4_end 4 = .ok (.getfield 76, 3) := by decide +kernel
theorem dX4_end_7 : decode cX4_end 7 = .ok (.i2l, 1) := by decide +kernel
theorem dX4_end_8 : decode cX4_end 8 = .ok (.invokestatic 72, 3) := by decide +kernel
theorem dX4_end_11 : decode cX4_end 11 = .ok (.ifCond .ne 5, 3) := by decide +kernel
theorem dX4_end_14 : decode cX4_end 14 = .ok (.iconst (-1), 1) := by decide +kernel
theorem dX4_end_15 : decode cX4_end 15 = .ok (.ireturn, 1) := by decide +kernel
theorem dX4_end_16 : decode cX4_end 16 = .ok (.aload_n 0, 1) := by decide +kernel
theorem dX4_end_17 : decode cX4_end 17 = .ok (.getfield 76, 3) := by decide +kernel
theorem dX4_end_20 : decode cX4_end 20 = .ok (.istore_n 2, 1) := by decide +kernel
theorem dX4_end_21 : decode cX4_end 21 = .ok (.aload_n 0, 1) := by decide +kernel
theorem dX4_end_22 : decode cX4_end 22 = .ok (.iload_n 1, 1) := by decide +kernel
theorem dX4_end_23 : decode cX4_end 23 = .ok (.putfield 76, 3) := by decide +kernel
theorem dX4_end_26 : decode cX4_end 26 = .ok (.iload_n 2, 1) := by decide +kernel
theorem dX4_end_27 : decode cX4_end 27 = .ok (.ireturn, 1) := by decide +kernel
theorem dX4_needs_0 : decode cX4_needs 0 = .ok (.iload_n 1, 1) := by decide +kernel
theorem dX4_needs_1 : decode cX4_needs 1 = .ok (.ifCond .ne 23, 3) := by decide +kernel
theorem dX4_needs_4 : decode cX4_needs 4 = .ok (.aload_n 0, 1) := by decide +kernel
theorem dX4_needs_5 : decode cX4_needs 5 = .ok (.getfield 79, 3) := by decide +kernel
theorem dX4_needs_8 : decode cX4_needs 8 = .ok (.ifCond .ne 16, 3) := by decide +kernel
theorem dX4_needs_11 : decode cX4_needs 11 = .ok (.aload_n 0, 1) := by decide +kernel
theorem dX4_needs_12 : decode cX4_needs 12 = .ok (.iload_n 2, 1) := by decide +kernel
theorem dX4_needs_13 : decode cX4_needs 13 = .ok (.putfield 79, 3) := by decide +kernel
theorem dX4_needs_16 : decode cX4_needs 16 = .ok (.aload_n 0, 1) := by decide +kernel
theorem dX4_needs_17 : decode cX4_needs 17 = .ok (.aload_n 0, 1) := by decide +kernel
theorem dX4_needs_18 : decode cX4_needs 18 = .ok (.getfield 82, 3) := by decide +kernel
theorem dX4_needs_21 : decode cX4_needs 21 = .ok (.putfield 85, 3) := by decide +kernel
theorem dX4_needs_24 : decode cX4_needs 24 = .ok (.return_, 1) := by decide +kernel
theorem dX4_byteAt_0 : decode cX4_byteAt 0 = .ok (.iload_n 1, 1) := by decide +kernel
theorem dX4_byteAt_1 : decode cX4_byteAt 1 = .ok (.aload_n 0, 1) := by decide +kernel
theorem dX4_byteAt_2 : decode cX4_byteAt 2 = .ok (.getfield 76, 3) := by decide +kernel
theorem dX4_byteAt_5 : decode cX4_byteAt 5 = .ok (.if_icmp .ge 12, 3) := by decide +kernel
theorem dX4_byteAt_8 : decode cX4_byteAt 8 = .ok (.aload_n 0, 1) := by decide +kernel
theorem dX4_byteAt_9 : decode cX4_byteAt 9 = .ok (.getfield 23, 3) := by decide +kernel
theorem dX4_byteAt_12 : decode cX4_byteAt 12 = .ok (.iload_n 1, 1) := by decide +kernel
theorem dX4_byteAt_13 : decode cX4_byteAt 13 = .ok (.iaload, 1) := by decide +kernel
theorem dX4_byteAt_14 : decode cX4_byteAt 14 = .ok (.goto 4, 3) := by decide +kernel
theorem dX4_byteAt_17 : decode cX4_byteAt 17 = .ok (.iconst (-1), 1) := by decide +kernel
theorem dX4_byteAt_18 : decode cX4_byteAt 18 = .ok (.ireturn, 1) := by decide +kernel
set_option maxRecDepth 20000 in
theorem ggX4_is_X4_byteAt : GoodIn wsX4_is wsX4_byteAt := goodIn_r _ [7, 8, 9, 10, 11, 12, 13, 14, 15, 16, 17, 18, 19, 20, 21, 22, 23, 24, 25, 26, 27, 28, 29, 30, 31, 32, 33, 34, 35, 36, 37, 38] (by decide +kernel) (by decide +kernel)
set_option maxRecDepth 20000 in
theorem gX4_is_X4_byteAt : GoodIn wsX4_is (wsV RX4 91 RX4 yX4_byteAt wsX4_byteAt) := goodIn_app (goodIn_of _ (by decide +kernel)) ggX4_is_X4_byteAt
theorem dX4_is_0 : decode cX4_is 0 = .ok (.aload_n 0, 1) := by decide +kernel
theorem dX4_is_1 : decode cX4_is 1 = .ok (.getfield 88, 3) := by decide +kernel
theorem dX4_is_4 : decode cX4_is 4 = .ok (.aload_n 0, 1) := by decide +kernel
theorem dX4_is_5 : decode cX4_is 5 = .ok (.getfield 82, 3) := by decide +kernel
theorem dX4_is_8 : decode cX4_is 8 = .ok (.isub, 1) := by decide +kernel
theorem dX4_is_9 : decode cX4_is 9 = .ok (.iload_n 1, 1) := by decide +kernel
theorem dX4_is_10 : decode cX4_is 10 = .ok (.if_icmp .ne 63, 3) := by decide +kernel
theorem dX4_is_13 : decode cX4_is 13 = .ok (.aload_n 0, 1) := by decide +kernel
theorem dX4_is_14 : decode cX4_is 14 = .ok (.aload_n 0, 1) := by decide +kernel
theorem dX4_is_15 : decode cX4_is 15 = .ok (.getfield 82, 3) := by decide +kernel
theorem dX4_is_18 : decode cX4_is 18 = .ok (.invokevirtual 91, 3) := by decide +kernel
theorem dX4_is_21 : decode cX4_is 21 = .ok (.iload_n 2, 1) := by decide +kernel
theorem dX4_is_22 : decode cX4_is 22 = .ok (.if_icmp .ne 51, 3) := by decide +kernel
theorem dX4_is_25 : decode cX4_is 25 = .ok (.aload_n 0, 1) := by decide +kernel
theorem dX4_is_26 : decode cX4_is 26 = .ok (.aload_n 0, 1) := by decide +kernel
theorem dX4_is_27 : decode cX4_is 27 = .ok (.getfield 82, 3) := by decide +kernel
theorem dX4_is_30 : decode cX4_is 30 = .ok (.iconst 1, 1) := by decide +kernel
theorem dX4_is_31 : decode cX4_is 31 = .ok (.iadd, 1) := by decide +kernel
theorem dX4_is_32 : decode cX4_is 32 = .ok (.invokevirtual 91, 3) := by decide +kernel
theorem dX4_is_35 : decode cX4_is 35 = .ok (.iload_n 3, 1) := by decide +kernel
theorem dX4_is_36 : decode cX4_is 36 = .ok (.if_icmp .ne 37, 3) := by decide +kernel
theorem dX4_is_39 : decode cX4_is 39 = .ok (.aload_n 0, 1) := by decide +kernel
theorem dX4_is_40 : decode cX4_is 40 = .ok (.aload_n 0, 1) := by decide +kernel
theorem dX4_is_41 : decode cX4_is 41 = .ok (.getfield 82, 3) := by decide +kernel
theorem dX4_is_44 : decode cX4_is 44 = .ok (.iconst 2, 1) := by decide +kernel
theorem dX4_is_45 : decode cX4_is 45 = .ok (.iadd, 1) := by decide +kernel
theorem dX4_is_46 : decode cX4_is 46 = .ok (.invokevirtual 91, 3) := by decide +kernel
theorem dX4_is_49 : decode cX4_is 49 = .ok (.iload 4, 2) := by decide +kernel
theorem dX4_is_51 : decode cX4_is 51 = .ok (.if_icmp .ne 22, 3) := by decide +kernel
theorem dX4_is_54 : decode cX4_is 54 = .ok (.aload_n 0, 1) := by decide +kernel
theorem dX4_is_55 : decode cX4_is 55 = .ok (.aload_n 0, 1) := by decide +kernel
theorem dX4_is_56 : decode cX4_is 56 = .ok (.getfield 82, 3) := by decide +kernel
theorem dX4_is_59 : decode cX4_is 59 = .ok (.iconst 3, 1) := by decide +kernel
theorem dX4_is_60 : decode cX4_is 60 = .ok (.iadd, 1) := by decide +kernel
theorem dX4_is_61 : decode cX4_is 61 = .ok (.invokevirtual 91, 3) := by decide +kernel
theorem dX4_is_64 : decode cX4_is 64 = .ok (.iload 5, 2) := by decide +kernel
theorem dX4_is_66 : decode cX4_is 66 = .ok (.if_icmp .ne 7, 3) := by decide +kernel
theorem dX4_is_69 : decode cX4_is 69 = .ok (.iconst 1, 1) := by decide +kernel
theorem dX4_is_70 : decode cX4_is 70 = .ok (.goto 4, 3) := by decide +kernel
theorem dX4_is_73 : decode cX4_is 73 = .ok (.iconst 0, 1) := by decide +kernel
theorem dX4_is_74 : decode cX4_is 74 = .ok (.ireturn, 1) := by decide +kernel
set_option maxRecDepth 20000 in
theorem ggX4_ends_X4_byteAt : GoodIn wsX4_ends wsX4_byteAt := goodIn_r _ [6, 7, 8, 9, 10, 11, 12, 13, 14, 15, 16, 17, 18, 19, 20, 21, 22, 23, 24, 25, 26, 27, 28, 29, 30, 31, 32, 33, 34, 35, 36, 37] (by decide +kernel) (by decide +kernel)
set_option maxRecDepth 20000 in
theorem gX4_ends_X4_byteAt : GoodIn wsX4_ends (wsV RX4 91 RX4 yX4_byteAt wsX4_byteAt) := goodIn_app (goodIn_of _ (by decide +kernel)) ggX4_ends_X4_byteAt
theorem dX4_ends_0 : decode cX4_ends 0 = .ok (.aload_n 0, 1) := by decide +kernel
theorem dX4_ends_1 : decode cX4_ends 1 = .ok (.aload_n 0, 1) := by decide +kernel
theorem dX4_ends_2 : decode cX4_ends 2 = .ok (.getfield 82, 3) := by decide +kernel
theorem dX4_ends_5 : decode cX4_ends 5 = .ok (.iconst 4, 1) := by decide +kernel
theorem dX4_ends_6 : decode cX4_ends 6 = .ok (.iadd, 1) := by decide +kernel
theorem dX4_ends_7 : decode cX4_ends 7 = .ok (.invokevirtual 91, 3) := by decide +kernel
theorem dX4_ends_10 : decode cX4_ends 10 = .ok (.iload_n 1, 1) := by decide +kernel
theorem dX4_ends_11 : decode cX4_ends 11 = .ok (.if_icmp .ne 44, 3) := by decide +kernel
theorem dX4_ends_14 : decode cX4_ends 14 = .ok (.iload_n 2, 1) := by decide +kernel
theorem dX4_ends_15 : decode cX4_ends 15 = .ok (.ifCond .eq 17, 3) := by decide +kernel
theorem dX4_ends_18 : decode cX4_ends 18 = .ok (.aload_n 0, 1) := by decide +kernel
theorem dX4_ends_19 : decode cX4_ends 19 = .ok (.aload_n 0, 1) := by decide +kernel
theorem dX4_ends_20 : decode cX4_ends 20 = .ok (.getfield 82, 3) := by decide +kernel
theorem dX4_ends_23 : decode cX4_ends 23 = .ok (.iconst 5, 1) := by decide +kernel
theorem dX4_ends_24 : decode cX4_ends 24 = .ok (.iadd, 1) := by decide +kernel
theorem dX4_ends_25 : decode cX4_ends 25 = .ok (.invokevirtual 91, 3) := by decide +kernel
theorem dX4_ends_28 : decode cX4_ends 28 = .ok (.iload_n 2, 1) := by decide +kernel
theorem dX4_ends_29 : decode cX4_ends 29 = .ok (.if_icmp .ne 26, 3) := by decide +kernel
theorem dX4_ends_32 : decode cX4_ends 32 = .ok (.iload_n 3, 1) := by decide +kernel
theorem dX4_ends_33 : decode cX4_ends 33 = .ok (.ifCond .eq 18, 3) := by decide +kernel
theorem dX4_ends_36 : decode cX4_ends 36 = .ok (.aload_n 0, 1) := by decide +kernel
theorem dX4_ends_37 : decode cX4_ends 37 = .ok (.aload_n 0, 1) := by decide +kernel
theorem dX4_ends_38 : decode cX4_ends 38 = .ok (.getfield 82, 3) := by decide +kernel
theorem dX4_ends_41 : decode cX4_ends 41 = .ok (.bipush 6, 2) := by decide +kernel
theorem dX4_ends_43 : decode cX4_ends 43 = .ok (.iadd, 1) := by decide +kernel
theorem dX4_ends_44 : decode cX4_ends 44 = .ok (.invokevirtual 91, 3) := by decide +kernel
theorem dX4_ends_47 : decode cX4_ends 47 = .ok (.iload_n 3, 1) := by decide +kernel
theorem dX4_ends_48 : decode cX4_ends 48 = .ok (.if_icmp .ne 7, 3) := by decide +kernel
theorem dX4_ends_51 : decode cX4_ends 51 = .ok (.iconst 1, 1) := by decide +kernel
theorem dX4_ends_52 : decode cX4_ends 52 = .ok (.goto 4, 3) := by decide +kernel
theorem dX4_ends_55 : decode cX4_ends 55 = .ok (.iconst 0, 1) := by decide +kernel
theorem dX4_ends_56 : decode cX4_ends 56 = .ok (.ireturn, 1) := by decide +kernel
set_option maxRecDepth 20000 in
theorem ggX4_kindNow_X4_is : GoodIn wsX4_kindNow wsX4_is := goodIn_r _ [5, 6, 7, 8, 9, 10, 4, 11, 12, 13, 18, 19, 20, 21, 22, 23, 24, 25, 26, 27, 28, 29, 30, 31, 32, 33, 34, 35, 36, 37, 38, 39, 40, 41, 42, 43, 44, 45, 46] (by decide +kernel) (by decide +kernel)
set_option maxRecDepth 20000 in
theorem gX4_kindNow_X4_is : GoodIn wsX4_kindNow (wsV RX4 95 RX4 yX4_is wsX4_is) := goodIn_app (goodIn_of _ (by decide +kernel)) ggX4_kindNow_X4_is
set_option maxRecDepth 20000 in
theorem ggX4_kindNow_X4_ends : GoodIn wsX4_kindNow wsX4_ends := goodIn_r _ [17, 7, 8, 9, 10, 4, 11, 12, 13, 18, 19, 20, 21, 22, 23, 24, 25, 26, 27, 28, 29, 30, 31, 32, 33, 34, 35, 36, 37, 38, 39, 40, 41, 42, 43, 44, 45, 46] (by decide +kernel) (by decide +kernel)
set_option maxRecDepth 20000 in
theorem gX4_kindNow_X4_ends : GoodIn wsX4_kindNow (wsV RX4 99 RX4 yX4_ends wsX4_ends) := goodIn_app (goodIn_of _ (by decide +kernel)) ggX4_kindNow_X4_ends
theorem dX4_kindNow_0 : decode cX4_kindNow 0 = .ok (.aload_n 0, 1) := by decide +kernel
theorem dX4_kindNow_1 : decode cX4_kindNow 1 = .ok (.iconst 5, 1) := by decide +kernel
theorem dX4_kindNow_2 : decode cX4_kindNow 2 = .ok (.bipush 112, 2) := by decide +kernel
theorem dX4_kindNow_4 : decode cX4_kindNow 4 = .ok (.bipush 108, 2) := by decide +kernel
theorem dX4_kindNow_6 : decode cX4_kindNow 6 = .ok (.bipush 97, 2) := by decide +kernel
theorem dX4_kindNow_8 : decode cX4_kindNow 8 = .ok (.bipush 105, 2) := by decide +kernel
theorem dX4_kindNow_10 : decode cX4_kindNow 10 = .ok (.invokevirtual 95, 3) := by decide +kernel
theorem dX4_kindNow_13 : decode cX4_kindNow 13 = .ok (.ifCond .eq 16, 3) := by decide +kernel
theorem dX4_kindNow_16 : decode cX4_kindNow 16 = .ok (.aload_n 0, 1) := by decide +kernel
theorem dX4_kindNow_17 : decode cX4_kindNow 17 = .ok (.bipush 110, 2) := by decide +kernel
theorem dX4_kindNow_19 : decode cX4_kindNow 19 = .ok (.iconst 0, 1) := by decide +kernel
theorem dX4_kindNow_20 : decode cX4_kindNow 20 = .ok (.iconst 0, 1) := by decide +kernel
theorem dX4_kindNow_21 : decode cX4_kindNow 21 = .ok (.invokevirtual 99, 3) := by decide +kernel
theorem dX4_kindNow_24 : decode cX4_kindNow 24 = .ok (.ifCond .eq 5, 3) := by decide +kernel
theorem dX4_kindNow_27 : decode cX4_kindNow 27 = .ok (.iconst 0, 1) := by decide +kernel
theorem dX4_kindNow_28 : decode cX4_kindNow 28 = .ok (.ireturn, 1) := by decide +kernel
theorem dX4_kindNow_29 : decode cX4_kindNow 29 = .ok (.aload_n 0, 1) := by decide +kernel
theorem dX4_kindNow_30 : decode cX4_kindNow 30 = .ok (.iconst 5, 1) := by decide +kernel
theorem dX4_kindNow_31 : decode cX4_kindNow 31 = .ok (.bipush 109, 2) := by decide +kernel
theorem dX4_kindNow_33 : decode cX4_kindNow 33 = .ok (.bipush 105, 2) := by decide +kernel
theorem dX4_kindNow_35 : decode cX4_kindNow 35 = .ok (.bipush 115, 2) := by decide +kernel
theorem dX4_kindNow_37 : decode cX4_kindNow 37 = .ok (.bipush 101, 2) := by decide +kernel
theorem dX4_kindNow_39 : decode cX4_kindNow 39 = .ok (.invokevirtual 95, 3) := by decide +kernel
theorem dX4_kindNow_42 : decode cX4_kindNow 42 = .ok (.ifCond .eq 16, 3) := by decide +kernel
theorem dX4_kindNow_45 : decode cX4_kindNow 45 = .ok (.aload_n 0, 1) := by decide +kernel
theorem dX4_kindNow_46 : decode cX4_kindNow 46 = .ok (.bipush 114, 2) := by decide +kernel
theorem dX4_kindNow_48 : decode cX4_kindNow 48 = .ok (.iconst 0, 1) := by decide +kernel
theorem dX4_kindNow_49 : decode cX4_kindNow 49 = .ok (.iconst 0, 1) := by decide +kernel
theorem dX4_kindNow_50 : decode cX4_kindNow 50 = .ok (.invokevirtual 99, 3) := by decide +kernel
theorem dX4_kindNow_53 : decode cX4_kindNow 53 = .ok (.ifCond .eq 5, 3) := by decide +kernel
theorem dX4_kindNow_56 : decode cX4_kindNow 56 = .ok (.iconst 1, 1) := by decide +kernel
theorem dX4_kindNow_57 : decode cX4_kindNow 57 = .ok (.ireturn, 1) := by decide +kernel
theorem dX4_kindNow_58 : decode cX4_kindNow 58 = .ok (.aload_n 0, 1) := by decide +kernel
theorem dX4_kindNow_59 : decode cX4_kindNow 59 = .ok (.bipush 7, 2) := by decide +kernel
theorem dX4_kindNow_61 : decode cX4_kindNow 61 = .ok (.bipush 102, 2) := by decide +kernel
theorem dX4_kindNow_63 : decode cX4_kindNow 63 = .ok (.bipush 111, 2) := by decide +kernel
theorem dX4_kindNow_65 : decode cX4_kindNow 65 = .ok (.bipush 117, 2) := by decide +kernel
theorem dX4_kindNow_67 : decode cX4_kindNow 67 = .ok (.bipush 110, 2) := by decide +kernel
theorem dX4_kindNow_69 : decode cX4_kindNow 69 = .ok (.invokevirtual 95, 3) := by decide +kernel
theorem dX4_kindNow_72 : decode cX4_kindNow 72 = .ok (.ifCond .eq 20, 3) := by decide +kernel
theorem dX4_kindNow_75 : decode cX4_kindNow 75 = .ok (.aload_n 0, 1) := by decide +kernel
theorem dX4_kindNow_76 : decode cX4_kindNow 76 = .ok (.bipush 100, 2) := by decide +kernel
theorem dX4_kindNow_78 : decode cX4_kindNow 78 = .ok (.bipush 101, 2) := by decide +kernel
theorem dX4_kindNow_80 : decode cX4_kindNow 80 = .ok (.bipush 114, 2) := by decide +kernel
theorem dX4_kindNow_82 : decode cX4_kindNow 82 = .ok (.invokevirtual 99, 3) := by decide +kernel
theorem dX4_kindNow_85 : decode cX4_kindNow 85 = .ok (.ifCond .eq 7, 3) := by decide +kernel
theorem dX4_kindNow_88 : decode cX4_kindNow 88 = .ok (.iconst 2, 1) := by decide +kernel
theorem dX4_kindNow_89 : decode cX4_kindNow 89 = .ok (.goto 36, 3) := by decide +kernel
theorem dX4_kindNow_92 : decode cX4_kindNow 92 = .ok (.aload_n 0, 1) := by decide +kernel
theorem dX4_kindNow_93 : decode cX4_kindNow 93 = .ok (.iconst 5, 1) := by decide +kernel
theorem dX4_kindNow_94 : decode cX4_kindNow 94 = .ok (.bipush 108, 2) := by decide +kernel
theorem dX4_kindNow_96 : decode cX4_kindNow 96 = .ok (.bipush 117, 2) := by decide +kernel
theorem dX4_kindNow_98 : decode cX4_kindNow 98 = .ok (.bipush 99, 2) := by decide +kernel
theorem dX4_kindNow_100 : decode cX4_kindNow 100 = .ok (.bipush 107, 2) := by decide +kernel
theorem dX4_kindNow_102 : decode cX4_kindNow 102 = .ok (.invokevirtual 95, 3) := by decide +kernel
theorem dX4_kindNow_105 : decode cX4_kindNow 105 = .ok (.ifCond .eq 18, 3) := by decide +kernel
theorem dX4_kindNow_108 : decode cX4_kindNow 108 = .ok (.aload_n 0, 1) := by decide +kernel
theorem dX4_kindNow_109 : decode cX4_kindNow 109 = .ok (.bipush 121, 2) := by decide +kernel
theorem dX4_kindNow_111 : decode cX4_kindNow 111 = .ok (.iconst 0, 1) := by decide +kernel
theorem dX4_kindNow_112 : decode cX4_kindNow 112 = .ok (.iconst 0, 1) := by decide +kernel
theorem dX4_kindNow_113 : decode cX4_kindNow 113 = .ok (.invokevirtual 99, 3) := by decide +kernel
theorem dX4_kindNow_116 : decode cX4_kindNow 116 = .ok (.ifCond .eq 7, 3) := by decide +kernel
theorem dX4_kindNow_119 : decode cX4_kindNow 119 = .ok (.iconst 3, 1) := by decide +kernel
theorem dX4_kindNow_120 : decode cX4_kindNow 120 = .ok (.goto 5, 3) := by decide +kernel
theorem dX4_kindNow_123 : decode cX4_kindNow 123 = .ok (.bipush (-4), 2) := by decide +kernel
theorem dX4_kindNow_125 : decode cX4_kindNow 125 = .ok (.ireturn, 1) := by decide +kernel
set_option maxRecDepth 20000 in
theorem ggX4_lineNow_X4_is : GoodIn wsX4_lineNow wsX4_is := goodIn_r _ [5, 6, 7, 8, 9, 10, 4, 11, 12, 13, 22, 23, 24, 25, 26, 27, 28, 29, 30, 31, 32, 33, 34, 35, 36, 37, 38, 39, 40, 41, 42, 43, 44, 45, 46, 47, 48, 49, 50] (by decide +kernel) (by decide +kernel)
set_option maxRecDepth 20000 in
theorem gX4_lineNow_X4_is : GoodIn wsX4_lineNow (wsV RX4 95 RX4 yX4_is wsX4_is) := goodIn_app (goodIn_of _ (by decide +kernel)) ggX4_lineNow_X4_is
set_option maxRecDepth 20000 in
theorem ggX4_lineNow_X4_ends : GoodIn wsX4_lineNow wsX4_ends := goodIn_r _ [17, 7, 8, 9, 10, 4, 11, 12, 13, 22, 23, 24, 25, 26, 27, 28, 29, 30, 31, 32, 33, 34, 35, 36, 37, 38, 39, 40, 41, 42, 43, 44, 45, 46, 47, 48, 49, 50] (by decide +kernel) (by decide +kernel)
set_option maxRecDepth 20000 in
theorem gX4_lineNow_X4_ends : GoodIn wsX4_lineNow (wsV RX4 99 RX4 yX4_ends wsX4_ends) := goodIn_app (goodIn_of _ (by decide +kernel)) ggX4_lineNow_X4_ends
set_option maxRecDepth 20000 in
theorem ggX4_lineNow_X4_kindNow : GoodIn wsX4_lineNow wsX4_kindNow := goodIn_r _ [21, 1, 2, 3, 4, 5, 6, 7, 8, 9, 10, 11, 12, 13, 14, 15, 16, 17, 22, 23, 24, 25, 26, 27, 28, 29, 30, 31, 32, 33, 34, 35, 36, 37, 38, 39, 40, 41, 42, 43, 44, 45, 46, 47, 48, 49, 50] (by decide +kernel) (by decide +kernel)
set_option maxRecDepth 20000 in
theorem gX4_lineNow_X4_kindNow : GoodIn wsX4_lineNow (wsV RX4 103 RX4 yX4_kindNow wsX4_kindNow) := goodIn_app (goodIn_of _ (by decide +kernel)) ggX4_lineNow_X4_kindNow
theorem dX4_lineNow_0 : decode cX4_lineNow 0 = .ok (.aload_n 0, 1) := by decide +kernel
theorem dX4_lineNow_1 : decode cX4_lineNow 1 = .ok (.iconst 4, 1) := by decide +kernel
theorem dX4_lineNow_2 : decode cX4_lineNow 2 = .ok (.bipush 103, 2) := by decide +kernel
theorem dX4_lineNow_4 : decode cX4_lineNow 4 = .ok (.bipush 105, 2) := by decide +kernel
theorem dX4_lineNow_6 : decode cX4_lineNow 6 = .ok (.bipush 102, 2) := by decide +kernel
theorem dX4_lineNow_8 : decode cX4_lineNow 8 = .ok (.bipush 116, 2) := by decide +kernel
theorem dX4_lineNow_10 : decode cX4_lineNow 10 = .ok (.invokevirtual 95, 3) := by decide +kernel
theorem dX4_lineNow_13 : decode cX4_lineNow 13 = .ok (.ifCond .eq 5, 3) := by decide +kernel
theorem dX4_lineNow_16 : decode cX4_lineNow 16 = .ok (.iconst 4, 1) := by decide +kernel
theorem dX4_lineNow_17 : decode cX4_lineNow 17 = .ok (.ireturn, 1) := by decide +kernel
theorem dX4_lineNow_18 : decode cX4_lineNow 18 = .ok (.aload_n 0, 1) := by decide +kernel
theorem dX4_lineNow_19 : decode cX4_lineNow 19 = .ok (.iconst 5, 1) := by decide +kernel
theorem dX4_lineNow_20 : decode cX4_lineNow 20 = .ok (.bipush 115, 2) := by decide +kernel
theorem dX4_lineNow_22 : decode cX4_lineNow 22 = .ok (.bipush 108, 2) := by decide +kernel
theorem dX4_lineNow_24 : decode cX4_lineNow 24 = .ok (.bipush 117, 2) := by decide +kernel
theorem dX4_lineNow_26 : decode cX4_lineNow 26 = .ok (.bipush 109, 2) := by decide +kernel
theorem dX4_lineNow_28 : decode cX4_lineNow 28 = .ok (.invokevirtual 95, 3) := by decide +kernel
theorem dX4_lineNow_31 : decode cX4_lineNow 31 = .ok (.ifCond .eq 18, 3) := by decide +kernel
theorem dX4_lineNow_34 : decode cX4_lineNow 34 = .ok (.aload_n 0, 1) := by decide +kernel
theorem dX4_lineNow_35 : decode cX4_lineNow 35 = .ok (.bipush 112, 2) := by decide +kernel
theorem dX4_lineNow_37 : decode cX4_lineNow 37 = .ok (.iconst 0, 1) := by decide +kernel
theorem dX4_lineNow_38 : decode cX4_lineNow 38 = .ok (.iconst 0, 1) := by decide +kernel
theorem dX4_lineNow_39 : decode cX4_lineNow 39 = .ok (.invokevirtual 99, 3) := by decide +kernel
theorem dX4_lineNow_42 : decode cX4_lineNow 42 = .ok (.ifCond .eq 7, 3) := by decide +kernel
theorem dX4_lineNow_45 : decode cX4_lineNow 45 = .ok (.iconst 5, 1) := by decide +kernel
theorem dX4_lineNow_46 : decode cX4_lineNow 46 = .ok (.goto 28, 3) := by decide +kernel
theorem dX4_lineNow_49 : decode cX4_lineNow 49 = .ok (.aload_n 0, 1) := by decide +kernel
theorem dX4_lineNow_50 : decode cX4_lineNow 50 = .ok (.iconst 4, 1) := by decide +kernel
theorem dX4_lineNow_51 : decode cX4_lineNow 51 = .ok (.bipush 99, 2) := by decide +kernel
theorem dX4_lineNow_53 : decode cX4_lineNow 53 = .ok (.bipush 111, 2) := by decide +kernel
theorem dX4_lineNow_55 : decode cX4_lineNow 55 = .ok (.bipush 105, 2) := by decide +kernel
theorem dX4_lineNow_57 : decode cX4_lineNow 57 = .ok (.bipush 110, 2) := by decide +kernel
theorem dX4_lineNow_59 : decode cX4_lineNow 59 = .ok (.invokevirtual 95, 3) := by decide +kernel
theorem dX4_lineNow_62 : decode cX4_lineNow 62 = .ok (.ifCond .eq 8, 3) := by decide +kernel
theorem dX4_lineNow_65 : decode cX4_lineNow 65 = .ok (.bipush 6, 2) := by decide +kernel
theorem dX4_lineNow_67 : decode cX4_lineNow 67 = .ok (.goto 7, 3) := by decide +kernel
theorem dX4_lineNow_70 : decode cX4_lineNow 70 = .ok (.aload_n 0, 1) := by decide +kernel
theorem dX4_lineNow_71 : decode cX4_lineNow 71 = .ok (.invokevirtual 103, 3) := by decide +kernel
theorem dX4_lineNow_74 : decode cX4_lineNow 74 = .ok (.ireturn, 1) := by decide +kernel
set_option maxRecDepth 20000 in
theorem ggX4_takes_X4_byteAt : GoodIn wsX4_takes wsX4_byteAt := goodIn_r _ [14, 15, 16, 25, 26, 27, 28, 29, 30, 31, 32, 33, 34, 35, 36, 37, 38, 39, 40, 41, 42, 43, 44, 45, 46, 47, 48, 49, 50, 51, 52, 53] (by decide +kernel) (by decide +kernel)
set_option maxRecDepth 20000 in
theorem gX4_takes_X4_byteAt : GoodIn wsX4_takes (wsV RX4 91 RX4 yX4_byteAt wsX4_byteAt) := goodIn_app (goodIn_of _ (by decide +kernel)) ggX4_takes_X4_byteAt
set_option maxRecDepth 20000 in
theorem ggX4_takes_X4_in : GoodIn wsX4_takes wsX4_in := goodIn_r _ [19] (by decide +kernel) (by decide +kernel)
set_option maxRecDepth 20000 in
theorem gX4_takes_X4_in : GoodIn wsX4_takes (va_wsS RX4 72 yX4_in wsX4_in) := goodIn_app (goodIn_of _ (by decide +kernel)) ggX4_takes_X4_in
set_option maxRecDepth 20000 in
theorem ggX4_takes_X4_needs : GoodIn wsX4_takes wsX4_needs := goodIn_r _ [23, 1, 3, 24, 25, 26, 27, 28, 29, 30, 31, 32, 33, 34, 35, 36, 37, 38, 39, 40, 41, 42, 43, 44, 45, 46, 47, 48, 49, 50, 51, 52, 53] (by decide +kernel) (by decide +kernel)
set_option maxRecDepth 20000 in
theorem gX4_takes_X4_needs : GoodIn wsX4_takes (wsV RX4 121 RX4 yX4_needs wsX4_needs) := goodIn_app (goodIn_of _ (by decide +kernel)) ggX4_takes_X4_needs
theorem dX4_takes_0 : decode cX4_takes 0 = .ok (.aload_n 0, 1) := by decide +kernel
theorem dX4_takes_1 : decode cX4_takes 1 = .ok (.getfield 79, 3) := by decide +kernel
theorem dX4_takes_4 : decode cX4_takes 4 = .ok (.ifCond .le 4, 3) := by decide +kernel
theorem dX4_takes_7 : decode cX4_takes 7 = .ok (.return_, 1) := by decide +kernel
theorem dX4_takes_8 : decode cX4_takes 8 = .ok (.aload_n 0, 1) := by decide +kernel
theorem dX4_takes_9 : decode cX4_takes 9 = .ok (.aload_n 0, 1) := by decide +kernel
theorem dX4_takes_10 : decode cX4_takes 10 = .ok (.getfield 88, 3) := by decide +kernel
theorem dX4_takes_13 : decode cX4_takes 13 = .ok (.invokevirtual 91, 3) := by decide +kernel
theorem dX4_takes_16 : decode cX4_takes 16 = .ok (.bipush 32, 2) := by decide +kernel
theorem dX4_takes_18 : decode cX4_takes 18 = .ok (.if_icmp .ne 16, 3) := by decide +kernel
theorem dX4_takes_21 : decode cX4_takes 21 = .ok (.aload_n 0, 1) := by decide +kernel
theorem dX4_takes_22 : decode cX4_takes 22 = .ok (.dup, 1) := by decide +kernel
theorem dX4_takes_23 : decode cX4_takes 23 = .ok (.getfield 88, 3) := by decide +kernel
theorem dX4_takes_26 : decode cX4_takes 26 = .ok (.iconst 1, 1) := by decide +kernel
theorem dX4_takes_27 : decode cX4_takes 27 = .ok (.iadd, 1) := by decide +kernel
theorem dX4_takes_28 : decode cX4_takes 28 = .ok (.putfield 88, 3) := by decide +kernel
theorem dX4_takes_31 : decode cX4_takes 31 = .ok (.goto (-23), 3) := by decide +kernel
theorem dX4_takes_34 : decode cX4_takes 34 = .ok (.aload_n 0, 1) := by decide +kernel
theorem dX4_takes_35 : decode cX4_takes 35 = .ok (.aload_n 0, 1) := by decide +kernel
theorem dX4_takes_36 : decode cX4_takes 36 = .ok (.getfield 88, 3) := by decide +kernel
theorem dX4_takes_39 : decode cX4_takes 39 = .ok (.putfield 82, 3) := by decide +kernel
